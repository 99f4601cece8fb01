theorem kr_callC {X : pm_X} {V V2 : pm_V} {mi : pm_I} {ht : Nat} {W2 : va_W} {sk : List pm_Sh} {M M' : pm_M} {pc pc' : Nat} {L : List (Nat × Value)} {st stk : List Value} {y : MethodName} {mi' : pm_I} {ht' idx bp ci : Nat} {fs : List (Option Nat)} {q : vw_C} {As : List Value} {r : Int32} (hV : V2.2 = V.2) (hst2 : V2.1 900 = V.1 900 ∧ V2.1 901 = V.1 901 ∧ V2.1 902 = V.1 902) (hd : pm_DC mi.1 pc pc' 3 (.invokevirtual idx)) (hl : Cond.methodLink mi.2.1 idx y ∈ pm_tb) (hy : pm_cv y mi') (hn : pm_np y As.length) (hh : ht' + 1 ≤ ht) (hrest : (st.map fun v => v.category).sum ≤ 8) (hb : sk[bp]? = some (.inr (.inr (ci, fs)))) (hc : pm_cls[ci]? = some q) (hq : q.1 = y.cls) (hst : stk = As.reverse ++ .ref (V2.1 bp) :: st)
    (hM : ∀ l : Launch, pm_Ci l V2 sk y mi' ht' (.ref (V2.1 bp) :: As) M r M') (kk : pm_J X V mi ht (pm_wld V2 sk M' ++ W2) pc' L (.int r :: st)) : pm_J X V mi ht (pm_wld V2 sk M ++ W2) pc L stk := by
  have h := kr_callI (W1 := []) (W2 := W2) hV hst2 hd hl hy hn hh hrest hb hc hq hst hM (by rw [List.nil_append]; exact kk)
  rw [List.nil_append] at h
  exact h
abbrev mL : pm_I := (code, "RainSharesLaw", 4, ret)
set_option maxHeartbeats 4000000 in
theorem lc_roof {X : pm_X} {VC VD : pm_V} {b n i : Nat} {xs : Nat → Int32} {C D : pm_M} (hX : pm_sc X b n xs) (hn : n ≤ 3072) (hi : i + 6 ≤ n) (hv : VD.2 = VC.2) (hs : VD.1 900 = VC.1 900 ∧ VD.1 901 = VC.1 901 ∧ VD.1 902 = VC.1 902) (hRR : RR C D) (K : ∀ C' D' : pm_M, RR C' D' → pm_J X VC mL 1300 (pm_wld VC skC C' ++ (pm_wld VD skD D' ++ [])) 1495 [(0, .ref b), (1, .ref (VC.1 0)), (2, .ref (VD.1 0)), (3, .int (nI i))] []) : pm_J X VC mL 1300 (pm_wld VC skC C ++ (pm_wld VD skD D ++ [])) 212 [(0, .ref b), (1, .ref (VC.1 0)), (2, .ref (VD.1 0)), (3, .int (nI i))] [] := by
  obtain ⟨r, C', D', hC, hD, hR⟩ := e_roof hRR (xs ((nI i) + 1).toNatClampNeg)
  refine jr_aloadn (j := 1) dL_law_212 rfl ?_
  refine jr_aloadn (j := 0) dL_law_213 rfl ?_
  refine jr_iloadn (j := 3) dL_law_214 rfl ?_
  refine jr_iconst (v := 1) dL_law_215 (by decide) ?_
  refine jr_iadd dL_law_216 ?_
  refine kr_sld hX dL_law_217 (pm_inS hn hi (d := 1) (by decide) 1 (by decide)) ?_
  refine kr_callC (V2 := VC) (W2 := pm_wld VD skD D ++ []) (sk := skC) (M := C) (M' := C') (bp := 0) (As := [.int (xs ((nI i) + 1).toNatClampNeg)]) rfl ⟨rfl, rfl, rfl⟩ dL_law_218 lkL_13 kX7_roof nX7_roof (Nat.le_of_ble_eq_true rfl) (Nat.le_of_ble_eq_true rfl) at_RS_0 rfl rfl rfl (fun l => c_X7_roof hC l VC) ?_
  refine jr_aloadn (j := 2) dL_law_221 rfl ?_
  refine jr_aloadn (j := 0) dL_law_222 rfl ?_
  refine jr_iloadn (j := 3) dL_law_223 rfl ?_
  refine jr_iconst (v := 1) dL_law_224 (by decide) ?_
  refine jr_iadd dL_law_225 ?_
  refine kr_sld hX dL_law_226 (pm_inS hn hi (d := 1) (by decide) 1 (by decide)) ?_
  refine kr_callI (V2 := VD) (W1 := pm_wld VC skC C') (W2 := []) (sk := skD) (M := D) (M' := D') (bp := 0) (As := [.int (xs ((nI i) + 1).toNatClampNeg)]) hv hs dL_law_227 lkL_17 kX8_roof nX8_roof (Nat.le_of_ble_eq_true rfl) (Nat.le_of_ble_eq_true rfl) at_MO_0 rfl rfl rfl (fun l => c_X8_roof hD l VD) ?_
  exact jr_ic_eq (tgt := 1495) dL_law_230 rfl (fun _ => K C' D' hR) (fun h => absurd rfl h)
set_option maxHeartbeats 4000000 in
theorem lc_ofRoof {X : pm_X} {VC VD : pm_V} {b n i : Nat} {xs : Nat → Int32} {C D : pm_M} (hX : pm_sc X b n xs) (hn : n ≤ 3072) (hi : i + 6 ≤ n) (hv : VD.2 = VC.2) (hs : VD.1 900 = VC.1 900 ∧ VD.1 901 = VC.1 901 ∧ VD.1 902 = VC.1 902) (hRR : RR C D) (K : ∀ C' D' : pm_M, RR C' D' → pm_J X VC mL 1300 (pm_wld VC skC C' ++ (pm_wld VD skD D' ++ [])) 1495 [(0, .ref b), (1, .ref (VC.1 0)), (2, .ref (VD.1 0)), (3, .int (nI i))] []) : pm_J X VC mL 1300 (pm_wld VC skC C ++ (pm_wld VD skD D ++ [])) 235 [(0, .ref b), (1, .ref (VC.1 0)), (2, .ref (VD.1 0)), (3, .int (nI i))] [] := by
  obtain ⟨r, C', D', hC, hD, hR⟩ := e_ofRoof hRR (xs ((nI i) + 1).toNatClampNeg) (xs ((nI i) + 2).toNatClampNeg)
  refine jr_aloadn (j := 1) dL_law_235 rfl ?_
  refine jr_aloadn (j := 0) dL_law_236 rfl ?_
  refine jr_iloadn (j := 3) dL_law_237 rfl ?_
  refine jr_iconst (v := 1) dL_law_238 (by decide) ?_
  refine jr_iadd dL_law_239 ?_
  refine kr_sld hX dL_law_240 (pm_inS hn hi (d := 1) (by decide) 1 (by decide)) ?_
  refine jr_aloadn (j := 0) dL_law_241 rfl ?_
  refine jr_iloadn (j := 3) dL_law_242 rfl ?_
  refine jr_iconst (v := 2) dL_law_243 (by decide) ?_
  refine jr_iadd dL_law_244 ?_
  refine kr_sld hX dL_law_245 (pm_inS hn hi (d := 2) (by decide) 2 (by decide)) ?_
  refine kr_callC (V2 := VC) (W2 := pm_wld VD skD D ++ []) (sk := skC) (M := C) (M' := C') (bp := 0) (As := [.int (xs ((nI i) + 1).toNatClampNeg), .int (xs ((nI i) + 2).toNatClampNeg)]) rfl ⟨rfl, rfl, rfl⟩ dL_law_246 lkL_18 kX7_ofRoof nX7_ofRoof (Nat.le_of_ble_eq_true rfl) (Nat.le_of_ble_eq_true rfl) at_RS_0 rfl rfl rfl (fun l => c_X7_ofRoof hC l VC) ?_
  refine jr_aloadn (j := 2) dL_law_249 rfl ?_
  refine jr_aloadn (j := 0) dL_law_250 rfl ?_
  refine jr_iloadn (j := 3) dL_law_251 rfl ?_
  refine jr_iconst (v := 1) dL_law_252 (by decide) ?_
  refine jr_iadd dL_law_253 ?_
  refine kr_sld hX dL_law_254 (pm_inS hn hi (d := 1) (by decide) 1 (by decide)) ?_
  refine jr_aloadn (j := 0) dL_law_255 rfl ?_
  refine jr_iloadn (j := 3) dL_law_256 rfl ?_
  refine jr_iconst (v := 2) dL_law_257 (by decide) ?_
  refine jr_iadd dL_law_258 ?_
  refine kr_sld hX dL_law_259 (pm_inS hn hi (d := 2) (by decide) 2 (by decide)) ?_
  refine kr_callI (V2 := VD) (W1 := pm_wld VC skC C') (W2 := []) (sk := skD) (M := D) (M' := D') (bp := 0) (As := [.int (xs ((nI i) + 1).toNatClampNeg), .int (xs ((nI i) + 2).toNatClampNeg)]) hv hs dL_law_260 lkL_22 kX8_ofRoof nX8_ofRoof (Nat.le_of_ble_eq_true rfl) (Nat.le_of_ble_eq_true rfl) at_MO_0 rfl rfl rfl (fun l => c_X8_ofRoof hD l VD) ?_
  exact jr_ic_eq (tgt := 1495) dL_law_263 rfl (fun _ => K C' D' hR) (fun h => absurd rfl h)
set_option maxHeartbeats 4000000 in
theorem lc_change {X : pm_X} {VC VD : pm_V} {b n i : Nat} {xs : Nat → Int32} {C D : pm_M} (hX : pm_sc X b n xs) (hn : n ≤ 3072) (hi : i + 6 ≤ n) (hv : VD.2 = VC.2) (hs : VD.1 900 = VC.1 900 ∧ VD.1 901 = VC.1 901 ∧ VD.1 902 = VC.1 902) (hRR : RR C D) (K : ∀ C' D' : pm_M, RR C' D' → pm_J X VC mL 1300 (pm_wld VC skC C' ++ (pm_wld VD skD D' ++ [])) 1495 [(0, .ref b), (1, .ref (VC.1 0)), (2, .ref (VD.1 0)), (3, .int (nI i))] []) : pm_J X VC mL 1300 (pm_wld VC skC C ++ (pm_wld VD skD D ++ [])) 268 [(0, .ref b), (1, .ref (VC.1 0)), (2, .ref (VD.1 0)), (3, .int (nI i))] [] := by
  obtain ⟨r, C', D', hC, hD, hR⟩ := e_change hRR (xs ((nI i) + 1).toNatClampNeg) (xs ((nI i) + 2).toNatClampNeg) (xs ((nI i) + 3).toNatClampNeg)
  refine jr_aloadn (j := 1) dL_law_268 rfl ?_
  refine jr_aloadn (j := 0) dL_law_269 rfl ?_
  refine jr_iloadn (j := 3) dL_law_270 rfl ?_
  refine jr_iconst (v := 1) dL_law_271 (by decide) ?_
  refine jr_iadd dL_law_272 ?_
  refine kr_sld hX dL_law_273 (pm_inS hn hi (d := 1) (by decide) 1 (by decide)) ?_
  refine jr_aloadn (j := 0) dL_law_274 rfl ?_
  refine jr_iloadn (j := 3) dL_law_275 rfl ?_
  refine jr_iconst (v := 2) dL_law_276 (by decide) ?_
  refine jr_iadd dL_law_277 ?_
  refine kr_sld hX dL_law_278 (pm_inS hn hi (d := 2) (by decide) 2 (by decide)) ?_
  refine jr_aloadn (j := 0) dL_law_279 rfl ?_
  refine jr_iloadn (j := 3) dL_law_280 rfl ?_
  refine jr_iconst (v := 3) dL_law_281 (by decide) ?_
  refine jr_iadd dL_law_282 ?_
  refine kr_sld hX dL_law_283 (pm_inS hn hi (d := 3) (by decide) 3 (by decide)) ?_
  refine kr_callC (V2 := VC) (W2 := pm_wld VD skD D ++ []) (sk := skC) (M := C) (M' := C') (bp := 0) (As := [.int (xs ((nI i) + 1).toNatClampNeg), .int (xs ((nI i) + 2).toNatClampNeg), .int (xs ((nI i) + 3).toNatClampNeg)]) rfl ⟨rfl, rfl, rfl⟩ dL_law_284 lkL_23 kX7_change nX7_change (Nat.le_of_ble_eq_true rfl) (Nat.le_of_ble_eq_true rfl) at_RS_0 rfl rfl rfl (fun l => c_X7_change hC l VC) ?_
  refine jr_aloadn (j := 2) dL_law_287 rfl ?_
  refine jr_aloadn (j := 0) dL_law_288 rfl ?_
  refine jr_iloadn (j := 3) dL_law_289 rfl ?_
  refine jr_iconst (v := 1) dL_law_290 (by decide) ?_
  refine jr_iadd dL_law_291 ?_
  refine kr_sld hX dL_law_292 (pm_inS hn hi (d := 1) (by decide) 1 (by decide)) ?_
  refine jr_aloadn (j := 0) dL_law_293 rfl ?_
  refine jr_iloadn (j := 3) dL_law_294 rfl ?_
  refine jr_iconst (v := 2) dL_law_295 (by decide) ?_
  refine jr_iadd dL_law_296 ?_
  refine kr_sld hX dL_law_297 (pm_inS hn hi (d := 2) (by decide) 2 (by decide)) ?_
  refine jr_aloadn (j := 0) dL_law_298 rfl ?_
  refine jr_iloadn (j := 3) dL_law_299 rfl ?_
  refine jr_iconst (v := 3) dL_law_300 (by decide) ?_
  refine jr_iadd dL_law_301 ?_
  refine kr_sld hX dL_law_302 (pm_inS hn hi (d := 3) (by decide) 3 (by decide)) ?_
  refine kr_callI (V2 := VD) (W1 := pm_wld VC skC C') (W2 := []) (sk := skD) (M := D) (M' := D') (bp := 0) (As := [.int (xs ((nI i) + 1).toNatClampNeg), .int (xs ((nI i) + 2).toNatClampNeg), .int (xs ((nI i) + 3).toNatClampNeg)]) hv hs dL_law_303 lkL_27 kX8_change nX8_change (Nat.le_of_ble_eq_true rfl) (Nat.le_of_ble_eq_true rfl) at_MO_0 rfl rfl rfl (fun l => c_X8_change hD l VD) ?_
  exact jr_ic_eq (tgt := 1495) dL_law_306 rfl (fun _ => K C' D' hR) (fun h => absurd rfl h)
set_option maxHeartbeats 4000000 in
theorem lc_owe {X : pm_X} {VC VD : pm_V} {b n i : Nat} {xs : Nat → Int32} {C D : pm_M} (hX : pm_sc X b n xs) (hn : n ≤ 3072) (hi : i + 6 ≤ n) (hv : VD.2 = VC.2) (hs : VD.1 900 = VC.1 900 ∧ VD.1 901 = VC.1 901 ∧ VD.1 902 = VC.1 902) (hRR : RR C D) (K : ∀ C' D' : pm_M, RR C' D' → pm_J X VC mL 1300 (pm_wld VC skC C' ++ (pm_wld VD skD D' ++ [])) 1495 [(0, .ref b), (1, .ref (VC.1 0)), (2, .ref (VD.1 0)), (3, .int (nI i))] []) : pm_J X VC mL 1300 (pm_wld VC skC C ++ (pm_wld VD skD D ++ [])) 311 [(0, .ref b), (1, .ref (VC.1 0)), (2, .ref (VD.1 0)), (3, .int (nI i))] [] := by
  obtain ⟨r, C', D', hC, hD, hR⟩ := e_owe hRR (xs ((nI i) + 1).toNatClampNeg) (xs ((nI i) + 2).toNatClampNeg) (xs ((nI i) + 3).toNatClampNeg)
  refine jr_aloadn (j := 1) dL_law_311 rfl ?_
  refine jr_aloadn (j := 0) dL_law_312 rfl ?_
  refine jr_iloadn (j := 3) dL_law_313 rfl ?_
  refine jr_iconst (v := 1) dL_law_314 (by decide) ?_
  refine jr_iadd dL_law_315 ?_
  refine kr_sld hX dL_law_316 (pm_inS hn hi (d := 1) (by decide) 1 (by decide)) ?_
  refine jr_aloadn (j := 0) dL_law_317 rfl ?_
  refine jr_iloadn (j := 3) dL_law_318 rfl ?_
  refine jr_iconst (v := 2) dL_law_319 (by decide) ?_
  refine jr_iadd dL_law_320 ?_
  refine kr_sld hX dL_law_321 (pm_inS hn hi (d := 2) (by decide) 2 (by decide)) ?_
  refine jr_aloadn (j := 0) dL_law_322 rfl ?_
  refine jr_iloadn (j := 3) dL_law_323 rfl ?_
  refine jr_iconst (v := 3) dL_law_324 (by decide) ?_
  refine jr_iadd dL_law_325 ?_
  refine kr_sld hX dL_law_326 (pm_inS hn hi (d := 3) (by decide) 3 (by decide)) ?_
  refine kr_callC (V2 := VC) (W2 := pm_wld VD skD D ++ []) (sk := skC) (M := C) (M' := C') (bp := 0) (As := [.int (xs ((nI i) + 1).toNatClampNeg), .int (xs ((nI i) + 2).toNatClampNeg), .int (xs ((nI i) + 3).toNatClampNeg)]) rfl ⟨rfl, rfl, rfl⟩ dL_law_327 lkL_28 kX7_owe nX7_owe (Nat.le_of_ble_eq_true rfl) (Nat.le_of_ble_eq_true rfl) at_RS_0 rfl rfl rfl (fun l => c_X7_owe hC l VC) ?_
  refine jr_aloadn (j := 2) dL_law_330 rfl ?_
  refine jr_aloadn (j := 0) dL_law_331 rfl ?_
  refine jr_iloadn (j := 3) dL_law_332 rfl ?_
  refine jr_iconst (v := 1) dL_law_333 (by decide) ?_
  refine jr_iadd dL_law_334 ?_
  refine kr_sld hX dL_law_335 (pm_inS hn hi (d := 1) (by decide) 1 (by decide)) ?_
  refine jr_aloadn (j := 0) dL_law_336 rfl ?_
  refine jr_iloadn (j := 3) dL_law_337 rfl ?_
  refine jr_iconst (v := 2) dL_law_338 (by decide) ?_
  refine jr_iadd dL_law_339 ?_
  refine kr_sld hX dL_law_340 (pm_inS hn hi (d := 2) (by decide) 2 (by decide)) ?_
  refine jr_aloadn (j := 0) dL_law_341 rfl ?_
  refine jr_iloadn (j := 3) dL_law_342 rfl ?_
  refine jr_iconst (v := 3) dL_law_343 (by decide) ?_
  refine jr_iadd dL_law_344 ?_
  refine kr_sld hX dL_law_345 (pm_inS hn hi (d := 3) (by decide) 3 (by decide)) ?_
  refine kr_callI (V2 := VD) (W1 := pm_wld VC skC C') (W2 := []) (sk := skD) (M := D) (M' := D') (bp := 0) (As := [.int (xs ((nI i) + 1).toNatClampNeg), .int (xs ((nI i) + 2).toNatClampNeg), .int (xs ((nI i) + 3).toNatClampNeg)]) hv hs dL_law_346 lkL_31 kX8_owe nX8_owe (Nat.le_of_ble_eq_true rfl) (Nat.le_of_ble_eq_true rfl) at_MO_0 rfl rfl rfl (fun l => c_X8_owe hD l VD) ?_
  exact jr_ic_eq (tgt := 1495) dL_law_349 rfl (fun _ => K C' D' hR) (fun h => absurd rfl h)
set_option maxHeartbeats 4000000 in
theorem lc_owed {X : pm_X} {VC VD : pm_V} {b n i : Nat} {xs : Nat → Int32} {C D : pm_M} (hX : pm_sc X b n xs) (hn : n ≤ 3072) (hi : i + 6 ≤ n) (hv : VD.2 = VC.2) (hs : VD.1 900 = VC.1 900 ∧ VD.1 901 = VC.1 901 ∧ VD.1 902 = VC.1 902) (hRR : RR C D) (K : ∀ C' D' : pm_M, RR C' D' → pm_J X VC mL 1300 (pm_wld VC skC C' ++ (pm_wld VD skD D' ++ [])) 1495 [(0, .ref b), (1, .ref (VC.1 0)), (2, .ref (VD.1 0)), (3, .int (nI i))] []) : pm_J X VC mL 1300 (pm_wld VC skC C ++ (pm_wld VD skD D ++ [])) 354 [(0, .ref b), (1, .ref (VC.1 0)), (2, .ref (VD.1 0)), (3, .int (nI i))] [] := by
  obtain ⟨r, C', D', hC, hD, hR⟩ := e_owed hRR (xs ((nI i) + 1).toNatClampNeg) (xs ((nI i) + 2).toNatClampNeg)
  refine jr_aloadn (j := 1) dL_law_354 rfl ?_
  refine jr_aloadn (j := 0) dL_law_355 rfl ?_
  refine jr_iloadn (j := 3) dL_law_356 rfl ?_
  refine jr_iconst (v := 1) dL_law_357 (by decide) ?_
  refine jr_iadd dL_law_358 ?_
  refine kr_sld hX dL_law_359 (pm_inS hn hi (d := 1) (by decide) 1 (by decide)) ?_
  refine jr_aloadn (j := 0) dL_law_360 rfl ?_
  refine jr_iloadn (j := 3) dL_law_361 rfl ?_
  refine jr_iconst (v := 2) dL_law_362 (by decide) ?_
  refine jr_iadd dL_law_363 ?_
  refine kr_sld hX dL_law_364 (pm_inS hn hi (d := 2) (by decide) 2 (by decide)) ?_
  refine kr_callC (V2 := VC) (W2 := pm_wld VD skD D ++ []) (sk := skC) (M := C) (M' := C') (bp := 0) (As := [.int (xs ((nI i) + 1).toNatClampNeg), .int (xs ((nI i) + 2).toNatClampNeg)]) rfl ⟨rfl, rfl, rfl⟩ dL_law_365 lkL_32 kX7_owed nX7_owed (Nat.le_of_ble_eq_true rfl) (Nat.le_of_ble_eq_true rfl) at_RS_0 rfl rfl rfl (fun l => c_X7_owed hC l VC) ?_
  refine jr_aloadn (j := 2) dL_law_368 rfl ?_
  refine jr_aloadn (j := 0) dL_law_369 rfl ?_
  refine jr_iloadn (j := 3) dL_law_370 rfl ?_
  refine jr_iconst (v := 1) dL_law_371 (by decide) ?_
  refine jr_iadd dL_law_372 ?_
  refine kr_sld hX dL_law_373 (pm_inS hn hi (d := 1) (by decide) 1 (by decide)) ?_
  refine jr_aloadn (j := 0) dL_law_374 rfl ?_
  refine jr_iloadn (j := 3) dL_law_375 rfl ?_
  refine jr_iconst (v := 2) dL_law_376 (by decide) ?_
  refine jr_iadd dL_law_377 ?_
  refine kr_sld hX dL_law_378 (pm_inS hn hi (d := 2) (by decide) 2 (by decide)) ?_
  refine kr_callI (V2 := VD) (W1 := pm_wld VC skC C') (W2 := []) (sk := skD) (M := D) (M' := D') (bp := 0) (As := [.int (xs ((nI i) + 1).toNatClampNeg), .int (xs ((nI i) + 2).toNatClampNeg)]) hv hs dL_law_379 lkL_35 kX8_owed nX8_owed (Nat.le_of_ble_eq_true rfl) (Nat.le_of_ble_eq_true rfl) at_MO_0 rfl rfl rfl (fun l => c_X8_owed hD l VD) ?_
  exact jr_ic_eq (tgt := 1495) dL_law_382 rfl (fun _ => K C' D' hR) (fun h => absurd rfl h)
set_option maxHeartbeats 4000000 in
theorem lc_pay {X : pm_X} {VC VD : pm_V} {b n i : Nat} {xs : Nat → Int32} {C D : pm_M} (hX : pm_sc X b n xs) (hn : n ≤ 3072) (hi : i + 6 ≤ n) (hv : VD.2 = VC.2) (hs : VD.1 900 = VC.1 900 ∧ VD.1 901 = VC.1 901 ∧ VD.1 902 = VC.1 902) (hRR : RR C D) (K : ∀ C' D' : pm_M, RR C' D' → pm_J X VC mL 1300 (pm_wld VC skC C' ++ (pm_wld VD skD D' ++ [])) 1495 [(0, .ref b), (1, .ref (VC.1 0)), (2, .ref (VD.1 0)), (3, .int (nI i))] []) : pm_J X VC mL 1300 (pm_wld VC skC C ++ (pm_wld VD skD D ++ [])) 387 [(0, .ref b), (1, .ref (VC.1 0)), (2, .ref (VD.1 0)), (3, .int (nI i))] [] := by
  obtain ⟨r, C', D', hC, hD, hR⟩ := e_pay hRR (xs ((nI i) + 1).toNatClampNeg) (xs ((nI i) + 2).toNatClampNeg)
  refine jr_aloadn (j := 1) dL_law_387 rfl ?_
  refine jr_aloadn (j := 0) dL_law_388 rfl ?_
  refine jr_iloadn (j := 3) dL_law_389 rfl ?_
  refine jr_iconst (v := 1) dL_law_390 (by decide) ?_
  refine jr_iadd dL_law_391 ?_
  refine kr_sld hX dL_law_392 (pm_inS hn hi (d := 1) (by decide) 1 (by decide)) ?_
  refine jr_aloadn (j := 0) dL_law_393 rfl ?_
  refine jr_iloadn (j := 3) dL_law_394 rfl ?_
  refine jr_iconst (v := 2) dL_law_395 (by decide) ?_
  refine jr_iadd dL_law_396 ?_
  refine kr_sld hX dL_law_397 (pm_inS hn hi (d := 2) (by decide) 2 (by decide)) ?_
  refine kr_callC (V2 := VC) (W2 := pm_wld VD skD D ++ []) (sk := skC) (M := C) (M' := C') (bp := 0) (As := [.int (xs ((nI i) + 1).toNatClampNeg), .int (xs ((nI i) + 2).toNatClampNeg)]) rfl ⟨rfl, rfl, rfl⟩ dL_law_398 lkL_36 kX7_pay nX7_pay (Nat.le_of_ble_eq_true rfl) (Nat.le_of_ble_eq_true rfl) at_RS_0 rfl rfl rfl (fun l => c_X7_pay hC l VC) ?_
  refine jr_aloadn (j := 2) dL_law_401 rfl ?_
  refine jr_aloadn (j := 0) dL_law_402 rfl ?_
  refine jr_iloadn (j := 3) dL_law_403 rfl ?_
  refine jr_iconst (v := 1) dL_law_404 (by decide) ?_
  refine jr_iadd dL_law_405 ?_
  refine kr_sld hX dL_law_406 (pm_inS hn hi (d := 1) (by decide) 1 (by decide)) ?_
  refine jr_aloadn (j := 0) dL_law_407 rfl ?_
  refine jr_iloadn (j := 3) dL_law_408 rfl ?_
  refine jr_iconst (v := 2) dL_law_409 (by decide) ?_
  refine jr_iadd dL_law_410 ?_
  refine kr_sld hX dL_law_411 (pm_inS hn hi (d := 2) (by decide) 2 (by decide)) ?_
  refine kr_callI (V2 := VD) (W1 := pm_wld VC skC C') (W2 := []) (sk := skD) (M := D) (M' := D') (bp := 0) (As := [.int (xs ((nI i) + 1).toNatClampNeg), .int (xs ((nI i) + 2).toNatClampNeg)]) hv hs dL_law_412 lkL_39 kX8_pay nX8_pay (Nat.le_of_ble_eq_true rfl) (Nat.le_of_ble_eq_true rfl) at_MO_0 rfl rfl rfl (fun l => c_X8_pay hD l VD) ?_
  exact jr_ic_eq (tgt := 1495) dL_law_415 rfl (fun _ => K C' D' hR) (fun h => absurd rfl h)
set_option maxHeartbeats 4000000 in
theorem lc_sell {X : pm_X} {VC VD : pm_V} {b n i : Nat} {xs : Nat → Int32} {C D : pm_M} (hX : pm_sc X b n xs) (hn : n ≤ 3072) (hi : i + 6 ≤ n) (hv : VD.2 = VC.2) (hs : VD.1 900 = VC.1 900 ∧ VD.1 901 = VC.1 901 ∧ VD.1 902 = VC.1 902) (hRR : RR C D) (K : ∀ C' D' : pm_M, RR C' D' → pm_J X VC mL 1300 (pm_wld VC skC C' ++ (pm_wld VD skD D' ++ [])) 1495 [(0, .ref b), (1, .ref (VC.1 0)), (2, .ref (VD.1 0)), (3, .int (nI i))] []) : pm_J X VC mL 1300 (pm_wld VC skC C ++ (pm_wld VD skD D ++ [])) 420 [(0, .ref b), (1, .ref (VC.1 0)), (2, .ref (VD.1 0)), (3, .int (nI i))] [] := by
  obtain ⟨r, C', D', hC, hD, hR⟩ := e_sell hRR (xs ((nI i) + 1).toNatClampNeg) (xs ((nI i) + 2).toNatClampNeg) (xs ((nI i) + 3).toNatClampNeg)
  refine jr_aloadn (j := 1) dL_law_420 rfl ?_
  refine jr_aloadn (j := 0) dL_law_421 rfl ?_
  refine jr_iloadn (j := 3) dL_law_422 rfl ?_
  refine jr_iconst (v := 1) dL_law_423 (by decide) ?_
  refine jr_iadd dL_law_424 ?_
  refine kr_sld hX dL_law_425 (pm_inS hn hi (d := 1) (by decide) 1 (by decide)) ?_
  refine jr_aloadn (j := 0) dL_law_426 rfl ?_
  refine jr_iloadn (j := 3) dL_law_427 rfl ?_
  refine jr_iconst (v := 2) dL_law_428 (by decide) ?_
  refine jr_iadd dL_law_429 ?_
  refine kr_sld hX dL_law_430 (pm_inS hn hi (d := 2) (by decide) 2 (by decide)) ?_
  refine jr_aloadn (j := 0) dL_law_431 rfl ?_
  refine jr_iloadn (j := 3) dL_law_432 rfl ?_
  refine jr_iconst (v := 3) dL_law_433 (by decide) ?_
  refine jr_iadd dL_law_434 ?_
  refine kr_sld hX dL_law_435 (pm_inS hn hi (d := 3) (by decide) 3 (by decide)) ?_
  refine kr_callC (V2 := VC) (W2 := pm_wld VD skD D ++ []) (sk := skC) (M := C) (M' := C') (bp := 0) (As := [.int (xs ((nI i) + 1).toNatClampNeg), .int (xs ((nI i) + 2).toNatClampNeg), .int (xs ((nI i) + 3).toNatClampNeg)]) rfl ⟨rfl, rfl, rfl⟩ dL_law_436 lkL_40 kX7_sell nX7_sell (Nat.le_of_ble_eq_true rfl) (Nat.le_of_ble_eq_true rfl) at_RS_0 rfl rfl rfl (fun l => c_X7_sell hC l VC) ?_
  refine jr_aloadn (j := 2) dL_law_439 rfl ?_
  refine jr_aloadn (j := 0) dL_law_440 rfl ?_
  refine jr_iloadn (j := 3) dL_law_441 rfl ?_
  refine jr_iconst (v := 1) dL_law_442 (by decide) ?_
  refine jr_iadd dL_law_443 ?_
  refine kr_sld hX dL_law_444 (pm_inS hn hi (d := 1) (by decide) 1 (by decide)) ?_
  refine jr_aloadn (j := 0) dL_law_445 rfl ?_
  refine jr_iloadn (j := 3) dL_law_446 rfl ?_
  refine jr_iconst (v := 2) dL_law_447 (by decide) ?_
  refine jr_iadd dL_law_448 ?_
  refine kr_sld hX dL_law_449 (pm_inS hn hi (d := 2) (by decide) 2 (by decide)) ?_
  refine jr_aloadn (j := 0) dL_law_450 rfl ?_
  refine jr_iloadn (j := 3) dL_law_451 rfl ?_
  refine jr_iconst (v := 3) dL_law_452 (by decide) ?_
  refine jr_iadd dL_law_453 ?_
  refine kr_sld hX dL_law_454 (pm_inS hn hi (d := 3) (by decide) 3 (by decide)) ?_
  refine kr_callI (V2 := VD) (W1 := pm_wld VC skC C') (W2 := []) (sk := skD) (M := D) (M' := D') (bp := 0) (As := [.int (xs ((nI i) + 1).toNatClampNeg), .int (xs ((nI i) + 2).toNatClampNeg), .int (xs ((nI i) + 3).toNatClampNeg)]) hv hs dL_law_455 lkL_43 kX8_sell nX8_sell (Nat.le_of_ble_eq_true rfl) (Nat.le_of_ble_eq_true rfl) at_MO_0 rfl rfl rfl (fun l => c_X8_sell hD l VD) ?_
  exact jr_ic_eq (tgt := 1495) dL_law_458 rfl (fun _ => K C' D' hR) (fun h => absurd rfl h)
set_option maxHeartbeats 4000000 in
theorem lc_cloud {X : pm_X} {VC VD : pm_V} {b n i : Nat} {xs : Nat → Int32} {C D : pm_M} (hX : pm_sc X b n xs) (hn : n ≤ 3072) (hi : i + 6 ≤ n) (hv : VD.2 = VC.2) (hs : VD.1 900 = VC.1 900 ∧ VD.1 901 = VC.1 901 ∧ VD.1 902 = VC.1 902) (hRR : RR C D) (K : ∀ C' D' : pm_M, RR C' D' → pm_J X VC mL 1300 (pm_wld VC skC C' ++ (pm_wld VD skD D' ++ [])) 1495 [(0, .ref b), (1, .ref (VC.1 0)), (2, .ref (VD.1 0)), (3, .int (nI i))] []) : pm_J X VC mL 1300 (pm_wld VC skC C ++ (pm_wld VD skD D ++ [])) 463 [(0, .ref b), (1, .ref (VC.1 0)), (2, .ref (VD.1 0)), (3, .int (nI i))] [] := by
  obtain ⟨r, C', D', hC, hD, hR⟩ := e_cloud hRR (xs ((nI i) + 1).toNatClampNeg) (xs ((nI i) + 2).toNatClampNeg)
  refine jr_aloadn (j := 1) dL_law_463 rfl ?_
  refine jr_aloadn (j := 0) dL_law_464 rfl ?_
  refine jr_iloadn (j := 3) dL_law_465 rfl ?_
  refine jr_iconst (v := 1) dL_law_466 (by decide) ?_
  refine jr_iadd dL_law_467 ?_
  refine kr_sld hX dL_law_468 (pm_inS hn hi (d := 1) (by decide) 1 (by decide)) ?_
  refine jr_aloadn (j := 0) dL_law_469 rfl ?_
  refine jr_iloadn (j := 3) dL_law_470 rfl ?_
  refine jr_iconst (v := 2) dL_law_471 (by decide) ?_
  refine jr_iadd dL_law_472 ?_
  refine kr_sld hX dL_law_473 (pm_inS hn hi (d := 2) (by decide) 2 (by decide)) ?_
  refine kr_callC (V2 := VC) (W2 := pm_wld VD skD D ++ []) (sk := skC) (M := C) (M' := C') (bp := 0) (As := [.int (xs ((nI i) + 1).toNatClampNeg), .int (xs ((nI i) + 2).toNatClampNeg)]) rfl ⟨rfl, rfl, rfl⟩ dL_law_474 lkL_44 kX7_cloud nX7_cloud (Nat.le_of_ble_eq_true rfl) (Nat.le_of_ble_eq_true rfl) at_RS_0 rfl rfl rfl (fun l => c_X7_cloud hC l VC) ?_
  refine jr_aloadn (j := 2) dL_law_477 rfl ?_
  refine jr_aloadn (j := 0) dL_law_478 rfl ?_
  refine jr_iloadn (j := 3) dL_law_479 rfl ?_
  refine jr_iconst (v := 1) dL_law_480 (by decide) ?_
  refine jr_iadd dL_law_481 ?_
  refine kr_sld hX dL_law_482 (pm_inS hn hi (d := 1) (by decide) 1 (by decide)) ?_
  refine jr_aloadn (j := 0) dL_law_483 rfl ?_
  refine jr_iloadn (j := 3) dL_law_484 rfl ?_
  refine jr_iconst (v := 2) dL_law_485 (by decide) ?_
  refine jr_iadd dL_law_486 ?_
  refine kr_sld hX dL_law_487 (pm_inS hn hi (d := 2) (by decide) 2 (by decide)) ?_
  refine kr_callI (V2 := VD) (W1 := pm_wld VC skC C') (W2 := []) (sk := skD) (M := D) (M' := D') (bp := 0) (As := [.int (xs ((nI i) + 1).toNatClampNeg), .int (xs ((nI i) + 2).toNatClampNeg)]) hv hs dL_law_488 lkL_47 kX8_cloud nX8_cloud (Nat.le_of_ble_eq_true rfl) (Nat.le_of_ble_eq_true rfl) at_MO_0 rfl rfl rfl (fun l => c_X8_cloud hD l VD) ?_
  exact jr_ic_eq (tgt := 1495) dL_law_491 rfl (fun _ => K C' D' hR) (fun h => absurd rfl h)
set_option maxHeartbeats 4000000 in
theorem lc_ofCloud {X : pm_X} {VC VD : pm_V} {b n i : Nat} {xs : Nat → Int32} {C D : pm_M} (hX : pm_sc X b n xs) (hn : n ≤ 3072) (hi : i + 6 ≤ n) (hv : VD.2 = VC.2) (hs : VD.1 900 = VC.1 900 ∧ VD.1 901 = VC.1 901 ∧ VD.1 902 = VC.1 902) (hRR : RR C D) (K : ∀ C' D' : pm_M, RR C' D' → pm_J X VC mL 1300 (pm_wld VC skC C' ++ (pm_wld VD skD D' ++ [])) 1495 [(0, .ref b), (1, .ref (VC.1 0)), (2, .ref (VD.1 0)), (3, .int (nI i))] []) : pm_J X VC mL 1300 (pm_wld VC skC C ++ (pm_wld VD skD D ++ [])) 496 [(0, .ref b), (1, .ref (VC.1 0)), (2, .ref (VD.1 0)), (3, .int (nI i))] [] := by
  obtain ⟨r, C', D', hC, hD, hR⟩ := e_ofCloud hRR (xs ((nI i) + 1).toNatClampNeg) (xs ((nI i) + 2).toNatClampNeg)
  refine jr_aloadn (j := 1) dL_law_496 rfl ?_
  refine jr_aloadn (j := 0) dL_law_497 rfl ?_
  refine jr_iloadn (j := 3) dL_law_498 rfl ?_
  refine jr_iconst (v := 1) dL_law_499 (by decide) ?_
  refine jr_iadd dL_law_500 ?_
  refine kr_sld hX dL_law_501 (pm_inS hn hi (d := 1) (by decide) 1 (by decide)) ?_
  refine jr_aloadn (j := 0) dL_law_502 rfl ?_
  refine jr_iloadn (j := 3) dL_law_503 rfl ?_
  refine jr_iconst (v := 2) dL_law_504 (by decide) ?_
  refine jr_iadd dL_law_505 ?_
  refine kr_sld hX dL_law_506 (pm_inS hn hi (d := 2) (by decide) 2 (by decide)) ?_
  refine kr_callC (V2 := VC) (W2 := pm_wld VD skD D ++ []) (sk := skC) (M := C) (M' := C') (bp := 0) (As := [.int (xs ((nI i) + 1).toNatClampNeg), .int (xs ((nI i) + 2).toNatClampNeg)]) rfl ⟨rfl, rfl, rfl⟩ dL_law_507 lkL_48 kX7_ofCloud nX7_ofCloud (Nat.le_of_ble_eq_true rfl) (Nat.le_of_ble_eq_true rfl) at_RS_0 rfl rfl rfl (fun l => c_X7_ofCloud hC l VC) ?_
  refine jr_aloadn (j := 2) dL_law_510 rfl ?_
  refine jr_aloadn (j := 0) dL_law_511 rfl ?_
  refine jr_iloadn (j := 3) dL_law_512 rfl ?_
  refine jr_iconst (v := 1) dL_law_513 (by decide) ?_
  refine jr_iadd dL_law_514 ?_
  refine kr_sld hX dL_law_515 (pm_inS hn hi (d := 1) (by decide) 1 (by decide)) ?_
  refine jr_aloadn (j := 0) dL_law_516 rfl ?_
  refine jr_iloadn (j := 3) dL_law_517 rfl ?_
  refine jr_iconst (v := 2) dL_law_518 (by decide) ?_
  refine jr_iadd dL_law_519 ?_
  refine kr_sld hX dL_law_520 (pm_inS hn hi (d := 2) (by decide) 2 (by decide)) ?_
  refine kr_callI (V2 := VD) (W1 := pm_wld VC skC C') (W2 := []) (sk := skD) (M := D) (M' := D') (bp := 0) (As := [.int (xs ((nI i) + 1).toNatClampNeg), .int (xs ((nI i) + 2).toNatClampNeg)]) hv hs dL_law_521 lkL_51 kX8_ofCloud nX8_ofCloud (Nat.le_of_ble_eq_true rfl) (Nat.le_of_ble_eq_true rfl) at_MO_0 rfl rfl rfl (fun l => c_X8_ofCloud hD l VD) ?_
  exact jr_ic_eq (tgt := 1495) dL_law_524 rfl (fun _ => K C' D' hR) (fun h => absurd rfl h)
set_option maxHeartbeats 4000000 in
theorem lc_become {X : pm_X} {VC VD : pm_V} {b n i : Nat} {xs : Nat → Int32} {C D : pm_M} (hX : pm_sc X b n xs) (hn : n ≤ 3072) (hi : i + 6 ≤ n) (hv : VD.2 = VC.2) (hs : VD.1 900 = VC.1 900 ∧ VD.1 901 = VC.1 901 ∧ VD.1 902 = VC.1 902) (hRR : RR C D) (K : ∀ C' D' : pm_M, RR C' D' → pm_J X VC mL 1300 (pm_wld VC skC C' ++ (pm_wld VD skD D' ++ [])) 1495 [(0, .ref b), (1, .ref (VC.1 0)), (2, .ref (VD.1 0)), (3, .int (nI i))] []) : pm_J X VC mL 1300 (pm_wld VC skC C ++ (pm_wld VD skD D ++ [])) 529 [(0, .ref b), (1, .ref (VC.1 0)), (2, .ref (VD.1 0)), (3, .int (nI i))] [] := by
  obtain ⟨r, C', D', hC, hD, hR⟩ := e_become hRR (xs ((nI i) + 1).toNatClampNeg) (xs ((nI i) + 2).toNatClampNeg)
  refine jr_aloadn (j := 1) dL_law_529 rfl ?_
  refine jr_aloadn (j := 0) dL_law_530 rfl ?_
  refine jr_iloadn (j := 3) dL_law_531 rfl ?_
  refine jr_iconst (v := 1) dL_law_532 (by decide) ?_
  refine jr_iadd dL_law_533 ?_
  refine kr_sld hX dL_law_534 (pm_inS hn hi (d := 1) (by decide) 1 (by decide)) ?_
  refine jr_aloadn (j := 0) dL_law_535 rfl ?_
  refine jr_iloadn (j := 3) dL_law_536 rfl ?_
  refine jr_iconst (v := 2) dL_law_537 (by decide) ?_
  refine jr_iadd dL_law_538 ?_
  refine kr_sld hX dL_law_539 (pm_inS hn hi (d := 2) (by decide) 2 (by decide)) ?_
  refine kr_callC (V2 := VC) (W2 := pm_wld VD skD D ++ []) (sk := skC) (M := C) (M' := C') (bp := 0) (As := [.int (xs ((nI i) + 1).toNatClampNeg), .int (xs ((nI i) + 2).toNatClampNeg)]) rfl ⟨rfl, rfl, rfl⟩ dL_law_540 lkL_52 kX7_become nX7_become (Nat.le_of_ble_eq_true rfl) (Nat.le_of_ble_eq_true rfl) at_RS_0 rfl rfl rfl (fun l => c_X7_become hC l VC) ?_
  refine jr_aloadn (j := 2) dL_law_543 rfl ?_
  refine jr_aloadn (j := 0) dL_law_544 rfl ?_
  refine jr_iloadn (j := 3) dL_law_545 rfl ?_
  refine jr_iconst (v := 1) dL_law_546 (by decide) ?_
  refine jr_iadd dL_law_547 ?_
  refine kr_sld hX dL_law_548 (pm_inS hn hi (d := 1) (by decide) 1 (by decide)) ?_
  refine jr_aloadn (j := 0) dL_law_549 rfl ?_
  refine jr_iloadn (j := 3) dL_law_550 rfl ?_
  refine jr_iconst (v := 2) dL_law_551 (by decide) ?_
  refine jr_iadd dL_law_552 ?_
  refine kr_sld hX dL_law_553 (pm_inS hn hi (d := 2) (by decide) 2 (by decide)) ?_
  refine kr_callI (V2 := VD) (W1 := pm_wld VC skC C') (W2 := []) (sk := skD) (M := D) (M' := D') (bp := 0) (As := [.int (xs ((nI i) + 1).toNatClampNeg), .int (xs ((nI i) + 2).toNatClampNeg)]) hv hs dL_law_554 lkL_55 kX8_become nX8_become (Nat.le_of_ble_eq_true rfl) (Nat.le_of_ble_eq_true rfl) at_MO_0 rfl rfl rfl (fun l => c_X8_become hD l VD) ?_
  exact jr_ic_eq (tgt := 1495) dL_law_557 rfl (fun _ => K C' D' hR) (fun h => absurd rfl h)
set_option maxHeartbeats 4000000 in
theorem lc_as {X : pm_X} {VC VD : pm_V} {b n i : Nat} {xs : Nat → Int32} {C D : pm_M} (hX : pm_sc X b n xs) (hn : n ≤ 3072) (hi : i + 6 ≤ n) (hv : VD.2 = VC.2) (hs : VD.1 900 = VC.1 900 ∧ VD.1 901 = VC.1 901 ∧ VD.1 902 = VC.1 902) (hRR : RR C D) (K : ∀ C' D' : pm_M, RR C' D' → pm_J X VC mL 1300 (pm_wld VC skC C' ++ (pm_wld VD skD D' ++ [])) 1495 [(0, .ref b), (1, .ref (VC.1 0)), (2, .ref (VD.1 0)), (3, .int (nI i))] []) : pm_J X VC mL 1300 (pm_wld VC skC C ++ (pm_wld VD skD D ++ [])) 562 [(0, .ref b), (1, .ref (VC.1 0)), (2, .ref (VD.1 0)), (3, .int (nI i))] [] := by
  obtain ⟨r, C', D', hC, hD, hR⟩ := e_as hRR (xs ((nI i) + 1).toNatClampNeg) (xs ((nI i) + 2).toNatClampNeg)
  refine jr_aloadn (j := 1) dL_law_562 rfl ?_
  refine jr_aloadn (j := 0) dL_law_563 rfl ?_
  refine jr_iloadn (j := 3) dL_law_564 rfl ?_
  refine jr_iconst (v := 1) dL_law_565 (by decide) ?_
  refine jr_iadd dL_law_566 ?_
  refine kr_sld hX dL_law_567 (pm_inS hn hi (d := 1) (by decide) 1 (by decide)) ?_
  refine jr_aloadn (j := 0) dL_law_568 rfl ?_
  refine jr_iloadn (j := 3) dL_law_569 rfl ?_
  refine jr_iconst (v := 2) dL_law_570 (by decide) ?_
  refine jr_iadd dL_law_571 ?_
  refine kr_sld hX dL_law_572 (pm_inS hn hi (d := 2) (by decide) 2 (by decide)) ?_
  refine kr_callC (V2 := VC) (W2 := pm_wld VD skD D ++ []) (sk := skC) (M := C) (M' := C') (bp := 0) (As := [.int (xs ((nI i) + 1).toNatClampNeg), .int (xs ((nI i) + 2).toNatClampNeg)]) rfl ⟨rfl, rfl, rfl⟩ dL_law_573 lkL_56 kX7_as nX7_as (Nat.le_of_ble_eq_true rfl) (Nat.le_of_ble_eq_true rfl) at_RS_0 rfl rfl rfl (fun l => c_X7_as hC l VC) ?_
  refine jr_aloadn (j := 2) dL_law_576 rfl ?_
  refine jr_aloadn (j := 0) dL_law_577 rfl ?_
  refine jr_iloadn (j := 3) dL_law_578 rfl ?_
  refine jr_iconst (v := 1) dL_law_579 (by decide) ?_
  refine jr_iadd dL_law_580 ?_
  refine kr_sld hX dL_law_581 (pm_inS hn hi (d := 1) (by decide) 1 (by decide)) ?_
  refine jr_aloadn (j := 0) dL_law_582 rfl ?_
  refine jr_iloadn (j := 3) dL_law_583 rfl ?_
  refine jr_iconst (v := 2) dL_law_584 (by decide) ?_
  refine jr_iadd dL_law_585 ?_
  refine kr_sld hX dL_law_586 (pm_inS hn hi (d := 2) (by decide) 2 (by decide)) ?_
  refine kr_callI (V2 := VD) (W1 := pm_wld VC skC C') (W2 := []) (sk := skD) (M := D) (M' := D') (bp := 0) (As := [.int (xs ((nI i) + 1).toNatClampNeg), .int (xs ((nI i) + 2).toNatClampNeg)]) hv hs dL_law_587 lkL_59 kX8_as nX8_as (Nat.le_of_ble_eq_true rfl) (Nat.le_of_ble_eq_true rfl) at_MO_0 rfl rfl rfl (fun l => c_X8_as hD l VD) ?_
  exact jr_ic_eq (tgt := 1495) dL_law_590 rfl (fun _ => K C' D' hR) (fun h => absurd rfl h)
set_option maxHeartbeats 4000000 in
theorem lc_lead {X : pm_X} {VC VD : pm_V} {b n i : Nat} {xs : Nat → Int32} {C D : pm_M} (hX : pm_sc X b n xs) (hn : n ≤ 3072) (hi : i + 6 ≤ n) (hv : VD.2 = VC.2) (hs : VD.1 900 = VC.1 900 ∧ VD.1 901 = VC.1 901 ∧ VD.1 902 = VC.1 902) (hRR : RR C D) (K : ∀ C' D' : pm_M, RR C' D' → pm_J X VC mL 1300 (pm_wld VC skC C' ++ (pm_wld VD skD D' ++ [])) 1495 [(0, .ref b), (1, .ref (VC.1 0)), (2, .ref (VD.1 0)), (3, .int (nI i))] []) : pm_J X VC mL 1300 (pm_wld VC skC C ++ (pm_wld VD skD D ++ [])) 595 [(0, .ref b), (1, .ref (VC.1 0)), (2, .ref (VD.1 0)), (3, .int (nI i))] [] := by
  obtain ⟨r, C', D', hC, hD, hR⟩ := e_lead hRR (xs ((nI i) + 1).toNatClampNeg) (xs ((nI i) + 2).toNatClampNeg) (xs ((nI i) + 3).toNatClampNeg)
  refine jr_aloadn (j := 1) dL_law_595 rfl ?_
  refine jr_aloadn (j := 0) dL_law_596 rfl ?_
  refine jr_iloadn (j := 3) dL_law_597 rfl ?_
  refine jr_iconst (v := 1) dL_law_598 (by decide) ?_
  refine jr_iadd dL_law_599 ?_
  refine kr_sld hX dL_law_600 (pm_inS hn hi (d := 1) (by decide) 1 (by decide)) ?_
  refine jr_aloadn (j := 0) dL_law_601 rfl ?_
  refine jr_iloadn (j := 3) dL_law_602 rfl ?_
  refine jr_iconst (v := 2) dL_law_603 (by decide) ?_
  refine jr_iadd dL_law_604 ?_
  refine kr_sld hX dL_law_605 (pm_inS hn hi (d := 2) (by decide) 2 (by decide)) ?_
  refine jr_aloadn (j := 0) dL_law_606 rfl ?_
  refine jr_iloadn (j := 3) dL_law_607 rfl ?_
  refine jr_iconst (v := 3) dL_law_608 (by decide) ?_
  refine jr_iadd dL_law_609 ?_
  refine kr_sld hX dL_law_610 (pm_inS hn hi (d := 3) (by decide) 3 (by decide)) ?_
  refine kr_callC (V2 := VC) (W2 := pm_wld VD skD D ++ []) (sk := skC) (M := C) (M' := C') (bp := 0) (As := [.int (xs ((nI i) + 1).toNatClampNeg), .int (xs ((nI i) + 2).toNatClampNeg), .int (xs ((nI i) + 3).toNatClampNeg)]) rfl ⟨rfl, rfl, rfl⟩ dL_law_611 lkL_60 kX7_lead nX7_lead (Nat.le_of_ble_eq_true rfl) (Nat.le_of_ble_eq_true rfl) at_RS_0 rfl rfl rfl (fun l => c_X7_lead hC l VC) ?_
  refine jr_aloadn (j := 2) dL_law_614 rfl ?_
  refine jr_aloadn (j := 0) dL_law_615 rfl ?_
  refine jr_iloadn (j := 3) dL_law_616 rfl ?_
  refine jr_iconst (v := 1) dL_law_617 (by decide) ?_
  refine jr_iadd dL_law_618 ?_
  refine kr_sld hX dL_law_619 (pm_inS hn hi (d := 1) (by decide) 1 (by decide)) ?_
  refine jr_aloadn (j := 0) dL_law_620 rfl ?_
  refine jr_iloadn (j := 3) dL_law_621 rfl ?_
  refine jr_iconst (v := 2) dL_law_622 (by decide) ?_
  refine jr_iadd dL_law_623 ?_
  refine kr_sld hX dL_law_624 (pm_inS hn hi (d := 2) (by decide) 2 (by decide)) ?_
  refine jr_aloadn (j := 0) dL_law_625 rfl ?_
  refine jr_iloadn (j := 3) dL_law_626 rfl ?_
  refine jr_iconst (v := 3) dL_law_627 (by decide) ?_
  refine jr_iadd dL_law_628 ?_
  refine kr_sld hX dL_law_629 (pm_inS hn hi (d := 3) (by decide) 3 (by decide)) ?_
  refine kr_callI (V2 := VD) (W1 := pm_wld VC skC C') (W2 := []) (sk := skD) (M := D) (M' := D') (bp := 0) (As := [.int (xs ((nI i) + 1).toNatClampNeg), .int (xs ((nI i) + 2).toNatClampNeg), .int (xs ((nI i) + 3).toNatClampNeg)]) hv hs dL_law_630 lkL_63 kX8_lead nX8_lead (Nat.le_of_ble_eq_true rfl) (Nat.le_of_ble_eq_true rfl) at_MO_0 rfl rfl rfl (fun l => c_X8_lead hD l VD) ?_
  exact jr_ic_eq (tgt := 1495) dL_law_633 rfl (fun _ => K C' D' hR) (fun h => absurd rfl h)
set_option maxHeartbeats 4000000 in
theorem lc_feed {X : pm_X} {VC VD : pm_V} {b n i : Nat} {xs : Nat → Int32} {C D : pm_M} (hX : pm_sc X b n xs) (hn : n ≤ 3072) (hi : i + 6 ≤ n) (hv : VD.2 = VC.2) (hs : VD.1 900 = VC.1 900 ∧ VD.1 901 = VC.1 901 ∧ VD.1 902 = VC.1 902) (hRR : RR C D) (K : ∀ C' D' : pm_M, RR C' D' → pm_J X VC mL 1300 (pm_wld VC skC C' ++ (pm_wld VD skD D' ++ [])) 1495 [(0, .ref b), (1, .ref (VC.1 0)), (2, .ref (VD.1 0)), (3, .int (nI i))] []) : pm_J X VC mL 1300 (pm_wld VC skC C ++ (pm_wld VD skD D ++ [])) 638 [(0, .ref b), (1, .ref (VC.1 0)), (2, .ref (VD.1 0)), (3, .int (nI i))] [] := by
  obtain ⟨r, C', D', hC, hD, hR⟩ := e_feed hRR ((((xs ((nI i) + 1).toNatClampNeg).toInt64) <<< ((32 : Int32).toInt64 &&& 63)) ||| (((xs ((nI i) + 2).toNatClampNeg).toInt64) &&& 4294967295)) (xs ((nI i) + 3).toNatClampNeg)
  refine jr_aloadn (j := 1) dL_law_638 rfl ?_
  refine jr_aloadn (j := 0) dL_law_639 rfl ?_
  refine jr_iloadn (j := 3) dL_law_640 rfl ?_
  refine jr_iconst (v := 1) dL_law_641 (by decide) ?_
  refine jr_iadd dL_law_642 ?_
  refine kr_sld hX dL_law_643 (pm_inS hn hi (d := 1) (by decide) 1 (by decide)) ?_
  refine jr_i2l dL_law_644 ?_
  refine jr_bipush (v := 32) dL_law_645 (by decide) ?_
  refine jr_lshl dL_law_647 ?_
  refine jr_aloadn (j := 0) dL_law_648 rfl ?_
  refine jr_iloadn (j := 3) dL_law_649 rfl ?_
  refine jr_iconst (v := 2) dL_law_650 (by decide) ?_
  refine jr_iadd dL_law_651 ?_
  refine kr_sld hX dL_law_652 (pm_inS hn hi (d := 2) (by decide) 2 (by decide)) ?_
  refine jr_i2l dL_law_653 ?_
  refine jr_ldc2 dL_law_654 lkL_64 ?_
  refine jr_land dL_law_657 ?_
  refine jr_lor dL_law_658 ?_
  refine jr_aloadn (j := 0) dL_law_659 rfl ?_
  refine jr_iloadn (j := 3) dL_law_660 rfl ?_
  refine jr_iconst (v := 3) dL_law_661 (by decide) ?_
  refine jr_iadd dL_law_662 ?_
  refine kr_sld hX dL_law_663 (pm_inS hn hi (d := 3) (by decide) 3 (by decide)) ?_
  refine kr_callC (V2 := VC) (W2 := pm_wld VD skD D ++ []) (sk := skC) (M := C) (M' := C') (bp := 0) (As := [.long ((((xs ((nI i) + 1).toNatClampNeg).toInt64) <<< ((32 : Int32).toInt64 &&& 63)) ||| (((xs ((nI i) + 2).toNatClampNeg).toInt64) &&& 4294967295)), .int (xs ((nI i) + 3).toNatClampNeg)]) rfl ⟨rfl, rfl, rfl⟩ dL_law_664 lkL_66 kX7_feed nX7_feed (Nat.le_of_ble_eq_true rfl) (Nat.le_of_ble_eq_true rfl) at_RS_0 rfl rfl rfl (fun l => c_X7_feed hC l VC) ?_
  refine jr_aloadn (j := 2) dL_law_667 rfl ?_
  refine jr_aloadn (j := 0) dL_law_668 rfl ?_
  refine jr_iloadn (j := 3) dL_law_669 rfl ?_
  refine jr_iconst (v := 1) dL_law_670 (by decide) ?_
  refine jr_iadd dL_law_671 ?_
  refine kr_sld hX dL_law_672 (pm_inS hn hi (d := 1) (by decide) 1 (by decide)) ?_
  refine jr_i2l dL_law_673 ?_
  refine jr_bipush (v := 32) dL_law_674 (by decide) ?_
  refine jr_lshl dL_law_676 ?_
  refine jr_aloadn (j := 0) dL_law_677 rfl ?_
  refine jr_iloadn (j := 3) dL_law_678 rfl ?_
  refine jr_iconst (v := 2) dL_law_679 (by decide) ?_
  refine jr_iadd dL_law_680 ?_
  refine kr_sld hX dL_law_681 (pm_inS hn hi (d := 2) (by decide) 2 (by decide)) ?_
  refine jr_i2l dL_law_682 ?_
  refine jr_ldc2 dL_law_683 lkL_64 ?_
  refine jr_land dL_law_686 ?_
  refine jr_lor dL_law_687 ?_
  refine jr_aloadn (j := 0) dL_law_688 rfl ?_
  refine jr_iloadn (j := 3) dL_law_689 rfl ?_
  refine jr_iconst (v := 3) dL_law_690 (by decide) ?_
  refine jr_iadd dL_law_691 ?_
  refine kr_sld hX dL_law_692 (pm_inS hn hi (d := 3) (by decide) 3 (by decide)) ?_
  refine kr_callI (V2 := VD) (W1 := pm_wld VC skC C') (W2 := []) (sk := skD) (M := D) (M' := D') (bp := 0) (As := [.long ((((xs ((nI i) + 1).toNatClampNeg).toInt64) <<< ((32 : Int32).toInt64 &&& 63)) ||| (((xs ((nI i) + 2).toNatClampNeg).toInt64) &&& 4294967295)), .int (xs ((nI i) + 3).toNatClampNeg)]) hv hs dL_law_693 lkL_70 kX8_feed nX8_feed (Nat.le_of_ble_eq_true rfl) (Nat.le_of_ble_eq_true rfl) at_MO_0 rfl rfl rfl (fun l => c_X8_feed hD l VD) ?_
  exact jr_ic_eq (tgt := 1495) dL_law_696 rfl (fun _ => K C' D' hR) (fun h => absurd rfl h)
set_option maxHeartbeats 4000000 in
theorem lc_text {X : pm_X} {VC VD : pm_V} {b n i : Nat} {xs : Nat → Int32} {C D : pm_M} (hX : pm_sc X b n xs) (hn : n ≤ 3072) (hi : i + 6 ≤ n) (hv : VD.2 = VC.2) (hs : VD.1 900 = VC.1 900 ∧ VD.1 901 = VC.1 901 ∧ VD.1 902 = VC.1 902) (hRR : RR C D) (K : ∀ C' D' : pm_M, RR C' D' → pm_J X VC mL 1300 (pm_wld VC skC C' ++ (pm_wld VD skD D' ++ [])) 1495 [(0, .ref b), (1, .ref (VC.1 0)), (2, .ref (VD.1 0)), (3, .int (nI i))] []) : pm_J X VC mL 1300 (pm_wld VC skC C ++ (pm_wld VD skD D ++ [])) 701 [(0, .ref b), (1, .ref (VC.1 0)), (2, .ref (VD.1 0)), (3, .int (nI i))] [] := by
  obtain ⟨r, C', D', hC, hD, hR⟩ := e_text hRR (xs ((nI i) + 1).toNatClampNeg)
  refine jr_aloadn (j := 1) dL_law_701 rfl ?_
  refine jr_aloadn (j := 0) dL_law_702 rfl ?_
  refine jr_iloadn (j := 3) dL_law_703 rfl ?_
  refine jr_iconst (v := 1) dL_law_704 (by decide) ?_
  refine jr_iadd dL_law_705 ?_
  refine kr_sld hX dL_law_706 (pm_inS hn hi (d := 1) (by decide) 1 (by decide)) ?_
  refine kr_callC (V2 := VC) (W2 := pm_wld VD skD D ++ []) (sk := skC) (M := C) (M' := C') (bp := 0) (As := [.int (xs ((nI i) + 1).toNatClampNeg)]) rfl ⟨rfl, rfl, rfl⟩ dL_law_707 lkL_71 kX7_text nX7_text (Nat.le_of_ble_eq_true rfl) (Nat.le_of_ble_eq_true rfl) at_RS_0 rfl rfl rfl (fun l => c_X7_text hC l VC) ?_
  refine jr_aloadn (j := 2) dL_law_710 rfl ?_
  refine jr_aloadn (j := 0) dL_law_711 rfl ?_
  refine jr_iloadn (j := 3) dL_law_712 rfl ?_
  refine jr_iconst (v := 1) dL_law_713 (by decide) ?_
  refine jr_iadd dL_law_714 ?_
  refine kr_sld hX dL_law_715 (pm_inS hn hi (d := 1) (by decide) 1 (by decide)) ?_
  refine kr_callI (V2 := VD) (W1 := pm_wld VC skC C') (W2 := []) (sk := skD) (M := D) (M' := D') (bp := 0) (As := [.int (xs ((nI i) + 1).toNatClampNeg)]) hv hs dL_law_716 lkL_74 kX8_text nX8_text (Nat.le_of_ble_eq_true rfl) (Nat.le_of_ble_eq_true rfl) at_MO_0 rfl rfl rfl (fun l => c_X8_text hD l VD) ?_
  exact jr_ic_eq (tgt := 1495) dL_law_719 rfl (fun _ => K C' D' hR) (fun h => absurd rfl h)
set_option maxHeartbeats 4000000 in
theorem lc_law {X : pm_X} {VC VD : pm_V} {b n i : Nat} {xs : Nat → Int32} {C D : pm_M} (hX : pm_sc X b n xs) (hn : n ≤ 3072) (hi : i + 6 ≤ n) (hv : VD.2 = VC.2) (hs : VD.1 900 = VC.1 900 ∧ VD.1 901 = VC.1 901 ∧ VD.1 902 = VC.1 902) (hRR : RR C D) (K : ∀ C' D' : pm_M, RR C' D' → pm_J X VC mL 1300 (pm_wld VC skC C' ++ (pm_wld VD skD D' ++ [])) 1495 [(0, .ref b), (1, .ref (VC.1 0)), (2, .ref (VD.1 0)), (3, .int (nI i))] []) : pm_J X VC mL 1300 (pm_wld VC skC C ++ (pm_wld VD skD D ++ [])) 724 [(0, .ref b), (1, .ref (VC.1 0)), (2, .ref (VD.1 0)), (3, .int (nI i))] [] := by
  obtain ⟨r, C', D', hC, hD, hR⟩ := e_law hRR (xs ((nI i) + 1).toNatClampNeg) (xs ((nI i) + 2).toNatClampNeg) (xs ((nI i) + 3).toNatClampNeg) (xs ((nI i) + 4).toNatClampNeg)
  refine jr_aloadn (j := 1) dL_law_724 rfl ?_
  refine jr_aloadn (j := 0) dL_law_725 rfl ?_
  refine jr_iloadn (j := 3) dL_law_726 rfl ?_
  refine jr_iconst (v := 1) dL_law_727 (by decide) ?_
  refine jr_iadd dL_law_728 ?_
  refine kr_sld hX dL_law_729 (pm_inS hn hi (d := 1) (by decide) 1 (by decide)) ?_
  refine jr_aloadn (j := 0) dL_law_730 rfl ?_
  refine jr_iloadn (j := 3) dL_law_731 rfl ?_
  refine jr_iconst (v := 2) dL_law_732 (by decide) ?_
  refine jr_iadd dL_law_733 ?_
  refine kr_sld hX dL_law_734 (pm_inS hn hi (d := 2) (by decide) 2 (by decide)) ?_
  refine jr_aloadn (j := 0) dL_law_735 rfl ?_
  refine jr_iloadn (j := 3) dL_law_736 rfl ?_
  refine jr_iconst (v := 3) dL_law_737 (by decide) ?_
  refine jr_iadd dL_law_738 ?_
  refine kr_sld hX dL_law_739 (pm_inS hn hi (d := 3) (by decide) 3 (by decide)) ?_
  refine jr_aloadn (j := 0) dL_law_740 rfl ?_
  refine jr_iloadn (j := 3) dL_law_741 rfl ?_
  refine jr_iconst (v := 4) dL_law_742 (by decide) ?_
  refine jr_iadd dL_law_743 ?_
  refine kr_sld hX dL_law_744 (pm_inS hn hi (d := 4) (by decide) 4 (by decide)) ?_
  refine kr_callC (V2 := VC) (W2 := pm_wld VD skD D ++ []) (sk := skC) (M := C) (M' := C') (bp := 0) (As := [.int (xs ((nI i) + 1).toNatClampNeg), .int (xs ((nI i) + 2).toNatClampNeg), .int (xs ((nI i) + 3).toNatClampNeg), .int (xs ((nI i) + 4).toNatClampNeg)]) rfl ⟨rfl, rfl, rfl⟩ dL_law_745 lkL_75 kX7_law nX7_law (Nat.le_of_ble_eq_true rfl) (Nat.le_of_ble_eq_true rfl) at_RS_0 rfl rfl rfl (fun l => c_X7_law hC l VC) ?_
  refine jr_aloadn (j := 2) dL_law_748 rfl ?_
  refine jr_aloadn (j := 0) dL_law_749 rfl ?_
  refine jr_iloadn (j := 3) dL_law_750 rfl ?_
  refine jr_iconst (v := 1) dL_law_751 (by decide) ?_
  refine jr_iadd dL_law_752 ?_
  refine kr_sld hX dL_law_753 (pm_inS hn hi (d := 1) (by decide) 1 (by decide)) ?_
  refine jr_aloadn (j := 0) dL_law_754 rfl ?_
  refine jr_iloadn (j := 3) dL_law_755 rfl ?_
  refine jr_iconst (v := 2) dL_law_756 (by decide) ?_
  refine jr_iadd dL_law_757 ?_
  refine kr_sld hX dL_law_758 (pm_inS hn hi (d := 2) (by decide) 2 (by decide)) ?_
  refine jr_aloadn (j := 0) dL_law_759 rfl ?_
  refine jr_iloadn (j := 3) dL_law_760 rfl ?_
  refine jr_iconst (v := 3) dL_law_761 (by decide) ?_
  refine jr_iadd dL_law_762 ?_
  refine kr_sld hX dL_law_763 (pm_inS hn hi (d := 3) (by decide) 3 (by decide)) ?_
  refine jr_aloadn (j := 0) dL_law_764 rfl ?_
  refine jr_iloadn (j := 3) dL_law_765 rfl ?_
  refine jr_iconst (v := 4) dL_law_766 (by decide) ?_
  refine jr_iadd dL_law_767 ?_
  refine kr_sld hX dL_law_768 (pm_inS hn hi (d := 4) (by decide) 4 (by decide)) ?_
  refine kr_callI (V2 := VD) (W1 := pm_wld VC skC C') (W2 := []) (sk := skD) (M := D) (M' := D') (bp := 0) (As := [.int (xs ((nI i) + 1).toNatClampNeg), .int (xs ((nI i) + 2).toNatClampNeg), .int (xs ((nI i) + 3).toNatClampNeg), .int (xs ((nI i) + 4).toNatClampNeg)]) hv hs dL_law_769 lkL_79 kX8_law nX8_law (Nat.le_of_ble_eq_true rfl) (Nat.le_of_ble_eq_true rfl) at_MO_0 rfl rfl rfl (fun l => c_X8_law hD l VD) ?_
  exact jr_ic_eq (tgt := 1495) dL_law_772 rfl (fun _ => K C' D' hR) (fun h => absurd rfl h)
set_option maxHeartbeats 4000000 in
theorem lc_days {X : pm_X} {VC VD : pm_V} {b n i : Nat} {xs : Nat → Int32} {C D : pm_M} (hX : pm_sc X b n xs) (hn : n ≤ 3072) (hi : i + 6 ≤ n) (hv : VD.2 = VC.2) (hs : VD.1 900 = VC.1 900 ∧ VD.1 901 = VC.1 901 ∧ VD.1 902 = VC.1 902) (hRR : RR C D) (K : ∀ C' D' : pm_M, RR C' D' → pm_J X VC mL 1300 (pm_wld VC skC C' ++ (pm_wld VD skD D' ++ [])) 1495 [(0, .ref b), (1, .ref (VC.1 0)), (2, .ref (VD.1 0)), (3, .int (nI i))] []) : pm_J X VC mL 1300 (pm_wld VC skC C ++ (pm_wld VD skD D ++ [])) 777 [(0, .ref b), (1, .ref (VC.1 0)), (2, .ref (VD.1 0)), (3, .int (nI i))] [] := by
  obtain ⟨r, C', D', hC, hD, hR⟩ := e_days hRR (xs ((nI i) + 1).toNatClampNeg)
  refine jr_aloadn (j := 1) dL_law_777 rfl ?_
  refine jr_aloadn (j := 0) dL_law_778 rfl ?_
  refine jr_iloadn (j := 3) dL_law_779 rfl ?_
  refine jr_iconst (v := 1) dL_law_780 (by decide) ?_
  refine jr_iadd dL_law_781 ?_
  refine kr_sld hX dL_law_782 (pm_inS hn hi (d := 1) (by decide) 1 (by decide)) ?_
  refine kr_callC (V2 := VC) (W2 := pm_wld VD skD D ++ []) (sk := skC) (M := C) (M' := C') (bp := 0) (As := [.int (xs ((nI i) + 1).toNatClampNeg)]) rfl ⟨rfl, rfl, rfl⟩ dL_law_783 lkL_80 kX7_days nX7_days (Nat.le_of_ble_eq_true rfl) (Nat.le_of_ble_eq_true rfl) at_RS_0 rfl rfl rfl (fun l => c_X7_days hC l VC) ?_
  refine jr_aloadn (j := 2) dL_law_786 rfl ?_
  refine jr_aloadn (j := 0) dL_law_787 rfl ?_
  refine jr_iloadn (j := 3) dL_law_788 rfl ?_
  refine jr_iconst (v := 1) dL_law_789 (by decide) ?_
  refine jr_iadd dL_law_790 ?_
  refine kr_sld hX dL_law_791 (pm_inS hn hi (d := 1) (by decide) 1 (by decide)) ?_
  refine kr_callI (V2 := VD) (W1 := pm_wld VC skC C') (W2 := []) (sk := skD) (M := D) (M' := D') (bp := 0) (As := [.int (xs ((nI i) + 1).toNatClampNeg)]) hv hs dL_law_792 lkL_83 kX8_days nX8_days (Nat.le_of_ble_eq_true rfl) (Nat.le_of_ble_eq_true rfl) at_MO_0 rfl rfl rfl (fun l => c_X8_days hD l VD) ?_
  exact jr_ic_eq (tgt := 1495) dL_law_795 rfl (fun _ => K C' D' hR) (fun h => absurd rfl h)
set_option maxHeartbeats 4000000 in
theorem lc_loose {X : pm_X} {VC VD : pm_V} {b n i : Nat} {xs : Nat → Int32} {C D : pm_M} (hX : pm_sc X b n xs) (hn : n ≤ 3072) (hi : i + 6 ≤ n) (hv : VD.2 = VC.2) (hs : VD.1 900 = VC.1 900 ∧ VD.1 901 = VC.1 901 ∧ VD.1 902 = VC.1 902) (hRR : RR C D) (K : ∀ C' D' : pm_M, RR C' D' → pm_J X VC mL 1300 (pm_wld VC skC C' ++ (pm_wld VD skD D' ++ [])) 1495 [(0, .ref b), (1, .ref (VC.1 0)), (2, .ref (VD.1 0)), (3, .int (nI i))] []) : pm_J X VC mL 1300 (pm_wld VC skC C ++ (pm_wld VD skD D ++ [])) 800 [(0, .ref b), (1, .ref (VC.1 0)), (2, .ref (VD.1 0)), (3, .int (nI i))] [] := by
  obtain ⟨r, C', D', hC, hD, hR⟩ := e_loose hRR (xs ((nI i) + 1).toNatClampNeg)
  refine jr_aloadn (j := 1) dL_law_800 rfl ?_
  refine jr_aloadn (j := 0) dL_law_801 rfl ?_
  refine jr_iloadn (j := 3) dL_law_802 rfl ?_
  refine jr_iconst (v := 1) dL_law_803 (by decide) ?_
  refine jr_iadd dL_law_804 ?_
  refine kr_sld hX dL_law_805 (pm_inS hn hi (d := 1) (by decide) 1 (by decide)) ?_
  refine kr_callC (V2 := VC) (W2 := pm_wld VD skD D ++ []) (sk := skC) (M := C) (M' := C') (bp := 0) (As := [.int (xs ((nI i) + 1).toNatClampNeg)]) rfl ⟨rfl, rfl, rfl⟩ dL_law_806 lkL_84 kX7_loose nX7_loose (Nat.le_of_ble_eq_true rfl) (Nat.le_of_ble_eq_true rfl) at_RS_0 rfl rfl rfl (fun l => c_X7_loose hC l VC) ?_
  refine jr_aloadn (j := 2) dL_law_809 rfl ?_
  refine jr_aloadn (j := 0) dL_law_810 rfl ?_
  refine jr_iloadn (j := 3) dL_law_811 rfl ?_
  refine jr_iconst (v := 1) dL_law_812 (by decide) ?_
  refine jr_iadd dL_law_813 ?_
  refine kr_sld hX dL_law_814 (pm_inS hn hi (d := 1) (by decide) 1 (by decide)) ?_
  refine kr_callI (V2 := VD) (W1 := pm_wld VC skC C') (W2 := []) (sk := skD) (M := D) (M' := D') (bp := 0) (As := [.int (xs ((nI i) + 1).toNatClampNeg)]) hv hs dL_law_815 lkL_87 kX8_loose nX8_loose (Nat.le_of_ble_eq_true rfl) (Nat.le_of_ble_eq_true rfl) at_MO_0 rfl rfl rfl (fun l => c_X8_loose hD l VD) ?_
  exact jr_ic_eq (tgt := 1495) dL_law_818 rfl (fun _ => K C' D' hR) (fun h => absurd rfl h)
set_option maxHeartbeats 4000000 in
theorem lc_clear {X : pm_X} {VC VD : pm_V} {b n i : Nat} {xs : Nat → Int32} {C D : pm_M} (hX : pm_sc X b n xs) (hn : n ≤ 3072) (hi : i + 6 ≤ n) (hv : VD.2 = VC.2) (hs : VD.1 900 = VC.1 900 ∧ VD.1 901 = VC.1 901 ∧ VD.1 902 = VC.1 902) (hRR : RR C D) (K : ∀ C' D' : pm_M, RR C' D' → pm_J X VC mL 1300 (pm_wld VC skC C' ++ (pm_wld VD skD D' ++ [])) 1495 [(0, .ref b), (1, .ref (VC.1 0)), (2, .ref (VD.1 0)), (3, .int (nI i))] []) : pm_J X VC mL 1300 (pm_wld VC skC C ++ (pm_wld VD skD D ++ [])) 823 [(0, .ref b), (1, .ref (VC.1 0)), (2, .ref (VD.1 0)), (3, .int (nI i))] [] := by
  obtain ⟨r, C', D', hC, hD, hR⟩ := e_clear hRR 
  refine jr_aloadn (j := 1) dL_law_823 rfl ?_
  refine kr_callC (V2 := VC) (W2 := pm_wld VD skD D ++ []) (sk := skC) (M := C) (M' := C') (bp := 0) (As := []) rfl ⟨rfl, rfl, rfl⟩ dL_law_824 lkL_88 kX7_clear nX7_clear (Nat.le_of_ble_eq_true rfl) (Nat.le_of_ble_eq_true rfl) at_RS_0 rfl rfl rfl (fun l => c_X7_clear hC l VC) ?_
  refine jr_aloadn (j := 2) dL_law_827 rfl ?_
  refine kr_callI (V2 := VD) (W1 := pm_wld VC skC C') (W2 := []) (sk := skD) (M := D) (M' := D') (bp := 0) (As := []) hv hs dL_law_828 lkL_92 kX8_clear nX8_clear (Nat.le_of_ble_eq_true rfl) (Nat.le_of_ble_eq_true rfl) at_MO_0 rfl rfl rfl (fun l => c_X8_clear hD l VD) ?_
  exact jr_ic_eq (tgt := 1495) dL_law_831 rfl (fun _ => K C' D' hR) (fun h => absurd rfl h)
set_option maxHeartbeats 4000000 in
theorem lc_then {X : pm_X} {VC VD : pm_V} {b n i : Nat} {xs : Nat → Int32} {C D : pm_M} (hX : pm_sc X b n xs) (hn : n ≤ 3072) (hi : i + 6 ≤ n) (hv : VD.2 = VC.2) (hs : VD.1 900 = VC.1 900 ∧ VD.1 901 = VC.1 901 ∧ VD.1 902 = VC.1 902) (hRR : RR C D) (K : ∀ C' D' : pm_M, RR C' D' → pm_J X VC mL 1300 (pm_wld VC skC C' ++ (pm_wld VD skD D' ++ [])) 1495 [(0, .ref b), (1, .ref (VC.1 0)), (2, .ref (VD.1 0)), (3, .int (nI i))] []) : pm_J X VC mL 1300 (pm_wld VC skC C ++ (pm_wld VD skD D ++ [])) 836 [(0, .ref b), (1, .ref (VC.1 0)), (2, .ref (VD.1 0)), (3, .int (nI i))] [] := by
  obtain ⟨r, C', D', hC, hD, hR⟩ := e_then hRR (xs ((nI i) + 1).toNatClampNeg) (xs ((nI i) + 2).toNatClampNeg) (xs ((nI i) + 3).toNatClampNeg)
  refine jr_aloadn (j := 1) dL_law_836 rfl ?_
  refine jr_aloadn (j := 0) dL_law_837 rfl ?_
  refine jr_iloadn (j := 3) dL_law_838 rfl ?_
  refine jr_iconst (v := 1) dL_law_839 (by decide) ?_
  refine jr_iadd dL_law_840 ?_
  refine kr_sld hX dL_law_841 (pm_inS hn hi (d := 1) (by decide) 1 (by decide)) ?_
  refine jr_aloadn (j := 0) dL_law_842 rfl ?_
  refine jr_iloadn (j := 3) dL_law_843 rfl ?_
  refine jr_iconst (v := 2) dL_law_844 (by decide) ?_
  refine jr_iadd dL_law_845 ?_
  refine kr_sld hX dL_law_846 (pm_inS hn hi (d := 2) (by decide) 2 (by decide)) ?_
  refine jr_aloadn (j := 0) dL_law_847 rfl ?_
  refine jr_iloadn (j := 3) dL_law_848 rfl ?_
  refine jr_iconst (v := 3) dL_law_849 (by decide) ?_
  refine jr_iadd dL_law_850 ?_
  refine kr_sld hX dL_law_851 (pm_inS hn hi (d := 3) (by decide) 3 (by decide)) ?_
  refine kr_callC (V2 := VC) (W2 := pm_wld VD skD D ++ []) (sk := skC) (M := C) (M' := C') (bp := 0) (As := [.int (xs ((nI i) + 1).toNatClampNeg), .int (xs ((nI i) + 2).toNatClampNeg), .int (xs ((nI i) + 3).toNatClampNeg)]) rfl ⟨rfl, rfl, rfl⟩ dL_law_852 lkL_93 kX7_then nX7_then (Nat.le_of_ble_eq_true rfl) (Nat.le_of_ble_eq_true rfl) at_RS_0 rfl rfl rfl (fun l => c_X7_then hC l VC) ?_
  refine jr_aloadn (j := 2) dL_law_855 rfl ?_
  refine jr_aloadn (j := 0) dL_law_856 rfl ?_
  refine jr_iloadn (j := 3) dL_law_857 rfl ?_
  refine jr_iconst (v := 1) dL_law_858 (by decide) ?_
  refine jr_iadd dL_law_859 ?_
  refine kr_sld hX dL_law_860 (pm_inS hn hi (d := 1) (by decide) 1 (by decide)) ?_
  refine jr_aloadn (j := 0) dL_law_861 rfl ?_
  refine jr_iloadn (j := 3) dL_law_862 rfl ?_
  refine jr_iconst (v := 2) dL_law_863 (by decide) ?_
  refine jr_iadd dL_law_864 ?_
  refine kr_sld hX dL_law_865 (pm_inS hn hi (d := 2) (by decide) 2 (by decide)) ?_
  refine jr_aloadn (j := 0) dL_law_866 rfl ?_
  refine jr_iloadn (j := 3) dL_law_867 rfl ?_
  refine jr_iconst (v := 3) dL_law_868 (by decide) ?_
  refine jr_iadd dL_law_869 ?_
  refine kr_sld hX dL_law_870 (pm_inS hn hi (d := 3) (by decide) 3 (by decide)) ?_
  refine kr_callI (V2 := VD) (W1 := pm_wld VC skC C') (W2 := []) (sk := skD) (M := D) (M' := D') (bp := 0) (As := [.int (xs ((nI i) + 1).toNatClampNeg), .int (xs ((nI i) + 2).toNatClampNeg), .int (xs ((nI i) + 3).toNatClampNeg)]) hv hs dL_law_871 lkL_96 kX8_then nX8_then (Nat.le_of_ble_eq_true rfl) (Nat.le_of_ble_eq_true rfl) at_MO_0 rfl rfl rfl (fun l => c_X8_then hD l VD) ?_
  exact jr_ic_eq (tgt := 1495) dL_law_874 rfl (fun _ => K C' D' hR) (fun h => absurd rfl h)
set_option maxHeartbeats 4000000 in
theorem lc_drought {X : pm_X} {VC VD : pm_V} {b n i : Nat} {xs : Nat → Int32} {C D : pm_M} (hX : pm_sc X b n xs) (hn : n ≤ 3072) (hi : i + 6 ≤ n) (hv : VD.2 = VC.2) (hs : VD.1 900 = VC.1 900 ∧ VD.1 901 = VC.1 901 ∧ VD.1 902 = VC.1 902) (hRR : RR C D) (K : ∀ C' D' : pm_M, RR C' D' → pm_J X VC mL 1300 (pm_wld VC skC C' ++ (pm_wld VD skD D' ++ [])) 1495 [(0, .ref b), (1, .ref (VC.1 0)), (2, .ref (VD.1 0)), (3, .int (nI i))] []) : pm_J X VC mL 1300 (pm_wld VC skC C ++ (pm_wld VD skD D ++ [])) 879 [(0, .ref b), (1, .ref (VC.1 0)), (2, .ref (VD.1 0)), (3, .int (nI i))] [] := by
  obtain ⟨r, C', D', hC, hD, hR⟩ := e_drought hRR (xs ((nI i) + 1).toNatClampNeg) (xs ((nI i) + 2).toNatClampNeg)
  refine jr_aloadn (j := 1) dL_law_879 rfl ?_
  refine jr_aloadn (j := 0) dL_law_880 rfl ?_
  refine jr_iloadn (j := 3) dL_law_881 rfl ?_
  refine jr_iconst (v := 1) dL_law_882 (by decide) ?_
  refine jr_iadd dL_law_883 ?_
  refine kr_sld hX dL_law_884 (pm_inS hn hi (d := 1) (by decide) 1 (by decide)) ?_
  refine jr_aloadn (j := 0) dL_law_885 rfl ?_
  refine jr_iloadn (j := 3) dL_law_886 rfl ?_
  refine jr_iconst (v := 2) dL_law_887 (by decide) ?_
  refine jr_iadd dL_law_888 ?_
  refine kr_sld hX dL_law_889 (pm_inS hn hi (d := 2) (by decide) 2 (by decide)) ?_
  refine kr_callC (V2 := VC) (W2 := pm_wld VD skD D ++ []) (sk := skC) (M := C) (M' := C') (bp := 0) (As := [.int (xs ((nI i) + 1).toNatClampNeg), .int (xs ((nI i) + 2).toNatClampNeg)]) rfl ⟨rfl, rfl, rfl⟩ dL_law_890 lkL_97 kX7_drought nX7_drought (Nat.le_of_ble_eq_true rfl) (Nat.le_of_ble_eq_true rfl) at_RS_0 rfl rfl rfl (fun l => c_X7_drought hC l VC) ?_
  refine jr_aloadn (j := 2) dL_law_893 rfl ?_
  refine jr_aloadn (j := 0) dL_law_894 rfl ?_
  refine jr_iloadn (j := 3) dL_law_895 rfl ?_
  refine jr_iconst (v := 1) dL_law_896 (by decide) ?_
  refine jr_iadd dL_law_897 ?_
  refine kr_sld hX dL_law_898 (pm_inS hn hi (d := 1) (by decide) 1 (by decide)) ?_
  refine jr_aloadn (j := 0) dL_law_899 rfl ?_
  refine jr_iloadn (j := 3) dL_law_900 rfl ?_
  refine jr_iconst (v := 2) dL_law_901 (by decide) ?_
  refine jr_iadd dL_law_902 ?_
  refine kr_sld hX dL_law_903 (pm_inS hn hi (d := 2) (by decide) 2 (by decide)) ?_
  refine kr_callI (V2 := VD) (W1 := pm_wld VC skC C') (W2 := []) (sk := skD) (M := D) (M' := D') (bp := 0) (As := [.int (xs ((nI i) + 1).toNatClampNeg), .int (xs ((nI i) + 2).toNatClampNeg)]) hv hs dL_law_904 lkL_100 kX8_drought nX8_drought (Nat.le_of_ble_eq_true rfl) (Nat.le_of_ble_eq_true rfl) at_MO_0 rfl rfl rfl (fun l => c_X8_drought hD l VD) ?_
  exact jr_ic_eq (tgt := 1495) dL_law_907 rfl (fun _ => K C' D' hR) (fun h => absurd rfl h)
set_option maxHeartbeats 4000000 in
theorem lc_when {X : pm_X} {VC VD : pm_V} {b n i : Nat} {xs : Nat → Int32} {C D : pm_M} (hX : pm_sc X b n xs) (hn : n ≤ 3072) (hi : i + 6 ≤ n) (hv : VD.2 = VC.2) (hs : VD.1 900 = VC.1 900 ∧ VD.1 901 = VC.1 901 ∧ VD.1 902 = VC.1 902) (hRR : RR C D) (K : ∀ C' D' : pm_M, RR C' D' → pm_J X VC mL 1300 (pm_wld VC skC C' ++ (pm_wld VD skD D' ++ [])) 1495 [(0, .ref b), (1, .ref (VC.1 0)), (2, .ref (VD.1 0)), (3, .int (nI i))] []) : pm_J X VC mL 1300 (pm_wld VC skC C ++ (pm_wld VD skD D ++ [])) 912 [(0, .ref b), (1, .ref (VC.1 0)), (2, .ref (VD.1 0)), (3, .int (nI i))] [] := by
  obtain ⟨r, C', D', hC, hD, hR⟩ := e_when hRR (xs ((nI i) + 1).toNatClampNeg) (xs ((nI i) + 2).toNatClampNeg)
  refine jr_aloadn (j := 1) dL_law_912 rfl ?_
  refine jr_aloadn (j := 0) dL_law_913 rfl ?_
  refine jr_iloadn (j := 3) dL_law_914 rfl ?_
  refine jr_iconst (v := 1) dL_law_915 (by decide) ?_
  refine jr_iadd dL_law_916 ?_
  refine kr_sld hX dL_law_917 (pm_inS hn hi (d := 1) (by decide) 1 (by decide)) ?_
  refine jr_aloadn (j := 0) dL_law_918 rfl ?_
  refine jr_iloadn (j := 3) dL_law_919 rfl ?_
  refine jr_iconst (v := 2) dL_law_920 (by decide) ?_
  refine jr_iadd dL_law_921 ?_
  refine kr_sld hX dL_law_922 (pm_inS hn hi (d := 2) (by decide) 2 (by decide)) ?_
  refine kr_callC (V2 := VC) (W2 := pm_wld VD skD D ++ []) (sk := skC) (M := C) (M' := C') (bp := 0) (As := [.int (xs ((nI i) + 1).toNatClampNeg), .int (xs ((nI i) + 2).toNatClampNeg)]) rfl ⟨rfl, rfl, rfl⟩ dL_law_923 lkL_101 kX7_when nX7_when (Nat.le_of_ble_eq_true rfl) (Nat.le_of_ble_eq_true rfl) at_RS_0 rfl rfl rfl (fun l => c_X7_when hC l VC) ?_
  refine jr_aloadn (j := 2) dL_law_926 rfl ?_
  refine jr_aloadn (j := 0) dL_law_927 rfl ?_
  refine jr_iloadn (j := 3) dL_law_928 rfl ?_
  refine jr_iconst (v := 1) dL_law_929 (by decide) ?_
  refine jr_iadd dL_law_930 ?_
  refine kr_sld hX dL_law_931 (pm_inS hn hi (d := 1) (by decide) 1 (by decide)) ?_
  refine jr_aloadn (j := 0) dL_law_932 rfl ?_
  refine jr_iloadn (j := 3) dL_law_933 rfl ?_
  refine jr_iconst (v := 2) dL_law_934 (by decide) ?_
  refine jr_iadd dL_law_935 ?_
  refine kr_sld hX dL_law_936 (pm_inS hn hi (d := 2) (by decide) 2 (by decide)) ?_
  refine kr_callI (V2 := VD) (W1 := pm_wld VC skC C') (W2 := []) (sk := skD) (M := D) (M' := D') (bp := 0) (As := [.int (xs ((nI i) + 1).toNatClampNeg), .int (xs ((nI i) + 2).toNatClampNeg)]) hv hs dL_law_937 lkL_104 kX8_when nX8_when (Nat.le_of_ble_eq_true rfl) (Nat.le_of_ble_eq_true rfl) at_MO_0 rfl rfl rfl (fun l => c_X8_when hD l VD) ?_
  exact jr_ic_eq (tgt := 1495) dL_law_940 rfl (fun _ => K C' D' hR) (fun h => absurd rfl h)
set_option maxHeartbeats 4000000 in
theorem lc_sellers {X : pm_X} {VC VD : pm_V} {b n i : Nat} {xs : Nat → Int32} {C D : pm_M} (hX : pm_sc X b n xs) (hn : n ≤ 3072) (hi : i + 6 ≤ n) (hv : VD.2 = VC.2) (hs : VD.1 900 = VC.1 900 ∧ VD.1 901 = VC.1 901 ∧ VD.1 902 = VC.1 902) (hRR : RR C D) (K : ∀ C' D' : pm_M, RR C' D' → pm_J X VC mL 1300 (pm_wld VC skC C' ++ (pm_wld VD skD D' ++ [])) 1495 [(0, .ref b), (1, .ref (VC.1 0)), (2, .ref (VD.1 0)), (3, .int (nI i))] []) : pm_J X VC mL 1300 (pm_wld VC skC C ++ (pm_wld VD skD D ++ [])) 945 [(0, .ref b), (1, .ref (VC.1 0)), (2, .ref (VD.1 0)), (3, .int (nI i))] [] := by
  obtain ⟨r, C', D', hC, hD, hR⟩ := e_sellers hRR (xs ((nI i) + 1).toNatClampNeg) (xs ((nI i) + 2).toNatClampNeg)
  refine jr_aloadn (j := 1) dL_law_945 rfl ?_
  refine jr_aloadn (j := 0) dL_law_946 rfl ?_
  refine jr_iloadn (j := 3) dL_law_947 rfl ?_
  refine jr_iconst (v := 1) dL_law_948 (by decide) ?_
  refine jr_iadd dL_law_949 ?_
  refine kr_sld hX dL_law_950 (pm_inS hn hi (d := 1) (by decide) 1 (by decide)) ?_
  refine jr_aloadn (j := 0) dL_law_951 rfl ?_
  refine jr_iloadn (j := 3) dL_law_952 rfl ?_
  refine jr_iconst (v := 2) dL_law_953 (by decide) ?_
  refine jr_iadd dL_law_954 ?_
  refine kr_sld hX dL_law_955 (pm_inS hn hi (d := 2) (by decide) 2 (by decide)) ?_
  refine kr_callC (V2 := VC) (W2 := pm_wld VD skD D ++ []) (sk := skC) (M := C) (M' := C') (bp := 0) (As := [.int (xs ((nI i) + 1).toNatClampNeg), .int (xs ((nI i) + 2).toNatClampNeg)]) rfl ⟨rfl, rfl, rfl⟩ dL_law_956 lkL_105 kX7_sellers nX7_sellers (Nat.le_of_ble_eq_true rfl) (Nat.le_of_ble_eq_true rfl) at_RS_0 rfl rfl rfl (fun l => c_X7_sellers hC l VC) ?_
  refine jr_aloadn (j := 2) dL_law_959 rfl ?_
  refine jr_aloadn (j := 0) dL_law_960 rfl ?_
  refine jr_iloadn (j := 3) dL_law_961 rfl ?_
  refine jr_iconst (v := 1) dL_law_962 (by decide) ?_
  refine jr_iadd dL_law_963 ?_
  refine kr_sld hX dL_law_964 (pm_inS hn hi (d := 1) (by decide) 1 (by decide)) ?_
  refine jr_aloadn (j := 0) dL_law_965 rfl ?_
  refine jr_iloadn (j := 3) dL_law_966 rfl ?_
  refine jr_iconst (v := 2) dL_law_967 (by decide) ?_
  refine jr_iadd dL_law_968 ?_
  refine kr_sld hX dL_law_969 (pm_inS hn hi (d := 2) (by decide) 2 (by decide)) ?_
  refine kr_callI (V2 := VD) (W1 := pm_wld VC skC C') (W2 := []) (sk := skD) (M := D) (M' := D') (bp := 0) (As := [.int (xs ((nI i) + 1).toNatClampNeg), .int (xs ((nI i) + 2).toNatClampNeg)]) hv hs dL_law_970 lkL_108 kX8_sellers nX8_sellers (Nat.le_of_ble_eq_true rfl) (Nat.le_of_ble_eq_true rfl) at_MO_0 rfl rfl rfl (fun l => c_X8_sellers hD l VD) ?_
  exact jr_ic_eq (tgt := 1495) dL_law_973 rfl (fun _ => K C' D' hR) (fun h => absurd rfl h)
set_option maxHeartbeats 4000000 in
theorem lc_clears {X : pm_X} {VC VD : pm_V} {b n i : Nat} {xs : Nat → Int32} {C D : pm_M} (hX : pm_sc X b n xs) (hn : n ≤ 3072) (hi : i + 6 ≤ n) (hv : VD.2 = VC.2) (hs : VD.1 900 = VC.1 900 ∧ VD.1 901 = VC.1 901 ∧ VD.1 902 = VC.1 902) (hRR : RR C D) (K : ∀ C' D' : pm_M, RR C' D' → pm_J X VC mL 1300 (pm_wld VC skC C' ++ (pm_wld VD skD D' ++ [])) 1495 [(0, .ref b), (1, .ref (VC.1 0)), (2, .ref (VD.1 0)), (3, .int (nI i))] []) : pm_J X VC mL 1300 (pm_wld VC skC C ++ (pm_wld VD skD D ++ [])) 978 [(0, .ref b), (1, .ref (VC.1 0)), (2, .ref (VD.1 0)), (3, .int (nI i))] [] := by
  obtain ⟨r, C', D', hC, hD, hR⟩ := e_clears hRR 
  refine jr_aloadn (j := 1) dL_law_978 rfl ?_
  refine kr_callC (V2 := VC) (W2 := pm_wld VD skD D ++ []) (sk := skC) (M := C) (M' := C') (bp := 0) (As := []) rfl ⟨rfl, rfl, rfl⟩ dL_law_979 lkL_109 kX7_clears nX7_clears (Nat.le_of_ble_eq_true rfl) (Nat.le_of_ble_eq_true rfl) at_RS_0 rfl rfl rfl (fun l => c_X7_clears hC l VC) ?_
  refine jr_aloadn (j := 2) dL_law_982 rfl ?_
  refine kr_callI (V2 := VD) (W1 := pm_wld VC skC C') (W2 := []) (sk := skD) (M := D) (M' := D') (bp := 0) (As := []) hv hs dL_law_983 lkL_112 kX8_clears nX8_clears (Nat.le_of_ble_eq_true rfl) (Nat.le_of_ble_eq_true rfl) at_MO_0 rfl rfl rfl (fun l => c_X8_clears hD l VD) ?_
  exact jr_ic_eq (tgt := 1495) dL_law_986 rfl (fun _ => K C' D' hR) (fun h => absurd rfl h)
set_option maxHeartbeats 4000000 in
theorem lc_patches {X : pm_X} {VC VD : pm_V} {b n i : Nat} {xs : Nat → Int32} {C D : pm_M} (hX : pm_sc X b n xs) (hn : n ≤ 3072) (hi : i + 6 ≤ n) (hv : VD.2 = VC.2) (hs : VD.1 900 = VC.1 900 ∧ VD.1 901 = VC.1 901 ∧ VD.1 902 = VC.1 902) (hRR : RR C D) (K : ∀ C' D' : pm_M, RR C' D' → pm_J X VC mL 1300 (pm_wld VC skC C' ++ (pm_wld VD skD D' ++ [])) 1495 [(0, .ref b), (1, .ref (VC.1 0)), (2, .ref (VD.1 0)), (3, .int (nI i))] []) : pm_J X VC mL 1300 (pm_wld VC skC C ++ (pm_wld VD skD D ++ [])) 991 [(0, .ref b), (1, .ref (VC.1 0)), (2, .ref (VD.1 0)), (3, .int (nI i))] [] := by
  obtain ⟨r, C', D', hC, hD, hR⟩ := e_patches hRR (xs ((nI i) + 1).toNatClampNeg)
  refine jr_aloadn (j := 1) dL_law_991 rfl ?_
  refine jr_aloadn (j := 0) dL_law_992 rfl ?_
  refine jr_iloadn (j := 3) dL_law_993 rfl ?_
  refine jr_iconst (v := 1) dL_law_994 (by decide) ?_
  refine jr_iadd dL_law_995 ?_
  refine kr_sld hX dL_law_996 (pm_inS hn hi (d := 1) (by decide) 1 (by decide)) ?_
  refine kr_callC (V2 := VC) (W2 := pm_wld VD skD D ++ []) (sk := skC) (M := C) (M' := C') (bp := 0) (As := [.int (xs ((nI i) + 1).toNatClampNeg)]) rfl ⟨rfl, rfl, rfl⟩ dL_law_997 lkL_113 kX7_patches nX7_patches (Nat.le_of_ble_eq_true rfl) (Nat.le_of_ble_eq_true rfl) at_RS_0 rfl rfl rfl (fun l => c_X7_patches hC l VC) ?_
  refine jr_aloadn (j := 2) dL_law_1000 rfl ?_
  refine jr_aloadn (j := 0) dL_law_1001 rfl ?_
  refine jr_iloadn (j := 3) dL_law_1002 rfl ?_
  refine jr_iconst (v := 1) dL_law_1003 (by decide) ?_
  refine jr_iadd dL_law_1004 ?_
  refine kr_sld hX dL_law_1005 (pm_inS hn hi (d := 1) (by decide) 1 (by decide)) ?_
  refine kr_callI (V2 := VD) (W1 := pm_wld VC skC C') (W2 := []) (sk := skD) (M := D) (M' := D') (bp := 0) (As := [.int (xs ((nI i) + 1).toNatClampNeg)]) hv hs dL_law_1006 lkL_116 kX8_patches nX8_patches (Nat.le_of_ble_eq_true rfl) (Nat.le_of_ble_eq_true rfl) at_MO_0 rfl rfl rfl (fun l => c_X8_patches hD l VD) ?_
  exact jr_ic_eq (tgt := 1495) dL_law_1009 rfl (fun _ => K C' D' hR) (fun h => absurd rfl h)
set_option maxHeartbeats 4000000 in
theorem lc_trades {X : pm_X} {VC VD : pm_V} {b n i : Nat} {xs : Nat → Int32} {C D : pm_M} (hX : pm_sc X b n xs) (hn : n ≤ 3072) (hi : i + 6 ≤ n) (hv : VD.2 = VC.2) (hs : VD.1 900 = VC.1 900 ∧ VD.1 901 = VC.1 901 ∧ VD.1 902 = VC.1 902) (hRR : RR C D) (K : ∀ C' D' : pm_M, RR C' D' → pm_J X VC mL 1300 (pm_wld VC skC C' ++ (pm_wld VD skD D' ++ [])) 1495 [(0, .ref b), (1, .ref (VC.1 0)), (2, .ref (VD.1 0)), (3, .int (nI i))] []) : pm_J X VC mL 1300 (pm_wld VC skC C ++ (pm_wld VD skD D ++ [])) 1014 [(0, .ref b), (1, .ref (VC.1 0)), (2, .ref (VD.1 0)), (3, .int (nI i))] [] := by
  obtain ⟨r, C', D', hC, hD, hR⟩ := e_trades hRR 
  refine jr_aloadn (j := 1) dL_law_1014 rfl ?_
  refine kr_callC (V2 := VC) (W2 := pm_wld VD skD D ++ []) (sk := skC) (M := C) (M' := C') (bp := 0) (As := []) rfl ⟨rfl, rfl, rfl⟩ dL_law_1015 lkL_117 kX7_trades nX7_trades (Nat.le_of_ble_eq_true rfl) (Nat.le_of_ble_eq_true rfl) at_RS_0 rfl rfl rfl (fun l => c_X7_trades hC l VC) ?_
  refine jr_aloadn (j := 2) dL_law_1018 rfl ?_
  refine kr_callI (V2 := VD) (W1 := pm_wld VC skC C') (W2 := []) (sk := skD) (M := D) (M' := D') (bp := 0) (As := []) hv hs dL_law_1019 lkL_120 kX8_trades nX8_trades (Nat.le_of_ble_eq_true rfl) (Nat.le_of_ble_eq_true rfl) at_MO_0 rfl rfl rfl (fun l => c_X8_trades hD l VD) ?_
  exact jr_ic_eq (tgt := 1495) dL_law_1022 rfl (fun _ => K C' D' hR) (fun h => absurd rfl h)
set_option maxHeartbeats 4000000 in
theorem lc_fell {X : pm_X} {VC VD : pm_V} {b n i : Nat} {xs : Nat → Int32} {C D : pm_M} (hX : pm_sc X b n xs) (hn : n ≤ 3072) (hi : i + 6 ≤ n) (hv : VD.2 = VC.2) (hs : VD.1 900 = VC.1 900 ∧ VD.1 901 = VC.1 901 ∧ VD.1 902 = VC.1 902) (hRR : RR C D) (K : ∀ C' D' : pm_M, RR C' D' → pm_J X VC mL 1300 (pm_wld VC skC C' ++ (pm_wld VD skD D' ++ [])) 1495 [(0, .ref b), (1, .ref (VC.1 0)), (2, .ref (VD.1 0)), (3, .int (nI i))] []) : pm_J X VC mL 1300 (pm_wld VC skC C ++ (pm_wld VD skD D ++ [])) 1027 [(0, .ref b), (1, .ref (VC.1 0)), (2, .ref (VD.1 0)), (3, .int (nI i))] [] := by
  obtain ⟨r, C', D', hC, hD, hR⟩ := e_fell hRR (xs ((nI i) + 1).toNatClampNeg) (xs ((nI i) + 2).toNatClampNeg)
  refine jr_aloadn (j := 1) dL_law_1027 rfl ?_
  refine jr_aloadn (j := 0) dL_law_1028 rfl ?_
  refine jr_iloadn (j := 3) dL_law_1029 rfl ?_
  refine jr_iconst (v := 1) dL_law_1030 (by decide) ?_
  refine jr_iadd dL_law_1031 ?_
  refine kr_sld hX dL_law_1032 (pm_inS hn hi (d := 1) (by decide) 1 (by decide)) ?_
  refine jr_aloadn (j := 0) dL_law_1033 rfl ?_
  refine jr_iloadn (j := 3) dL_law_1034 rfl ?_
  refine jr_iconst (v := 2) dL_law_1035 (by decide) ?_
  refine jr_iadd dL_law_1036 ?_
  refine kr_sld hX dL_law_1037 (pm_inS hn hi (d := 2) (by decide) 2 (by decide)) ?_
  refine kr_callC (V2 := VC) (W2 := pm_wld VD skD D ++ []) (sk := skC) (M := C) (M' := C') (bp := 0) (As := [.int (xs ((nI i) + 1).toNatClampNeg), .int (xs ((nI i) + 2).toNatClampNeg)]) rfl ⟨rfl, rfl, rfl⟩ dL_law_1038 lkL_121 kX7_fell nX7_fell (Nat.le_of_ble_eq_true rfl) (Nat.le_of_ble_eq_true rfl) at_RS_0 rfl rfl rfl (fun l => c_X7_fell hC l VC) ?_
  refine jr_aloadn (j := 2) dL_law_1041 rfl ?_
  refine jr_aloadn (j := 0) dL_law_1042 rfl ?_
  refine jr_iloadn (j := 3) dL_law_1043 rfl ?_
  refine jr_iconst (v := 1) dL_law_1044 (by decide) ?_
  refine jr_iadd dL_law_1045 ?_
  refine kr_sld hX dL_law_1046 (pm_inS hn hi (d := 1) (by decide) 1 (by decide)) ?_
  refine jr_aloadn (j := 0) dL_law_1047 rfl ?_
  refine jr_iloadn (j := 3) dL_law_1048 rfl ?_
  refine jr_iconst (v := 2) dL_law_1049 (by decide) ?_
  refine jr_iadd dL_law_1050 ?_
  refine kr_sld hX dL_law_1051 (pm_inS hn hi (d := 2) (by decide) 2 (by decide)) ?_
  refine kr_callI (V2 := VD) (W1 := pm_wld VC skC C') (W2 := []) (sk := skD) (M := D) (M' := D') (bp := 0) (As := [.int (xs ((nI i) + 1).toNatClampNeg), .int (xs ((nI i) + 2).toNatClampNeg)]) hv hs dL_law_1052 lkL_124 kX8_fell nX8_fell (Nat.le_of_ble_eq_true rfl) (Nat.le_of_ble_eq_true rfl) at_MO_0 rfl rfl rfl (fun l => c_X8_fell hD l VD) ?_
  exact jr_ic_eq (tgt := 1495) dL_law_1055 rfl (fun _ => K C' D' hR) (fun h => absurd rfl h)
set_option maxHeartbeats 4000000 in
theorem lc_gains {X : pm_X} {VC VD : pm_V} {b n i : Nat} {xs : Nat → Int32} {C D : pm_M} (hX : pm_sc X b n xs) (hn : n ≤ 3072) (hi : i + 6 ≤ n) (hv : VD.2 = VC.2) (hs : VD.1 900 = VC.1 900 ∧ VD.1 901 = VC.1 901 ∧ VD.1 902 = VC.1 902) (hRR : RR C D) (K : ∀ C' D' : pm_M, RR C' D' → pm_J X VC mL 1300 (pm_wld VC skC C' ++ (pm_wld VD skD D' ++ [])) 1495 [(0, .ref b), (1, .ref (VC.1 0)), (2, .ref (VD.1 0)), (3, .int (nI i))] []) : pm_J X VC mL 1300 (pm_wld VC skC C ++ (pm_wld VD skD D ++ [])) 1060 [(0, .ref b), (1, .ref (VC.1 0)), (2, .ref (VD.1 0)), (3, .int (nI i))] [] := by
  obtain ⟨r, C', D', hC, hD, hR⟩ := e_gains hRR (xs ((nI i) + 1).toNatClampNeg) (xs ((nI i) + 2).toNatClampNeg) (xs ((nI i) + 3).toNatClampNeg)
  refine jr_aloadn (j := 1) dL_law_1060 rfl ?_
  refine jr_aloadn (j := 0) dL_law_1061 rfl ?_
  refine jr_iloadn (j := 3) dL_law_1062 rfl ?_
  refine jr_iconst (v := 1) dL_law_1063 (by decide) ?_
  refine jr_iadd dL_law_1064 ?_
  refine kr_sld hX dL_law_1065 (pm_inS hn hi (d := 1) (by decide) 1 (by decide)) ?_
  refine jr_aloadn (j := 0) dL_law_1066 rfl ?_
  refine jr_iloadn (j := 3) dL_law_1067 rfl ?_
  refine jr_iconst (v := 2) dL_law_1068 (by decide) ?_
  refine jr_iadd dL_law_1069 ?_
  refine kr_sld hX dL_law_1070 (pm_inS hn hi (d := 2) (by decide) 2 (by decide)) ?_
  refine jr_aloadn (j := 0) dL_law_1071 rfl ?_
  refine jr_iloadn (j := 3) dL_law_1072 rfl ?_
  refine jr_iconst (v := 3) dL_law_1073 (by decide) ?_
  refine jr_iadd dL_law_1074 ?_
  refine kr_sld hX dL_law_1075 (pm_inS hn hi (d := 3) (by decide) 3 (by decide)) ?_
  refine kr_callC (V2 := VC) (W2 := pm_wld VD skD D ++ []) (sk := skC) (M := C) (M' := C') (bp := 0) (As := [.int (xs ((nI i) + 1).toNatClampNeg), .int (xs ((nI i) + 2).toNatClampNeg), .int (xs ((nI i) + 3).toNatClampNeg)]) rfl ⟨rfl, rfl, rfl⟩ dL_law_1076 lkL_125 kX7_gains nX7_gains (Nat.le_of_ble_eq_true rfl) (Nat.le_of_ble_eq_true rfl) at_RS_0 rfl rfl rfl (fun l => c_X7_gains hC l VC) ?_
  refine jr_aloadn (j := 2) dL_law_1079 rfl ?_
  refine jr_aloadn (j := 0) dL_law_1080 rfl ?_
  refine jr_iloadn (j := 3) dL_law_1081 rfl ?_
  refine jr_iconst (v := 1) dL_law_1082 (by decide) ?_
  refine jr_iadd dL_law_1083 ?_
  refine kr_sld hX dL_law_1084 (pm_inS hn hi (d := 1) (by decide) 1 (by decide)) ?_
  refine jr_aloadn (j := 0) dL_law_1085 rfl ?_
  refine jr_iloadn (j := 3) dL_law_1086 rfl ?_
  refine jr_iconst (v := 2) dL_law_1087 (by decide) ?_
  refine jr_iadd dL_law_1088 ?_
  refine kr_sld hX dL_law_1089 (pm_inS hn hi (d := 2) (by decide) 2 (by decide)) ?_
  refine jr_aloadn (j := 0) dL_law_1090 rfl ?_
  refine jr_iloadn (j := 3) dL_law_1091 rfl ?_
  refine jr_iconst (v := 3) dL_law_1092 (by decide) ?_
  refine jr_iadd dL_law_1093 ?_
  refine kr_sld hX dL_law_1094 (pm_inS hn hi (d := 3) (by decide) 3 (by decide)) ?_
  refine kr_callI (V2 := VD) (W1 := pm_wld VC skC C') (W2 := []) (sk := skD) (M := D) (M' := D') (bp := 0) (As := [.int (xs ((nI i) + 1).toNatClampNeg), .int (xs ((nI i) + 2).toNatClampNeg), .int (xs ((nI i) + 3).toNatClampNeg)]) hv hs dL_law_1095 lkL_128 kX8_gains nX8_gains (Nat.le_of_ble_eq_true rfl) (Nat.le_of_ble_eq_true rfl) at_MO_0 rfl rfl rfl (fun l => c_X8_gains hD l VD) ?_
  exact jr_ic_eq (tgt := 1495) dL_law_1098 rfl (fun _ => K C' D' hR) (fun h => absurd rfl h)
set_option maxHeartbeats 4000000 in
theorem lc_seed {X : pm_X} {VC VD : pm_V} {b n i : Nat} {xs : Nat → Int32} {C D : pm_M} (hX : pm_sc X b n xs) (hn : n ≤ 3072) (hi : i + 6 ≤ n) (hv : VD.2 = VC.2) (hs : VD.1 900 = VC.1 900 ∧ VD.1 901 = VC.1 901 ∧ VD.1 902 = VC.1 902) (hRR : RR C D) (K : ∀ C' D' : pm_M, RR C' D' → pm_J X VC mL 1300 (pm_wld VC skC C' ++ (pm_wld VD skD D' ++ [])) 1495 [(0, .ref b), (1, .ref (VC.1 0)), (2, .ref (VD.1 0)), (3, .int (nI i))] []) : pm_J X VC mL 1300 (pm_wld VC skC C ++ (pm_wld VD skD D ++ [])) 1103 [(0, .ref b), (1, .ref (VC.1 0)), (2, .ref (VD.1 0)), (3, .int (nI i))] [] := by
  obtain ⟨r, C', D', hC, hD, hR⟩ := e_seed hRR (xs ((nI i) + 1).toNatClampNeg)
  refine jr_aloadn (j := 1) dL_law_1103 rfl ?_
  refine jr_aloadn (j := 0) dL_law_1104 rfl ?_
  refine jr_iloadn (j := 3) dL_law_1105 rfl ?_
  refine jr_iconst (v := 1) dL_law_1106 (by decide) ?_
  refine jr_iadd dL_law_1107 ?_
  refine kr_sld hX dL_law_1108 (pm_inS hn hi (d := 1) (by decide) 1 (by decide)) ?_
  refine kr_callC (V2 := VC) (W2 := pm_wld VD skD D ++ []) (sk := skC) (M := C) (M' := C') (bp := 0) (As := [.int (xs ((nI i) + 1).toNatClampNeg)]) rfl ⟨rfl, rfl, rfl⟩ dL_law_1109 lkL_129 kX7_seed nX7_seed (Nat.le_of_ble_eq_true rfl) (Nat.le_of_ble_eq_true rfl) at_RS_0 rfl rfl rfl (fun l => c_X7_seed hC l VC) ?_
  refine jr_aloadn (j := 2) dL_law_1112 rfl ?_
  refine jr_aloadn (j := 0) dL_law_1113 rfl ?_
  refine jr_iloadn (j := 3) dL_law_1114 rfl ?_
  refine jr_iconst (v := 1) dL_law_1115 (by decide) ?_
  refine jr_iadd dL_law_1116 ?_
  refine kr_sld hX dL_law_1117 (pm_inS hn hi (d := 1) (by decide) 1 (by decide)) ?_
  refine kr_callI (V2 := VD) (W1 := pm_wld VC skC C') (W2 := []) (sk := skD) (M := D) (M' := D') (bp := 0) (As := [.int (xs ((nI i) + 1).toNatClampNeg)]) hv hs dL_law_1118 lkL_132 kX8_seed nX8_seed (Nat.le_of_ble_eq_true rfl) (Nat.le_of_ble_eq_true rfl) at_MO_0 rfl rfl rfl (fun l => c_X8_seed hD l VD) ?_
  exact jr_ic_eq (tgt := 1495) dL_law_1121 rfl (fun _ => K C' D' hR) (fun h => absurd rfl h)
set_option maxHeartbeats 4000000 in
theorem lc_voice {X : pm_X} {VC VD : pm_V} {b n i : Nat} {xs : Nat → Int32} {C D : pm_M} (hX : pm_sc X b n xs) (hn : n ≤ 3072) (hi : i + 6 ≤ n) (hv : VD.2 = VC.2) (hs : VD.1 900 = VC.1 900 ∧ VD.1 901 = VC.1 901 ∧ VD.1 902 = VC.1 902) (hRR : RR C D) (K : ∀ C' D' : pm_M, RR C' D' → pm_J X VC mL 1300 (pm_wld VC skC C' ++ (pm_wld VD skD D' ++ [])) 1495 [(0, .ref b), (1, .ref (VC.1 0)), (2, .ref (VD.1 0)), (3, .int (nI i))] []) : pm_J X VC mL 1300 (pm_wld VC skC C ++ (pm_wld VD skD D ++ [])) 1126 [(0, .ref b), (1, .ref (VC.1 0)), (2, .ref (VD.1 0)), (3, .int (nI i))] [] := by
  obtain ⟨r, C', D', hC, hD, hR⟩ := e_voice hRR (xs ((nI i) + 1).toNatClampNeg) (xs ((nI i) + 2).toNatClampNeg) (xs ((nI i) + 3).toNatClampNeg)
  refine jr_aloadn (j := 1) dL_law_1126 rfl ?_
  refine jr_aloadn (j := 0) dL_law_1127 rfl ?_
  refine jr_iloadn (j := 3) dL_law_1128 rfl ?_
  refine jr_iconst (v := 1) dL_law_1129 (by decide) ?_
  refine jr_iadd dL_law_1130 ?_
  refine kr_sld hX dL_law_1131 (pm_inS hn hi (d := 1) (by decide) 1 (by decide)) ?_
  refine jr_aloadn (j := 0) dL_law_1132 rfl ?_
  refine jr_iloadn (j := 3) dL_law_1133 rfl ?_
  refine jr_iconst (v := 2) dL_law_1134 (by decide) ?_
  refine jr_iadd dL_law_1135 ?_
  refine kr_sld hX dL_law_1136 (pm_inS hn hi (d := 2) (by decide) 2 (by decide)) ?_
  refine jr_aloadn (j := 0) dL_law_1137 rfl ?_
  refine jr_iloadn (j := 3) dL_law_1138 rfl ?_
  refine jr_iconst (v := 3) dL_law_1139 (by decide) ?_
  refine jr_iadd dL_law_1140 ?_
  refine kr_sld hX dL_law_1141 (pm_inS hn hi (d := 3) (by decide) 3 (by decide)) ?_
  refine kr_callC (V2 := VC) (W2 := pm_wld VD skD D ++ []) (sk := skC) (M := C) (M' := C') (bp := 0) (As := [.int (xs ((nI i) + 1).toNatClampNeg), .int (xs ((nI i) + 2).toNatClampNeg), .int (xs ((nI i) + 3).toNatClampNeg)]) rfl ⟨rfl, rfl, rfl⟩ dL_law_1142 lkL_133 kX7_voice nX7_voice (Nat.le_of_ble_eq_true rfl) (Nat.le_of_ble_eq_true rfl) at_RS_0 rfl rfl rfl (fun l => c_X7_voice hC l VC) ?_
  refine jr_aloadn (j := 2) dL_law_1145 rfl ?_
  refine jr_aloadn (j := 0) dL_law_1146 rfl ?_
  refine jr_iloadn (j := 3) dL_law_1147 rfl ?_
  refine jr_iconst (v := 1) dL_law_1148 (by decide) ?_
  refine jr_iadd dL_law_1149 ?_
  refine kr_sld hX dL_law_1150 (pm_inS hn hi (d := 1) (by decide) 1 (by decide)) ?_
  refine jr_aloadn (j := 0) dL_law_1151 rfl ?_
  refine jr_iloadn (j := 3) dL_law_1152 rfl ?_
  refine jr_iconst (v := 2) dL_law_1153 (by decide) ?_
  refine jr_iadd dL_law_1154 ?_
  refine kr_sld hX dL_law_1155 (pm_inS hn hi (d := 2) (by decide) 2 (by decide)) ?_
  refine jr_aloadn (j := 0) dL_law_1156 rfl ?_
  refine jr_iloadn (j := 3) dL_law_1157 rfl ?_
  refine jr_iconst (v := 3) dL_law_1158 (by decide) ?_
  refine jr_iadd dL_law_1159 ?_
  refine kr_sld hX dL_law_1160 (pm_inS hn hi (d := 3) (by decide) 3 (by decide)) ?_
  refine kr_callI (V2 := VD) (W1 := pm_wld VC skC C') (W2 := []) (sk := skD) (M := D) (M' := D') (bp := 0) (As := [.int (xs ((nI i) + 1).toNatClampNeg), .int (xs ((nI i) + 2).toNatClampNeg), .int (xs ((nI i) + 3).toNatClampNeg)]) hv hs dL_law_1161 lkL_136 kX8_voice nX8_voice (Nat.le_of_ble_eq_true rfl) (Nat.le_of_ble_eq_true rfl) at_MO_0 rfl rfl rfl (fun l => c_X8_voice hD l VD) ?_
  exact jr_ic_eq (tgt := 1495) dL_law_1164 rfl (fun _ => K C' D' hR) (fun h => absurd rfl h)
set_option maxHeartbeats 4000000 in
theorem lc_trace {X : pm_X} {VC VD : pm_V} {b n i : Nat} {xs : Nat → Int32} {C D : pm_M} (hX : pm_sc X b n xs) (hn : n ≤ 3072) (hi : i + 6 ≤ n) (hv : VD.2 = VC.2) (hs : VD.1 900 = VC.1 900 ∧ VD.1 901 = VC.1 901 ∧ VD.1 902 = VC.1 902) (hRR : RR C D) (K : ∀ C' D' : pm_M, RR C' D' → pm_J X VC mL 1300 (pm_wld VC skC C' ++ (pm_wld VD skD D' ++ [])) 1495 [(0, .ref b), (1, .ref (VC.1 0)), (2, .ref (VD.1 0)), (3, .int (nI i))] []) : pm_J X VC mL 1300 (pm_wld VC skC C ++ (pm_wld VD skD D ++ [])) 1169 [(0, .ref b), (1, .ref (VC.1 0)), (2, .ref (VD.1 0)), (3, .int (nI i))] [] := by
  obtain ⟨r, C', D', hC, hD, hR⟩ := e_trace hRR (xs ((nI i) + 1).toNatClampNeg)
  refine jr_aloadn (j := 1) dL_law_1169 rfl ?_
  refine jr_aloadn (j := 0) dL_law_1170 rfl ?_
  refine jr_iloadn (j := 3) dL_law_1171 rfl ?_
  refine jr_iconst (v := 1) dL_law_1172 (by decide) ?_
  refine jr_iadd dL_law_1173 ?_
  refine kr_sld hX dL_law_1174 (pm_inS hn hi (d := 1) (by decide) 1 (by decide)) ?_
  refine kr_callC (V2 := VC) (W2 := pm_wld VD skD D ++ []) (sk := skC) (M := C) (M' := C') (bp := 0) (As := [.int (xs ((nI i) + 1).toNatClampNeg)]) rfl ⟨rfl, rfl, rfl⟩ dL_law_1175 lkL_137 kX7_trace nX7_trace (Nat.le_of_ble_eq_true rfl) (Nat.le_of_ble_eq_true rfl) at_RS_0 rfl rfl rfl (fun l => c_X7_trace hC l VC) ?_
  refine jr_aloadn (j := 2) dL_law_1178 rfl ?_
  refine jr_aloadn (j := 0) dL_law_1179 rfl ?_
  refine jr_iloadn (j := 3) dL_law_1180 rfl ?_
  refine jr_iconst (v := 1) dL_law_1181 (by decide) ?_
  refine jr_iadd dL_law_1182 ?_
  refine kr_sld hX dL_law_1183 (pm_inS hn hi (d := 1) (by decide) 1 (by decide)) ?_
  refine kr_callI (V2 := VD) (W1 := pm_wld VC skC C') (W2 := []) (sk := skD) (M := D) (M' := D') (bp := 0) (As := [.int (xs ((nI i) + 1).toNatClampNeg)]) hv hs dL_law_1184 lkL_140 kX8_trace nX8_trace (Nat.le_of_ble_eq_true rfl) (Nat.le_of_ble_eq_true rfl) at_MO_0 rfl rfl rfl (fun l => c_X8_trace hD l VD) ?_
  exact jr_ic_eq (tgt := 1495) dL_law_1187 rfl (fun _ => K C' D' hR) (fun h => absurd rfl h)
set_option maxHeartbeats 4000000 in
theorem lc_sheet {X : pm_X} {VC VD : pm_V} {b n i : Nat} {xs : Nat → Int32} {C D : pm_M} (hX : pm_sc X b n xs) (hn : n ≤ 3072) (hi : i + 6 ≤ n) (hv : VD.2 = VC.2) (hs : VD.1 900 = VC.1 900 ∧ VD.1 901 = VC.1 901 ∧ VD.1 902 = VC.1 902) (hRR : RR C D) (K : ∀ C' D' : pm_M, RR C' D' → pm_J X VC mL 1300 (pm_wld VC skC C' ++ (pm_wld VD skD D' ++ [])) 1495 [(0, .ref b), (1, .ref (VC.1 0)), (2, .ref (VD.1 0)), (3, .int (nI i))] []) : pm_J X VC mL 1300 (pm_wld VC skC C ++ (pm_wld VD skD D ++ [])) 1192 [(0, .ref b), (1, .ref (VC.1 0)), (2, .ref (VD.1 0)), (3, .int (nI i))] [] := by
  obtain ⟨r, C', D', hC, hD, hR⟩ := e_sheet hRR (xs ((nI i) + 1).toNatClampNeg) (xs ((nI i) + 2).toNatClampNeg) (xs ((nI i) + 3).toNatClampNeg)
  refine jr_aloadn (j := 1) dL_law_1192 rfl ?_
  refine jr_aloadn (j := 0) dL_law_1193 rfl ?_
  refine jr_iloadn (j := 3) dL_law_1194 rfl ?_
  refine jr_iconst (v := 1) dL_law_1195 (by decide) ?_
  refine jr_iadd dL_law_1196 ?_
  refine kr_sld hX dL_law_1197 (pm_inS hn hi (d := 1) (by decide) 1 (by decide)) ?_
  refine jr_aloadn (j := 0) dL_law_1198 rfl ?_
  refine jr_iloadn (j := 3) dL_law_1199 rfl ?_
  refine jr_iconst (v := 2) dL_law_1200 (by decide) ?_
  refine jr_iadd dL_law_1201 ?_
  refine kr_sld hX dL_law_1202 (pm_inS hn hi (d := 2) (by decide) 2 (by decide)) ?_
  refine jr_aloadn (j := 0) dL_law_1203 rfl ?_
  refine jr_iloadn (j := 3) dL_law_1204 rfl ?_
  refine jr_iconst (v := 3) dL_law_1205 (by decide) ?_
  refine jr_iadd dL_law_1206 ?_
  refine kr_sld hX dL_law_1207 (pm_inS hn hi (d := 3) (by decide) 3 (by decide)) ?_
  refine kr_callC (V2 := VC) (W2 := pm_wld VD skD D ++ []) (sk := skC) (M := C) (M' := C') (bp := 0) (As := [.int (xs ((nI i) + 1).toNatClampNeg), .int (xs ((nI i) + 2).toNatClampNeg), .int (xs ((nI i) + 3).toNatClampNeg)]) rfl ⟨rfl, rfl, rfl⟩ dL_law_1208 lkL_141 kX7_sheet nX7_sheet (Nat.le_of_ble_eq_true rfl) (Nat.le_of_ble_eq_true rfl) at_RS_0 rfl rfl rfl (fun l => c_X7_sheet hC l VC) ?_
  refine jr_aloadn (j := 2) dL_law_1211 rfl ?_
  refine jr_aloadn (j := 0) dL_law_1212 rfl ?_
  refine jr_iloadn (j := 3) dL_law_1213 rfl ?_
  refine jr_iconst (v := 1) dL_law_1214 (by decide) ?_
  refine jr_iadd dL_law_1215 ?_
  refine kr_sld hX dL_law_1216 (pm_inS hn hi (d := 1) (by decide) 1 (by decide)) ?_
  refine jr_aloadn (j := 0) dL_law_1217 rfl ?_
  refine jr_iloadn (j := 3) dL_law_1218 rfl ?_
  refine jr_iconst (v := 2) dL_law_1219 (by decide) ?_
  refine jr_iadd dL_law_1220 ?_
  refine kr_sld hX dL_law_1221 (pm_inS hn hi (d := 2) (by decide) 2 (by decide)) ?_
  refine jr_aloadn (j := 0) dL_law_1222 rfl ?_
  refine jr_iloadn (j := 3) dL_law_1223 rfl ?_
  refine jr_iconst (v := 3) dL_law_1224 (by decide) ?_
  refine jr_iadd dL_law_1225 ?_
  refine kr_sld hX dL_law_1226 (pm_inS hn hi (d := 3) (by decide) 3 (by decide)) ?_
  refine kr_callI (V2 := VD) (W1 := pm_wld VC skC C') (W2 := []) (sk := skD) (M := D) (M' := D') (bp := 0) (As := [.int (xs ((nI i) + 1).toNatClampNeg), .int (xs ((nI i) + 2).toNatClampNeg), .int (xs ((nI i) + 3).toNatClampNeg)]) hv hs dL_law_1227 lkL_144 kX8_sheet nX8_sheet (Nat.le_of_ble_eq_true rfl) (Nat.le_of_ble_eq_true rfl) at_MO_0 rfl rfl rfl (fun l => c_X8_sheet hD l VD) ?_
  exact jr_ic_eq (tgt := 1495) dL_law_1230 rfl (fun _ => K C' D' hR) (fun h => absurd rfl h)
set_option maxHeartbeats 4000000 in
theorem lc_put {X : pm_X} {VC VD : pm_V} {b n i : Nat} {xs : Nat → Int32} {C D : pm_M} (hX : pm_sc X b n xs) (hn : n ≤ 3072) (hi : i + 6 ≤ n) (hv : VD.2 = VC.2) (hs : VD.1 900 = VC.1 900 ∧ VD.1 901 = VC.1 901 ∧ VD.1 902 = VC.1 902) (hRR : RR C D) (K : ∀ C' D' : pm_M, RR C' D' → pm_J X VC mL 1300 (pm_wld VC skC C' ++ (pm_wld VD skD D' ++ [])) 1495 [(0, .ref b), (1, .ref (VC.1 0)), (2, .ref (VD.1 0)), (3, .int (nI i))] []) : pm_J X VC mL 1300 (pm_wld VC skC C ++ (pm_wld VD skD D ++ [])) 1235 [(0, .ref b), (1, .ref (VC.1 0)), (2, .ref (VD.1 0)), (3, .int (nI i))] [] := by
  obtain ⟨r, C', D', hC, hD, hR⟩ := e_put hRR (xs ((nI i) + 1).toNatClampNeg) (xs ((nI i) + 2).toNatClampNeg) (xs ((nI i) + 3).toNatClampNeg)
  refine jr_aloadn (j := 1) dL_law_1235 rfl ?_
  refine jr_aloadn (j := 0) dL_law_1236 rfl ?_
  refine jr_iloadn (j := 3) dL_law_1237 rfl ?_
  refine jr_iconst (v := 1) dL_law_1238 (by decide) ?_
  refine jr_iadd dL_law_1239 ?_
  refine kr_sld hX dL_law_1240 (pm_inS hn hi (d := 1) (by decide) 1 (by decide)) ?_
  refine jr_aloadn (j := 0) dL_law_1241 rfl ?_
  refine jr_iloadn (j := 3) dL_law_1242 rfl ?_
  refine jr_iconst (v := 2) dL_law_1243 (by decide) ?_
  refine jr_iadd dL_law_1244 ?_
  refine kr_sld hX dL_law_1245 (pm_inS hn hi (d := 2) (by decide) 2 (by decide)) ?_
  refine jr_aloadn (j := 0) dL_law_1246 rfl ?_
  refine jr_iloadn (j := 3) dL_law_1247 rfl ?_
  refine jr_iconst (v := 3) dL_law_1248 (by decide) ?_
  refine jr_iadd dL_law_1249 ?_
  refine kr_sld hX dL_law_1250 (pm_inS hn hi (d := 3) (by decide) 3 (by decide)) ?_
  refine kr_callC (V2 := VC) (W2 := pm_wld VD skD D ++ []) (sk := skC) (M := C) (M' := C') (bp := 0) (As := [.int (xs ((nI i) + 1).toNatClampNeg), .int (xs ((nI i) + 2).toNatClampNeg), .int (xs ((nI i) + 3).toNatClampNeg)]) rfl ⟨rfl, rfl, rfl⟩ dL_law_1251 lkL_145 kX7_put nX7_put (Nat.le_of_ble_eq_true rfl) (Nat.le_of_ble_eq_true rfl) at_RS_0 rfl rfl rfl (fun l => c_X7_put hC l VC) ?_
  refine jr_aloadn (j := 2) dL_law_1254 rfl ?_
  refine jr_aloadn (j := 0) dL_law_1255 rfl ?_
  refine jr_iloadn (j := 3) dL_law_1256 rfl ?_
  refine jr_iconst (v := 1) dL_law_1257 (by decide) ?_
  refine jr_iadd dL_law_1258 ?_
  refine kr_sld hX dL_law_1259 (pm_inS hn hi (d := 1) (by decide) 1 (by decide)) ?_
  refine jr_aloadn (j := 0) dL_law_1260 rfl ?_
  refine jr_iloadn (j := 3) dL_law_1261 rfl ?_
  refine jr_iconst (v := 2) dL_law_1262 (by decide) ?_
  refine jr_iadd dL_law_1263 ?_
  refine kr_sld hX dL_law_1264 (pm_inS hn hi (d := 2) (by decide) 2 (by decide)) ?_
  refine jr_aloadn (j := 0) dL_law_1265 rfl ?_
  refine jr_iloadn (j := 3) dL_law_1266 rfl ?_
  refine jr_iconst (v := 3) dL_law_1267 (by decide) ?_
  refine jr_iadd dL_law_1268 ?_
  refine kr_sld hX dL_law_1269 (pm_inS hn hi (d := 3) (by decide) 3 (by decide)) ?_
  refine kr_callI (V2 := VD) (W1 := pm_wld VC skC C') (W2 := []) (sk := skD) (M := D) (M' := D') (bp := 0) (As := [.int (xs ((nI i) + 1).toNatClampNeg), .int (xs ((nI i) + 2).toNatClampNeg), .int (xs ((nI i) + 3).toNatClampNeg)]) hv hs dL_law_1270 lkL_148 kX8_put nX8_put (Nat.le_of_ble_eq_true rfl) (Nat.le_of_ble_eq_true rfl) at_MO_0 rfl rfl rfl (fun l => c_X8_put hD l VD) ?_
  exact jr_ic_eq (tgt := 1495) dL_law_1273 rfl (fun _ => K C' D' hR) (fun h => absurd rfl h)
set_option maxHeartbeats 4000000 in
theorem lc_move {X : pm_X} {VC VD : pm_V} {b n i : Nat} {xs : Nat → Int32} {C D : pm_M} (hX : pm_sc X b n xs) (hn : n ≤ 3072) (hi : i + 6 ≤ n) (hv : VD.2 = VC.2) (hs : VD.1 900 = VC.1 900 ∧ VD.1 901 = VC.1 901 ∧ VD.1 902 = VC.1 902) (hRR : RR C D) (K : ∀ C' D' : pm_M, RR C' D' → pm_J X VC mL 1300 (pm_wld VC skC C' ++ (pm_wld VD skD D' ++ [])) 1495 [(0, .ref b), (1, .ref (VC.1 0)), (2, .ref (VD.1 0)), (3, .int (nI i))] []) : pm_J X VC mL 1300 (pm_wld VC skC C ++ (pm_wld VD skD D ++ [])) 1278 [(0, .ref b), (1, .ref (VC.1 0)), (2, .ref (VD.1 0)), (3, .int (nI i))] [] := by
  obtain ⟨r, C', D', hC, hD, hR⟩ := e_move hRR (xs ((nI i) + 1).toNatClampNeg) (xs ((nI i) + 2).toNatClampNeg) (xs ((nI i) + 3).toNatClampNeg) (xs ((nI i) + 4).toNatClampNeg) (xs ((nI i) + 5).toNatClampNeg)
  refine jr_aloadn (j := 1) dL_law_1278 rfl ?_
  refine jr_aloadn (j := 0) dL_law_1279 rfl ?_
  refine jr_iloadn (j := 3) dL_law_1280 rfl ?_
  refine jr_iconst (v := 1) dL_law_1281 (by decide) ?_
  refine jr_iadd dL_law_1282 ?_
  refine kr_sld hX dL_law_1283 (pm_inS hn hi (d := 1) (by decide) 1 (by decide)) ?_
  refine jr_aloadn (j := 0) dL_law_1284 rfl ?_
  refine jr_iloadn (j := 3) dL_law_1285 rfl ?_
  refine jr_iconst (v := 2) dL_law_1286 (by decide) ?_
  refine jr_iadd dL_law_1287 ?_
  refine kr_sld hX dL_law_1288 (pm_inS hn hi (d := 2) (by decide) 2 (by decide)) ?_
  refine jr_aloadn (j := 0) dL_law_1289 rfl ?_
  refine jr_iloadn (j := 3) dL_law_1290 rfl ?_
  refine jr_iconst (v := 3) dL_law_1291 (by decide) ?_
  refine jr_iadd dL_law_1292 ?_
  refine kr_sld hX dL_law_1293 (pm_inS hn hi (d := 3) (by decide) 3 (by decide)) ?_
  refine jr_aloadn (j := 0) dL_law_1294 rfl ?_
  refine jr_iloadn (j := 3) dL_law_1295 rfl ?_
  refine jr_iconst (v := 4) dL_law_1296 (by decide) ?_
  refine jr_iadd dL_law_1297 ?_
  refine kr_sld hX dL_law_1298 (pm_inS hn hi (d := 4) (by decide) 4 (by decide)) ?_
  refine jr_aloadn (j := 0) dL_law_1299 rfl ?_
  refine jr_iloadn (j := 3) dL_law_1300 rfl ?_
  refine jr_iconst (v := 5) dL_law_1301 (by decide) ?_
  refine jr_iadd dL_law_1302 ?_
  refine kr_sld hX dL_law_1303 (pm_inS hn hi (d := 5) (by decide) 5 (by decide)) ?_
  refine kr_callC (V2 := VC) (W2 := pm_wld VD skD D ++ []) (sk := skC) (M := C) (M' := C') (bp := 0) (As := [.int (xs ((nI i) + 1).toNatClampNeg), .int (xs ((nI i) + 2).toNatClampNeg), .int (xs ((nI i) + 3).toNatClampNeg), .int (xs ((nI i) + 4).toNatClampNeg), .int (xs ((nI i) + 5).toNatClampNeg)]) rfl ⟨rfl, rfl, rfl⟩ dL_law_1304 lkL_149 kX7_move nX7_move (Nat.le_of_ble_eq_true rfl) (Nat.le_of_ble_eq_true rfl) at_RS_0 rfl rfl rfl (fun l => c_X7_move hC l VC) ?_
  refine jr_aloadn (j := 2) dL_law_1307 rfl ?_
  refine jr_aloadn (j := 0) dL_law_1308 rfl ?_
  refine jr_iloadn (j := 3) dL_law_1309 rfl ?_
  refine jr_iconst (v := 1) dL_law_1310 (by decide) ?_
  refine jr_iadd dL_law_1311 ?_
  refine kr_sld hX dL_law_1312 (pm_inS hn hi (d := 1) (by decide) 1 (by decide)) ?_
  refine jr_aloadn (j := 0) dL_law_1313 rfl ?_
  refine jr_iloadn (j := 3) dL_law_1314 rfl ?_
  refine jr_iconst (v := 2) dL_law_1315 (by decide) ?_
  refine jr_iadd dL_law_1316 ?_
  refine kr_sld hX dL_law_1317 (pm_inS hn hi (d := 2) (by decide) 2 (by decide)) ?_
  refine jr_aloadn (j := 0) dL_law_1318 rfl ?_
  refine jr_iloadn (j := 3) dL_law_1319 rfl ?_
  refine jr_iconst (v := 3) dL_law_1320 (by decide) ?_
  refine jr_iadd dL_law_1321 ?_
  refine kr_sld hX dL_law_1322 (pm_inS hn hi (d := 3) (by decide) 3 (by decide)) ?_
  refine jr_aloadn (j := 0) dL_law_1323 rfl ?_
  refine jr_iloadn (j := 3) dL_law_1324 rfl ?_
  refine jr_iconst (v := 4) dL_law_1325 (by decide) ?_
  refine jr_iadd dL_law_1326 ?_
  refine kr_sld hX dL_law_1327 (pm_inS hn hi (d := 4) (by decide) 4 (by decide)) ?_
  refine jr_aloadn (j := 0) dL_law_1328 rfl ?_
  refine jr_iloadn (j := 3) dL_law_1329 rfl ?_
  refine jr_iconst (v := 5) dL_law_1330 (by decide) ?_
  refine jr_iadd dL_law_1331 ?_
  refine kr_sld hX dL_law_1332 (pm_inS hn hi (d := 5) (by decide) 5 (by decide)) ?_
  refine kr_callI (V2 := VD) (W1 := pm_wld VC skC C') (W2 := []) (sk := skD) (M := D) (M' := D') (bp := 0) (As := [.int (xs ((nI i) + 1).toNatClampNeg), .int (xs ((nI i) + 2).toNatClampNeg), .int (xs ((nI i) + 3).toNatClampNeg), .int (xs ((nI i) + 4).toNatClampNeg), .int (xs ((nI i) + 5).toNatClampNeg)]) hv hs dL_law_1333 lkL_153 kX8_move nX8_move (Nat.le_of_ble_eq_true rfl) (Nat.le_of_ble_eq_true rfl) at_MO_0 rfl rfl rfl (fun l => c_X8_move hD l VD) ?_
  exact jr_ic_eq (tgt := 1495) dL_law_1336 rfl (fun _ => K C' D' hR) (fun h => absurd rfl h)
set_option maxHeartbeats 4000000 in
theorem lc_shares {X : pm_X} {VC VD : pm_V} {b n i : Nat} {xs : Nat → Int32} {C D : pm_M} (hX : pm_sc X b n xs) (hn : n ≤ 3072) (hi : i + 6 ≤ n) (hv : VD.2 = VC.2) (hs : VD.1 900 = VC.1 900 ∧ VD.1 901 = VC.1 901 ∧ VD.1 902 = VC.1 902) (hRR : RR C D) (K : ∀ C' D' : pm_M, RR C' D' → pm_J X VC mL 1300 (pm_wld VC skC C' ++ (pm_wld VD skD D' ++ [])) 1495 [(0, .ref b), (1, .ref (VC.1 0)), (2, .ref (VD.1 0)), (3, .int (nI i))] []) : pm_J X VC mL 1300 (pm_wld VC skC C ++ (pm_wld VD skD D ++ [])) 1341 [(0, .ref b), (1, .ref (VC.1 0)), (2, .ref (VD.1 0)), (3, .int (nI i))] [] := by
  obtain ⟨r, C', D', hC, hD, hR⟩ := e_shares hRR (xs ((nI i) + 1).toNatClampNeg)
  refine jr_aloadn (j := 1) dL_law_1341 rfl ?_
  refine jr_aloadn (j := 0) dL_law_1342 rfl ?_
  refine jr_iloadn (j := 3) dL_law_1343 rfl ?_
  refine jr_iconst (v := 1) dL_law_1344 (by decide) ?_
  refine jr_iadd dL_law_1345 ?_
  refine kr_sld hX dL_law_1346 (pm_inS hn hi (d := 1) (by decide) 1 (by decide)) ?_
  refine kr_callC (V2 := VC) (W2 := pm_wld VD skD D ++ []) (sk := skC) (M := C) (M' := C') (bp := 0) (As := [.int (xs ((nI i) + 1).toNatClampNeg)]) rfl ⟨rfl, rfl, rfl⟩ dL_law_1347 lkL_154 kX7_shares nX7_shares (Nat.le_of_ble_eq_true rfl) (Nat.le_of_ble_eq_true rfl) at_RS_0 rfl rfl rfl (fun l => c_X7_shares hC l VC) ?_
  refine jr_aloadn (j := 2) dL_law_1350 rfl ?_
  refine jr_aloadn (j := 0) dL_law_1351 rfl ?_
  refine jr_iloadn (j := 3) dL_law_1352 rfl ?_
  refine jr_iconst (v := 1) dL_law_1353 (by decide) ?_
  refine jr_iadd dL_law_1354 ?_
  refine kr_sld hX dL_law_1355 (pm_inS hn hi (d := 1) (by decide) 1 (by decide)) ?_
  refine kr_callI (V2 := VD) (W1 := pm_wld VC skC C') (W2 := []) (sk := skD) (M := D) (M' := D') (bp := 0) (As := [.int (xs ((nI i) + 1).toNatClampNeg)]) hv hs dL_law_1356 lkL_157 kX8_shares nX8_shares (Nat.le_of_ble_eq_true rfl) (Nat.le_of_ble_eq_true rfl) at_MO_0 rfl rfl rfl (fun l => c_X8_shares hD l VD) ?_
  exact jr_ic_eq (tgt := 1495) dL_law_1359 rfl (fun _ => K C' D' hR) (fun h => absurd rfl h)
set_option maxHeartbeats 4000000 in
theorem lc_judge {X : pm_X} {VC VD : pm_V} {b n i : Nat} {xs : Nat → Int32} {C D : pm_M} (hX : pm_sc X b n xs) (hn : n ≤ 3072) (hi : i + 6 ≤ n) (hv : VD.2 = VC.2) (hs : VD.1 900 = VC.1 900 ∧ VD.1 901 = VC.1 901 ∧ VD.1 902 = VC.1 902) (hRR : RR C D) (K : ∀ C' D' : pm_M, RR C' D' → pm_J X VC mL 1300 (pm_wld VC skC C' ++ (pm_wld VD skD D' ++ [])) 1495 [(0, .ref b), (1, .ref (VC.1 0)), (2, .ref (VD.1 0)), (3, .int (nI i))] []) : pm_J X VC mL 1300 (pm_wld VC skC C ++ (pm_wld VD skD D ++ [])) 1364 [(0, .ref b), (1, .ref (VC.1 0)), (2, .ref (VD.1 0)), (3, .int (nI i))] [] := by
  obtain ⟨r, C', D', hC, hD, hR⟩ := e_judge hRR (xs ((nI i) + 1).toNatClampNeg)
  refine jr_aloadn (j := 1) dL_law_1364 rfl ?_
  refine jr_aloadn (j := 0) dL_law_1365 rfl ?_
  refine jr_iloadn (j := 3) dL_law_1366 rfl ?_
  refine jr_iconst (v := 1) dL_law_1367 (by decide) ?_
  refine jr_iadd dL_law_1368 ?_
  refine kr_sld hX dL_law_1369 (pm_inS hn hi (d := 1) (by decide) 1 (by decide)) ?_
  refine kr_callC (V2 := VC) (W2 := pm_wld VD skD D ++ []) (sk := skC) (M := C) (M' := C') (bp := 0) (As := [.int (xs ((nI i) + 1).toNatClampNeg)]) rfl ⟨rfl, rfl, rfl⟩ dL_law_1370 lkL_158 kX7_judge nX7_judge (Nat.le_of_ble_eq_true rfl) (Nat.le_of_ble_eq_true rfl) at_RS_0 rfl rfl rfl (fun l => c_X7_judge hC l VC) ?_
  refine jr_aloadn (j := 2) dL_law_1373 rfl ?_
  refine jr_aloadn (j := 0) dL_law_1374 rfl ?_
  refine jr_iloadn (j := 3) dL_law_1375 rfl ?_
  refine jr_iconst (v := 1) dL_law_1376 (by decide) ?_
  refine jr_iadd dL_law_1377 ?_
  refine kr_sld hX dL_law_1378 (pm_inS hn hi (d := 1) (by decide) 1 (by decide)) ?_
  refine kr_callI (V2 := VD) (W1 := pm_wld VC skC C') (W2 := []) (sk := skD) (M := D) (M' := D') (bp := 0) (As := [.int (xs ((nI i) + 1).toNatClampNeg)]) hv hs dL_law_1379 lkL_161 kX8_judge nX8_judge (Nat.le_of_ble_eq_true rfl) (Nat.le_of_ble_eq_true rfl) at_MO_0 rfl rfl rfl (fun l => c_X8_judge hD l VD) ?_
  exact jr_ic_eq (tgt := 1495) dL_law_1382 rfl (fun _ => K C' D' hR) (fun h => absurd rfl h)
set_option maxHeartbeats 4000000 in
theorem lc_image {X : pm_X} {VC VD : pm_V} {b n i : Nat} {xs : Nat → Int32} {C D : pm_M} (hX : pm_sc X b n xs) (hn : n ≤ 3072) (hi : i + 6 ≤ n) (hv : VD.2 = VC.2) (hs : VD.1 900 = VC.1 900 ∧ VD.1 901 = VC.1 901 ∧ VD.1 902 = VC.1 902) (hRR : RR C D) (K : ∀ C' D' : pm_M, RR C' D' → pm_J X VC mL 1300 (pm_wld VC skC C' ++ (pm_wld VD skD D' ++ [])) 1495 [(0, .ref b), (1, .ref (VC.1 0)), (2, .ref (VD.1 0)), (3, .int (nI i))] []) : pm_J X VC mL 1300 (pm_wld VC skC C ++ (pm_wld VD skD D ++ [])) 1387 [(0, .ref b), (1, .ref (VC.1 0)), (2, .ref (VD.1 0)), (3, .int (nI i))] [] := by
  obtain ⟨r, C', D', hC, hD, hR⟩ := e_image hRR 
  refine jr_aloadn (j := 1) dL_law_1387 rfl ?_
  refine kr_callC (V2 := VC) (W2 := pm_wld VD skD D ++ []) (sk := skC) (M := C) (M' := C') (bp := 0) (As := []) rfl ⟨rfl, rfl, rfl⟩ dL_law_1388 lkL_162 kX7_image nX7_image (Nat.le_of_ble_eq_true rfl) (Nat.le_of_ble_eq_true rfl) at_RS_0 rfl rfl rfl (fun l => c_X7_image hC l VC) ?_
  refine jr_aloadn (j := 2) dL_law_1391 rfl ?_
  refine kr_callI (V2 := VD) (W1 := pm_wld VC skC C') (W2 := []) (sk := skD) (M := D) (M' := D') (bp := 0) (As := []) hv hs dL_law_1392 lkL_165 kX8_image nX8_image (Nat.le_of_ble_eq_true rfl) (Nat.le_of_ble_eq_true rfl) at_MO_0 rfl rfl rfl (fun l => c_X8_image hD l VD) ?_
  exact jr_ic_eq (tgt := 1495) dL_law_1395 rfl (fun _ => K C' D' hR) (fun h => absurd rfl h)
set_option maxHeartbeats 4000000 in
theorem lc_restore {X : pm_X} {VC VD : pm_V} {b n i : Nat} {xs : Nat → Int32} {C D : pm_M} (hX : pm_sc X b n xs) (hn : n ≤ 3072) (hi : i + 6 ≤ n) (hv : VD.2 = VC.2) (hs : VD.1 900 = VC.1 900 ∧ VD.1 901 = VC.1 901 ∧ VD.1 902 = VC.1 902) (hRR : RR C D) (K : ∀ C' D' : pm_M, RR C' D' → pm_J X VC mL 1300 (pm_wld VC skC C' ++ (pm_wld VD skD D' ++ [])) 1495 [(0, .ref b), (1, .ref (VC.1 0)), (2, .ref (VD.1 0)), (3, .int (nI i))] []) : pm_J X VC mL 1300 (pm_wld VC skC C ++ (pm_wld VD skD D ++ [])) 1400 [(0, .ref b), (1, .ref (VC.1 0)), (2, .ref (VD.1 0)), (3, .int (nI i))] [] := by
  obtain ⟨r, C', D', hC, hD, hR⟩ := e_restore hRR 
  refine jr_aloadn (j := 1) dL_law_1400 rfl ?_
  refine kr_callC (V2 := VC) (W2 := pm_wld VD skD D ++ []) (sk := skC) (M := C) (M' := C') (bp := 0) (As := []) rfl ⟨rfl, rfl, rfl⟩ dL_law_1401 lkL_166 kX7_restore nX7_restore (Nat.le_of_ble_eq_true rfl) (Nat.le_of_ble_eq_true rfl) at_RS_0 rfl rfl rfl (fun l => c_X7_restore hC l VC) ?_
  refine jr_aloadn (j := 2) dL_law_1404 rfl ?_
  refine kr_callI (V2 := VD) (W1 := pm_wld VC skC C') (W2 := []) (sk := skD) (M := D) (M' := D') (bp := 0) (As := []) hv hs dL_law_1405 lkL_169 kX8_restore nX8_restore (Nat.le_of_ble_eq_true rfl) (Nat.le_of_ble_eq_true rfl) at_MO_0 rfl rfl rfl (fun l => c_X8_restore hD l VD) ?_
  exact jr_ic_eq (tgt := 1495) dL_law_1408 rfl (fun _ => K C' D' hR) (fun h => absurd rfl h)
set_option maxHeartbeats 4000000 in
theorem lc_tell {X : pm_X} {VC VD : pm_V} {b n i : Nat} {xs : Nat → Int32} {C D : pm_M} (hX : pm_sc X b n xs) (hn : n ≤ 3072) (hi : i + 6 ≤ n) (hv : VD.2 = VC.2) (hs : VD.1 900 = VC.1 900 ∧ VD.1 901 = VC.1 901 ∧ VD.1 902 = VC.1 902) (hRR : RR C D) (K : ∀ C' D' : pm_M, RR C' D' → pm_J X VC mL 1300 (pm_wld VC skC C' ++ (pm_wld VD skD D' ++ [])) 1495 [(0, .ref b), (1, .ref (VC.1 0)), (2, .ref (VD.1 0)), (3, .int (nI i))] []) : pm_J X VC mL 1300 (pm_wld VC skC C ++ (pm_wld VD skD D ++ [])) 1413 [(0, .ref b), (1, .ref (VC.1 0)), (2, .ref (VD.1 0)), (3, .int (nI i))] [] := by
  obtain ⟨r, C', D', hC, hD, hR⟩ := e_tell hRR (xs ((nI i) + 1).toNatClampNeg)
  refine jr_aloadn (j := 1) dL_law_1413 rfl ?_
  refine jr_aloadn (j := 0) dL_law_1414 rfl ?_
  refine jr_iloadn (j := 3) dL_law_1415 rfl ?_
  refine jr_iconst (v := 1) dL_law_1416 (by decide) ?_
  refine jr_iadd dL_law_1417 ?_
  refine kr_sld hX dL_law_1418 (pm_inS hn hi (d := 1) (by decide) 1 (by decide)) ?_
  refine kr_callC (V2 := VC) (W2 := pm_wld VD skD D ++ []) (sk := skC) (M := C) (M' := C') (bp := 0) (As := [.int (xs ((nI i) + 1).toNatClampNeg)]) rfl ⟨rfl, rfl, rfl⟩ dL_law_1419 lkL_170 kX7_tell nX7_tell (Nat.le_of_ble_eq_true rfl) (Nat.le_of_ble_eq_true rfl) at_RS_0 rfl rfl rfl (fun l => c_X7_tell hC l VC) ?_
  refine jr_aloadn (j := 2) dL_law_1422 rfl ?_
  refine jr_aloadn (j := 0) dL_law_1423 rfl ?_
  refine jr_iloadn (j := 3) dL_law_1424 rfl ?_
  refine jr_iconst (v := 1) dL_law_1425 (by decide) ?_
  refine jr_iadd dL_law_1426 ?_
  refine kr_sld hX dL_law_1427 (pm_inS hn hi (d := 1) (by decide) 1 (by decide)) ?_
  refine kr_callI (V2 := VD) (W1 := pm_wld VC skC C') (W2 := []) (sk := skD) (M := D) (M' := D') (bp := 0) (As := [.int (xs ((nI i) + 1).toNatClampNeg)]) hv hs dL_law_1428 lkL_173 kX8_tell nX8_tell (Nat.le_of_ble_eq_true rfl) (Nat.le_of_ble_eq_true rfl) at_MO_0 rfl rfl rfl (fun l => c_X8_tell hD l VD) ?_
  exact jr_ic_eq (tgt := 1495) dL_law_1431 rfl (fun _ => K C' D' hR) (fun h => absurd rfl h)
set_option maxHeartbeats 4000000 in
theorem lc_check {X : pm_X} {VC VD : pm_V} {b n i : Nat} {xs : Nat → Int32} {C D : pm_M} (hX : pm_sc X b n xs) (hn : n ≤ 3072) (hi : i + 6 ≤ n) (hv : VD.2 = VC.2) (hs : VD.1 900 = VC.1 900 ∧ VD.1 901 = VC.1 901 ∧ VD.1 902 = VC.1 902) (hRR : RR C D) (K : ∀ C' D' : pm_M, RR C' D' → pm_J X VC mL 1300 (pm_wld VC skC C' ++ (pm_wld VD skD D' ++ [])) 1495 [(0, .ref b), (1, .ref (VC.1 0)), (2, .ref (VD.1 0)), (3, .int (nI i))] []) : pm_J X VC mL 1300 (pm_wld VC skC C ++ (pm_wld VD skD D ++ [])) 1436 [(0, .ref b), (1, .ref (VC.1 0)), (2, .ref (VD.1 0)), (3, .int (nI i))] [] := by
  obtain ⟨r, C', D', hC, hD, hR⟩ := e_check hRR 
  refine jr_aloadn (j := 1) dL_law_1436 rfl ?_
  refine kr_callC (V2 := VC) (W2 := pm_wld VD skD D ++ []) (sk := skC) (M := C) (M' := C') (bp := 0) (As := []) rfl ⟨rfl, rfl, rfl⟩ dL_law_1437 lkL_174 kX7_check nX7_check (Nat.le_of_ble_eq_true rfl) (Nat.le_of_ble_eq_true rfl) at_RS_0 rfl rfl rfl (fun l => c_X7_check hC l VC) ?_
  refine jr_aloadn (j := 2) dL_law_1440 rfl ?_
  refine kr_callI (V2 := VD) (W1 := pm_wld VC skC C') (W2 := []) (sk := skD) (M := D) (M' := D') (bp := 0) (As := []) hv hs dL_law_1441 lkL_177 kX8_check nX8_check (Nat.le_of_ble_eq_true rfl) (Nat.le_of_ble_eq_true rfl) at_MO_0 rfl rfl rfl (fun l => c_X8_check hD l VD) ?_
  exact jr_ic_eq (tgt := 1495) dL_law_1444 rfl (fun _ => K C' D' hR) (fun h => absurd rfl h)
set_option maxHeartbeats 4000000 in
theorem lc_count {X : pm_X} {VC VD : pm_V} {b n i : Nat} {xs : Nat → Int32} {C D : pm_M} (hX : pm_sc X b n xs) (hn : n ≤ 3072) (hi : i + 6 ≤ n) (hv : VD.2 = VC.2) (hs : VD.1 900 = VC.1 900 ∧ VD.1 901 = VC.1 901 ∧ VD.1 902 = VC.1 902) (hRR : RR C D) (K : ∀ C' D' : pm_M, RR C' D' → pm_J X VC mL 1300 (pm_wld VC skC C' ++ (pm_wld VD skD D' ++ [])) 1495 [(0, .ref b), (1, .ref (VC.1 0)), (2, .ref (VD.1 0)), (3, .int (nI i))] []) : pm_J X VC mL 1300 (pm_wld VC skC C ++ (pm_wld VD skD D ++ [])) 1449 [(0, .ref b), (1, .ref (VC.1 0)), (2, .ref (VD.1 0)), (3, .int (nI i))] [] := by
  obtain ⟨r, C', D', hC, hD, hR⟩ := e_count hRR (xs ((nI i) + 1).toNatClampNeg)
  refine jr_aloadn (j := 1) dL_law_1449 rfl ?_
  refine jr_aloadn (j := 0) dL_law_1450 rfl ?_
  refine jr_iloadn (j := 3) dL_law_1451 rfl ?_
  refine jr_iconst (v := 1) dL_law_1452 (by decide) ?_
  refine jr_iadd dL_law_1453 ?_
  refine kr_sld hX dL_law_1454 (pm_inS hn hi (d := 1) (by decide) 1 (by decide)) ?_
  refine kr_callC (V2 := VC) (W2 := pm_wld VD skD D ++ []) (sk := skC) (M := C) (M' := C') (bp := 0) (As := [.int (xs ((nI i) + 1).toNatClampNeg)]) rfl ⟨rfl, rfl, rfl⟩ dL_law_1455 lkL_178 kX7_count nX7_count (Nat.le_of_ble_eq_true rfl) (Nat.le_of_ble_eq_true rfl) at_RS_0 rfl rfl rfl (fun l => c_X7_count hC l VC) ?_
  refine jr_aloadn (j := 2) dL_law_1458 rfl ?_
  refine jr_aloadn (j := 0) dL_law_1459 rfl ?_
  refine jr_iloadn (j := 3) dL_law_1460 rfl ?_
  refine jr_iconst (v := 1) dL_law_1461 (by decide) ?_
  refine jr_iadd dL_law_1462 ?_
  refine kr_sld hX dL_law_1463 (pm_inS hn hi (d := 1) (by decide) 1 (by decide)) ?_
  refine kr_callI (V2 := VD) (W1 := pm_wld VC skC C') (W2 := []) (sk := skD) (M := D) (M' := D') (bp := 0) (As := [.int (xs ((nI i) + 1).toNatClampNeg)]) hv hs dL_law_1464 lkL_181 kX8_count nX8_count (Nat.le_of_ble_eq_true rfl) (Nat.le_of_ble_eq_true rfl) at_MO_0 rfl rfl rfl (fun l => c_X8_count hD l VD) ?_
  exact jr_ic_eq (tgt := 1495) dL_law_1467 rfl (fun _ => K C' D' hR) (fun h => absurd rfl h)
set_option maxHeartbeats 4000000 in
theorem lc_told {X : pm_X} {VC VD : pm_V} {b n i : Nat} {xs : Nat → Int32} {C D : pm_M} (hX : pm_sc X b n xs) (hn : n ≤ 3072) (hi : i + 6 ≤ n) (hv : VD.2 = VC.2) (hs : VD.1 900 = VC.1 900 ∧ VD.1 901 = VC.1 901 ∧ VD.1 902 = VC.1 902) (hRR : RR C D) (K : ∀ C' D' : pm_M, RR C' D' → pm_J X VC mL 1300 (pm_wld VC skC C' ++ (pm_wld VD skD D' ++ [])) 1495 [(0, .ref b), (1, .ref (VC.1 0)), (2, .ref (VD.1 0)), (3, .int (nI i))] []) : pm_J X VC mL 1300 (pm_wld VC skC C ++ (pm_wld VD skD D ++ [])) 1472 [(0, .ref b), (1, .ref (VC.1 0)), (2, .ref (VD.1 0)), (3, .int (nI i))] [] := by
  obtain ⟨r, C', D', hC, hD, hR⟩ := e_told hRR (xs ((nI i) + 1).toNatClampNeg)
  refine jr_aloadn (j := 1) dL_law_1472 rfl ?_
  refine jr_aloadn (j := 0) dL_law_1473 rfl ?_
  refine jr_iloadn (j := 3) dL_law_1474 rfl ?_
  refine jr_iconst (v := 1) dL_law_1475 (by decide) ?_
  refine jr_iadd dL_law_1476 ?_
  refine kr_sld hX dL_law_1477 (pm_inS hn hi (d := 1) (by decide) 1 (by decide)) ?_
  refine kr_callC (V2 := VC) (W2 := pm_wld VD skD D ++ []) (sk := skC) (M := C) (M' := C') (bp := 0) (As := [.int (xs ((nI i) + 1).toNatClampNeg)]) rfl ⟨rfl, rfl, rfl⟩ dL_law_1478 lkL_182 kX7_told nX7_told (Nat.le_of_ble_eq_true rfl) (Nat.le_of_ble_eq_true rfl) at_RS_0 rfl rfl rfl (fun l => c_X7_told hC l VC) ?_
  refine jr_aloadn (j := 2) dL_law_1481 rfl ?_
  refine jr_aloadn (j := 0) dL_law_1482 rfl ?_
  refine jr_iloadn (j := 3) dL_law_1483 rfl ?_
  refine jr_iconst (v := 1) dL_law_1484 (by decide) ?_
  refine jr_iadd dL_law_1485 ?_
  refine kr_sld hX dL_law_1486 (pm_inS hn hi (d := 1) (by decide) 1 (by decide)) ?_
  refine kr_callI (V2 := VD) (W1 := pm_wld VC skC C') (W2 := []) (sk := skD) (M := D) (M' := D') (bp := 0) (As := [.int (xs ((nI i) + 1).toNatClampNeg)]) hv hs dL_law_1487 lkL_185 kX8_told nX8_told (Nat.le_of_ble_eq_true rfl) (Nat.le_of_ble_eq_true rfl) at_MO_0 rfl rfl rfl (fun l => c_X8_told hD l VD) ?_
  exact jr_ic_eq (tgt := 1495) dL_law_1490 rfl (fun _ => K C' D' hR) (fun h => absurd rfl h)
theorem pm_lawc {n i : Nat} (hn : n ≤ 3072) (hi : ¬ i + 6 ≤ n) (hi2 : i ≤ n + 6) : nI n - 6 < nI i := by
  rw [show (6 : Int32) = nI 6 from rfl, Int32.lt_iff_toInt_lt, pk_sub_toInt (by omega) (by omega), nI_toInt (by omega)]
  omega
theorem pm_lawd {n i : Nat} (hn : n ≤ 3072) (hi : i ≤ n) (h : ¬ nI n - 6 < nI i) : i + 6 ≤ n := by
  rcases Nat.lt_or_ge n (i + 6) with q | q
  · exact absurd (pm_lawc hn (by omega) (by omega)) h
  · exact q
theorem pm_law40 : ∀ q, q < 41 → nI q ∈ ([0, 1, 2, 3, 4, 5, 6, 7, 8, 9, 10, 11, 12, 13, 14, 15, 16, 17, 18, 19, 20, 21, 22, 23, 24, 25, 26, 27, 28, 29, 30, 31, 32, 33, 34, 35, 36, 37, 38, 39, 40] : List Int32) := by decide +kernel
theorem pm_law41 {z : Int32} (h : ¬ (z.toInt < 0 ∨ 40 < z.toInt)) : z ∈ ([0, 1, 2, 3, 4, 5, 6, 7, 8, 9, 10, 11, 12, 13, 14, 15, 16, 17, 18, 19, 20, 21, 22, 23, 24, 25, 26, 27, 28, 29, 30, 31, 32, 33, 34, 35, 36, 37, 38, 39, 40] : List Int32) := by
  have h1 : 0 ≤ z.toInt := by omega
  have h2 : z.toInt ≤ 40 := by omega
  have h3 : z = nI z.toInt.toNat := Int32.toInt_inj.mp (by rw [nI_toInt (by omega)]; omega)
  rw [h3]
  exact pm_law40 _ (by omega)
set_option maxHeartbeats 4000000 in
set_option maxRecDepth 100000 in
theorem law_loop {X : pm_X} {VC VD : pm_V} {b n : Nat} {xs : Nat → Int32} (hX : pm_sc X b n xs) (hn : n ≤ 3072) (hv : VD.2 = VC.2) (hs : VD.1 900 = VC.1 900 ∧ VD.1 901 = VC.1 901 ∧ VD.1 902 = VC.1 902) (K : ∀ (C D : pm_M) (L : List (Nat × Value)), pm_J X VC mL 1300 (pm_wld VC skC C ++ (pm_wld VD skD D ++ [])) 1502 L [.int 1]) :
    ∀ (k i : Nat) (C D : pm_M), i ≤ n → n + 6 ≤ i + 6 * k → RR C D → pm_J X VC mL 1300 (pm_wld VC skC C ++ (pm_wld VD skD D ++ [])) 18 [(0, .ref b), (1, .ref (VC.1 0)), (2, .ref (VD.1 0)), (3, .int (nI i))] [] := by
  intro k
  induction k with
  | zero =>
    intro i C D hin hk
    exact absurd hk (by omega)
  | succ k ih =>
    intro i C D hin hk hRR
    refine jr_iloadn (j := 3) dL_law_18 rfl ?_
    refine jr_aloadn (j := 0) dL_law_19 rfl ?_
    refine kr_slen hX dL_law_20 ?_
    refine jr_bipush (v := 6) dL_law_21 (by decide) ?_
    refine jr_isub dL_law_23 ?_
    refine jr_ic_gt (tgt := 1501) dL_law_24 rfl (fun _ => ?_) (fun hc => ?_)
    · refine jr_iconst (v := 1) dL_law_1501 (by decide) ?_
      exact K C D _
    have hi : i + 6 ≤ n := pm_lawd hn hin hc
    have Kn : ∀ C' D' : pm_M, RR C' D' → pm_J X VC mL 1300 (pm_wld VC skC C' ++ (pm_wld VD skD D' ++ [])) 1495 [(0, .ref b), (1, .ref (VC.1 0)), (2, .ref (VD.1 0)), (3, .int (nI i))] [] := by
      intro C' D' hR
      refine jr_iinc (j := 3) (v := nI (i + 6)) (L' := [(3, .int (nI (i + 6))), (0, .ref b), (1, .ref (VC.1 0)), (2, .ref (VD.1 0))]) dL_law_1495 rfl (nI_add i 6) (Nat.le_of_ble_eq_true rfl) rfl ?_
      refine jr_goto (tgt := 18) dL_law_1498 rfl ?_
      exact jr_sub [1, 2, 3, 0] rfl (ih (i + 6) C' D' (by omega) (by omega) hR)
    refine jr_aloadn (j := 0) dL_law_27 rfl ?_
    refine jr_iloadn (j := 3) dL_law_28 rfl ?_
    refine kr_sld hX dL_law_29 (pm_in_iff.mpr (vp_in_nI (by omega) (by omega))) ?_
    refine jr_bipush (v := 63) dL_law_30 (by decide) ?_
    refine jr_iand dL_law_32 ?_
    generalize xs (nI i).toNatClampNeg &&& 63 = z
    by_cases hz : z.toInt < 0 ∨ 40 < z.toInt
    · exact jr_tout (tgt := 1495) dL_law_33 hz rfl (Kn C D hRR)
    by_cases h0 : z = 0
    · exact jr_tin (v := 0) (tgt := 212) dL_law_33 h0 (by decide) (by decide) rfl rfl (lc_roof hX hn hi hv hs hRR Kn)
    by_cases h1 : z = 1
    · exact jr_tin (v := 1) (tgt := 235) dL_law_33 h1 (by decide) (by decide) rfl rfl (lc_ofRoof hX hn hi hv hs hRR Kn)
    by_cases h2 : z = 2
    · exact jr_tin (v := 2) (tgt := 268) dL_law_33 h2 (by decide) (by decide) rfl rfl (lc_change hX hn hi hv hs hRR Kn)
    by_cases h3 : z = 3
    · exact jr_tin (v := 3) (tgt := 311) dL_law_33 h3 (by decide) (by decide) rfl rfl (lc_owe hX hn hi hv hs hRR Kn)
    by_cases h4 : z = 4
    · exact jr_tin (v := 4) (tgt := 354) dL_law_33 h4 (by decide) (by decide) rfl rfl (lc_owed hX hn hi hv hs hRR Kn)
    by_cases h5 : z = 5
    · exact jr_tin (v := 5) (tgt := 387) dL_law_33 h5 (by decide) (by decide) rfl rfl (lc_pay hX hn hi hv hs hRR Kn)
    by_cases h6 : z = 6
    · exact jr_tin (v := 6) (tgt := 420) dL_law_33 h6 (by decide) (by decide) rfl rfl (lc_sell hX hn hi hv hs hRR Kn)
    by_cases h7 : z = 7
    · exact jr_tin (v := 7) (tgt := 463) dL_law_33 h7 (by decide) (by decide) rfl rfl (lc_cloud hX hn hi hv hs hRR Kn)
    by_cases h8 : z = 8
    · exact jr_tin (v := 8) (tgt := 496) dL_law_33 h8 (by decide) (by decide) rfl rfl (lc_ofCloud hX hn hi hv hs hRR Kn)
    by_cases h9 : z = 9
    · exact jr_tin (v := 9) (tgt := 529) dL_law_33 h9 (by decide) (by decide) rfl rfl (lc_become hX hn hi hv hs hRR Kn)
    by_cases h10 : z = 10
    · exact jr_tin (v := 10) (tgt := 562) dL_law_33 h10 (by decide) (by decide) rfl rfl (lc_as hX hn hi hv hs hRR Kn)
    by_cases h11 : z = 11
    · exact jr_tin (v := 11) (tgt := 595) dL_law_33 h11 (by decide) (by decide) rfl rfl (lc_lead hX hn hi hv hs hRR Kn)
    by_cases h12 : z = 12
    · exact jr_tin (v := 12) (tgt := 638) dL_law_33 h12 (by decide) (by decide) rfl rfl (lc_feed hX hn hi hv hs hRR Kn)
    by_cases h13 : z = 13
    · exact jr_tin (v := 13) (tgt := 701) dL_law_33 h13 (by decide) (by decide) rfl rfl (lc_text hX hn hi hv hs hRR Kn)
    by_cases h14 : z = 14
    · exact jr_tin (v := 14) (tgt := 724) dL_law_33 h14 (by decide) (by decide) rfl rfl (lc_law hX hn hi hv hs hRR Kn)
    by_cases h15 : z = 15
    · exact jr_tin (v := 15) (tgt := 777) dL_law_33 h15 (by decide) (by decide) rfl rfl (lc_days hX hn hi hv hs hRR Kn)
    by_cases h16 : z = 16
    · exact jr_tin (v := 16) (tgt := 800) dL_law_33 h16 (by decide) (by decide) rfl rfl (lc_loose hX hn hi hv hs hRR Kn)
    by_cases h17 : z = 17
    · exact jr_tin (v := 17) (tgt := 823) dL_law_33 h17 (by decide) (by decide) rfl rfl (lc_clear hX hn hi hv hs hRR Kn)
    by_cases h18 : z = 18
    · exact jr_tin (v := 18) (tgt := 836) dL_law_33 h18 (by decide) (by decide) rfl rfl (lc_then hX hn hi hv hs hRR Kn)
    by_cases h19 : z = 19
    · exact jr_tin (v := 19) (tgt := 879) dL_law_33 h19 (by decide) (by decide) rfl rfl (lc_drought hX hn hi hv hs hRR Kn)
    by_cases h20 : z = 20
    · exact jr_tin (v := 20) (tgt := 912) dL_law_33 h20 (by decide) (by decide) rfl rfl (lc_when hX hn hi hv hs hRR Kn)
    by_cases h21 : z = 21
    · exact jr_tin (v := 21) (tgt := 945) dL_law_33 h21 (by decide) (by decide) rfl rfl (lc_sellers hX hn hi hv hs hRR Kn)
    by_cases h22 : z = 22
    · exact jr_tin (v := 22) (tgt := 978) dL_law_33 h22 (by decide) (by decide) rfl rfl (lc_clears hX hn hi hv hs hRR Kn)
    by_cases h23 : z = 23
    · exact jr_tin (v := 23) (tgt := 991) dL_law_33 h23 (by decide) (by decide) rfl rfl (lc_patches hX hn hi hv hs hRR Kn)
    by_cases h24 : z = 24
    · exact jr_tin (v := 24) (tgt := 1014) dL_law_33 h24 (by decide) (by decide) rfl rfl (lc_trades hX hn hi hv hs hRR Kn)
    by_cases h25 : z = 25
    · exact jr_tin (v := 25) (tgt := 1027) dL_law_33 h25 (by decide) (by decide) rfl rfl (lc_fell hX hn hi hv hs hRR Kn)
    by_cases h26 : z = 26
    · exact jr_tin (v := 26) (tgt := 1060) dL_law_33 h26 (by decide) (by decide) rfl rfl (lc_gains hX hn hi hv hs hRR Kn)
    by_cases h27 : z = 27
    · exact jr_tin (v := 27) (tgt := 1103) dL_law_33 h27 (by decide) (by decide) rfl rfl (lc_seed hX hn hi hv hs hRR Kn)
    by_cases h28 : z = 28
    · exact jr_tin (v := 28) (tgt := 1126) dL_law_33 h28 (by decide) (by decide) rfl rfl (lc_voice hX hn hi hv hs hRR Kn)
    by_cases h29 : z = 29
    · exact jr_tin (v := 29) (tgt := 1169) dL_law_33 h29 (by decide) (by decide) rfl rfl (lc_trace hX hn hi hv hs hRR Kn)
    by_cases h30 : z = 30
    · exact jr_tin (v := 30) (tgt := 1192) dL_law_33 h30 (by decide) (by decide) rfl rfl (lc_sheet hX hn hi hv hs hRR Kn)
    by_cases h31 : z = 31
    · exact jr_tin (v := 31) (tgt := 1235) dL_law_33 h31 (by decide) (by decide) rfl rfl (lc_put hX hn hi hv hs hRR Kn)
    by_cases h32 : z = 32
    · exact jr_tin (v := 32) (tgt := 1278) dL_law_33 h32 (by decide) (by decide) rfl rfl (lc_move hX hn hi hv hs hRR Kn)
    by_cases h33 : z = 33
    · exact jr_tin (v := 33) (tgt := 1341) dL_law_33 h33 (by decide) (by decide) rfl rfl (lc_shares hX hn hi hv hs hRR Kn)
    by_cases h34 : z = 34
    · exact jr_tin (v := 34) (tgt := 1364) dL_law_33 h34 (by decide) (by decide) rfl rfl (lc_judge hX hn hi hv hs hRR Kn)
    by_cases h35 : z = 35
    · exact jr_tin (v := 35) (tgt := 1387) dL_law_33 h35 (by decide) (by decide) rfl rfl (lc_image hX hn hi hv hs hRR Kn)
    by_cases h36 : z = 36
    · exact jr_tin (v := 36) (tgt := 1400) dL_law_33 h36 (by decide) (by decide) rfl rfl (lc_restore hX hn hi hv hs hRR Kn)
    by_cases h37 : z = 37
    · exact jr_tin (v := 37) (tgt := 1413) dL_law_33 h37 (by decide) (by decide) rfl rfl (lc_tell hX hn hi hv hs hRR Kn)
    by_cases h38 : z = 38
    · exact jr_tin (v := 38) (tgt := 1436) dL_law_33 h38 (by decide) (by decide) rfl rfl (lc_check hX hn hi hv hs hRR Kn)
    by_cases h39 : z = 39
    · exact jr_tin (v := 39) (tgt := 1449) dL_law_33 h39 (by decide) (by decide) rfl rfl (lc_count hX hn hi hv hs hRR Kn)
    by_cases h40 : z = 40
    · exact jr_tin (v := 40) (tgt := 1472) dL_law_33 h40 (by decide) (by decide) rfl rfl (lc_told hX hn hi hv hs hRR Kn)
    exact absurd rfl ((pm_n1 h0 (pm_n1 h1 (pm_n1 h2 (pm_n1 h3 (pm_n1 h4 (pm_n1 h5 (pm_n1 h6 (pm_n1 h7 (pm_n1 h8 (pm_n1 h9 (pm_n1 h10 (pm_n1 h11 (pm_n1 h12 (pm_n1 h13 (pm_n1 h14 (pm_n1 h15 (pm_n1 h16 (pm_n1 h17 (pm_n1 h18 (pm_n1 h19 (pm_n1 h20 (pm_n1 h21 (pm_n1 h22 (pm_n1 h23 (pm_n1 h24 (pm_n1 h25 (pm_n1 h26 (pm_n1 h27 (pm_n1 h28 (pm_n1 h29 (pm_n1 h30 (pm_n1 h31 (pm_n1 h32 (pm_n1 h33 (pm_n1 h34 (pm_n1 h35 (pm_n1 h36 (pm_n1 h37 (pm_n1 h38 (pm_n1 h39 (pm_n1 h40 pm_n0))))))))))))))))))))))))))))))))))))))))) z (pm_law41 hz))
