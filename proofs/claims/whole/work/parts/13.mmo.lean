def f_X8_finds (M : pm_M) (x1 : Int32) : Option (Int32 × pm_M) :=
  (pm_chk (pm_in x1 6) (pm_chk (pm_in x1 6) (pm_let (pm_up M 3 x1.toNatClampNeg ((M 3 x1.toNatClampNeg) + 1)) (fun M1 : pm_M => (some (((-1000000000) - x1), M1))))))
set_option maxHeartbeats 4000000 in
set_option maxRecDepth 100000 in
theorem w_X8_finds {X : pm_X} {V : pm_V} (M : pm_M) (x1 : Int32)  : pm_VF (f_X8_finds M x1) (pm_K X V mX8_finds 1 skD) (pm_J X V mX8_finds 1 (pm_wld V skD M) 0 [(0, .ref (V.1 0)), (1, .int x1)] []) := by
  unfold f_X8_finds
  refine jv_aloadn (j := 0) dX8_finds_0 rfl ?_
  refine hv_getR dX8_finds_1 fl8_16 at_MO_0 rfl ?_
  refine jv_iloadn (j := 1) dX8_finds_4 rfl ?_
  refine jv_dup2 dX8_finds_5 rfl rfl ?_
  refine hv_ialdC dX8_finds_6 at_MO_3 (fun _ => ?_)
  refine jv_iconst (v := 1) dX8_finds_7 (by decide) ?_
  refine jv_iadd dX8_finds_8 ?_
  refine hv_iastC dX8_finds_9 at_MO_3 (fun _ => ?_)
  refine vf_letM (fun M1 => ?_)
  refine jv_ldc dX8_finds_10 lk8_43 ?_
  refine jv_iloadn (j := 1) dX8_finds_12 rfl ?_
  refine jv_isub dX8_finds_13 ?_
  exact vf_ret dX8_finds_14 rfl
theorem c_X8_finds {M : pm_M} {x1 : Int32}  {r : Int32} {M' : pm_M} (h : f_X8_finds M x1 = some (r, M')) (l : Launch) (V : pm_V) : pm_Ci l V skD yX8_finds mX8_finds 1 [.ref (V.1 0), .int x1] M r M' := pm_metI (by decide) rfl (Nat.le_of_ble_eq_true rfl) h (fun _ => w_X8_finds M x1 )
def f_X8_in (M : pm_M) (x1 : Int64) (x2 : Int64) (x3 : Int64) : Option (Int32 × pm_M) :=
  (if (lg_cmp x1 x2) < 0 then (some (0, M)) else (if 0 < (lg_cmp x1 x3) then (some (0, M)) else (some (1, M))))
set_option maxHeartbeats 4000000 in
set_option maxRecDepth 100000 in
theorem w_X8_in {X : pm_X} {V : pm_V} (M : pm_M) (x1 : Int64) (x2 : Int64) (x3 : Int64)  : pm_VF (f_X8_in M x1 x2 x3) (pm_K X V mX8_in 1 skD) (pm_J X V mX8_in 1 (pm_wld V skD M) 0 [(0, .long x1), (2, .long x2), (4, .long x3)] []) := by
  unfold f_X8_in
  refine jv_lloadn (j := 0) dX8_in_0 rfl ?_
  refine jv_lloadn (j := 1) dX8_in_1 rfl ?_
  refine jv_lcmp dX8_in_2 ?_
  refine jw_if_lt (tgt := 17) dX8_in_3 rfl (fun c3 => ?_) (fun c3 => ?_)
  · refine jv_iconst (v := 0) dX8_in_17 (by decide) ?_
    exact vf_zret dX8_in_18 rfl (by decide)
  refine jv_lloadn (j := 0) dX8_in_6 rfl ?_
  refine jv_lload (j := 2) dX8_in_7 rfl ?_
  refine jv_lcmp dX8_in_9 ?_
  refine jw_if_gt (tgt := 17) dX8_in_10 rfl (fun c10 => ?_) (fun c10 => ?_)
  · refine jv_iconst (v := 0) dX8_in_17 (by decide) ?_
    exact vf_zret dX8_in_18 rfl (by decide)
  refine jv_iconst (v := 1) dX8_in_13 (by decide) ?_
  refine jv_goto (tgt := 18) dX8_in_14 rfl ?_
  exact vf_zret dX8_in_18 rfl (by decide)
theorem c_X8_in {M : pm_M} {x1 : Int64} {x2 : Int64} {x3 : Int64}  {r : Int32} {M' : pm_M} (h : f_X8_in M x1 x2 x3 = some (r, M')) (l : Launch) (V : pm_V) : pm_Ci l V skD yX8_in mX8_in 1 [.long x1, .long x2, .long x3] M r M' := pm_metI (by decide) rfl (Nat.le_of_ble_eq_true rfl) h (fun _ => w_X8_in M x1 x2 x3 )
def f_X8_held (M : pm_M) (x1 : Int32) (x2 : Int32) (x3 : Int32) : Option (Int32 × pm_M) :=
  (if x2 ≤ x1 then (if x1 ≤ x3 then (some (x1, M)) else (some (x3, M))) else (some (x2, M)))
set_option maxHeartbeats 4000000 in
set_option maxRecDepth 100000 in
theorem w_X8_held {X : pm_X} {V : pm_V} (M : pm_M) (x1 : Int32) (x2 : Int32) (x3 : Int32)  : pm_VF (f_X8_held M x1 x2 x3) (pm_K X V mX8_held 1 skD) (pm_J X V mX8_held 1 (pm_wld V skD M) 0 [(0, .int x1), (1, .int x2), (2, .int x3)] []) := by
  unfold f_X8_held
  refine jv_iloadn (j := 0) dX8_held_0 rfl ?_
  refine jv_iloadn (j := 1) dX8_held_1 rfl ?_
  refine jw_ic_ge (tgt := 9) dX8_held_2 rfl (fun c2 => ?_) (fun c2 => ?_)
  · refine jv_iloadn (j := 0) dX8_held_9 rfl ?_
    refine jv_iloadn (j := 2) dX8_held_10 rfl ?_
    refine jw_ic_le (tgt := 18) dX8_held_11 rfl (fun c11 => ?_) (fun c11 => ?_)
    · refine jv_iloadn (j := 0) dX8_held_18 rfl ?_
      exact vf_ret dX8_held_19 rfl
    refine jv_iloadn (j := 2) dX8_held_14 rfl ?_
    refine jv_goto (tgt := 19) dX8_held_15 rfl ?_
    exact vf_ret dX8_held_19 rfl
  refine jv_iloadn (j := 1) dX8_held_5 rfl ?_
  refine jv_goto (tgt := 19) dX8_held_6 rfl ?_
  exact vf_ret dX8_held_19 rfl
theorem c_X8_held {M : pm_M} {x1 : Int32} {x2 : Int32} {x3 : Int32}  {r : Int32} {M' : pm_M} (h : f_X8_held M x1 x2 x3 = some (r, M')) (l : Launch) (V : pm_V) : pm_Ci l V skD yX8_held mX8_held 1 [.int x1, .int x2, .int x3] M r M' := pm_metI (by decide) rfl (Nat.le_of_ble_eq_true rfl) h (fun _ => w_X8_held M x1 x2 x3 )
def f_X8_isRoof (M : pm_M) (x1 : Int32) : Option (Int32 × pm_M) :=
  (pm_b2 (f_X8_in M (x1.toInt64) 0 (((M 1 (0 : Int32).toNatClampNeg) - 1).toInt64)) (fun (r2 : Int32) (M1 : pm_M) => (pm_chk (pm_zo r2) (some (r2, M1)))))
set_option maxHeartbeats 4000000 in
set_option maxRecDepth 100000 in
theorem w_X8_isRoof {X : pm_X} {V : pm_V} (M : pm_M) (x1 : Int32)  : pm_VF (f_X8_isRoof M x1) (pm_K X V mX8_isRoof 2 skD) (pm_J X V mX8_isRoof 2 (pm_wld V skD M) 0 [(0, .ref (V.1 0)), (1, .int x1)] []) := by
  unfold f_X8_isRoof
  refine jv_iloadn (j := 1) dX8_isRoof_0 rfl ?_
  refine jv_i2l dX8_isRoof_1 ?_
  refine jv_lconst (v := 0) dX8_isRoof_2 (by decide) ?_
  refine jv_aloadn (j := 0) dX8_isRoof_3 rfl ?_
  refine hv_getR dX8_isRoof_4 fl8_7 at_MO_0 rfl ?_
  refine jv_iconst (v := 0) dX8_isRoof_7 (by decide) ?_
  refine hv_iald dX8_isRoof_8 at_MO_1 (by decide) ?_
  refine jv_iconst (v := 1) dX8_isRoof_9 (by decide) ?_
  refine jv_isub dX8_isRoof_10 ?_
  refine jv_i2l dX8_isRoof_11 ?_
  refine hv_callS (As := [.long (x1.toInt64), .long 0, .long (((M 1 (0 : Int32).toNatClampNeg) - 1).toInt64)]) dX8_isRoof_12 lk8_44 kX8_in nX8_in (Nat.le_of_ble_eq_true rfl) (Nat.le_of_ble_eq_true rfl) rfl (fun _ _ e l => c_X8_in  e l V) ?_
  intro r2 M1
  refine vf_chk (fun hz => ?_)
  exact vf_zret dX8_isRoof_15 rfl hz
theorem c_X8_isRoof {M : pm_M} {x1 : Int32}  {r : Int32} {M' : pm_M} (h : f_X8_isRoof M x1 = some (r, M')) (l : Launch) (V : pm_V) : pm_Ci l V skD yX8_isRoof mX8_isRoof 2 [.ref (V.1 0), .int x1] M r M' := pm_metI (by decide) rfl (Nat.le_of_ble_eq_true rfl) h (fun _ => w_X8_isRoof M x1 )
def f_X8_isCloud (M : pm_M) (x1 : Int32) : Option (Int32 × pm_M) :=
  (pm_b2 (f_X8_in M (x1.toInt64) 0 (((M 1 (1 : Int32).toNatClampNeg) - 1).toInt64)) (fun (r2 : Int32) (M1 : pm_M) => (pm_chk (pm_zo r2) (some (r2, M1)))))
set_option maxHeartbeats 4000000 in
set_option maxRecDepth 100000 in
theorem w_X8_isCloud {X : pm_X} {V : pm_V} (M : pm_M) (x1 : Int32)  : pm_VF (f_X8_isCloud M x1) (pm_K X V mX8_isCloud 2 skD) (pm_J X V mX8_isCloud 2 (pm_wld V skD M) 0 [(0, .ref (V.1 0)), (1, .int x1)] []) := by
  unfold f_X8_isCloud
  refine jv_iloadn (j := 1) dX8_isCloud_0 rfl ?_
  refine jv_i2l dX8_isCloud_1 ?_
  refine jv_lconst (v := 0) dX8_isCloud_2 (by decide) ?_
  refine jv_aloadn (j := 0) dX8_isCloud_3 rfl ?_
  refine hv_getR dX8_isCloud_4 fl8_7 at_MO_0 rfl ?_
  refine jv_iconst (v := 1) dX8_isCloud_7 (by decide) ?_
  refine hv_iald dX8_isCloud_8 at_MO_1 (by decide) ?_
  refine jv_iconst (v := 1) dX8_isCloud_9 (by decide) ?_
  refine jv_isub dX8_isCloud_10 ?_
  refine jv_i2l dX8_isCloud_11 ?_
  refine hv_callS (As := [.long (x1.toInt64), .long 0, .long (((M 1 (1 : Int32).toNatClampNeg) - 1).toInt64)]) dX8_isCloud_12 lk8_44 kX8_in nX8_in (Nat.le_of_ble_eq_true rfl) (Nat.le_of_ble_eq_true rfl) rfl (fun _ _ e l => c_X8_in  e l V) ?_
  intro r2 M1
  refine vf_chk (fun hz => ?_)
  exact vf_zret dX8_isCloud_15 rfl hz
theorem c_X8_isCloud {M : pm_M} {x1 : Int32}  {r : Int32} {M' : pm_M} (h : f_X8_isCloud M x1 = some (r, M')) (l : Launch) (V : pm_V) : pm_Ci l V skD yX8_isCloud mX8_isCloud 2 [.ref (V.1 0), .int x1] M r M' := pm_metI (by decide) rfl (Nat.le_of_ble_eq_true rfl) h (fun _ => w_X8_isCloud M x1 )
def f_X8_its (M : pm_M) (x1 : Int32) (x2 : Int32) : Option (Int32 × pm_M) :=
  (pm_chk (pm_in ((6 + (4 * x1)) + x2) 258) (some ((M 1 ((6 + (4 * x1)) + x2).toNatClampNeg), M)))
set_option maxHeartbeats 4000000 in
set_option maxRecDepth 100000 in
theorem w_X8_its {X : pm_X} {V : pm_V} (M : pm_M) (x1 : Int32) (x2 : Int32)  : pm_VF (f_X8_its M x1 x2) (pm_K X V mX8_its 1 skD) (pm_J X V mX8_its 1 (pm_wld V skD M) 0 [(0, .ref (V.1 0)), (1, .int x1), (2, .int x2)] []) := by
  unfold f_X8_its
  refine jv_aloadn (j := 0) dX8_its_0 rfl ?_
  refine hv_getR dX8_its_1 fl8_7 at_MO_0 rfl ?_
  refine jv_bipush (v := 6) dX8_its_4 (by decide) ?_
  refine jv_iconst (v := 4) dX8_its_6 (by decide) ?_
  refine jv_iloadn (j := 1) dX8_its_7 rfl ?_
  refine jv_imul dX8_its_8 ?_
  refine jv_iadd dX8_its_9 ?_
  refine jv_iloadn (j := 2) dX8_its_10 rfl ?_
  refine jv_iadd dX8_its_11 ?_
  refine hv_ialdC dX8_its_12 at_MO_1 (fun _ => ?_)
  exact vf_ret dX8_its_13 rfl
theorem c_X8_its {M : pm_M} {x1 : Int32} {x2 : Int32}  {r : Int32} {M' : pm_M} (h : f_X8_its M x1 x2 = some (r, M')) (l : Launch) (V : pm_V) : pm_Ci l V skD yX8_its mX8_its 1 [.ref (V.1 0), .int x1, .int x2] M r M' := pm_metI (by decide) rfl (Nat.le_of_ble_eq_true rfl) h (fun _ => w_X8_its M x1 x2 )
def f_X8_of (M : pm_M) (x1 : Int32) (x2 : Int32) : Option (Int32 × pm_M) :=
  (pm_chk (pm_in ((66 + (4 * x1)) + x2) 258) (some ((M 1 ((66 + (4 * x1)) + x2).toNatClampNeg), M)))
set_option maxHeartbeats 4000000 in
set_option maxRecDepth 100000 in
theorem w_X8_of {X : pm_X} {V : pm_V} (M : pm_M) (x1 : Int32) (x2 : Int32)  : pm_VF (f_X8_of M x1 x2) (pm_K X V mX8_of 1 skD) (pm_J X V mX8_of 1 (pm_wld V skD M) 0 [(0, .ref (V.1 0)), (1, .int x1), (2, .int x2)] []) := by
  unfold f_X8_of
  refine jv_aloadn (j := 0) dX8_of_0 rfl ?_
  refine hv_getR dX8_of_1 fl8_7 at_MO_0 rfl ?_
  refine jv_bipush (v := 66) dX8_of_4 (by decide) ?_
  refine jv_iconst (v := 4) dX8_of_6 (by decide) ?_
  refine jv_iloadn (j := 1) dX8_of_7 rfl ?_
  refine jv_imul dX8_of_8 ?_
  refine jv_iadd dX8_of_9 ?_
  refine jv_iloadn (j := 2) dX8_of_10 rfl ?_
  refine jv_iadd dX8_of_11 ?_
  refine hv_ialdC dX8_of_12 at_MO_1 (fun _ => ?_)
  exact vf_ret dX8_of_13 rfl
theorem c_X8_of {M : pm_M} {x1 : Int32} {x2 : Int32}  {r : Int32} {M' : pm_M} (h : f_X8_of M x1 x2 = some (r, M')) (l : Launch) (V : pm_V) : pm_Ci l V skD yX8_of mX8_of 1 [.ref (V.1 0), .int x1, .int x2] M r M' := pm_metI (by decide) rfl (Nat.le_of_ble_eq_true rfl) h (fun _ => w_X8_of M x1 x2 )
def lb_X8_keepAside_2  (ih : Int32 → pm_M → Option (pm_M)) : Int32 → pm_M → Option (pm_M) := fun (l1 : Int32) (Ml : pm_M) =>
  (if 86 ≤ l1 then (some Ml) else (pm_chk (pm_in l1 258) (pm_chk (pm_in l1 86) (pm_let (pm_up Ml 4 l1.toNatClampNeg (Ml 1 l1.toNatClampNeg)) (fun M3002 : pm_M => (ih (l1 + 1) M3002))))))
def lp_X8_keepAside_2  : Int32 → pm_M → Option (pm_M) := pm_it (fun _ _ => none) (lb_X8_keepAside_2 ) pm_F
def f_X8_keepAside (M : pm_M) : Option pm_M :=
  (pm_b1 (lp_X8_keepAside_2  0 M) (fun (M1 : pm_M) => (some M1)))
set_option maxHeartbeats 4000000 in
set_option maxRecDepth 100000 in
theorem wl_X8_keepAside_2 {X : pm_X} {V : pm_V}   : ∀ (l1 : Int32) (Ml : pm_M), pm_VF (lp_X8_keepAside_2  l1 Ml) (fun b => (fun (Ml : pm_M) => pm_J X V mX8_keepAside 1 (pm_wld V skD Ml) 26 [] []) b) (pm_J X V mX8_keepAside 1 (pm_wld V skD Ml) 2 [(0, .ref (V.1 0)), (1, .int l1)] []) := by
  refine pm_it_ind (P := fun (f : Int32 → pm_M → Option (pm_M)) => ∀ (l1 : Int32) (Ml : pm_M), pm_VF (f l1 Ml) (fun b => (fun (Ml : pm_M) => pm_J X V mX8_keepAside 1 (pm_wld V skD Ml) 26 [] []) b) (pm_J X V mX8_keepAside 1 (pm_wld V skD Ml) 2 [(0, .ref (V.1 0)), (1, .int l1)] [])) (fun _ _ => vf_none) (fun ih hih l1 Ml => ?_) pm_F
  · unfold lb_X8_keepAside_2
    refine jv_iloadn (j := 1) dX8_keepAside_2 rfl ?_
    refine jv_bipush (v := 86) dX8_keepAside_3 (by decide) ?_
    refine jw_ic_ge (tgt := 26) dX8_keepAside_5 rfl (fun c5 => ?_) (fun c5 => ?_)
    · exact vf_end (fun g => jr_sub [] rfl g)
    refine jv_aloadn (j := 0) dX8_keepAside_8 rfl ?_
    refine hv_getR dX8_keepAside_9 fl8_19 at_MO_0 rfl ?_
    refine jv_iloadn (j := 1) dX8_keepAside_12 rfl ?_
    refine jv_aloadn (j := 0) dX8_keepAside_13 rfl ?_
    refine hv_getR dX8_keepAside_14 fl8_7 at_MO_0 rfl ?_
    refine jv_iloadn (j := 1) dX8_keepAside_17 rfl ?_
    refine hv_ialdC dX8_keepAside_18 at_MO_1 (fun _ => ?_)
    refine hv_iastC dX8_keepAside_19 at_MO_4 (fun _ => ?_)
    refine vf_letM (fun M3002 => ?_)
    refine jv_iinc (j := 1) (v := l1 + 1) (L' := [(1, .int (l1 + 1)), (0, .ref (V.1 0))]) dX8_keepAside_20 rfl rfl (Nat.le_of_ble_eq_true rfl) rfl ?_
    refine jv_goto (tgt := 2) dX8_keepAside_23 rfl ?_
    exact vf_j (fun g => jr_sub [1, 0] rfl g) (hih (l1 + 1) M3002)
set_option maxHeartbeats 4000000 in
set_option maxRecDepth 100000 in
theorem w_X8_keepAside {X : pm_X} {V : pm_V} (M : pm_M)  : pm_VF (f_X8_keepAside M) (pm_Kv X V mX8_keepAside 1 skD) (pm_J X V mX8_keepAside 1 (pm_wld V skD M) 0 [(0, .ref (V.1 0))] []) := by
  unfold f_X8_keepAside
  refine jv_iconst (v := 0) dX8_keepAside_0 (by decide) ?_
  refine jv_istoren (L' := [(1, .int 0), (0, .ref (V.1 0))]) dX8_keepAside_1 (Nat.le_of_ble_eq_true rfl) rfl ?_
  refine vl_b1 (P := fun (Ml : pm_M) => pm_J X V mX8_keepAside 1 (pm_wld V skD Ml) 26 [] []) (vf_j (fun g => jr_sub [1, 0] rfl g) (wl_X8_keepAside_2   0 M)) ?_
  intro M1
  exact vf_vret dX8_keepAside_26
theorem c_X8_keepAside {M : pm_M}  {M' : pm_M} (h : f_X8_keepAside M = some M') (l : Launch) (V : pm_V) : pm_Cv l V skD yX8_keepAside mX8_keepAside 1 [.ref (V.1 0)] M M' := pm_metV (by decide) rfl (Nat.le_of_ble_eq_true rfl) rfl h (fun _ => w_X8_keepAside M )
def lb_X8_putBack_2  (ih : Int32 → pm_M → Option (pm_M)) : Int32 → pm_M → Option (pm_M) := fun (l1 : Int32) (Ml : pm_M) =>
  (if 86 ≤ l1 then (some Ml) else (pm_chk (pm_in l1 86) (pm_chk (pm_in l1 258) (pm_let (pm_up Ml 1 l1.toNatClampNeg (Ml 4 l1.toNatClampNeg)) (fun M3002 : pm_M => (ih (l1 + 1) M3002))))))
def lp_X8_putBack_2  : Int32 → pm_M → Option (pm_M) := pm_it (fun _ _ => none) (lb_X8_putBack_2 ) pm_F
def f_X8_putBack (M : pm_M) : Option pm_M :=
  (pm_b1 (lp_X8_putBack_2  0 M) (fun (M1 : pm_M) => (some M1)))
set_option maxHeartbeats 4000000 in
set_option maxRecDepth 100000 in
theorem wl_X8_putBack_2 {X : pm_X} {V : pm_V}   : ∀ (l1 : Int32) (Ml : pm_M), pm_VF (lp_X8_putBack_2  l1 Ml) (fun b => (fun (Ml : pm_M) => pm_J X V mX8_putBack 1 (pm_wld V skD Ml) 26 [] []) b) (pm_J X V mX8_putBack 1 (pm_wld V skD Ml) 2 [(0, .ref (V.1 0)), (1, .int l1)] []) := by
  refine pm_it_ind (P := fun (f : Int32 → pm_M → Option (pm_M)) => ∀ (l1 : Int32) (Ml : pm_M), pm_VF (f l1 Ml) (fun b => (fun (Ml : pm_M) => pm_J X V mX8_putBack 1 (pm_wld V skD Ml) 26 [] []) b) (pm_J X V mX8_putBack 1 (pm_wld V skD Ml) 2 [(0, .ref (V.1 0)), (1, .int l1)] [])) (fun _ _ => vf_none) (fun ih hih l1 Ml => ?_) pm_F
  · unfold lb_X8_putBack_2
    refine jv_iloadn (j := 1) dX8_putBack_2 rfl ?_
    refine jv_bipush (v := 86) dX8_putBack_3 (by decide) ?_
    refine jw_ic_ge (tgt := 26) dX8_putBack_5 rfl (fun c5 => ?_) (fun c5 => ?_)
    · exact vf_end (fun g => jr_sub [] rfl g)
    refine jv_aloadn (j := 0) dX8_putBack_8 rfl ?_
    refine hv_getR dX8_putBack_9 fl8_7 at_MO_0 rfl ?_
    refine jv_iloadn (j := 1) dX8_putBack_12 rfl ?_
    refine jv_aloadn (j := 0) dX8_putBack_13 rfl ?_
    refine hv_getR dX8_putBack_14 fl8_19 at_MO_0 rfl ?_
    refine jv_iloadn (j := 1) dX8_putBack_17 rfl ?_
    refine hv_ialdC dX8_putBack_18 at_MO_4 (fun _ => ?_)
    refine hv_iastC dX8_putBack_19 at_MO_1 (fun _ => ?_)
    refine vf_letM (fun M3002 => ?_)
    refine jv_iinc (j := 1) (v := l1 + 1) (L' := [(1, .int (l1 + 1)), (0, .ref (V.1 0))]) dX8_putBack_20 rfl rfl (Nat.le_of_ble_eq_true rfl) rfl ?_
    refine jv_goto (tgt := 2) dX8_putBack_23 rfl ?_
    exact vf_j (fun g => jr_sub [1, 0] rfl g) (hih (l1 + 1) M3002)
set_option maxHeartbeats 4000000 in
set_option maxRecDepth 100000 in
theorem w_X8_putBack {X : pm_X} {V : pm_V} (M : pm_M)  : pm_VF (f_X8_putBack M) (pm_Kv X V mX8_putBack 1 skD) (pm_J X V mX8_putBack 1 (pm_wld V skD M) 0 [(0, .ref (V.1 0))] []) := by
  unfold f_X8_putBack
  refine jv_iconst (v := 0) dX8_putBack_0 (by decide) ?_
  refine jv_istoren (L' := [(1, .int 0), (0, .ref (V.1 0))]) dX8_putBack_1 (Nat.le_of_ble_eq_true rfl) rfl ?_
  refine vl_b1 (P := fun (Ml : pm_M) => pm_J X V mX8_putBack 1 (pm_wld V skD Ml) 26 [] []) (vf_j (fun g => jr_sub [1, 0] rfl g) (wl_X8_putBack_2   0 M)) ?_
  intro M1
  exact vf_vret dX8_putBack_26
theorem c_X8_putBack {M : pm_M}  {M' : pm_M} (h : f_X8_putBack M = some M') (l : Launch) (V : pm_V) : pm_Cv l V skD yX8_putBack mX8_putBack 1 [.ref (V.1 0)] M M' := pm_metV (by decide) rfl (Nat.le_of_ble_eq_true rfl) rfl h (fun _ => w_X8_putBack M )
def f_X8_here (M : pm_M) : Option (Int32 × pm_M) :=
  (if (M 0 7) ≤ (M 0 6) then (some ((-1), M)) else (if 0 ≤ (M 0 8) then (some ((-1), M)) else (pm_chk (pm_in ((M 0 5) + (M 0 6)) 258) (some ((M 1 ((M 0 5) + (M 0 6)).toNatClampNeg), M)))))
set_option maxHeartbeats 4000000 in
set_option maxRecDepth 100000 in
theorem w_X8_here {X : pm_X} {V : pm_V} (M : pm_M)  : pm_VF (f_X8_here M) (pm_K X V mX8_here 1 skD) (pm_J X V mX8_here 1 (pm_wld V skD M) 0 [(0, .ref (V.1 0))] []) := by
  unfold f_X8_here
  refine jv_aloadn (j := 0) dX8_here_0 rfl ?_
  refine hv_getI dX8_here_1 fl8_48 at_MO_0 rfl ?_
  refine jv_aloadn (j := 0) dX8_here_4 rfl ?_
  refine hv_getI dX8_here_5 fl8_52 at_MO_0 rfl ?_
  refine jw_ic_ge (tgt := 35) dX8_here_8 rfl (fun c8 => ?_) (fun c8 => ?_)
  · refine jv_iconst (v := -1) dX8_here_35 (by decide) ?_
    exact vf_ret dX8_here_36 rfl
  refine jv_aloadn (j := 0) dX8_here_11 rfl ?_
  refine hv_getI dX8_here_12 fl8_55 at_MO_0 rfl ?_
  refine jw_if_ge (tgt := 35) dX8_here_15 rfl (fun c15 => ?_) (fun c15 => ?_)
  · refine jv_iconst (v := -1) dX8_here_35 (by decide) ?_
    exact vf_ret dX8_here_36 rfl
  refine jv_aloadn (j := 0) dX8_here_18 rfl ?_
  refine hv_getR dX8_here_19 fl8_7 at_MO_0 rfl ?_
  refine jv_aloadn (j := 0) dX8_here_22 rfl ?_
  refine hv_getI dX8_here_23 fl8_58 at_MO_0 rfl ?_
  refine jv_aloadn (j := 0) dX8_here_26 rfl ?_
  refine hv_getI dX8_here_27 fl8_48 at_MO_0 rfl ?_
  refine jv_iadd dX8_here_30 ?_
  refine hv_ialdC dX8_here_31 at_MO_1 (fun _ => ?_)
  refine jv_goto (tgt := 36) dX8_here_32 rfl ?_
  exact vf_ret dX8_here_36 rfl
theorem c_X8_here {M : pm_M}  {r : Int32} {M' : pm_M} (h : f_X8_here M = some (r, M')) (l : Launch) (V : pm_V) : pm_Ci l V skD yX8_here mX8_here 1 [.ref (V.1 0)] M r M' := pm_metI (by decide) rfl (Nat.le_of_ble_eq_true rfl) h (fun _ => w_X8_here M )
def f_X8_wrong (M : pm_M) : Option (Int32 × pm_M) :=
  (if 0 ≤ (M 0 8) then (pm_let (pm_up M 0 8 (M 0 8)) (fun M1 : pm_M => (some (0, M1)))) else (pm_let (pm_up M 0 8 (M 0 6)) (fun M2 : pm_M => (some (0, M2)))))
set_option maxHeartbeats 4000000 in
set_option maxRecDepth 100000 in
theorem w_X8_wrong {X : pm_X} {V : pm_V} (M : pm_M)  : pm_VF (f_X8_wrong M) (pm_K X V mX8_wrong 1 skD) (pm_J X V mX8_wrong 1 (pm_wld V skD M) 0 [(0, .ref (V.1 0))] []) := by
  unfold f_X8_wrong
  refine jv_aloadn (j := 0) dX8_wrong_0 rfl ?_
  refine jv_aloadn (j := 0) dX8_wrong_1 rfl ?_
  refine hv_getI dX8_wrong_2 fl8_55 at_MO_0 rfl ?_
  refine jw_if_ge (tgt := 15) dX8_wrong_5 rfl (fun c5 => ?_) (fun c5 => ?_)
  · refine jv_aloadn (j := 0) dX8_wrong_15 rfl ?_
    refine hv_getI dX8_wrong_16 fl8_55 at_MO_0 rfl ?_
    refine hv_put dX8_wrong_19 fp8_55 at_MO_0 rfl rfl rfl ?_
    refine vf_letM (fun M1 => ?_)
    refine jv_iconst (v := 0) dX8_wrong_22 (by decide) ?_
    exact vf_ret dX8_wrong_23 rfl
  refine jv_aloadn (j := 0) dX8_wrong_8 rfl ?_
  refine hv_getI dX8_wrong_9 fl8_48 at_MO_0 rfl ?_
  refine jv_goto (tgt := 19) dX8_wrong_12 rfl ?_
  refine hv_put dX8_wrong_19 fp8_55 at_MO_0 rfl rfl rfl ?_
  refine vf_letM (fun M2 => ?_)
  refine jv_iconst (v := 0) dX8_wrong_22 (by decide) ?_
  exact vf_ret dX8_wrong_23 rfl
theorem c_X8_wrong {M : pm_M}  {r : Int32} {M' : pm_M} (h : f_X8_wrong M = some (r, M')) (l : Launch) (V : pm_V) : pm_Ci l V skD yX8_wrong mX8_wrong 1 [.ref (V.1 0)] M r M' := pm_metI (by decide) rfl (Nat.le_of_ble_eq_true rfl) h (fun _ => w_X8_wrong M )
def f_X8_takes (M : pm_M) (x1 : Int32) : Option (Int32 × pm_M) :=
  (pm_b2 (f_X8_here M) (fun (r2 : Int32) (M1 : pm_M) => (if r2 = x1 then (pm_let (pm_up M1 0 6 ((M1 0 6) + 1)) (fun M3 : pm_M => (some (1, M3)))) else (some (0, M1)))))
set_option maxHeartbeats 4000000 in
set_option maxRecDepth 100000 in
theorem w_X8_takes {X : pm_X} {V : pm_V} (M : pm_M) (x1 : Int32)  : pm_VF (f_X8_takes M x1) (pm_K X V mX8_takes 2 skD) (pm_J X V mX8_takes 2 (pm_wld V skD M) 0 [(0, .ref (V.1 0)), (1, .int x1)] []) := by
  unfold f_X8_takes
  refine jv_aloadn (j := 0) dX8_takes_0 rfl ?_
  refine hv_callI (As := []) dX8_takes_1 lk8_61 kX8_here nX8_here (Nat.le_of_ble_eq_true rfl) (Nat.le_of_ble_eq_true rfl) at_MO_0 rfl rfl rfl (fun _ _ e l => c_X8_here  e l V) ?_
  intro r2 M1
  refine jv_iloadn (j := 1) dX8_takes_4 rfl ?_
  refine jw_ic_eq (tgt := 10) dX8_takes_5 rfl (fun c5 => ?_) (fun c5 => ?_)
  · refine jv_aloadn (j := 0) dX8_takes_10 rfl ?_
    refine jv_dup dX8_takes_11 rfl ?_
    refine hv_getI dX8_takes_12 fl8_48 at_MO_0 rfl ?_
    refine jv_iconst (v := 1) dX8_takes_15 (by decide) ?_
    refine jv_iadd dX8_takes_16 ?_
    refine hv_put dX8_takes_17 fp8_48 at_MO_0 rfl rfl rfl ?_
    refine vf_letM (fun M3 => ?_)
    refine jv_iconst (v := 1) dX8_takes_20 (by decide) ?_
    exact vf_zret dX8_takes_21 rfl (by decide)
  refine jv_iconst (v := 0) dX8_takes_8 (by decide) ?_
  exact vf_zret dX8_takes_9 rfl (by decide)
theorem c_X8_takes {M : pm_M} {x1 : Int32}  {r : Int32} {M' : pm_M} (h : f_X8_takes M x1 = some (r, M')) (l : Launch) (V : pm_V) : pm_Ci l V skD yX8_takes mX8_takes 2 [.ref (V.1 0), .int x1] M r M' := pm_metI (by decide) rfl (Nat.le_of_ble_eq_true rfl) h (fun _ => w_X8_takes M x1 )
def f_X8_nameOf (M : pm_M) (x1 : Int32) : Option (Int32 × pm_M) :=
  (if (M 0 10) = 0 then (if x1 = 119 then (some (0, M)) else (if x1 = 100 then (some (1, M)) else (if x1 = 109 then (some (2, M)) else (some ((-1), M))))) else (if x1 = 115 then (some (0, M)) else (if x1 = 114 then (some (1, M)) else (if x1 = 100 then (some (2, M)) else (some ((-1), M))))))
set_option maxHeartbeats 4000000 in
set_option maxRecDepth 100000 in
theorem w_X8_nameOf {X : pm_X} {V : pm_V} (M : pm_M) (x1 : Int32)  : pm_VF (f_X8_nameOf M x1) (pm_K X V mX8_nameOf 1 skD) (pm_J X V mX8_nameOf 1 (pm_wld V skD M) 0 [(0, .ref (V.1 0)), (1, .int x1)] []) := by
  unfold f_X8_nameOf
  refine jv_aloadn (j := 0) dX8_nameOf_0 rfl ?_
  refine hv_getI dX8_nameOf_1 fl8_65 at_MO_0 rfl ?_
  refine jw_if_eq (tgt := 39) dX8_nameOf_4 rfl (fun c4 => ?_) (fun c4 => ?_)
  · refine jv_iloadn (j := 1) dX8_nameOf_39 rfl ?_
    refine jv_bipush (v := 119) dX8_nameOf_40 (by decide) ?_
    refine jw_ic_ne (tgt := 49) dX8_nameOf_42 rfl (fun c42 => ?_) (fun c42 => ?_)
    · refine jv_iconst (v := 0) dX8_nameOf_45 (by decide) ?_
      refine jv_goto (tgt := 70) dX8_nameOf_46 rfl ?_
      exact vf_ret dX8_nameOf_70 rfl
    refine jv_iloadn (j := 1) dX8_nameOf_49 rfl ?_
    refine jv_bipush (v := 100) dX8_nameOf_50 (by decide) ?_
    refine jw_ic_ne (tgt := 59) dX8_nameOf_52 rfl (fun c52 => ?_) (fun c52 => ?_)
    · refine jv_iconst (v := 1) dX8_nameOf_55 (by decide) ?_
      refine jv_goto (tgt := 70) dX8_nameOf_56 rfl ?_
      exact vf_ret dX8_nameOf_70 rfl
    refine jv_iloadn (j := 1) dX8_nameOf_59 rfl ?_
    refine jv_bipush (v := 109) dX8_nameOf_60 (by decide) ?_
    refine jw_ic_ne (tgt := 69) dX8_nameOf_62 rfl (fun c62 => ?_) (fun c62 => ?_)
    · refine jv_iconst (v := 2) dX8_nameOf_65 (by decide) ?_
      refine jv_goto (tgt := 70) dX8_nameOf_66 rfl ?_
      exact vf_ret dX8_nameOf_70 rfl
    refine jv_iconst (v := -1) dX8_nameOf_69 (by decide) ?_
    exact vf_ret dX8_nameOf_70 rfl
  refine jv_iloadn (j := 1) dX8_nameOf_7 rfl ?_
  refine jv_bipush (v := 115) dX8_nameOf_8 (by decide) ?_
  refine jw_ic_ne (tgt := 17) dX8_nameOf_10 rfl (fun c10 => ?_) (fun c10 => ?_)
  · refine jv_iconst (v := 0) dX8_nameOf_13 (by decide) ?_
    refine jv_goto (tgt := 38) dX8_nameOf_14 rfl ?_
    exact vf_ret dX8_nameOf_38 rfl
  refine jv_iloadn (j := 1) dX8_nameOf_17 rfl ?_
  refine jv_bipush (v := 114) dX8_nameOf_18 (by decide) ?_
  refine jw_ic_ne (tgt := 27) dX8_nameOf_20 rfl (fun c20 => ?_) (fun c20 => ?_)
  · refine jv_iconst (v := 1) dX8_nameOf_23 (by decide) ?_
    refine jv_goto (tgt := 38) dX8_nameOf_24 rfl ?_
    exact vf_ret dX8_nameOf_38 rfl
  refine jv_iloadn (j := 1) dX8_nameOf_27 rfl ?_
  refine jv_bipush (v := 100) dX8_nameOf_28 (by decide) ?_
  refine jw_ic_ne (tgt := 37) dX8_nameOf_30 rfl (fun c30 => ?_) (fun c30 => ?_)
  · refine jv_iconst (v := 2) dX8_nameOf_33 (by decide) ?_
    refine jv_goto (tgt := 38) dX8_nameOf_34 rfl ?_
    exact vf_ret dX8_nameOf_38 rfl
  refine jv_iconst (v := -1) dX8_nameOf_37 (by decide) ?_
  exact vf_ret dX8_nameOf_38 rfl
theorem c_X8_nameOf {M : pm_M} {x1 : Int32}  {r : Int32} {M' : pm_M} (h : f_X8_nameOf M x1 = some (r, M')) (l : Launch) (V : pm_V) : pm_Ci l V skD yX8_nameOf mX8_nameOf 1 [.ref (V.1 0), .int x1] M r M' := pm_metI (by decide) rfl (Nat.le_of_ble_eq_true rfl) h (fun _ => w_X8_nameOf M x1 )
abbrev GT_X8_either : Type := (pm_M → Option (Int32 × pm_M)) × (pm_M → Option (Int32 × pm_M)) × (pm_M → Option (Int32 × pm_M)) × (pm_M → Option (Int32 × pm_M)) × (pm_M → Option (Int32 × pm_M)) × (pm_M → Option (Int32 × pm_M))
def lb_X8_either_5 (r : GT_X8_either)  (ih : Int32 → pm_M → Option (Int32 × pm_M)) : Int32 → pm_M → Option (Int32 × pm_M) := fun (l1 : Int32) (Ml : pm_M) =>
  (pm_b2 (f_X8_takes Ml 124) (fun (r6003 : Int32) (M6002 : pm_M) => (if r6003 = 0 then (some (l1, M6002)) else (pm_b2 (r.2.1 M6002) (fun (r6005 : Int32) (M6004 : pm_M) => (if l1 = 0 then (if r6005 = 0 then (ih 0 M6004) else (ih 1 M6004)) else (ih 1 M6004)))))))
def lp_X8_either_5 (r : GT_X8_either)  : Int32 → pm_M → Option (Int32 × pm_M) := pm_it (fun _ _ => none) (lb_X8_either_5 r ) pm_F
def rb_X8_either (r : GT_X8_either) : pm_M → Option (Int32 × pm_M) := fun M =>
  (pm_b2 (r.2.1 M) (fun (r2 : Int32) (M1 : pm_M) => (pm_b2 (lp_X8_either_5 r  r2 M1) (fun (l3 : Int32) (M4 : pm_M) => (some (l3, M4))))))
def lb_X8_both_5 (r : GT_X8_either)  (ih : Int32 → pm_M → Option (Int32 × pm_M)) : Int32 → pm_M → Option (Int32 × pm_M) := fun (l1 : Int32) (Ml : pm_M) =>
  (pm_b2 (f_X8_takes Ml 38) (fun (r6003 : Int32) (M6002 : pm_M) => (if r6003 = 0 then (some (l1, M6002)) else (pm_b2 (r.2.2.1 M6002) (fun (r6005 : Int32) (M6004 : pm_M) => (if l1 = 0 then (ih 0 M6004) else (if r6005 = 0 then (ih 0 M6004) else (ih 1 M6004))))))))
def lp_X8_both_5 (r : GT_X8_either)  : Int32 → pm_M → Option (Int32 × pm_M) := pm_it (fun _ _ => none) (lb_X8_both_5 r ) pm_F
def rb_X8_both (r : GT_X8_either) : pm_M → Option (Int32 × pm_M) := fun M =>
  (pm_b2 (r.2.2.1 M) (fun (r2 : Int32) (M1 : pm_M) => (pm_b2 (lp_X8_both_5 r  r2 M1) (fun (l3 : Int32) (M4 : pm_M) => (some (l3, M4))))))
def rb_X8_compared (r : GT_X8_either) : pm_M → Option (Int32 × pm_M) := fun M =>
  (pm_b2 (r.2.2.2.1 M) (fun (r2 : Int32) (M1 : pm_M) => (pm_b2 (f_X8_here M1) (fun (r4 : Int32) (M3 : pm_M) => (if r4 = 60 then (pm_let (pm_up M3 0 6 ((M3 0 6) + 1)) (fun M5 : pm_M => (pm_b2 (r.2.2.2.1 M5) (fun (r7 : Int32) (M6 : pm_M) => (if r4 = 60 then (if r7 ≤ r2 then (some (0, M6)) else (some (1, M6))) else (if r4 = 61 then (if r2 = r7 then (some (1, M6)) else (some (0, M6))) else (if r2 ≤ r7 then (some (0, M6)) else (some (1, M6))))))))) else (if r4 = 61 then (pm_let (pm_up M3 0 6 ((M3 0 6) + 1)) (fun M8 : pm_M => (pm_b2 (r.2.2.2.1 M8) (fun (r10 : Int32) (M9 : pm_M) => (if r4 = 60 then (if r10 ≤ r2 then (some (0, M9)) else (some (1, M9))) else (if r4 = 61 then (if r2 = r10 then (some (1, M9)) else (some (0, M9))) else (if r2 ≤ r10 then (some (0, M9)) else (some (1, M9))))))))) else (if r4 = 62 then (pm_let (pm_up M3 0 6 ((M3 0 6) + 1)) (fun M11 : pm_M => (pm_b2 (r.2.2.2.1 M11) (fun (r13 : Int32) (M12 : pm_M) => (if r4 = 60 then (if r13 ≤ r2 then (some (0, M12)) else (some (1, M12))) else (if r4 = 61 then (if r2 = r13 then (some (1, M12)) else (some (0, M12))) else (if r2 ≤ r13 then (some (0, M12)) else (some (1, M12))))))))) else (some (r2, M3)))))))))
def lb_X8_sum_5 (r : GT_X8_either)  (ih : Int32 → pm_M → Option (Int32 × pm_M)) : Int32 → pm_M → Option (Int32 × pm_M) := fun (l1 : Int32) (Ml : pm_M) =>
  (pm_b2 (f_X8_here Ml) (fun (r6003 : Int32) (M6002 : pm_M) => (if r6003 = 43 then (pm_b2 (f_X8_here M6002) (fun (r6005 : Int32) (M6004 : pm_M) => (pm_let (pm_up M6004 0 6 ((M6004 0 6) + 1)) (fun M6006 : pm_M => (pm_b2 (r.2.2.2.2.1 M6006) (fun (r6008 : Int32) (M6007 : pm_M) => (if r6005 = 43 then (pm_let (l1 + r6008) (fun z6009 : Int32 => (ih z6009 M6007))) else (pm_let (l1 - r6008) (fun z6010 : Int32 => (ih z6010 M6007)))))))))) else (pm_b2 (f_X8_here M6002) (fun (r6012 : Int32) (M6011 : pm_M) => (if r6012 = 45 then (pm_b2 (f_X8_here M6011) (fun (r6014 : Int32) (M6013 : pm_M) => (pm_let (pm_up M6013 0 6 ((M6013 0 6) + 1)) (fun M6015 : pm_M => (pm_b2 (r.2.2.2.2.1 M6015) (fun (r6017 : Int32) (M6016 : pm_M) => (if r6014 = 43 then (pm_let (l1 + r6017) (fun z6018 : Int32 => (ih z6018 M6016))) else (pm_let (l1 - r6017) (fun z6019 : Int32 => (ih z6019 M6016)))))))))) else (some (l1, M6011))))))))
def lp_X8_sum_5 (r : GT_X8_either)  : Int32 → pm_M → Option (Int32 × pm_M) := pm_it (fun _ _ => none) (lb_X8_sum_5 r ) pm_F
def rb_X8_sum (r : GT_X8_either) : pm_M → Option (Int32 × pm_M) := fun M =>
  (pm_b2 (r.2.2.2.2.1 M) (fun (r2 : Int32) (M1 : pm_M) => (pm_b2 (lp_X8_sum_5 r  r2 M1) (fun (l3 : Int32) (M4 : pm_M) => (some (l3, M4))))))
def lb_X8_product_5 (r : GT_X8_either)  (ih : Int32 → pm_M → Option (Int32 × pm_M)) : Int32 → pm_M → Option (Int32 × pm_M) := fun (l1 : Int32) (Ml : pm_M) =>
  (pm_b2 (f_X8_here Ml) (fun (r6003 : Int32) (M6002 : pm_M) => (if r6003 = 42 then (pm_b2 (f_X8_here M6002) (fun (r6005 : Int32) (M6004 : pm_M) => (pm_let (pm_up M6004 0 6 ((M6004 0 6) + 1)) (fun M6006 : pm_M => (pm_b2 (r.2.2.2.2.2 M6006) (fun (r6008 : Int32) (M6007 : pm_M) => (if r6005 = 42 then (pm_let (l1 * r6008) (fun z6009 : Int32 => (ih z6009 M6007))) else (if r6008 = 0 then (ih 0 M6007) else (if r6005 = 47 then (pm_chk (pm_nz r6008) (pm_let (l1 / r6008) (fun z6010 : Int32 => (ih z6010 M6007)))) else (pm_chk (pm_nz r6008) (pm_let (pm_rem l1 r6008) (fun z6011 : Int32 => (ih z6011 M6007))))))))))))) else (pm_b2 (f_X8_here M6002) (fun (r6013 : Int32) (M6012 : pm_M) => (if r6013 = 47 then (pm_b2 (f_X8_here M6012) (fun (r6015 : Int32) (M6014 : pm_M) => (pm_let (pm_up M6014 0 6 ((M6014 0 6) + 1)) (fun M6016 : pm_M => (pm_b2 (r.2.2.2.2.2 M6016) (fun (r6018 : Int32) (M6017 : pm_M) => (if r6015 = 42 then (pm_let (l1 * r6018) (fun z6019 : Int32 => (ih z6019 M6017))) else (if r6018 = 0 then (ih 0 M6017) else (if r6015 = 47 then (pm_chk (pm_nz r6018) (pm_let (l1 / r6018) (fun z6020 : Int32 => (ih z6020 M6017)))) else (pm_chk (pm_nz r6018) (pm_let (pm_rem l1 r6018) (fun z6021 : Int32 => (ih z6021 M6017))))))))))))) else (pm_b2 (f_X8_here M6012) (fun (r6023 : Int32) (M6022 : pm_M) => (if r6023 = 37 then (pm_b2 (f_X8_here M6022) (fun (r6025 : Int32) (M6024 : pm_M) => (pm_let (pm_up M6024 0 6 ((M6024 0 6) + 1)) (fun M6026 : pm_M => (pm_b2 (r.2.2.2.2.2 M6026) (fun (r6028 : Int32) (M6027 : pm_M) => (if r6025 = 42 then (pm_let (l1 * r6028) (fun z6029 : Int32 => (ih z6029 M6027))) else (if r6028 = 0 then (ih 0 M6027) else (if r6025 = 47 then (pm_chk (pm_nz r6028) (pm_let (l1 / r6028) (fun z6030 : Int32 => (ih z6030 M6027)))) else (pm_chk (pm_nz r6028) (pm_let (pm_rem l1 r6028) (fun z6031 : Int32 => (ih z6031 M6027))))))))))))) else (some (l1, M6022)))))))))))
def lp_X8_product_5 (r : GT_X8_either)  : Int32 → pm_M → Option (Int32 × pm_M) := pm_it (fun _ _ => none) (lb_X8_product_5 r ) pm_F
def rb_X8_product (r : GT_X8_either) : pm_M → Option (Int32 × pm_M) := fun M =>
  (pm_b2 (r.2.2.2.2.2 M) (fun (r2 : Int32) (M1 : pm_M) => (pm_b2 (lp_X8_product_5 r  r2 M1) (fun (l3 : Int32) (M4 : pm_M) => (some (l3, M4))))))
def lb_X8_unit_150 (r : GT_X8_either)  (ih : Int32 → Int32 → pm_M → Option (Int32 × Int32 × pm_M)) : Int32 → Int32 → pm_M → Option (Int32 × Int32 × pm_M) := fun (l3 : Int32) (l4 : Int32) (Ml : pm_M) =>
  (if 4 ≤ l4 then (some (l3, l4, Ml)) else (pm_b2 (f_X8_here Ml) (fun (r151003 : Int32) (M151002 : pm_M) => (pm_b2 (f_X8_in M151002 (r151003.toInt64) 48 57) (fun (r151005 : Int32) (M151004 : pm_M) => (if r151005 = 0 then (some (l3, l4, M151004)) else (pm_b2 (f_X8_here M151004) (fun (r151007 : Int32) (M151006 : pm_M) => (pm_let (((10 * l3) + r151007) - 48) (fun z151008 : Int32 => (pm_let (pm_up M151006 0 6 ((M151006 0 6) + 1)) (fun M151009 : pm_M => (ih z151008 (l4 + 1) M151009)))))))))))))
def lp_X8_unit_150 (r : GT_X8_either)  : Int32 → Int32 → pm_M → Option (Int32 × Int32 × pm_M) := pm_it (fun _ _ _ => none) (lb_X8_unit_150 r ) pm_F
def rb_X8_unit (r : GT_X8_either) : pm_M → Option (Int32 × pm_M) := fun M =>
  (pm_b2 (f_X8_here M) (fun (r2 : Int32) (M1 : pm_M) => (if r2 = 33 then (if (M1 0 9) = 5 then (pm_b2 (f_X8_wrong M1) (fun (r4 : Int32) (M3 : pm_M) => (some (r4, M3)))) else (pm_let (pm_up M1 0 9 ((M1 0 9) + 1)) (fun M5 : pm_M => (pm_let (pm_up M5 0 6 ((M5 0 6) + 1)) (fun M6 : pm_M => (if r2 = 40 then (pm_b2 (r.1 M6) (fun (r8 : Int32) (M7 : pm_M) => (if r2 = 40 then (pm_b2 (f_X8_takes M7 41) (fun (r10 : Int32) (M9 : pm_M) => (if r10 = 0 then (pm_b2 (f_X8_wrong M9) (fun (r12 : Int32) (M11 : pm_M) => (some (r12, M11)))) else (pm_let (pm_up M9 0 9 ((M9 0 9) - 1)) (fun M13 : pm_M => (if r2 = 40 then (some (r8, M13)) else (if r8 = 0 then (some (1, M13)) else (some (0, M13))))))))) else (pm_let (pm_up M7 0 9 ((M7 0 9) - 1)) (fun M14 : pm_M => (if r2 = 40 then (some (r8, M14)) else (if r8 = 0 then (some (1, M14)) else (some (0, M14))))))))) else (pm_b2 (r.2.2.2.2.2 M6) (fun (r16 : Int32) (M15 : pm_M) => (if r2 = 40 then (pm_b2 (f_X8_takes M15 41) (fun (r18 : Int32) (M17 : pm_M) => (if r18 = 0 then (pm_b2 (f_X8_wrong M17) (fun (r20 : Int32) (M19 : pm_M) => (some (r20, M19)))) else (pm_let (pm_up M17 0 9 ((M17 0 9) - 1)) (fun M21 : pm_M => (if r2 = 40 then (some (r16, M21)) else (if r16 = 0 then (some (1, M21)) else (some (0, M21))))))))) else (pm_let (pm_up M15 0 9 ((M15 0 9) - 1)) (fun M22 : pm_M => (if r2 = 40 then (some (r16, M22)) else (if r16 = 0 then (some (1, M22)) else (some (0, M22))))))))))))))) else (if r2 = 40 then (if (M1 0 9) = 5 then (pm_b2 (f_X8_wrong M1) (fun (r24 : Int32) (M23 : pm_M) => (some (r24, M23)))) else (pm_let (pm_up M1 0 9 ((M1 0 9) + 1)) (fun M25 : pm_M => (pm_let (pm_up M25 0 6 ((M25 0 6) + 1)) (fun M26 : pm_M => (if r2 = 40 then (pm_b2 (r.1 M26) (fun (r28 : Int32) (M27 : pm_M) => (if r2 = 40 then (pm_b2 (f_X8_takes M27 41) (fun (r30 : Int32) (M29 : pm_M) => (if r30 = 0 then (pm_b2 (f_X8_wrong M29) (fun (r32 : Int32) (M31 : pm_M) => (some (r32, M31)))) else (pm_let (pm_up M29 0 9 ((M29 0 9) - 1)) (fun M33 : pm_M => (if r2 = 40 then (some (r28, M33)) else (if r28 = 0 then (some (1, M33)) else (some (0, M33))))))))) else (pm_let (pm_up M27 0 9 ((M27 0 9) - 1)) (fun M34 : pm_M => (if r2 = 40 then (some (r28, M34)) else (if r28 = 0 then (some (1, M34)) else (some (0, M34))))))))) else (pm_b2 (r.2.2.2.2.2 M26) (fun (r36 : Int32) (M35 : pm_M) => (if r2 = 40 then (pm_b2 (f_X8_takes M35 41) (fun (r38 : Int32) (M37 : pm_M) => (if r38 = 0 then (pm_b2 (f_X8_wrong M37) (fun (r40 : Int32) (M39 : pm_M) => (some (r40, M39)))) else (pm_let (pm_up M37 0 9 ((M37 0 9) - 1)) (fun M41 : pm_M => (if r2 = 40 then (some (r36, M41)) else (if r36 = 0 then (some (1, M41)) else (some (0, M41))))))))) else (pm_let (pm_up M35 0 9 ((M35 0 9) - 1)) (fun M42 : pm_M => (if r2 = 40 then (some (r36, M42)) else (if r36 = 0 then (some (1, M42)) else (some (0, M42))))))))))))))) else (pm_b2 (f_X8_nameOf M1 r2) (fun (r44 : Int32) (M43 : pm_M) => (if r44 < 0 then (pm_b3 (lp_X8_unit_150 r  0 0 M43) (fun (l45 : Int32) (l46 : Int32) (M47 : pm_M) => (if l46 = 0 then (pm_b2 (f_X8_wrong M47) (fun (r49 : Int32) (M48 : pm_M) => (some (r49, M48)))) else (some (l45, M47))))) else (pm_let (pm_up M43 0 6 ((M43 0 6) + 1)) (fun M50 : pm_M => (pm_chk (pm_in r44 3) (some ((M50 5 r44.toNatClampNeg), M50))))))))))))
def fG_X8_either : Nat → GT_X8_either := pm_it ((fun _ => none, fun _ => none, fun _ => none, fun _ => none, fun _ => none, fun _ => none)) (fun r => (rb_X8_either r, rb_X8_both r, rb_X8_compared r, rb_X8_sum r, rb_X8_product r, rb_X8_unit r))
def GP_X8_either (n : Nat) (r : GT_X8_either) : Prop := (∀ (M : pm_M) (x : Int32) (M' : pm_M), r.1 M = some (x, M') → ∀ (l : Launch) (V : pm_V), pm_Ci l V skD yX8_either mX8_either (3 + n) [.ref (V.1 0)] M x M') ∧ (∀ (M : pm_M) (x : Int32) (M' : pm_M), r.2.1 M = some (x, M') → ∀ (l : Launch) (V : pm_V), pm_Ci l V skD yX8_both mX8_both (3 + n) [.ref (V.1 0)] M x M') ∧ (∀ (M : pm_M) (x : Int32) (M' : pm_M), r.2.2.1 M = some (x, M') → ∀ (l : Launch) (V : pm_V), pm_Ci l V skD yX8_compared mX8_compared (3 + n) [.ref (V.1 0)] M x M') ∧ (∀ (M : pm_M) (x : Int32) (M' : pm_M), r.2.2.2.1 M = some (x, M') → ∀ (l : Launch) (V : pm_V), pm_Ci l V skD yX8_sum mX8_sum (3 + n) [.ref (V.1 0)] M x M') ∧ (∀ (M : pm_M) (x : Int32) (M' : pm_M), r.2.2.2.2.1 M = some (x, M') → ∀ (l : Launch) (V : pm_V), pm_Ci l V skD yX8_product mX8_product (3 + n) [.ref (V.1 0)] M x M') ∧ (∀ (M : pm_M) (x : Int32) (M' : pm_M), r.2.2.2.2.2 M = some (x, M') → ∀ (l : Launch) (V : pm_V), pm_Ci l V skD yX8_unit mX8_unit (3 + n) [.ref (V.1 0)] M x M')
set_option maxHeartbeats 4000000 in
set_option maxRecDepth 100000 in
theorem wl_X8_either_5 {X : pm_X} {V : pm_V} {n : Nat} {r : GT_X8_either} (hr : GP_X8_either n r)   : ∀ (l1 : Int32) (Ml : pm_M), pm_VF (lp_X8_either_5 r  l1 Ml) (fun b => (fun (l1 : Int32) (Ml : pm_M) => pm_J X V mX8_either (3 + (n + 1)) (pm_wld V skD Ml) 36 [(1, .int l1)] []) b.1 b.2) (pm_J X V mX8_either (3 + (n + 1)) (pm_wld V skD Ml) 5 [(0, .ref (V.1 0)), (1, .int l1)] []) := by
  refine pm_it_ind (P := fun (f : Int32 → pm_M → Option (Int32 × pm_M)) => ∀ (l1 : Int32) (Ml : pm_M), pm_VF (f l1 Ml) (fun b => (fun (l1 : Int32) (Ml : pm_M) => pm_J X V mX8_either (3 + (n + 1)) (pm_wld V skD Ml) 36 [(1, .int l1)] []) b.1 b.2) (pm_J X V mX8_either (3 + (n + 1)) (pm_wld V skD Ml) 5 [(0, .ref (V.1 0)), (1, .int l1)] [])) (fun _ _ => vf_none) (fun ih hih l1 Ml => ?_) pm_F
  · unfold lb_X8_either_5
    refine jv_aloadn (j := 0) dX8_either_5 rfl ?_
    refine jv_bipush (v := 124) dX8_either_6 (by decide) ?_
    refine hv_callI (As := [.int 124]) dX8_either_8 lk8_72 kX8_takes nX8_takes (by omega) (Nat.le_of_ble_eq_true rfl) at_MO_0 rfl rfl rfl (fun _ _ e l => c_X8_takes  e l V) ?_
    intro r6003 M6002
    refine jw_if_eq (tgt := 36) dX8_either_11 rfl (fun c11 => ?_) (fun c11 => ?_)
    · exact vf_end (fun g => jr_sub [1] rfl g)
    refine jv_aloadn (j := 0) dX8_either_14 rfl ?_
    refine hv_callI (As := []) dX8_either_15 lk8_69 kX8_both nX8_both (by omega) (Nat.le_of_ble_eq_true rfl) at_MO_0 rfl rfl rfl (fun _ _ e l => hr.2.1  _  _ _ e l V) ?_
    intro r6005 M6004
    refine jv_istoren (L' := [(2, .int r6005), (0, .ref (V.1 0)), (1, .int l1)]) dX8_either_18 (Nat.le_of_ble_eq_true rfl) rfl ?_
    refine jv_iloadn (j := 2) dX8_either_19 rfl ?_
    refine jw_if_ne (tgt := 27) dX8_either_20 rfl (fun c20 => ?_) (fun c20 => ?_)
    · refine jv_iloadn (j := 0) dX8_either_23 rfl ?_
      refine jw_if_eq (tgt := 31) dX8_either_24 rfl (fun c24 => ?_) (fun c24 => ?_)
      · refine jv_iconst (v := 0) dX8_either_31 (by decide) ?_
        refine jv_istoren (L' := [(1, .int 0), (2, .int r6005), (0, .ref (V.1 0))]) dX8_either_32 (Nat.le_of_ble_eq_true rfl) rfl ?_
        refine jv_goto (tgt := 5) dX8_either_33 rfl ?_
        exact vf_j (fun g => jr_sub [2, 0] rfl g) (hih 0 M6004)
      refine jv_iconst (v := 1) dX8_either_27 (by decide) ?_
      refine jv_goto (tgt := 32) dX8_either_28 rfl ?_
      refine jv_istoren (L' := [(1, .int 1), (2, .int r6005), (0, .ref (V.1 0))]) dX8_either_32 (Nat.le_of_ble_eq_true rfl) rfl ?_
      refine jv_goto (tgt := 5) dX8_either_33 rfl ?_
      exact vf_j (fun g => jr_sub [2, 0] rfl g) (hih 1 M6004)
    refine jv_iconst (v := 1) dX8_either_27 (by decide) ?_
    refine jv_goto (tgt := 32) dX8_either_28 rfl ?_
    refine jv_istoren (L' := [(1, .int 1), (2, .int r6005), (0, .ref (V.1 0))]) dX8_either_32 (Nat.le_of_ble_eq_true rfl) rfl ?_
    refine jv_goto (tgt := 5) dX8_either_33 rfl ?_
    exact vf_j (fun g => jr_sub [2, 0] rfl g) (hih 1 M6004)
set_option maxHeartbeats 4000000 in
set_option maxRecDepth 100000 in
theorem w_X8_either {X : pm_X} {V : pm_V} {n : Nat} {r : GT_X8_either} (hr : GP_X8_either n r) (M : pm_M)  : pm_VF (rb_X8_either r M) (pm_K X V mX8_either (3 + (n + 1)) skD) (pm_J X V mX8_either (3 + (n + 1)) (pm_wld V skD M) 0 [(0, .ref (V.1 0))] []) := by
  unfold rb_X8_either
  refine jv_aloadn (j := 0) dX8_either_0 rfl ?_
  refine hv_callI (As := []) dX8_either_1 lk8_69 kX8_both nX8_both (by omega) (Nat.le_of_ble_eq_true rfl) at_MO_0 rfl rfl rfl (fun _ _ e l => hr.2.1  _  _ _ e l V) ?_
  intro r2 M1
  refine jv_istoren (L' := [(1, .int r2), (0, .ref (V.1 0))]) dX8_either_4 (Nat.le_of_ble_eq_true rfl) rfl ?_
  refine vl_b2 (P := fun (l1 : Int32) (Ml : pm_M) => pm_J X V mX8_either (3 + (n + 1)) (pm_wld V skD Ml) 36 [(1, .int l1)] []) (vf_j (fun g => jr_sub [1, 0] rfl g) (wl_X8_either_5 hr   r2 M1)) ?_
  intro l3 M4
  refine jv_iloadn (j := 0) dX8_either_36 rfl ?_
  exact vf_ret dX8_either_37 rfl
set_option maxHeartbeats 4000000 in
set_option maxRecDepth 100000 in
theorem wl_X8_both_5 {X : pm_X} {V : pm_V} {n : Nat} {r : GT_X8_either} (hr : GP_X8_either n r)   : ∀ (l1 : Int32) (Ml : pm_M), pm_VF (lp_X8_both_5 r  l1 Ml) (fun b => (fun (l1 : Int32) (Ml : pm_M) => pm_J X V mX8_both (3 + (n + 1)) (pm_wld V skD Ml) 36 [(1, .int l1)] []) b.1 b.2) (pm_J X V mX8_both (3 + (n + 1)) (pm_wld V skD Ml) 5 [(0, .ref (V.1 0)), (1, .int l1)] []) := by
  refine pm_it_ind (P := fun (f : Int32 → pm_M → Option (Int32 × pm_M)) => ∀ (l1 : Int32) (Ml : pm_M), pm_VF (f l1 Ml) (fun b => (fun (l1 : Int32) (Ml : pm_M) => pm_J X V mX8_both (3 + (n + 1)) (pm_wld V skD Ml) 36 [(1, .int l1)] []) b.1 b.2) (pm_J X V mX8_both (3 + (n + 1)) (pm_wld V skD Ml) 5 [(0, .ref (V.1 0)), (1, .int l1)] [])) (fun _ _ => vf_none) (fun ih hih l1 Ml => ?_) pm_F
  · unfold lb_X8_both_5
    refine jv_aloadn (j := 0) dX8_both_5 rfl ?_
    refine jv_bipush (v := 38) dX8_both_6 (by decide) ?_
    refine hv_callI (As := [.int 38]) dX8_both_8 lk8_72 kX8_takes nX8_takes (by omega) (Nat.le_of_ble_eq_true rfl) at_MO_0 rfl rfl rfl (fun _ _ e l => c_X8_takes  e l V) ?_
    intro r6003 M6002
    refine jw_if_eq (tgt := 36) dX8_both_11 rfl (fun c11 => ?_) (fun c11 => ?_)
    · exact vf_end (fun g => jr_sub [1] rfl g)
    refine jv_aloadn (j := 0) dX8_both_14 rfl ?_
    refine hv_callI (As := []) dX8_both_15 lk8_76 kX8_compared nX8_compared (by omega) (Nat.le_of_ble_eq_true rfl) at_MO_0 rfl rfl rfl (fun _ _ e l => hr.2.2.1  _  _ _ e l V) ?_
    intro r6005 M6004
    refine jv_istoren (L' := [(2, .int r6005), (0, .ref (V.1 0)), (1, .int l1)]) dX8_both_18 (Nat.le_of_ble_eq_true rfl) rfl ?_
    refine jv_iloadn (j := 2) dX8_both_19 rfl ?_
    refine jw_if_eq (tgt := 31) dX8_both_20 rfl (fun c20 => ?_) (fun c20 => ?_)
    · refine jv_iconst (v := 0) dX8_both_31 (by decide) ?_
      refine jv_istoren (L' := [(1, .int 0), (2, .int r6005), (0, .ref (V.1 0))]) dX8_both_32 (Nat.le_of_ble_eq_true rfl) rfl ?_
      refine jv_goto (tgt := 5) dX8_both_33 rfl ?_
      exact vf_j (fun g => jr_sub [2, 0] rfl g) (hih 0 M6004)
    refine jv_iloadn (j := 0) dX8_both_23 rfl ?_
    refine jw_if_eq (tgt := 31) dX8_both_24 rfl (fun c24 => ?_) (fun c24 => ?_)
    · refine jv_iconst (v := 0) dX8_both_31 (by decide) ?_
      refine jv_istoren (L' := [(1, .int 0), (2, .int r6005), (0, .ref (V.1 0))]) dX8_both_32 (Nat.le_of_ble_eq_true rfl) rfl ?_
      refine jv_goto (tgt := 5) dX8_both_33 rfl ?_
      exact vf_j (fun g => jr_sub [2, 0] rfl g) (hih 0 M6004)
    refine jv_iconst (v := 1) dX8_both_27 (by decide) ?_
    refine jv_goto (tgt := 32) dX8_both_28 rfl ?_
    refine jv_istoren (L' := [(1, .int 1), (2, .int r6005), (0, .ref (V.1 0))]) dX8_both_32 (Nat.le_of_ble_eq_true rfl) rfl ?_
    refine jv_goto (tgt := 5) dX8_both_33 rfl ?_
    exact vf_j (fun g => jr_sub [2, 0] rfl g) (hih 1 M6004)
set_option maxHeartbeats 4000000 in
set_option maxRecDepth 100000 in
theorem w_X8_both {X : pm_X} {V : pm_V} {n : Nat} {r : GT_X8_either} (hr : GP_X8_either n r) (M : pm_M)  : pm_VF (rb_X8_both r M) (pm_K X V mX8_both (3 + (n + 1)) skD) (pm_J X V mX8_both (3 + (n + 1)) (pm_wld V skD M) 0 [(0, .ref (V.1 0))] []) := by
  unfold rb_X8_both
  refine jv_aloadn (j := 0) dX8_both_0 rfl ?_
  refine hv_callI (As := []) dX8_both_1 lk8_76 kX8_compared nX8_compared (by omega) (Nat.le_of_ble_eq_true rfl) at_MO_0 rfl rfl rfl (fun _ _ e l => hr.2.2.1  _  _ _ e l V) ?_
  intro r2 M1
  refine jv_istoren (L' := [(1, .int r2), (0, .ref (V.1 0))]) dX8_both_4 (Nat.le_of_ble_eq_true rfl) rfl ?_
  refine vl_b2 (P := fun (l1 : Int32) (Ml : pm_M) => pm_J X V mX8_both (3 + (n + 1)) (pm_wld V skD Ml) 36 [(1, .int l1)] []) (vf_j (fun g => jr_sub [1, 0] rfl g) (wl_X8_both_5 hr   r2 M1)) ?_
  intro l3 M4
  refine jv_iloadn (j := 0) dX8_both_36 rfl ?_
  exact vf_ret dX8_both_37 rfl
set_option maxHeartbeats 4000000 in
set_option maxRecDepth 100000 in
theorem w_X8_compared {X : pm_X} {V : pm_V} {n : Nat} {r : GT_X8_either} (hr : GP_X8_either n r) (M : pm_M)  : pm_VF (rb_X8_compared r M) (pm_K X V mX8_compared (3 + (n + 1)) skD) (pm_J X V mX8_compared (3 + (n + 1)) (pm_wld V skD M) 0 [(0, .ref (V.1 0))] []) := by
  unfold rb_X8_compared
  refine jv_aloadn (j := 0) dX8_compared_0 rfl ?_
  refine hv_callI (As := []) dX8_compared_1 lk8_79 kX8_sum nX8_sum (by omega) (Nat.le_of_ble_eq_true rfl) at_MO_0 rfl rfl rfl (fun _ _ e l => hr.2.2.2.1  _  _ _ e l V) ?_
  intro r2 M1
  refine jv_istoren (L' := [(1, .int r2), (0, .ref (V.1 0))]) dX8_compared_4 (Nat.le_of_ble_eq_true rfl) rfl ?_
  refine jv_aloadn (j := 1) dX8_compared_5 rfl ?_
  refine hv_callI (As := []) dX8_compared_6 lk8_61 kX8_here nX8_here (by omega) (Nat.le_of_ble_eq_true rfl) at_MO_0 rfl rfl rfl (fun _ _ e l => c_X8_here  e l V) ?_
  intro r4 M3
  refine jv_istoren (L' := [(2, .int r4), (1, .int r2), (0, .ref (V.1 0))]) dX8_compared_9 (Nat.le_of_ble_eq_true rfl) rfl ?_
  refine jv_iloadn (j := 0) dX8_compared_10 rfl ?_
  refine jv_bipush (v := 60) dX8_compared_11 (by decide) ?_
  refine jw_ic_eq (tgt := 30) dX8_compared_13 rfl (fun c13 => ?_) (fun c13 => ?_)
  · refine jv_aloadn (j := 2) dX8_compared_30 rfl ?_
    refine jv_dup dX8_compared_31 rfl ?_
    refine hv_getI dX8_compared_32 fl8_48 at_MO_0 rfl ?_
    refine jv_iconst (v := 1) dX8_compared_35 (by decide) ?_
    refine jv_iadd dX8_compared_36 ?_
    refine hv_put dX8_compared_37 fp8_48 at_MO_0 rfl rfl rfl ?_
    refine vf_letM (fun M5 => ?_)
    refine jv_aloadn (j := 2) dX8_compared_40 rfl ?_
    refine hv_callI (As := []) dX8_compared_41 lk8_79 kX8_sum nX8_sum (by omega) (Nat.le_of_ble_eq_true rfl) at_MO_0 rfl rfl rfl (fun _ _ e l => hr.2.2.2.1  _  _ _ e l V) ?_
    intro r7 M6
    refine jv_istoren (L' := [(3, .int r7), (2, .int r4), (1, .int r2), (0, .ref (V.1 0))]) dX8_compared_44 (Nat.le_of_ble_eq_true rfl) rfl ?_
    refine jv_iloadn (j := 1) dX8_compared_45 rfl ?_
    refine jv_bipush (v := 60) dX8_compared_46 (by decide) ?_
    refine jw_ic_ne (tgt := 59) dX8_compared_48 rfl (fun c48 => ?_) (fun c48 => ?_)
    · refine jv_iloadn (j := 2) dX8_compared_51 rfl ?_
      refine jv_iloadn (j := 0) dX8_compared_52 rfl ?_
      refine jw_ic_ge (tgt := 82) dX8_compared_53 rfl (fun c53 => ?_) (fun c53 => ?_)
      · refine jv_iconst (v := 0) dX8_compared_82 (by decide) ?_
        exact vf_ret dX8_compared_83 rfl
      refine jv_goto (tgt := 78) dX8_compared_56 rfl ?_
      refine jv_iconst (v := 1) dX8_compared_78 (by decide) ?_
      refine jv_goto (tgt := 83) dX8_compared_79 rfl ?_
      exact vf_ret dX8_compared_83 rfl
    refine jv_iloadn (j := 1) dX8_compared_59 rfl ?_
    refine jv_bipush (v := 61) dX8_compared_60 (by decide) ?_
    refine jw_ic_ne (tgt := 73) dX8_compared_62 rfl (fun c62 => ?_) (fun c62 => ?_)
    · refine jv_iloadn (j := 2) dX8_compared_65 rfl ?_
      refine jv_iloadn (j := 0) dX8_compared_66 rfl ?_
      refine jw_ic_ne (tgt := 82) dX8_compared_67 rfl (fun c67 => ?_) (fun c67 => ?_)
      · refine jv_goto (tgt := 78) dX8_compared_70 rfl ?_
        refine jv_iconst (v := 1) dX8_compared_78 (by decide) ?_
        refine jv_goto (tgt := 83) dX8_compared_79 rfl ?_
        exact vf_ret dX8_compared_83 rfl
      refine jv_iconst (v := 0) dX8_compared_82 (by decide) ?_
      exact vf_ret dX8_compared_83 rfl
    refine jv_iloadn (j := 2) dX8_compared_73 rfl ?_
    refine jv_iloadn (j := 0) dX8_compared_74 rfl ?_
    refine jw_ic_le (tgt := 82) dX8_compared_75 rfl (fun c75 => ?_) (fun c75 => ?_)
    · refine jv_iconst (v := 0) dX8_compared_82 (by decide) ?_
      exact vf_ret dX8_compared_83 rfl
    refine jv_iconst (v := 1) dX8_compared_78 (by decide) ?_
    refine jv_goto (tgt := 83) dX8_compared_79 rfl ?_
    exact vf_ret dX8_compared_83 rfl
  refine jv_iloadn (j := 0) dX8_compared_16 rfl ?_
  refine jv_bipush (v := 61) dX8_compared_17 (by decide) ?_
  refine jw_ic_eq (tgt := 30) dX8_compared_19 rfl (fun c19 => ?_) (fun c19 => ?_)
  · refine jv_aloadn (j := 2) dX8_compared_30 rfl ?_
    refine jv_dup dX8_compared_31 rfl ?_
    refine hv_getI dX8_compared_32 fl8_48 at_MO_0 rfl ?_
    refine jv_iconst (v := 1) dX8_compared_35 (by decide) ?_
    refine jv_iadd dX8_compared_36 ?_
    refine hv_put dX8_compared_37 fp8_48 at_MO_0 rfl rfl rfl ?_
    refine vf_letM (fun M8 => ?_)
    refine jv_aloadn (j := 2) dX8_compared_40 rfl ?_
    refine hv_callI (As := []) dX8_compared_41 lk8_79 kX8_sum nX8_sum (by omega) (Nat.le_of_ble_eq_true rfl) at_MO_0 rfl rfl rfl (fun _ _ e l => hr.2.2.2.1  _  _ _ e l V) ?_
    intro r10 M9
    refine jv_istoren (L' := [(3, .int r10), (2, .int r4), (1, .int r2), (0, .ref (V.1 0))]) dX8_compared_44 (Nat.le_of_ble_eq_true rfl) rfl ?_
    refine jv_iloadn (j := 1) dX8_compared_45 rfl ?_
    refine jv_bipush (v := 60) dX8_compared_46 (by decide) ?_
    refine jw_ic_ne (tgt := 59) dX8_compared_48 rfl (fun c48 => ?_) (fun c48 => ?_)
    · refine jv_iloadn (j := 2) dX8_compared_51 rfl ?_
      refine jv_iloadn (j := 0) dX8_compared_52 rfl ?_
      refine jw_ic_ge (tgt := 82) dX8_compared_53 rfl (fun c53 => ?_) (fun c53 => ?_)
      · refine jv_iconst (v := 0) dX8_compared_82 (by decide) ?_
        exact vf_ret dX8_compared_83 rfl
      refine jv_goto (tgt := 78) dX8_compared_56 rfl ?_
      refine jv_iconst (v := 1) dX8_compared_78 (by decide) ?_
      refine jv_goto (tgt := 83) dX8_compared_79 rfl ?_
      exact vf_ret dX8_compared_83 rfl
    refine jv_iloadn (j := 1) dX8_compared_59 rfl ?_
    refine jv_bipush (v := 61) dX8_compared_60 (by decide) ?_
    refine jw_ic_ne (tgt := 73) dX8_compared_62 rfl (fun c62 => ?_) (fun c62 => ?_)
    · refine jv_iloadn (j := 2) dX8_compared_65 rfl ?_
      refine jv_iloadn (j := 0) dX8_compared_66 rfl ?_
      refine jw_ic_ne (tgt := 82) dX8_compared_67 rfl (fun c67 => ?_) (fun c67 => ?_)
      · refine jv_goto (tgt := 78) dX8_compared_70 rfl ?_
        refine jv_iconst (v := 1) dX8_compared_78 (by decide) ?_
        refine jv_goto (tgt := 83) dX8_compared_79 rfl ?_
        exact vf_ret dX8_compared_83 rfl
      refine jv_iconst (v := 0) dX8_compared_82 (by decide) ?_
      exact vf_ret dX8_compared_83 rfl
    refine jv_iloadn (j := 2) dX8_compared_73 rfl ?_
    refine jv_iloadn (j := 0) dX8_compared_74 rfl ?_
    refine jw_ic_le (tgt := 82) dX8_compared_75 rfl (fun c75 => ?_) (fun c75 => ?_)
    · refine jv_iconst (v := 0) dX8_compared_82 (by decide) ?_
      exact vf_ret dX8_compared_83 rfl
    refine jv_iconst (v := 1) dX8_compared_78 (by decide) ?_
    refine jv_goto (tgt := 83) dX8_compared_79 rfl ?_
    exact vf_ret dX8_compared_83 rfl
  refine jv_iloadn (j := 0) dX8_compared_22 rfl ?_
  refine jv_bipush (v := 62) dX8_compared_23 (by decide) ?_
  refine jw_ic_eq (tgt := 30) dX8_compared_25 rfl (fun c25 => ?_) (fun c25 => ?_)
  · refine jv_aloadn (j := 2) dX8_compared_30 rfl ?_
    refine jv_dup dX8_compared_31 rfl ?_
    refine hv_getI dX8_compared_32 fl8_48 at_MO_0 rfl ?_
    refine jv_iconst (v := 1) dX8_compared_35 (by decide) ?_
    refine jv_iadd dX8_compared_36 ?_
    refine hv_put dX8_compared_37 fp8_48 at_MO_0 rfl rfl rfl ?_
    refine vf_letM (fun M11 => ?_)
    refine jv_aloadn (j := 2) dX8_compared_40 rfl ?_
    refine hv_callI (As := []) dX8_compared_41 lk8_79 kX8_sum nX8_sum (by omega) (Nat.le_of_ble_eq_true rfl) at_MO_0 rfl rfl rfl (fun _ _ e l => hr.2.2.2.1  _  _ _ e l V) ?_
    intro r13 M12
    refine jv_istoren (L' := [(3, .int r13), (2, .int r4), (1, .int r2), (0, .ref (V.1 0))]) dX8_compared_44 (Nat.le_of_ble_eq_true rfl) rfl ?_
    refine jv_iloadn (j := 1) dX8_compared_45 rfl ?_
    refine jv_bipush (v := 60) dX8_compared_46 (by decide) ?_
    refine jw_ic_ne (tgt := 59) dX8_compared_48 rfl (fun c48 => ?_) (fun c48 => ?_)
    · refine jv_iloadn (j := 2) dX8_compared_51 rfl ?_
      refine jv_iloadn (j := 0) dX8_compared_52 rfl ?_
      refine jw_ic_ge (tgt := 82) dX8_compared_53 rfl (fun c53 => ?_) (fun c53 => ?_)
      · refine jv_iconst (v := 0) dX8_compared_82 (by decide) ?_
        exact vf_ret dX8_compared_83 rfl
      refine jv_goto (tgt := 78) dX8_compared_56 rfl ?_
      refine jv_iconst (v := 1) dX8_compared_78 (by decide) ?_
      refine jv_goto (tgt := 83) dX8_compared_79 rfl ?_
      exact vf_ret dX8_compared_83 rfl
    refine jv_iloadn (j := 1) dX8_compared_59 rfl ?_
    refine jv_bipush (v := 61) dX8_compared_60 (by decide) ?_
    refine jw_ic_ne (tgt := 73) dX8_compared_62 rfl (fun c62 => ?_) (fun c62 => ?_)
    · refine jv_iloadn (j := 2) dX8_compared_65 rfl ?_
      refine jv_iloadn (j := 0) dX8_compared_66 rfl ?_
      refine jw_ic_ne (tgt := 82) dX8_compared_67 rfl (fun c67 => ?_) (fun c67 => ?_)
      · refine jv_goto (tgt := 78) dX8_compared_70 rfl ?_
        refine jv_iconst (v := 1) dX8_compared_78 (by decide) ?_
        refine jv_goto (tgt := 83) dX8_compared_79 rfl ?_
        exact vf_ret dX8_compared_83 rfl
      refine jv_iconst (v := 0) dX8_compared_82 (by decide) ?_
      exact vf_ret dX8_compared_83 rfl
    refine jv_iloadn (j := 2) dX8_compared_73 rfl ?_
    refine jv_iloadn (j := 0) dX8_compared_74 rfl ?_
    refine jw_ic_le (tgt := 82) dX8_compared_75 rfl (fun c75 => ?_) (fun c75 => ?_)
    · refine jv_iconst (v := 0) dX8_compared_82 (by decide) ?_
      exact vf_ret dX8_compared_83 rfl
    refine jv_iconst (v := 1) dX8_compared_78 (by decide) ?_
    refine jv_goto (tgt := 83) dX8_compared_79 rfl ?_
    exact vf_ret dX8_compared_83 rfl
  refine jv_iloadn (j := 1) dX8_compared_28 rfl ?_
  exact vf_ret dX8_compared_29 rfl
set_option maxHeartbeats 4000000 in
set_option maxRecDepth 100000 in
theorem wl_X8_sum_5 {X : pm_X} {V : pm_V} {n : Nat} {r : GT_X8_either} (hr : GP_X8_either n r)   : ∀ (l1 : Int32) (Ml : pm_M), pm_VF (lp_X8_sum_5 r  l1 Ml) (fun b => (fun (l1 : Int32) (Ml : pm_M) => pm_J X V mX8_sum (3 + (n + 1)) (pm_wld V skD Ml) 62 [(1, .int l1)] []) b.1 b.2) (pm_J X V mX8_sum (3 + (n + 1)) (pm_wld V skD Ml) 5 [(0, .ref (V.1 0)), (1, .int l1)] []) := by
  refine pm_it_ind (P := fun (f : Int32 → pm_M → Option (Int32 × pm_M)) => ∀ (l1 : Int32) (Ml : pm_M), pm_VF (f l1 Ml) (fun b => (fun (l1 : Int32) (Ml : pm_M) => pm_J X V mX8_sum (3 + (n + 1)) (pm_wld V skD Ml) 62 [(1, .int l1)] []) b.1 b.2) (pm_J X V mX8_sum (3 + (n + 1)) (pm_wld V skD Ml) 5 [(0, .ref (V.1 0)), (1, .int l1)] [])) (fun _ _ => vf_none) (fun ih hih l1 Ml => ?_) pm_F
  · unfold lb_X8_sum_5
    refine jv_aloadn (j := 0) dX8_sum_5 rfl ?_
    refine hv_callI (As := []) dX8_sum_6 lk8_61 kX8_here nX8_here (by omega) (Nat.le_of_ble_eq_true rfl) at_MO_0 rfl rfl rfl (fun _ _ e l => c_X8_here  e l V) ?_
    intro r6003 M6002
    refine jv_bipush (v := 43) dX8_sum_9 (by decide) ?_
    refine jw_ic_eq (tgt := 23) dX8_sum_11 rfl (fun c11 => ?_) (fun c11 => ?_)
    · refine jv_aloadn (j := 0) dX8_sum_23 rfl ?_
      refine hv_callI (As := []) dX8_sum_24 lk8_61 kX8_here nX8_here (by omega) (Nat.le_of_ble_eq_true rfl) at_MO_0 rfl rfl rfl (fun _ _ e l => c_X8_here  e l V) ?_
      intro r6005 M6004
      refine jv_istoren (L' := [(2, .int r6005), (0, .ref (V.1 0)), (1, .int l1)]) dX8_sum_27 (Nat.le_of_ble_eq_true rfl) rfl ?_
      refine jv_aloadn (j := 1) dX8_sum_28 rfl ?_
      refine jv_dup dX8_sum_29 rfl ?_
      refine hv_getI dX8_sum_30 fl8_48 at_MO_0 rfl ?_
      refine jv_iconst (v := 1) dX8_sum_33 (by decide) ?_
      refine jv_iadd dX8_sum_34 ?_
      refine hv_put dX8_sum_35 fp8_48 at_MO_0 rfl rfl rfl ?_
      refine vf_letM (fun M6006 => ?_)
      refine jv_aloadn (j := 1) dX8_sum_38 rfl ?_
      refine hv_callI (As := []) dX8_sum_39 lk8_82 kX8_product nX8_product (by omega) (Nat.le_of_ble_eq_true rfl) at_MO_0 rfl rfl rfl (fun _ _ e l => hr.2.2.2.2.1  _  _ _ e l V) ?_
      intro r6008 M6007
      refine jv_istoren (L' := [(3, .int r6008), (2, .int r6005), (0, .ref (V.1 0)), (1, .int l1)]) dX8_sum_42 (Nat.le_of_ble_eq_true rfl) rfl ?_
      refine jv_iloadn (j := 1) dX8_sum_43 rfl ?_
      refine jv_bipush (v := 43) dX8_sum_44 (by decide) ?_
      refine jw_ic_ne (tgt := 55) dX8_sum_46 rfl (fun c46 => ?_) (fun c46 => ?_)
      · refine jv_iloadn (j := 3) dX8_sum_49 rfl ?_
        refine jv_iloadn (j := 0) dX8_sum_50 rfl ?_
        refine jv_iadd dX8_sum_51 ?_
        refine jv_goto (tgt := 58) dX8_sum_52 rfl ?_
        refine vf_letS (fun z6009 => ?_)
        refine jv_istoren (L' := [(1, .int z6009), (3, .int r6008), (2, .int r6005), (0, .ref (V.1 0))]) dX8_sum_58 (Nat.le_of_ble_eq_true rfl) rfl ?_
        refine jv_goto (tgt := 5) dX8_sum_59 rfl ?_
        exact vf_j (fun g => jr_sub [3, 0] rfl g) (hih z6009 M6007)
      refine jv_iloadn (j := 3) dX8_sum_55 rfl ?_
      refine jv_iloadn (j := 0) dX8_sum_56 rfl ?_
      refine jv_isub dX8_sum_57 ?_
      refine vf_letS (fun z6010 => ?_)
      refine jv_istoren (L' := [(1, .int z6010), (3, .int r6008), (2, .int r6005), (0, .ref (V.1 0))]) dX8_sum_58 (Nat.le_of_ble_eq_true rfl) rfl ?_
      refine jv_goto (tgt := 5) dX8_sum_59 rfl ?_
      exact vf_j (fun g => jr_sub [3, 0] rfl g) (hih z6010 M6007)
    refine jv_aloadn (j := 0) dX8_sum_14 rfl ?_
    refine hv_callI (As := []) dX8_sum_15 lk8_61 kX8_here nX8_here (by omega) (Nat.le_of_ble_eq_true rfl) at_MO_0 rfl rfl rfl (fun _ _ e l => c_X8_here  e l V) ?_
    intro r6012 M6011
    refine jv_bipush (v := 45) dX8_sum_18 (by decide) ?_
    refine jw_ic_ne (tgt := 62) dX8_sum_20 rfl (fun c20 => ?_) (fun c20 => ?_)
    · refine jv_aloadn (j := 0) dX8_sum_23 rfl ?_
      refine hv_callI (As := []) dX8_sum_24 lk8_61 kX8_here nX8_here (by omega) (Nat.le_of_ble_eq_true rfl) at_MO_0 rfl rfl rfl (fun _ _ e l => c_X8_here  e l V) ?_
      intro r6014 M6013
      refine jv_istoren (L' := [(2, .int r6014), (0, .ref (V.1 0)), (1, .int l1)]) dX8_sum_27 (Nat.le_of_ble_eq_true rfl) rfl ?_
      refine jv_aloadn (j := 1) dX8_sum_28 rfl ?_
      refine jv_dup dX8_sum_29 rfl ?_
      refine hv_getI dX8_sum_30 fl8_48 at_MO_0 rfl ?_
      refine jv_iconst (v := 1) dX8_sum_33 (by decide) ?_
      refine jv_iadd dX8_sum_34 ?_
      refine hv_put dX8_sum_35 fp8_48 at_MO_0 rfl rfl rfl ?_
      refine vf_letM (fun M6015 => ?_)
      refine jv_aloadn (j := 1) dX8_sum_38 rfl ?_
      refine hv_callI (As := []) dX8_sum_39 lk8_82 kX8_product nX8_product (by omega) (Nat.le_of_ble_eq_true rfl) at_MO_0 rfl rfl rfl (fun _ _ e l => hr.2.2.2.2.1  _  _ _ e l V) ?_
      intro r6017 M6016
      refine jv_istoren (L' := [(3, .int r6017), (2, .int r6014), (0, .ref (V.1 0)), (1, .int l1)]) dX8_sum_42 (Nat.le_of_ble_eq_true rfl) rfl ?_
      refine jv_iloadn (j := 1) dX8_sum_43 rfl ?_
      refine jv_bipush (v := 43) dX8_sum_44 (by decide) ?_
      refine jw_ic_ne (tgt := 55) dX8_sum_46 rfl (fun c46 => ?_) (fun c46 => ?_)
      · refine jv_iloadn (j := 3) dX8_sum_49 rfl ?_
        refine jv_iloadn (j := 0) dX8_sum_50 rfl ?_
        refine jv_iadd dX8_sum_51 ?_
        refine jv_goto (tgt := 58) dX8_sum_52 rfl ?_
        refine vf_letS (fun z6018 => ?_)
        refine jv_istoren (L' := [(1, .int z6018), (3, .int r6017), (2, .int r6014), (0, .ref (V.1 0))]) dX8_sum_58 (Nat.le_of_ble_eq_true rfl) rfl ?_
        refine jv_goto (tgt := 5) dX8_sum_59 rfl ?_
        exact vf_j (fun g => jr_sub [3, 0] rfl g) (hih z6018 M6016)
      refine jv_iloadn (j := 3) dX8_sum_55 rfl ?_
      refine jv_iloadn (j := 0) dX8_sum_56 rfl ?_
      refine jv_isub dX8_sum_57 ?_
      refine vf_letS (fun z6019 => ?_)
      refine jv_istoren (L' := [(1, .int z6019), (3, .int r6017), (2, .int r6014), (0, .ref (V.1 0))]) dX8_sum_58 (Nat.le_of_ble_eq_true rfl) rfl ?_
      refine jv_goto (tgt := 5) dX8_sum_59 rfl ?_
      exact vf_j (fun g => jr_sub [3, 0] rfl g) (hih z6019 M6016)
    exact vf_end (fun g => jr_sub [1] rfl g)
set_option maxHeartbeats 4000000 in
set_option maxRecDepth 100000 in
theorem w_X8_sum {X : pm_X} {V : pm_V} {n : Nat} {r : GT_X8_either} (hr : GP_X8_either n r) (M : pm_M)  : pm_VF (rb_X8_sum r M) (pm_K X V mX8_sum (3 + (n + 1)) skD) (pm_J X V mX8_sum (3 + (n + 1)) (pm_wld V skD M) 0 [(0, .ref (V.1 0))] []) := by
  unfold rb_X8_sum
  refine jv_aloadn (j := 0) dX8_sum_0 rfl ?_
  refine hv_callI (As := []) dX8_sum_1 lk8_82 kX8_product nX8_product (by omega) (Nat.le_of_ble_eq_true rfl) at_MO_0 rfl rfl rfl (fun _ _ e l => hr.2.2.2.2.1  _  _ _ e l V) ?_
  intro r2 M1
  refine jv_istoren (L' := [(1, .int r2), (0, .ref (V.1 0))]) dX8_sum_4 (Nat.le_of_ble_eq_true rfl) rfl ?_
  refine vl_b2 (P := fun (l1 : Int32) (Ml : pm_M) => pm_J X V mX8_sum (3 + (n + 1)) (pm_wld V skD Ml) 62 [(1, .int l1)] []) (vf_j (fun g => jr_sub [1, 0] rfl g) (wl_X8_sum_5 hr   r2 M1)) ?_
  intro l3 M4
  refine jv_iloadn (j := 0) dX8_sum_62 rfl ?_
  exact vf_ret dX8_sum_63 rfl
set_option maxHeartbeats 4000000 in
set_option maxRecDepth 100000 in
theorem wl_X8_product_5 {X : pm_X} {V : pm_V} {n : Nat} {r : GT_X8_either} (hr : GP_X8_either n r)   : ∀ (l1 : Int32) (Ml : pm_M), pm_VF (lp_X8_product_5 r  l1 Ml) (fun b => (fun (l1 : Int32) (Ml : pm_M) => pm_J X V mX8_product (3 + (n + 1)) (pm_wld V skD Ml) 91 [(1, .int l1)] []) b.1 b.2) (pm_J X V mX8_product (3 + (n + 1)) (pm_wld V skD Ml) 5 [(0, .ref (V.1 0)), (1, .int l1)] []) := by
  refine pm_it_ind (P := fun (f : Int32 → pm_M → Option (Int32 × pm_M)) => ∀ (l1 : Int32) (Ml : pm_M), pm_VF (f l1 Ml) (fun b => (fun (l1 : Int32) (Ml : pm_M) => pm_J X V mX8_product (3 + (n + 1)) (pm_wld V skD Ml) 91 [(1, .int l1)] []) b.1 b.2) (pm_J X V mX8_product (3 + (n + 1)) (pm_wld V skD Ml) 5 [(0, .ref (V.1 0)), (1, .int l1)] [])) (fun _ _ => vf_none) (fun ih hih l1 Ml => ?_) pm_F
  · unfold lb_X8_product_5
    refine jv_aloadn (j := 0) dX8_product_5 rfl ?_
    refine hv_callI (As := []) dX8_product_6 lk8_61 kX8_here nX8_here (by omega) (Nat.le_of_ble_eq_true rfl) at_MO_0 rfl rfl rfl (fun _ _ e l => c_X8_here  e l V) ?_
    intro r6003 M6002
    refine jv_bipush (v := 42) dX8_product_9 (by decide) ?_
    refine jw_ic_eq (tgt := 32) dX8_product_11 rfl (fun c11 => ?_) (fun c11 => ?_)
    · refine jv_aloadn (j := 0) dX8_product_32 rfl ?_
      refine hv_callI (As := []) dX8_product_33 lk8_61 kX8_here nX8_here (by omega) (Nat.le_of_ble_eq_true rfl) at_MO_0 rfl rfl rfl (fun _ _ e l => c_X8_here  e l V) ?_
      intro r6005 M6004
      refine jv_istoren (L' := [(2, .int r6005), (0, .ref (V.1 0)), (1, .int l1)]) dX8_product_36 (Nat.le_of_ble_eq_true rfl) rfl ?_
      refine jv_aloadn (j := 1) dX8_product_37 rfl ?_
      refine jv_dup dX8_product_38 rfl ?_
      refine hv_getI dX8_product_39 fl8_48 at_MO_0 rfl ?_
      refine jv_iconst (v := 1) dX8_product_42 (by decide) ?_
      refine jv_iadd dX8_product_43 ?_
      refine hv_put dX8_product_44 fp8_48 at_MO_0 rfl rfl rfl ?_
      refine vf_letM (fun M6006 => ?_)
      refine jv_aloadn (j := 1) dX8_product_47 rfl ?_
      refine hv_callI (As := []) dX8_product_48 lk8_85 kX8_unit nX8_unit (by omega) (Nat.le_of_ble_eq_true rfl) at_MO_0 rfl rfl rfl (fun _ _ e l => hr.2.2.2.2.2  _  _ _ e l V) ?_
      intro r6008 M6007
      refine jv_istoren (L' := [(3, .int r6008), (2, .int r6005), (0, .ref (V.1 0)), (1, .int l1)]) dX8_product_51 (Nat.le_of_ble_eq_true rfl) rfl ?_
      refine jv_iloadn (j := 1) dX8_product_52 rfl ?_
      refine jv_bipush (v := 42) dX8_product_53 (by decide) ?_
      refine jw_ic_ne (tgt := 64) dX8_product_55 rfl (fun c55 => ?_) (fun c55 => ?_)
      · refine jv_iloadn (j := 3) dX8_product_58 rfl ?_
        refine jv_iloadn (j := 0) dX8_product_59 rfl ?_
        refine jv_imul dX8_product_60 ?_
        refine jv_goto (tgt := 87) dX8_product_61 rfl ?_
        refine vf_letS (fun z6009 => ?_)
        refine jv_istoren (L' := [(1, .int z6009), (3, .int r6008), (2, .int r6005), (0, .ref (V.1 0))]) dX8_product_87 (Nat.le_of_ble_eq_true rfl) rfl ?_
        refine jv_goto (tgt := 5) dX8_product_88 rfl ?_
        exact vf_j (fun g => jr_sub [3, 0] rfl g) (hih z6009 M6007)
      refine jv_iloadn (j := 0) dX8_product_64 rfl ?_
      refine jw_if_ne (tgt := 72) dX8_product_65 rfl (fun c65 => ?_) (fun c65 => ?_)
      · refine jv_iconst (v := 0) dX8_product_68 (by decide) ?_
        refine jv_goto (tgt := 87) dX8_product_69 rfl ?_
        refine jv_istoren (L' := [(1, .int 0), (3, .int r6008), (2, .int r6005), (0, .ref (V.1 0))]) dX8_product_87 (Nat.le_of_ble_eq_true rfl) rfl ?_
        refine jv_goto (tgt := 5) dX8_product_88 rfl ?_
        exact vf_j (fun g => jr_sub [3, 0] rfl g) (hih 0 M6007)
      refine jv_iloadn (j := 1) dX8_product_72 rfl ?_
      refine jv_bipush (v := 47) dX8_product_73 (by decide) ?_
      refine jw_ic_ne (tgt := 84) dX8_product_75 rfl (fun c75 => ?_) (fun c75 => ?_)
      · refine jv_iloadn (j := 3) dX8_product_78 rfl ?_
        refine jv_iloadn (j := 0) dX8_product_79 rfl ?_
        refine jv_idivC dX8_product_80 ?_
        refine jv_goto (tgt := 87) dX8_product_81 rfl ?_
        refine vf_letS (fun z6010 => ?_)
        refine jv_istoren (L' := [(1, .int z6010), (3, .int r6008), (2, .int r6005), (0, .ref (V.1 0))]) dX8_product_87 (Nat.le_of_ble_eq_true rfl) rfl ?_
        refine jv_goto (tgt := 5) dX8_product_88 rfl ?_
        exact vf_j (fun g => jr_sub [3, 0] rfl g) (hih z6010 M6007)
      refine jv_iloadn (j := 3) dX8_product_84 rfl ?_
      refine jv_iloadn (j := 0) dX8_product_85 rfl ?_
      refine jv_iremC dX8_product_86 ?_
      refine vf_letS (fun z6011 => ?_)
      refine jv_istoren (L' := [(1, .int z6011), (3, .int r6008), (2, .int r6005), (0, .ref (V.1 0))]) dX8_product_87 (Nat.le_of_ble_eq_true rfl) rfl ?_
      refine jv_goto (tgt := 5) dX8_product_88 rfl ?_
      exact vf_j (fun g => jr_sub [3, 0] rfl g) (hih z6011 M6007)
    refine jv_aloadn (j := 0) dX8_product_14 rfl ?_
    refine hv_callI (As := []) dX8_product_15 lk8_61 kX8_here nX8_here (by omega) (Nat.le_of_ble_eq_true rfl) at_MO_0 rfl rfl rfl (fun _ _ e l => c_X8_here  e l V) ?_
    intro r6013 M6012
    refine jv_bipush (v := 47) dX8_product_18 (by decide) ?_
    refine jw_ic_eq (tgt := 32) dX8_product_20 rfl (fun c20 => ?_) (fun c20 => ?_)
    · refine jv_aloadn (j := 0) dX8_product_32 rfl ?_
      refine hv_callI (As := []) dX8_product_33 lk8_61 kX8_here nX8_here (by omega) (Nat.le_of_ble_eq_true rfl) at_MO_0 rfl rfl rfl (fun _ _ e l => c_X8_here  e l V) ?_
      intro r6015 M6014
      refine jv_istoren (L' := [(2, .int r6015), (0, .ref (V.1 0)), (1, .int l1)]) dX8_product_36 (Nat.le_of_ble_eq_true rfl) rfl ?_
      refine jv_aloadn (j := 1) dX8_product_37 rfl ?_
      refine jv_dup dX8_product_38 rfl ?_
      refine hv_getI dX8_product_39 fl8_48 at_MO_0 rfl ?_
      refine jv_iconst (v := 1) dX8_product_42 (by decide) ?_
      refine jv_iadd dX8_product_43 ?_
      refine hv_put dX8_product_44 fp8_48 at_MO_0 rfl rfl rfl ?_
      refine vf_letM (fun M6016 => ?_)
      refine jv_aloadn (j := 1) dX8_product_47 rfl ?_
      refine hv_callI (As := []) dX8_product_48 lk8_85 kX8_unit nX8_unit (by omega) (Nat.le_of_ble_eq_true rfl) at_MO_0 rfl rfl rfl (fun _ _ e l => hr.2.2.2.2.2  _  _ _ e l V) ?_
      intro r6018 M6017
      refine jv_istoren (L' := [(3, .int r6018), (2, .int r6015), (0, .ref (V.1 0)), (1, .int l1)]) dX8_product_51 (Nat.le_of_ble_eq_true rfl) rfl ?_
      refine jv_iloadn (j := 1) dX8_product_52 rfl ?_
      refine jv_bipush (v := 42) dX8_product_53 (by decide) ?_
      refine jw_ic_ne (tgt := 64) dX8_product_55 rfl (fun c55 => ?_) (fun c55 => ?_)
      · refine jv_iloadn (j := 3) dX8_product_58 rfl ?_
        refine jv_iloadn (j := 0) dX8_product_59 rfl ?_
        refine jv_imul dX8_product_60 ?_
        refine jv_goto (tgt := 87) dX8_product_61 rfl ?_
        refine vf_letS (fun z6019 => ?_)
        refine jv_istoren (L' := [(1, .int z6019), (3, .int r6018), (2, .int r6015), (0, .ref (V.1 0))]) dX8_product_87 (Nat.le_of_ble_eq_true rfl) rfl ?_
        refine jv_goto (tgt := 5) dX8_product_88 rfl ?_
        exact vf_j (fun g => jr_sub [3, 0] rfl g) (hih z6019 M6017)
      refine jv_iloadn (j := 0) dX8_product_64 rfl ?_
      refine jw_if_ne (tgt := 72) dX8_product_65 rfl (fun c65 => ?_) (fun c65 => ?_)
      · refine jv_iconst (v := 0) dX8_product_68 (by decide) ?_
        refine jv_goto (tgt := 87) dX8_product_69 rfl ?_
        refine jv_istoren (L' := [(1, .int 0), (3, .int r6018), (2, .int r6015), (0, .ref (V.1 0))]) dX8_product_87 (Nat.le_of_ble_eq_true rfl) rfl ?_
        refine jv_goto (tgt := 5) dX8_product_88 rfl ?_
        exact vf_j (fun g => jr_sub [3, 0] rfl g) (hih 0 M6017)
      refine jv_iloadn (j := 1) dX8_product_72 rfl ?_
      refine jv_bipush (v := 47) dX8_product_73 (by decide) ?_
      refine jw_ic_ne (tgt := 84) dX8_product_75 rfl (fun c75 => ?_) (fun c75 => ?_)
      · refine jv_iloadn (j := 3) dX8_product_78 rfl ?_
        refine jv_iloadn (j := 0) dX8_product_79 rfl ?_
        refine jv_idivC dX8_product_80 ?_
        refine jv_goto (tgt := 87) dX8_product_81 rfl ?_
        refine vf_letS (fun z6020 => ?_)
        refine jv_istoren (L' := [(1, .int z6020), (3, .int r6018), (2, .int r6015), (0, .ref (V.1 0))]) dX8_product_87 (Nat.le_of_ble_eq_true rfl) rfl ?_
        refine jv_goto (tgt := 5) dX8_product_88 rfl ?_
        exact vf_j (fun g => jr_sub [3, 0] rfl g) (hih z6020 M6017)
      refine jv_iloadn (j := 3) dX8_product_84 rfl ?_
      refine jv_iloadn (j := 0) dX8_product_85 rfl ?_
      refine jv_iremC dX8_product_86 ?_
      refine vf_letS (fun z6021 => ?_)
      refine jv_istoren (L' := [(1, .int z6021), (3, .int r6018), (2, .int r6015), (0, .ref (V.1 0))]) dX8_product_87 (Nat.le_of_ble_eq_true rfl) rfl ?_
      refine jv_goto (tgt := 5) dX8_product_88 rfl ?_
      exact vf_j (fun g => jr_sub [3, 0] rfl g) (hih z6021 M6017)
    refine jv_aloadn (j := 0) dX8_product_23 rfl ?_
    refine hv_callI (As := []) dX8_product_24 lk8_61 kX8_here nX8_here (by omega) (Nat.le_of_ble_eq_true rfl) at_MO_0 rfl rfl rfl (fun _ _ e l => c_X8_here  e l V) ?_
    intro r6023 M6022
    refine jv_bipush (v := 37) dX8_product_27 (by decide) ?_
    refine jw_ic_ne (tgt := 91) dX8_product_29 rfl (fun c29 => ?_) (fun c29 => ?_)
    · refine jv_aloadn (j := 0) dX8_product_32 rfl ?_
      refine hv_callI (As := []) dX8_product_33 lk8_61 kX8_here nX8_here (by omega) (Nat.le_of_ble_eq_true rfl) at_MO_0 rfl rfl rfl (fun _ _ e l => c_X8_here  e l V) ?_
      intro r6025 M6024
      refine jv_istoren (L' := [(2, .int r6025), (0, .ref (V.1 0)), (1, .int l1)]) dX8_product_36 (Nat.le_of_ble_eq_true rfl) rfl ?_
      refine jv_aloadn (j := 1) dX8_product_37 rfl ?_
      refine jv_dup dX8_product_38 rfl ?_
      refine hv_getI dX8_product_39 fl8_48 at_MO_0 rfl ?_
      refine jv_iconst (v := 1) dX8_product_42 (by decide) ?_
      refine jv_iadd dX8_product_43 ?_
      refine hv_put dX8_product_44 fp8_48 at_MO_0 rfl rfl rfl ?_
      refine vf_letM (fun M6026 => ?_)
      refine jv_aloadn (j := 1) dX8_product_47 rfl ?_
      refine hv_callI (As := []) dX8_product_48 lk8_85 kX8_unit nX8_unit (by omega) (Nat.le_of_ble_eq_true rfl) at_MO_0 rfl rfl rfl (fun _ _ e l => hr.2.2.2.2.2  _  _ _ e l V) ?_
      intro r6028 M6027
      refine jv_istoren (L' := [(3, .int r6028), (2, .int r6025), (0, .ref (V.1 0)), (1, .int l1)]) dX8_product_51 (Nat.le_of_ble_eq_true rfl) rfl ?_
      refine jv_iloadn (j := 1) dX8_product_52 rfl ?_
      refine jv_bipush (v := 42) dX8_product_53 (by decide) ?_
      refine jw_ic_ne (tgt := 64) dX8_product_55 rfl (fun c55 => ?_) (fun c55 => ?_)
      · refine jv_iloadn (j := 3) dX8_product_58 rfl ?_
        refine jv_iloadn (j := 0) dX8_product_59 rfl ?_
        refine jv_imul dX8_product_60 ?_
        refine jv_goto (tgt := 87) dX8_product_61 rfl ?_
        refine vf_letS (fun z6029 => ?_)
        refine jv_istoren (L' := [(1, .int z6029), (3, .int r6028), (2, .int r6025), (0, .ref (V.1 0))]) dX8_product_87 (Nat.le_of_ble_eq_true rfl) rfl ?_
        refine jv_goto (tgt := 5) dX8_product_88 rfl ?_
        exact vf_j (fun g => jr_sub [3, 0] rfl g) (hih z6029 M6027)
      refine jv_iloadn (j := 0) dX8_product_64 rfl ?_
      refine jw_if_ne (tgt := 72) dX8_product_65 rfl (fun c65 => ?_) (fun c65 => ?_)
      · refine jv_iconst (v := 0) dX8_product_68 (by decide) ?_
        refine jv_goto (tgt := 87) dX8_product_69 rfl ?_
        refine jv_istoren (L' := [(1, .int 0), (3, .int r6028), (2, .int r6025), (0, .ref (V.1 0))]) dX8_product_87 (Nat.le_of_ble_eq_true rfl) rfl ?_
        refine jv_goto (tgt := 5) dX8_product_88 rfl ?_
        exact vf_j (fun g => jr_sub [3, 0] rfl g) (hih 0 M6027)
      refine jv_iloadn (j := 1) dX8_product_72 rfl ?_
      refine jv_bipush (v := 47) dX8_product_73 (by decide) ?_
      refine jw_ic_ne (tgt := 84) dX8_product_75 rfl (fun c75 => ?_) (fun c75 => ?_)
      · refine jv_iloadn (j := 3) dX8_product_78 rfl ?_
        refine jv_iloadn (j := 0) dX8_product_79 rfl ?_
        refine jv_idivC dX8_product_80 ?_
        refine jv_goto (tgt := 87) dX8_product_81 rfl ?_
        refine vf_letS (fun z6030 => ?_)
        refine jv_istoren (L' := [(1, .int z6030), (3, .int r6028), (2, .int r6025), (0, .ref (V.1 0))]) dX8_product_87 (Nat.le_of_ble_eq_true rfl) rfl ?_
        refine jv_goto (tgt := 5) dX8_product_88 rfl ?_
        exact vf_j (fun g => jr_sub [3, 0] rfl g) (hih z6030 M6027)
      refine jv_iloadn (j := 3) dX8_product_84 rfl ?_
      refine jv_iloadn (j := 0) dX8_product_85 rfl ?_
      refine jv_iremC dX8_product_86 ?_
      refine vf_letS (fun z6031 => ?_)
      refine jv_istoren (L' := [(1, .int z6031), (3, .int r6028), (2, .int r6025), (0, .ref (V.1 0))]) dX8_product_87 (Nat.le_of_ble_eq_true rfl) rfl ?_
      refine jv_goto (tgt := 5) dX8_product_88 rfl ?_
      exact vf_j (fun g => jr_sub [3, 0] rfl g) (hih z6031 M6027)
    exact vf_end (fun g => jr_sub [1] rfl g)
set_option maxHeartbeats 4000000 in
set_option maxRecDepth 100000 in
theorem w_X8_product {X : pm_X} {V : pm_V} {n : Nat} {r : GT_X8_either} (hr : GP_X8_either n r) (M : pm_M)  : pm_VF (rb_X8_product r M) (pm_K X V mX8_product (3 + (n + 1)) skD) (pm_J X V mX8_product (3 + (n + 1)) (pm_wld V skD M) 0 [(0, .ref (V.1 0))] []) := by
  unfold rb_X8_product
  refine jv_aloadn (j := 0) dX8_product_0 rfl ?_
  refine hv_callI (As := []) dX8_product_1 lk8_85 kX8_unit nX8_unit (by omega) (Nat.le_of_ble_eq_true rfl) at_MO_0 rfl rfl rfl (fun _ _ e l => hr.2.2.2.2.2  _  _ _ e l V) ?_
  intro r2 M1
  refine jv_istoren (L' := [(1, .int r2), (0, .ref (V.1 0))]) dX8_product_4 (Nat.le_of_ble_eq_true rfl) rfl ?_
  refine vl_b2 (P := fun (l1 : Int32) (Ml : pm_M) => pm_J X V mX8_product (3 + (n + 1)) (pm_wld V skD Ml) 91 [(1, .int l1)] []) (vf_j (fun g => jr_sub [1, 0] rfl g) (wl_X8_product_5 hr   r2 M1)) ?_
  intro l3 M4
  refine jv_iloadn (j := 0) dX8_product_91 rfl ?_
  exact vf_ret dX8_product_92 rfl
set_option maxHeartbeats 4000000 in
set_option maxRecDepth 100000 in
theorem wl_X8_unit_150 {X : pm_X} {V : pm_V} {n : Nat} {r : GT_X8_either} (hr : GP_X8_either n r)   : ∀ (l3 : Int32) (l4 : Int32) (Ml : pm_M), pm_VF (lp_X8_unit_150 r  l3 l4 Ml) (fun b => (fun (l3 : Int32) (l4 : Int32) (Ml : pm_M) => pm_J X V mX8_unit (3 + (n + 1)) (pm_wld V skD Ml) 202 [(0, .ref (V.1 0)), (3, .int l3), (4, .int l4)] []) b.1 b.2.1 b.2.2) (pm_J X V mX8_unit (3 + (n + 1)) (pm_wld V skD Ml) 150 [(0, .ref (V.1 0)), (3, .int l3), (4, .int l4)] []) := by
  refine pm_it_ind (P := fun (f : Int32 → Int32 → pm_M → Option (Int32 × Int32 × pm_M)) => ∀ (l3 : Int32) (l4 : Int32) (Ml : pm_M), pm_VF (f l3 l4 Ml) (fun b => (fun (l3 : Int32) (l4 : Int32) (Ml : pm_M) => pm_J X V mX8_unit (3 + (n + 1)) (pm_wld V skD Ml) 202 [(0, .ref (V.1 0)), (3, .int l3), (4, .int l4)] []) b.1 b.2.1 b.2.2) (pm_J X V mX8_unit (3 + (n + 1)) (pm_wld V skD Ml) 150 [(0, .ref (V.1 0)), (3, .int l3), (4, .int l4)] [])) (fun _ _ _ => vf_none) (fun ih hih l3 l4 Ml => ?_) pm_F
  · unfold lb_X8_unit_150
    refine jv_iload (j := 2) dX8_unit_150 rfl ?_
    refine jv_iconst (v := 4) dX8_unit_152 (by decide) ?_
    refine jw_ic_ge (tgt := 202) dX8_unit_153 rfl (fun c153 => ?_) (fun c153 => ?_)
    · exact vf_end (fun g => jr_sub [0, 1, 2] rfl g)
    refine jv_aloadn (j := 0) dX8_unit_156 rfl ?_
    refine hv_callI (As := []) dX8_unit_157 lk8_61 kX8_here nX8_here (by omega) (Nat.le_of_ble_eq_true rfl) at_MO_0 rfl rfl rfl (fun _ _ e l => c_X8_here  e l V) ?_
    intro r151003 M151002
    refine jv_i2l dX8_unit_160 ?_
    refine jv_ldc2 dX8_unit_161 lk8_101 ?_
    refine jv_ldc2 dX8_unit_164 lk8_103 ?_
    refine hv_callS (As := [.long (r151003.toInt64), .long 48, .long 57]) dX8_unit_167 lk8_44 kX8_in nX8_in (by omega) (Nat.le_of_ble_eq_true rfl) rfl (fun _ _ e l => c_X8_in  e l V) ?_
    intro r151005 M151004
    refine jw_if_eq (tgt := 202) dX8_unit_170 rfl (fun c170 => ?_) (fun c170 => ?_)
    · exact vf_end (fun g => jr_sub [0, 1, 2] rfl g)
    refine jv_bipush (v := 10) dX8_unit_173 (by decide) ?_
    refine jv_iloadn (j := 1) dX8_unit_175 rfl ?_
    refine jv_imul dX8_unit_176 ?_
    refine jv_aloadn (j := 0) dX8_unit_177 rfl ?_
    refine hv_callI (As := []) dX8_unit_178 lk8_61 kX8_here nX8_here (by omega) (Nat.le_of_ble_eq_true rfl) at_MO_0 rfl rfl rfl (fun _ _ e l => c_X8_here  e l V) ?_
    intro r151007 M151006
    refine jv_iadd dX8_unit_181 ?_
    refine jv_bipush (v := 48) dX8_unit_182 (by decide) ?_
    refine jv_isub dX8_unit_184 ?_
    refine vf_letS (fun z151008 => ?_)
    refine jv_istoren (L' := [(3, .int z151008), (0, .ref (V.1 0)), (4, .int l4)]) dX8_unit_185 (Nat.le_of_ble_eq_true rfl) rfl ?_
    refine jv_aloadn (j := 1) dX8_unit_186 rfl ?_
    refine jv_dup dX8_unit_187 rfl ?_
    refine hv_getI dX8_unit_188 fl8_48 at_MO_0 rfl ?_
    refine jv_iconst (v := 1) dX8_unit_191 (by decide) ?_
    refine jv_iadd dX8_unit_192 ?_
    refine hv_put dX8_unit_193 fp8_48 at_MO_0 rfl rfl rfl ?_
    refine vf_letM (fun M151009 => ?_)
    refine jv_iinc (j := 2) (v := l4 + 1) (L' := [(4, .int (l4 + 1)), (3, .int z151008), (0, .ref (V.1 0))]) dX8_unit_196 rfl rfl (Nat.le_of_ble_eq_true rfl) rfl ?_
    refine jv_goto (tgt := 150) dX8_unit_199 rfl ?_
    exact vf_j (fun g => jr_sub [2, 1, 0] rfl g) (hih z151008 (l4 + 1) M151009)
set_option maxHeartbeats 4000000 in
set_option maxRecDepth 100000 in
theorem w_X8_unit {X : pm_X} {V : pm_V} {n : Nat} {r : GT_X8_either} (hr : GP_X8_either n r) (M : pm_M)  : pm_VF (rb_X8_unit r M) (pm_K X V mX8_unit (3 + (n + 1)) skD) (pm_J X V mX8_unit (3 + (n + 1)) (pm_wld V skD M) 0 [(0, .ref (V.1 0))] []) := by
  unfold rb_X8_unit
  refine jv_aloadn (j := 0) dX8_unit_0 rfl ?_
  refine hv_callI (As := []) dX8_unit_1 lk8_61 kX8_here nX8_here (by omega) (Nat.le_of_ble_eq_true rfl) at_MO_0 rfl rfl rfl (fun _ _ e l => c_X8_here  e l V) ?_
  intro r2 M1
  refine jv_istoren (L' := [(1, .int r2), (0, .ref (V.1 0))]) dX8_unit_4 (Nat.le_of_ble_eq_true rfl) rfl ?_
  refine jv_iloadn (j := 0) dX8_unit_5 rfl ?_
  refine jv_bipush (v := 33) dX8_unit_6 (by decide) ?_
  refine jw_ic_eq (tgt := 17) dX8_unit_8 rfl (fun c8 => ?_) (fun c8 => ?_)
  · refine jv_aloadn (j := 1) dX8_unit_17 rfl ?_
    refine hv_getI dX8_unit_18 fl8_88 at_MO_0 rfl ?_
    refine jv_iconst (v := 5) dX8_unit_21 (by decide) ?_
    refine jw_ic_ne (tgt := 30) dX8_unit_22 rfl (fun c22 => ?_) (fun c22 => ?_)
    · refine jv_aloadn (j := 1) dX8_unit_25 rfl ?_
      refine hv_callI (As := []) dX8_unit_26 lk8_91 kX8_wrong nX8_wrong (by omega) (Nat.le_of_ble_eq_true rfl) at_MO_0 rfl rfl rfl (fun _ _ e l => c_X8_wrong  e l V) ?_
      intro r4 M3
      exact vf_ret dX8_unit_29 rfl
    refine jv_aloadn (j := 1) dX8_unit_30 rfl ?_
    refine jv_dup dX8_unit_31 rfl ?_
    refine hv_getI dX8_unit_32 fl8_88 at_MO_0 rfl ?_
    refine jv_iconst (v := 1) dX8_unit_35 (by decide) ?_
    refine jv_iadd dX8_unit_36 ?_
    refine hv_put dX8_unit_37 fp8_88 at_MO_0 rfl rfl rfl ?_
    refine vf_letM (fun M5 => ?_)
    refine jv_aloadn (j := 1) dX8_unit_40 rfl ?_
    refine jv_dup dX8_unit_41 rfl ?_
    refine hv_getI dX8_unit_42 fl8_48 at_MO_0 rfl ?_
    refine jv_iconst (v := 1) dX8_unit_45 (by decide) ?_
    refine jv_iadd dX8_unit_46 ?_
    refine hv_put dX8_unit_47 fp8_48 at_MO_0 rfl rfl rfl ?_
    refine vf_letM (fun M6 => ?_)
    refine jv_iloadn (j := 0) dX8_unit_50 rfl ?_
    refine jv_bipush (v := 40) dX8_unit_51 (by decide) ?_
    refine jw_ic_ne (tgt := 63) dX8_unit_53 rfl (fun c53 => ?_) (fun c53 => ?_)
    · refine jv_aloadn (j := 1) dX8_unit_56 rfl ?_
      refine hv_callI (As := []) dX8_unit_57 lk8_94 kX8_either nX8_either (by omega) (Nat.le_of_ble_eq_true rfl) at_MO_0 rfl rfl rfl (fun _ _ e l => hr.1  _  _ _ e l V) ?_
      intro r8 M7
      refine jv_goto (tgt := 67) dX8_unit_60 rfl ?_
      refine jv_istoren (L' := [(2, .int r8), (1, .int r2), (0, .ref (V.1 0))]) dX8_unit_67 (Nat.le_of_ble_eq_true rfl) rfl ?_
      refine jv_iloadn (j := 1) dX8_unit_68 rfl ?_
      refine jv_bipush (v := 40) dX8_unit_69 (by decide) ?_
      refine jw_ic_ne (tgt := 88) dX8_unit_71 rfl (fun c71 => ?_) (fun c71 => ?_)
      · refine jv_aloadn (j := 2) dX8_unit_74 rfl ?_
        refine jv_bipush (v := 41) dX8_unit_75 (by decide) ?_
        refine hv_callI (As := [.int 41]) dX8_unit_77 lk8_72 kX8_takes nX8_takes (by omega) (Nat.le_of_ble_eq_true rfl) at_MO_0 rfl rfl rfl (fun _ _ e l => c_X8_takes  e l V) ?_
        intro r10 M9
        refine jw_if_ne (tgt := 88) dX8_unit_80 rfl (fun c80 => ?_) (fun c80 => ?_)
        · refine jv_aloadn (j := 2) dX8_unit_83 rfl ?_
          refine hv_callI (As := []) dX8_unit_84 lk8_91 kX8_wrong nX8_wrong (by omega) (Nat.le_of_ble_eq_true rfl) at_MO_0 rfl rfl rfl (fun _ _ e l => c_X8_wrong  e l V) ?_
          intro r12 M11
          exact vf_ret dX8_unit_87 rfl
        refine jv_aloadn (j := 2) dX8_unit_88 rfl ?_
        refine jv_dup dX8_unit_89 rfl ?_
        refine hv_getI dX8_unit_90 fl8_88 at_MO_0 rfl ?_
        refine jv_iconst (v := 1) dX8_unit_93 (by decide) ?_
        refine jv_isub dX8_unit_94 ?_
        refine hv_put dX8_unit_95 fp8_88 at_MO_0 rfl rfl rfl ?_
        refine vf_letM (fun M13 => ?_)
        refine jv_iloadn (j := 1) dX8_unit_98 rfl ?_
        refine jv_bipush (v := 40) dX8_unit_99 (by decide) ?_
        refine jw_ic_ne (tgt := 108) dX8_unit_101 rfl (fun c101 => ?_) (fun c101 => ?_)
        · refine jv_iloadn (j := 0) dX8_unit_104 rfl ?_
          refine jv_goto (tgt := 117) dX8_unit_105 rfl ?_
          exact vf_ret dX8_unit_117 rfl
        refine jv_iloadn (j := 0) dX8_unit_108 rfl ?_
        refine jw_if_ne (tgt := 116) dX8_unit_109 rfl (fun c109 => ?_) (fun c109 => ?_)
        · refine jv_iconst (v := 1) dX8_unit_112 (by decide) ?_
          refine jv_goto (tgt := 117) dX8_unit_113 rfl ?_
          exact vf_ret dX8_unit_117 rfl
        refine jv_iconst (v := 0) dX8_unit_116 (by decide) ?_
        exact vf_ret dX8_unit_117 rfl
      refine jv_aloadn (j := 2) dX8_unit_88 rfl ?_
      refine jv_dup dX8_unit_89 rfl ?_
      refine hv_getI dX8_unit_90 fl8_88 at_MO_0 rfl ?_
      refine jv_iconst (v := 1) dX8_unit_93 (by decide) ?_
      refine jv_isub dX8_unit_94 ?_
      refine hv_put dX8_unit_95 fp8_88 at_MO_0 rfl rfl rfl ?_
      refine vf_letM (fun M14 => ?_)
      refine jv_iloadn (j := 1) dX8_unit_98 rfl ?_
      refine jv_bipush (v := 40) dX8_unit_99 (by decide) ?_
      refine jw_ic_ne (tgt := 108) dX8_unit_101 rfl (fun c101 => ?_) (fun c101 => ?_)
      · refine jv_iloadn (j := 0) dX8_unit_104 rfl ?_
        refine jv_goto (tgt := 117) dX8_unit_105 rfl ?_
        exact vf_ret dX8_unit_117 rfl
      refine jv_iloadn (j := 0) dX8_unit_108 rfl ?_
      refine jw_if_ne (tgt := 116) dX8_unit_109 rfl (fun c109 => ?_) (fun c109 => ?_)
      · refine jv_iconst (v := 1) dX8_unit_112 (by decide) ?_
        refine jv_goto (tgt := 117) dX8_unit_113 rfl ?_
        exact vf_ret dX8_unit_117 rfl
      refine jv_iconst (v := 0) dX8_unit_116 (by decide) ?_
      exact vf_ret dX8_unit_117 rfl
    refine jv_aloadn (j := 1) dX8_unit_63 rfl ?_
    refine hv_callI (As := []) dX8_unit_64 lk8_85 kX8_unit nX8_unit (by omega) (Nat.le_of_ble_eq_true rfl) at_MO_0 rfl rfl rfl (fun _ _ e l => hr.2.2.2.2.2  _  _ _ e l V) ?_
    intro r16 M15
    refine jv_istoren (L' := [(2, .int r16), (1, .int r2), (0, .ref (V.1 0))]) dX8_unit_67 (Nat.le_of_ble_eq_true rfl) rfl ?_
    refine jv_iloadn (j := 1) dX8_unit_68 rfl ?_
    refine jv_bipush (v := 40) dX8_unit_69 (by decide) ?_
    refine jw_ic_ne (tgt := 88) dX8_unit_71 rfl (fun c71 => ?_) (fun c71 => ?_)
    · refine jv_aloadn (j := 2) dX8_unit_74 rfl ?_
      refine jv_bipush (v := 41) dX8_unit_75 (by decide) ?_
      refine hv_callI (As := [.int 41]) dX8_unit_77 lk8_72 kX8_takes nX8_takes (by omega) (Nat.le_of_ble_eq_true rfl) at_MO_0 rfl rfl rfl (fun _ _ e l => c_X8_takes  e l V) ?_
      intro r18 M17
      refine jw_if_ne (tgt := 88) dX8_unit_80 rfl (fun c80 => ?_) (fun c80 => ?_)
      · refine jv_aloadn (j := 2) dX8_unit_83 rfl ?_
        refine hv_callI (As := []) dX8_unit_84 lk8_91 kX8_wrong nX8_wrong (by omega) (Nat.le_of_ble_eq_true rfl) at_MO_0 rfl rfl rfl (fun _ _ e l => c_X8_wrong  e l V) ?_
        intro r20 M19
        exact vf_ret dX8_unit_87 rfl
      refine jv_aloadn (j := 2) dX8_unit_88 rfl ?_
      refine jv_dup dX8_unit_89 rfl ?_
      refine hv_getI dX8_unit_90 fl8_88 at_MO_0 rfl ?_
      refine jv_iconst (v := 1) dX8_unit_93 (by decide) ?_
      refine jv_isub dX8_unit_94 ?_
      refine hv_put dX8_unit_95 fp8_88 at_MO_0 rfl rfl rfl ?_
      refine vf_letM (fun M21 => ?_)
      refine jv_iloadn (j := 1) dX8_unit_98 rfl ?_
      refine jv_bipush (v := 40) dX8_unit_99 (by decide) ?_
      refine jw_ic_ne (tgt := 108) dX8_unit_101 rfl (fun c101 => ?_) (fun c101 => ?_)
      · refine jv_iloadn (j := 0) dX8_unit_104 rfl ?_
        refine jv_goto (tgt := 117) dX8_unit_105 rfl ?_
        exact vf_ret dX8_unit_117 rfl
      refine jv_iloadn (j := 0) dX8_unit_108 rfl ?_
      refine jw_if_ne (tgt := 116) dX8_unit_109 rfl (fun c109 => ?_) (fun c109 => ?_)
      · refine jv_iconst (v := 1) dX8_unit_112 (by decide) ?_
        refine jv_goto (tgt := 117) dX8_unit_113 rfl ?_
        exact vf_ret dX8_unit_117 rfl
      refine jv_iconst (v := 0) dX8_unit_116 (by decide) ?_
      exact vf_ret dX8_unit_117 rfl
    refine jv_aloadn (j := 2) dX8_unit_88 rfl ?_
    refine jv_dup dX8_unit_89 rfl ?_
    refine hv_getI dX8_unit_90 fl8_88 at_MO_0 rfl ?_
    refine jv_iconst (v := 1) dX8_unit_93 (by decide) ?_
    refine jv_isub dX8_unit_94 ?_
    refine hv_put dX8_unit_95 fp8_88 at_MO_0 rfl rfl rfl ?_
    refine vf_letM (fun M22 => ?_)
    refine jv_iloadn (j := 1) dX8_unit_98 rfl ?_
    refine jv_bipush (v := 40) dX8_unit_99 (by decide) ?_
    refine jw_ic_ne (tgt := 108) dX8_unit_101 rfl (fun c101 => ?_) (fun c101 => ?_)
    · refine jv_iloadn (j := 0) dX8_unit_104 rfl ?_
      refine jv_goto (tgt := 117) dX8_unit_105 rfl ?_
      exact vf_ret dX8_unit_117 rfl
    refine jv_iloadn (j := 0) dX8_unit_108 rfl ?_
    refine jw_if_ne (tgt := 116) dX8_unit_109 rfl (fun c109 => ?_) (fun c109 => ?_)
    · refine jv_iconst (v := 1) dX8_unit_112 (by decide) ?_
      refine jv_goto (tgt := 117) dX8_unit_113 rfl ?_
      exact vf_ret dX8_unit_117 rfl
    refine jv_iconst (v := 0) dX8_unit_116 (by decide) ?_
    exact vf_ret dX8_unit_117 rfl
  refine jv_iloadn (j := 0) dX8_unit_11 rfl ?_
  refine jv_bipush (v := 40) dX8_unit_12 (by decide) ?_
  refine jw_ic_ne (tgt := 118) dX8_unit_14 rfl (fun c14 => ?_) (fun c14 => ?_)
  · refine jv_aloadn (j := 1) dX8_unit_17 rfl ?_
    refine hv_getI dX8_unit_18 fl8_88 at_MO_0 rfl ?_
    refine jv_iconst (v := 5) dX8_unit_21 (by decide) ?_
    refine jw_ic_ne (tgt := 30) dX8_unit_22 rfl (fun c22 => ?_) (fun c22 => ?_)
    · refine jv_aloadn (j := 1) dX8_unit_25 rfl ?_
      refine hv_callI (As := []) dX8_unit_26 lk8_91 kX8_wrong nX8_wrong (by omega) (Nat.le_of_ble_eq_true rfl) at_MO_0 rfl rfl rfl (fun _ _ e l => c_X8_wrong  e l V) ?_
      intro r24 M23
      exact vf_ret dX8_unit_29 rfl
    refine jv_aloadn (j := 1) dX8_unit_30 rfl ?_
    refine jv_dup dX8_unit_31 rfl ?_
    refine hv_getI dX8_unit_32 fl8_88 at_MO_0 rfl ?_
    refine jv_iconst (v := 1) dX8_unit_35 (by decide) ?_
    refine jv_iadd dX8_unit_36 ?_
    refine hv_put dX8_unit_37 fp8_88 at_MO_0 rfl rfl rfl ?_
    refine vf_letM (fun M25 => ?_)
    refine jv_aloadn (j := 1) dX8_unit_40 rfl ?_
    refine jv_dup dX8_unit_41 rfl ?_
    refine hv_getI dX8_unit_42 fl8_48 at_MO_0 rfl ?_
    refine jv_iconst (v := 1) dX8_unit_45 (by decide) ?_
    refine jv_iadd dX8_unit_46 ?_
    refine hv_put dX8_unit_47 fp8_48 at_MO_0 rfl rfl rfl ?_
    refine vf_letM (fun M26 => ?_)
    refine jv_iloadn (j := 0) dX8_unit_50 rfl ?_
    refine jv_bipush (v := 40) dX8_unit_51 (by decide) ?_
    refine jw_ic_ne (tgt := 63) dX8_unit_53 rfl (fun c53 => ?_) (fun c53 => ?_)
    · refine jv_aloadn (j := 1) dX8_unit_56 rfl ?_
      refine hv_callI (As := []) dX8_unit_57 lk8_94 kX8_either nX8_either (by omega) (Nat.le_of_ble_eq_true rfl) at_MO_0 rfl rfl rfl (fun _ _ e l => hr.1  _  _ _ e l V) ?_
      intro r28 M27
      refine jv_goto (tgt := 67) dX8_unit_60 rfl ?_
      refine jv_istoren (L' := [(2, .int r28), (1, .int r2), (0, .ref (V.1 0))]) dX8_unit_67 (Nat.le_of_ble_eq_true rfl) rfl ?_
      refine jv_iloadn (j := 1) dX8_unit_68 rfl ?_
      refine jv_bipush (v := 40) dX8_unit_69 (by decide) ?_
      refine jw_ic_ne (tgt := 88) dX8_unit_71 rfl (fun c71 => ?_) (fun c71 => ?_)
      · refine jv_aloadn (j := 2) dX8_unit_74 rfl ?_
        refine jv_bipush (v := 41) dX8_unit_75 (by decide) ?_
        refine hv_callI (As := [.int 41]) dX8_unit_77 lk8_72 kX8_takes nX8_takes (by omega) (Nat.le_of_ble_eq_true rfl) at_MO_0 rfl rfl rfl (fun _ _ e l => c_X8_takes  e l V) ?_
        intro r30 M29
        refine jw_if_ne (tgt := 88) dX8_unit_80 rfl (fun c80 => ?_) (fun c80 => ?_)
        · refine jv_aloadn (j := 2) dX8_unit_83 rfl ?_
          refine hv_callI (As := []) dX8_unit_84 lk8_91 kX8_wrong nX8_wrong (by omega) (Nat.le_of_ble_eq_true rfl) at_MO_0 rfl rfl rfl (fun _ _ e l => c_X8_wrong  e l V) ?_
          intro r32 M31
          exact vf_ret dX8_unit_87 rfl
        refine jv_aloadn (j := 2) dX8_unit_88 rfl ?_
        refine jv_dup dX8_unit_89 rfl ?_
        refine hv_getI dX8_unit_90 fl8_88 at_MO_0 rfl ?_
        refine jv_iconst (v := 1) dX8_unit_93 (by decide) ?_
        refine jv_isub dX8_unit_94 ?_
        refine hv_put dX8_unit_95 fp8_88 at_MO_0 rfl rfl rfl ?_
        refine vf_letM (fun M33 => ?_)
        refine jv_iloadn (j := 1) dX8_unit_98 rfl ?_
        refine jv_bipush (v := 40) dX8_unit_99 (by decide) ?_
        refine jw_ic_ne (tgt := 108) dX8_unit_101 rfl (fun c101 => ?_) (fun c101 => ?_)
        · refine jv_iloadn (j := 0) dX8_unit_104 rfl ?_
          refine jv_goto (tgt := 117) dX8_unit_105 rfl ?_
          exact vf_ret dX8_unit_117 rfl
        refine jv_iloadn (j := 0) dX8_unit_108 rfl ?_
        refine jw_if_ne (tgt := 116) dX8_unit_109 rfl (fun c109 => ?_) (fun c109 => ?_)
        · refine jv_iconst (v := 1) dX8_unit_112 (by decide) ?_
          refine jv_goto (tgt := 117) dX8_unit_113 rfl ?_
          exact vf_ret dX8_unit_117 rfl
        refine jv_iconst (v := 0) dX8_unit_116 (by decide) ?_
        exact vf_ret dX8_unit_117 rfl
      refine jv_aloadn (j := 2) dX8_unit_88 rfl ?_
      refine jv_dup dX8_unit_89 rfl ?_
      refine hv_getI dX8_unit_90 fl8_88 at_MO_0 rfl ?_
      refine jv_iconst (v := 1) dX8_unit_93 (by decide) ?_
      refine jv_isub dX8_unit_94 ?_
      refine hv_put dX8_unit_95 fp8_88 at_MO_0 rfl rfl rfl ?_
      refine vf_letM (fun M34 => ?_)
      refine jv_iloadn (j := 1) dX8_unit_98 rfl ?_
      refine jv_bipush (v := 40) dX8_unit_99 (by decide) ?_
      refine jw_ic_ne (tgt := 108) dX8_unit_101 rfl (fun c101 => ?_) (fun c101 => ?_)
      · refine jv_iloadn (j := 0) dX8_unit_104 rfl ?_
        refine jv_goto (tgt := 117) dX8_unit_105 rfl ?_
        exact vf_ret dX8_unit_117 rfl
      refine jv_iloadn (j := 0) dX8_unit_108 rfl ?_
      refine jw_if_ne (tgt := 116) dX8_unit_109 rfl (fun c109 => ?_) (fun c109 => ?_)
      · refine jv_iconst (v := 1) dX8_unit_112 (by decide) ?_
        refine jv_goto (tgt := 117) dX8_unit_113 rfl ?_
        exact vf_ret dX8_unit_117 rfl
      refine jv_iconst (v := 0) dX8_unit_116 (by decide) ?_
      exact vf_ret dX8_unit_117 rfl
    refine jv_aloadn (j := 1) dX8_unit_63 rfl ?_
    refine hv_callI (As := []) dX8_unit_64 lk8_85 kX8_unit nX8_unit (by omega) (Nat.le_of_ble_eq_true rfl) at_MO_0 rfl rfl rfl (fun _ _ e l => hr.2.2.2.2.2  _  _ _ e l V) ?_
    intro r36 M35
    refine jv_istoren (L' := [(2, .int r36), (1, .int r2), (0, .ref (V.1 0))]) dX8_unit_67 (Nat.le_of_ble_eq_true rfl) rfl ?_
    refine jv_iloadn (j := 1) dX8_unit_68 rfl ?_
    refine jv_bipush (v := 40) dX8_unit_69 (by decide) ?_
    refine jw_ic_ne (tgt := 88) dX8_unit_71 rfl (fun c71 => ?_) (fun c71 => ?_)
    · refine jv_aloadn (j := 2) dX8_unit_74 rfl ?_
      refine jv_bipush (v := 41) dX8_unit_75 (by decide) ?_
      refine hv_callI (As := [.int 41]) dX8_unit_77 lk8_72 kX8_takes nX8_takes (by omega) (Nat.le_of_ble_eq_true rfl) at_MO_0 rfl rfl rfl (fun _ _ e l => c_X8_takes  e l V) ?_
      intro r38 M37
      refine jw_if_ne (tgt := 88) dX8_unit_80 rfl (fun c80 => ?_) (fun c80 => ?_)
      · refine jv_aloadn (j := 2) dX8_unit_83 rfl ?_
        refine hv_callI (As := []) dX8_unit_84 lk8_91 kX8_wrong nX8_wrong (by omega) (Nat.le_of_ble_eq_true rfl) at_MO_0 rfl rfl rfl (fun _ _ e l => c_X8_wrong  e l V) ?_
        intro r40 M39
        exact vf_ret dX8_unit_87 rfl
      refine jv_aloadn (j := 2) dX8_unit_88 rfl ?_
      refine jv_dup dX8_unit_89 rfl ?_
      refine hv_getI dX8_unit_90 fl8_88 at_MO_0 rfl ?_
      refine jv_iconst (v := 1) dX8_unit_93 (by decide) ?_
      refine jv_isub dX8_unit_94 ?_
      refine hv_put dX8_unit_95 fp8_88 at_MO_0 rfl rfl rfl ?_
      refine vf_letM (fun M41 => ?_)
      refine jv_iloadn (j := 1) dX8_unit_98 rfl ?_
      refine jv_bipush (v := 40) dX8_unit_99 (by decide) ?_
      refine jw_ic_ne (tgt := 108) dX8_unit_101 rfl (fun c101 => ?_) (fun c101 => ?_)
      · refine jv_iloadn (j := 0) dX8_unit_104 rfl ?_
        refine jv_goto (tgt := 117) dX8_unit_105 rfl ?_
        exact vf_ret dX8_unit_117 rfl
      refine jv_iloadn (j := 0) dX8_unit_108 rfl ?_
      refine jw_if_ne (tgt := 116) dX8_unit_109 rfl (fun c109 => ?_) (fun c109 => ?_)
      · refine jv_iconst (v := 1) dX8_unit_112 (by decide) ?_
        refine jv_goto (tgt := 117) dX8_unit_113 rfl ?_
        exact vf_ret dX8_unit_117 rfl
      refine jv_iconst (v := 0) dX8_unit_116 (by decide) ?_
      exact vf_ret dX8_unit_117 rfl
    refine jv_aloadn (j := 2) dX8_unit_88 rfl ?_
    refine jv_dup dX8_unit_89 rfl ?_
    refine hv_getI dX8_unit_90 fl8_88 at_MO_0 rfl ?_
    refine jv_iconst (v := 1) dX8_unit_93 (by decide) ?_
    refine jv_isub dX8_unit_94 ?_
    refine hv_put dX8_unit_95 fp8_88 at_MO_0 rfl rfl rfl ?_
    refine vf_letM (fun M42 => ?_)
    refine jv_iloadn (j := 1) dX8_unit_98 rfl ?_
    refine jv_bipush (v := 40) dX8_unit_99 (by decide) ?_
    refine jw_ic_ne (tgt := 108) dX8_unit_101 rfl (fun c101 => ?_) (fun c101 => ?_)
    · refine jv_iloadn (j := 0) dX8_unit_104 rfl ?_
      refine jv_goto (tgt := 117) dX8_unit_105 rfl ?_
      exact vf_ret dX8_unit_117 rfl
    refine jv_iloadn (j := 0) dX8_unit_108 rfl ?_
    refine jw_if_ne (tgt := 116) dX8_unit_109 rfl (fun c109 => ?_) (fun c109 => ?_)
    · refine jv_iconst (v := 1) dX8_unit_112 (by decide) ?_
      refine jv_goto (tgt := 117) dX8_unit_113 rfl ?_
      exact vf_ret dX8_unit_117 rfl
    refine jv_iconst (v := 0) dX8_unit_116 (by decide) ?_
    exact vf_ret dX8_unit_117 rfl
  refine jv_aloadn (j := 1) dX8_unit_118 rfl ?_
  refine jv_iloadn (j := 0) dX8_unit_119 rfl ?_
  refine hv_callI (As := [.int r2]) dX8_unit_120 lk8_97 kX8_nameOf nX8_nameOf (by omega) (Nat.le_of_ble_eq_true rfl) at_MO_0 rfl rfl rfl (fun _ _ e l => c_X8_nameOf  e l V) ?_
  intro r44 M43
  refine jv_istoren (L' := [(2, .int r44), (1, .int r2), (0, .ref (V.1 0))]) dX8_unit_123 (Nat.le_of_ble_eq_true rfl) rfl ?_
  refine jv_iloadn (j := 0) dX8_unit_124 rfl ?_
  refine jw_if_lt (tgt := 145) dX8_unit_125 rfl (fun c125 => ?_) (fun c125 => ?_)
  · refine jv_iconst (v := 0) dX8_unit_145 (by decide) ?_
    refine jv_istoren (L' := [(3, .int 0), (2, .int r44), (1, .int r2), (0, .ref (V.1 0))]) dX8_unit_146 (Nat.le_of_ble_eq_true rfl) rfl ?_
    refine jv_iconst (v := 0) dX8_unit_147 (by decide) ?_
    refine jv_istore (L' := [(4, .int 0), (3, .int 0), (2, .int r44), (1, .int r2), (0, .ref (V.1 0))]) dX8_unit_148 (Nat.le_of_ble_eq_true rfl) rfl ?_
    refine vl_b3 (P := fun (l3 : Int32) (l4 : Int32) (Ml : pm_M) => pm_J X V mX8_unit (3 + (n + 1)) (pm_wld V skD Ml) 202 [(0, .ref (V.1 0)), (3, .int l3), (4, .int l4)] []) (vf_j (fun g => jr_sub [4, 1, 0] rfl g) (wl_X8_unit_150 hr   0 0 M43)) ?_
    intro l45 l46 M47
    refine jv_iload (j := 2) dX8_unit_202 rfl ?_
    refine jw_if_ne (tgt := 214) dX8_unit_204 rfl (fun c204 => ?_) (fun c204 => ?_)
    · refine jv_aloadn (j := 0) dX8_unit_207 rfl ?_
      refine hv_callI (As := []) dX8_unit_208 lk8_91 kX8_wrong nX8_wrong (by omega) (Nat.le_of_ble_eq_true rfl) at_MO_0 rfl rfl rfl (fun _ _ e l => c_X8_wrong  e l V) ?_
      intro r49 M48
      refine jv_goto (tgt := 215) dX8_unit_211 rfl ?_
      exact vf_ret dX8_unit_215 rfl
    refine jv_iloadn (j := 1) dX8_unit_214 rfl ?_
    exact vf_ret dX8_unit_215 rfl
  refine jv_aloadn (j := 2) dX8_unit_128 rfl ?_
  refine jv_dup dX8_unit_129 rfl ?_
  refine hv_getI dX8_unit_130 fl8_48 at_MO_0 rfl ?_
  refine jv_iconst (v := 1) dX8_unit_133 (by decide) ?_
  refine jv_iadd dX8_unit_134 ?_
  refine hv_put dX8_unit_135 fp8_48 at_MO_0 rfl rfl rfl ?_
  refine vf_letM (fun M50 => ?_)
  refine jv_aloadn (j := 2) dX8_unit_138 rfl ?_
  refine hv_getR dX8_unit_139 fl8_22 at_MO_0 rfl ?_
  refine jv_iloadn (j := 0) dX8_unit_142 rfl ?_
  refine hv_ialdC dX8_unit_143 at_MO_5 (fun _ => ?_)
  exact vf_ret dX8_unit_144 rfl
set_option maxHeartbeats 4000000 in
set_option maxRecDepth 100000 in
theorem cG_X8_either : ∀ n, GP_X8_either n (fG_X8_either n)
  | 0 => ⟨(fun _ _ _ h => by cases h), (fun _ _ _ h => by cases h), (fun _ _ _ h => by cases h), (fun _ _ _ h => by cases h), (fun _ _ _ h => by cases h), (fun _ _ _ h => by cases h)⟩
  | n + 1 => by
    have ih := cG_X8_either n
    exact ⟨(fun M x M' h l V => pm_metI (by decide) rfl (Nat.le_of_ble_eq_true rfl) h (fun _ => w_X8_either ih M )), (fun M x M' h l V => pm_metI (by decide) rfl (Nat.le_of_ble_eq_true rfl) h (fun _ => w_X8_both ih M )), (fun M x M' h l V => pm_metI (by decide) rfl (Nat.le_of_ble_eq_true rfl) h (fun _ => w_X8_compared ih M )), (fun M x M' h l V => pm_metI (by decide) rfl (Nat.le_of_ble_eq_true rfl) h (fun _ => w_X8_sum ih M )), (fun M x M' h l V => pm_metI (by decide) rfl (Nat.le_of_ble_eq_true rfl) h (fun _ => w_X8_product ih M )), (fun M x M' h l V => pm_metI (by decide) rfl (Nat.le_of_ble_eq_true rfl) h (fun _ => w_X8_unit ih M ))⟩
def f_X8_either : pm_M → Option (Int32 × pm_M) := (fG_X8_either pm_D).1
theorem c_X8_either {M : pm_M}  {x : Int32} {M' : pm_M} (h : f_X8_either M = some (x, M')) (l : Launch) (V : pm_V) : pm_Ci l V skD yX8_either mX8_either 103 [.ref (V.1 0)] M x M' := (cG_X8_either pm_D).1 _ _ _ h l V
def f_X8_both : pm_M → Option (Int32 × pm_M) := (fG_X8_either pm_D).2.1
theorem c_X8_both {M : pm_M}  {x : Int32} {M' : pm_M} (h : f_X8_both M = some (x, M')) (l : Launch) (V : pm_V) : pm_Ci l V skD yX8_both mX8_both 103 [.ref (V.1 0)] M x M' := (cG_X8_either pm_D).2.1 _ _ _ h l V
def f_X8_compared : pm_M → Option (Int32 × pm_M) := (fG_X8_either pm_D).2.2.1
theorem c_X8_compared {M : pm_M}  {x : Int32} {M' : pm_M} (h : f_X8_compared M = some (x, M')) (l : Launch) (V : pm_V) : pm_Ci l V skD yX8_compared mX8_compared 103 [.ref (V.1 0)] M x M' := (cG_X8_either pm_D).2.2.1 _ _ _ h l V
def f_X8_sum : pm_M → Option (Int32 × pm_M) := (fG_X8_either pm_D).2.2.2.1
theorem c_X8_sum {M : pm_M}  {x : Int32} {M' : pm_M} (h : f_X8_sum M = some (x, M')) (l : Launch) (V : pm_V) : pm_Ci l V skD yX8_sum mX8_sum 103 [.ref (V.1 0)] M x M' := (cG_X8_either pm_D).2.2.2.1 _ _ _ h l V
def f_X8_product : pm_M → Option (Int32 × pm_M) := (fG_X8_either pm_D).2.2.2.2.1
theorem c_X8_product {M : pm_M}  {x : Int32} {M' : pm_M} (h : f_X8_product M = some (x, M')) (l : Launch) (V : pm_V) : pm_Ci l V skD yX8_product mX8_product 103 [.ref (V.1 0)] M x M' := (cG_X8_either pm_D).2.2.2.2.1 _ _ _ h l V
def f_X8_unit : pm_M → Option (Int32 × pm_M) := (fG_X8_either pm_D).2.2.2.2.2
theorem c_X8_unit {M : pm_M}  {x : Int32} {M' : pm_M} (h : f_X8_unit M = some (x, M')) (l : Launch) (V : pm_V) : pm_Ci l V skD yX8_unit mX8_unit 103 [.ref (V.1 0)] M x M' := (cG_X8_either pm_D).2.2.2.2.2 _ _ _ h l V
def f_X8_worked (M : pm_M) (x1 : Int32) (x2 : Int32) (x3 : Int32) : Option (Int32 × pm_M) :=
  (pm_let (pm_up M 0 5 x1) (fun M1 : pm_M => (pm_let (pm_up M1 0 6 0) (fun M2 : pm_M => (pm_let (pm_up M2 0 7 x2) (fun M3 : pm_M => (pm_let (pm_up M3 0 8 (-1)) (fun M4 : pm_M => (pm_let (pm_up M4 0 9 0) (fun M5 : pm_M => (if x3 = 1 then (pm_let (pm_up M5 0 10 1) (fun M6 : pm_M => (pm_b2 (f_X8_either M6) (fun (r8 : Int32) (M7 : pm_M) => (if 0 ≤ (M7 0 8) then (some (r8, M7)) else (if (M7 0 7) ≤ (M7 0 6) then (some (r8, M7)) else (pm_b2 (f_X8_wrong M7) (fun (r10 : Int32) (M9 : pm_M) => (some (r10, M9)))))))))) else (pm_let (pm_up M5 0 10 0) (fun M11 : pm_M => (pm_b2 (f_X8_either M11) (fun (r13 : Int32) (M12 : pm_M) => (if 0 ≤ (M12 0 8) then (some (r13, M12)) else (if (M12 0 7) ≤ (M12 0 6) then (some (r13, M12)) else (pm_b2 (f_X8_wrong M12) (fun (r15 : Int32) (M14 : pm_M) => (some (r15, M14)))))))))))))))))))))
set_option maxHeartbeats 4000000 in
set_option maxRecDepth 100000 in
theorem w_X8_worked {X : pm_X} {V : pm_V} (M : pm_M) (x1 : Int32) (x2 : Int32) (x3 : Int32)  : pm_VF (f_X8_worked M x1 x2 x3) (pm_K X V mX8_worked 104 skD) (pm_J X V mX8_worked 104 (pm_wld V skD M) 0 [(0, .ref (V.1 0)), (1, .int x1), (2, .int x2), (3, .int x3)] []) := by
  unfold f_X8_worked
  refine jv_aloadn (j := 0) dX8_worked_0 rfl ?_
  refine jv_iloadn (j := 1) dX8_worked_1 rfl ?_
  refine hv_put dX8_worked_2 fp8_58 at_MO_0 rfl rfl rfl ?_
  refine vf_letM (fun M1 => ?_)
  refine jv_aloadn (j := 0) dX8_worked_5 rfl ?_
  refine jv_iconst (v := 0) dX8_worked_6 (by decide) ?_
  refine hv_put dX8_worked_7 fp8_48 at_MO_0 rfl rfl rfl ?_
  refine vf_letM (fun M2 => ?_)
  refine jv_aloadn (j := 0) dX8_worked_10 rfl ?_
  refine jv_iloadn (j := 2) dX8_worked_11 rfl ?_
  refine hv_put dX8_worked_12 fp8_52 at_MO_0 rfl rfl rfl ?_
  refine vf_letM (fun M3 => ?_)
  refine jv_aloadn (j := 0) dX8_worked_15 rfl ?_
  refine jv_iconst (v := -1) dX8_worked_16 (by decide) ?_
  refine hv_put dX8_worked_17 fp8_55 at_MO_0 rfl rfl rfl ?_
  refine vf_letM (fun M4 => ?_)
  refine jv_aloadn (j := 0) dX8_worked_20 rfl ?_
  refine jv_iconst (v := 0) dX8_worked_21 (by decide) ?_
  refine hv_put dX8_worked_22 fp8_88 at_MO_0 rfl rfl rfl ?_
  refine vf_letM (fun M5 => ?_)
  refine jv_aloadn (j := 0) dX8_worked_25 rfl ?_
  refine jv_iloadn (j := 3) dX8_worked_26 rfl ?_
  refine jv_iconst (v := 1) dX8_worked_27 (by decide) ?_
  refine jw_ic_ne (tgt := 35) dX8_worked_28 rfl (fun c28 => ?_) (fun c28 => ?_)
  · refine jv_iconst (v := 1) dX8_worked_31 (by decide) ?_
    refine jv_goto (tgt := 36) dX8_worked_32 rfl ?_
    refine hv_put dX8_worked_36 fp8_65 at_MO_0 rfl rfl rfl ?_
    refine vf_letM (fun M6 => ?_)
    refine jv_aloadn (j := 0) dX8_worked_39 rfl ?_
    refine hv_callI (As := []) dX8_worked_40 lk8_94 kX8_either nX8_either (Nat.le_of_ble_eq_true rfl) (Nat.le_of_ble_eq_true rfl) at_MO_0 rfl rfl rfl (fun _ _ e l => c_X8_either  e l V) ?_
    intro r8 M7
    refine jv_istore (L' := [(4, .int r8), (0, .ref (V.1 0)), (1, .int x1), (2, .int x2), (3, .int x3)]) dX8_worked_43 (Nat.le_of_ble_eq_true rfl) rfl ?_
    refine jv_aloadn (j := 1) dX8_worked_45 rfl ?_
    refine hv_getI dX8_worked_46 fl8_55 at_MO_0 rfl ?_
    refine jw_if_ge (tgt := 68) dX8_worked_49 rfl (fun c49 => ?_) (fun c49 => ?_)
    · refine jv_iload (j := 0) dX8_worked_68 rfl ?_
      exact vf_ret dX8_worked_70 rfl
    refine jv_aloadn (j := 1) dX8_worked_52 rfl ?_
    refine hv_getI dX8_worked_53 fl8_48 at_MO_0 rfl ?_
    refine jv_aloadn (j := 1) dX8_worked_56 rfl ?_
    refine hv_getI dX8_worked_57 fl8_52 at_MO_0 rfl ?_
    refine jw_ic_ge (tgt := 68) dX8_worked_60 rfl (fun c60 => ?_) (fun c60 => ?_)
    · refine jv_iload (j := 0) dX8_worked_68 rfl ?_
      exact vf_ret dX8_worked_70 rfl
    refine jv_aloadn (j := 1) dX8_worked_63 rfl ?_
    refine hv_callI (As := []) dX8_worked_64 lk8_91 kX8_wrong nX8_wrong (Nat.le_of_ble_eq_true rfl) (Nat.le_of_ble_eq_true rfl) at_MO_0 rfl rfl rfl (fun _ _ e l => c_X8_wrong  e l V) ?_
    intro r10 M9
    exact vf_ret dX8_worked_67 rfl
  refine jv_iconst (v := 0) dX8_worked_35 (by decide) ?_
  refine hv_put dX8_worked_36 fp8_65 at_MO_0 rfl rfl rfl ?_
  refine vf_letM (fun M11 => ?_)
  refine jv_aloadn (j := 0) dX8_worked_39 rfl ?_
  refine hv_callI (As := []) dX8_worked_40 lk8_94 kX8_either nX8_either (Nat.le_of_ble_eq_true rfl) (Nat.le_of_ble_eq_true rfl) at_MO_0 rfl rfl rfl (fun _ _ e l => c_X8_either  e l V) ?_
  intro r13 M12
  refine jv_istore (L' := [(4, .int r13), (0, .ref (V.1 0)), (1, .int x1), (2, .int x2), (3, .int x3)]) dX8_worked_43 (Nat.le_of_ble_eq_true rfl) rfl ?_
  refine jv_aloadn (j := 1) dX8_worked_45 rfl ?_
  refine hv_getI dX8_worked_46 fl8_55 at_MO_0 rfl ?_
  refine jw_if_ge (tgt := 68) dX8_worked_49 rfl (fun c49 => ?_) (fun c49 => ?_)
  · refine jv_iload (j := 0) dX8_worked_68 rfl ?_
    exact vf_ret dX8_worked_70 rfl
  refine jv_aloadn (j := 1) dX8_worked_52 rfl ?_
  refine hv_getI dX8_worked_53 fl8_48 at_MO_0 rfl ?_
  refine jv_aloadn (j := 1) dX8_worked_56 rfl ?_
  refine hv_getI dX8_worked_57 fl8_52 at_MO_0 rfl ?_
  refine jw_ic_ge (tgt := 68) dX8_worked_60 rfl (fun c60 => ?_) (fun c60 => ?_)
  · refine jv_iload (j := 0) dX8_worked_68 rfl ?_
    exact vf_ret dX8_worked_70 rfl
  refine jv_aloadn (j := 1) dX8_worked_63 rfl ?_
  refine hv_callI (As := []) dX8_worked_64 lk8_91 kX8_wrong nX8_wrong (Nat.le_of_ble_eq_true rfl) (Nat.le_of_ble_eq_true rfl) at_MO_0 rfl rfl rfl (fun _ _ e l => c_X8_wrong  e l V) ?_
  intro r15 M14
  exact vf_ret dX8_worked_67 rfl
theorem c_X8_worked {M : pm_M} {x1 : Int32} {x2 : Int32} {x3 : Int32}  {r : Int32} {M' : pm_M} (h : f_X8_worked M x1 x2 x3 = some (r, M')) (l : Launch) (V : pm_V) : pm_Ci l V skD yX8_worked mX8_worked 104 [.ref (V.1 0), .int x1, .int x2, .int x3] M r M' := pm_metI (by decide) rfl (Nat.le_of_ble_eq_true rfl) h (fun _ => w_X8_worked M x1 x2 x3 )
def lb_X8_feed_40 (x1 : Int64) (x2 : Int32) (ih : Int32 → pm_M → Option (pm_M)) : Int32 → pm_M → Option (pm_M) := fun (l4 : Int32) (Ml : pm_M) =>
  (if x2 ≤ l4 then (some Ml) else (pm_chk (pm_in (208 + (Ml 1 (4 : Int32).toNatClampNeg)) 258) (pm_let (pm_up Ml 1 (208 + (Ml 1 (4 : Int32).toNatClampNeg)).toNatClampNeg (((x1 >>> ((8 * l4).toInt64 &&& 63)) &&& 255).toInt32)) (fun M41002 : pm_M => (pm_let (pm_up M41002 1 (4 : Int32).toNatClampNeg ((M41002 1 (4 : Int32).toNatClampNeg) + 1)) (fun M41003 : pm_M => (ih (l4 + 1) M41003)))))))
def lp_X8_feed_40 (x1 : Int64) (x2 : Int32) : Int32 → pm_M → Option (pm_M) := pm_it (fun _ _ => none) (lb_X8_feed_40 x1 x2) pm_F
def f_X8_feed (M : pm_M) (x1 : Int64) (x2 : Int32) : Option (Int32 × pm_M) :=
  (pm_b2 (f_X8_in M (x2.toInt64) 1 8) (fun (r2 : Int32) (M1 : pm_M) => (if r2 = 0 then (pm_b2 (f_X8_finds M1 1) (fun (r4 : Int32) (M3 : pm_M) => (some (r4, M3)))) else (if ((M1 1 (4 : Int32).toNatClampNeg) + x2) ≤ 50 then (pm_b1 (lp_X8_feed_40 x1 x2 0 M1) (fun (M5 : pm_M) => (some ((M5 1 (4 : Int32).toNatClampNeg), M5)))) else (pm_b2 (f_X8_finds M1 4) (fun (r7 : Int32) (M6 : pm_M) => (some (r7, M6))))))))
set_option maxHeartbeats 4000000 in
set_option maxRecDepth 100000 in
theorem wl_X8_feed_40 {X : pm_X} {V : pm_V} (x1 : Int64) (x2 : Int32)  : ∀ (l4 : Int32) (Ml : pm_M), pm_VF (lp_X8_feed_40 x1 x2 l4 Ml) (fun b => (fun (Ml : pm_M) => pm_J X V mX8_feed 2 (pm_wld V skD Ml) 89 [(0, .ref (V.1 0))] []) b) (pm_J X V mX8_feed 2 (pm_wld V skD Ml) 40 [(0, .ref (V.1 0)), (1, .long x1), (3, .int x2), (4, .int l4)] []) := by
  refine pm_it_ind (P := fun (f : Int32 → pm_M → Option (pm_M)) => ∀ (l4 : Int32) (Ml : pm_M), pm_VF (f l4 Ml) (fun b => (fun (Ml : pm_M) => pm_J X V mX8_feed 2 (pm_wld V skD Ml) 89 [(0, .ref (V.1 0))] []) b) (pm_J X V mX8_feed 2 (pm_wld V skD Ml) 40 [(0, .ref (V.1 0)), (1, .long x1), (3, .int x2), (4, .int l4)] [])) (fun _ _ => vf_none) (fun ih hih l4 Ml => ?_) pm_F
  · unfold lb_X8_feed_40
    refine jv_iload (j := 3) dX8_feed_40 rfl ?_
    refine jv_iloadn (j := 2) dX8_feed_42 rfl ?_
    refine jw_ic_ge (tgt := 89) dX8_feed_43 rfl (fun c43 => ?_) (fun c43 => ?_)
    · exact vf_end (fun g => jr_sub [0] rfl g)
    refine jv_aloadn (j := 0) dX8_feed_46 rfl ?_
    refine hv_getR dX8_feed_47 fl8_7 at_MO_0 rfl ?_
    refine jv_sipush (v := 208) dX8_feed_50 (by decide) ?_
    refine jv_aloadn (j := 0) dX8_feed_53 rfl ?_
    refine hv_getR dX8_feed_54 fl8_7 at_MO_0 rfl ?_
    refine jv_iconst (v := 4) dX8_feed_57 (by decide) ?_
    refine hv_iald dX8_feed_58 at_MO_1 (by decide) ?_
    refine jv_iadd dX8_feed_59 ?_
    refine jv_lloadn (j := 1) dX8_feed_60 rfl ?_
    refine jv_bipush (v := 8) dX8_feed_61 (by decide) ?_
    refine jv_iload (j := 3) dX8_feed_63 rfl ?_
    refine jv_imul dX8_feed_65 ?_
    refine jv_lshr dX8_feed_66 ?_
    refine jv_ldc2 dX8_feed_67 lk8_110 ?_
    refine jv_land dX8_feed_70 ?_
    refine jv_l2i dX8_feed_71 ?_
    refine hv_iastC dX8_feed_72 at_MO_1 (fun _ => ?_)
    refine vf_letM (fun M41002 => ?_)
    refine jv_aloadn (j := 0) dX8_feed_73 rfl ?_
    refine hv_getR dX8_feed_74 fl8_7 at_MO_0 rfl ?_
    refine jv_iconst (v := 4) dX8_feed_77 (by decide) ?_
    refine jv_dup2 dX8_feed_78 rfl rfl ?_
    refine hv_iald dX8_feed_79 at_MO_1 (by decide) ?_
    refine jv_iconst (v := 1) dX8_feed_80 (by decide) ?_
    refine jv_iadd dX8_feed_81 ?_
    refine hv_iast dX8_feed_82 at_MO_1 (by decide) ?_
    refine vf_letM (fun M41003 => ?_)
    refine jv_iinc (j := 3) (v := l4 + 1) (L' := [(4, .int (l4 + 1)), (0, .ref (V.1 0)), (1, .long x1), (3, .int x2)]) dX8_feed_83 rfl rfl (Nat.le_of_ble_eq_true rfl) rfl ?_
    refine jv_goto (tgt := 40) dX8_feed_86 rfl ?_
    exact vf_j (fun g => jr_sub [1, 2, 3, 0] rfl g) (hih (l4 + 1) M41003)
set_option maxHeartbeats 4000000 in
set_option maxRecDepth 100000 in
theorem w_X8_feed {X : pm_X} {V : pm_V} (M : pm_M) (x1 : Int64) (x2 : Int32)  : pm_VF (f_X8_feed M x1 x2) (pm_K X V mX8_feed 2 skD) (pm_J X V mX8_feed 2 (pm_wld V skD M) 0 [(0, .ref (V.1 0)), (1, .long x1), (3, .int x2)] []) := by
  unfold f_X8_feed
  refine jv_iloadn (j := 2) dX8_feed_0 rfl ?_
  refine jv_i2l dX8_feed_1 ?_
  refine jv_lconst (v := 1) dX8_feed_2 (by decide) ?_
  refine jv_ldc2 dX8_feed_3 lk8_105 ?_
  refine hv_callS (As := [.long (x2.toInt64), .long 1, .long 8]) dX8_feed_6 lk8_44 kX8_in nX8_in (Nat.le_of_ble_eq_true rfl) (Nat.le_of_ble_eq_true rfl) rfl (fun _ _ e l => c_X8_in  e l V) ?_
  intro r2 M1
  refine jw_if_ne (tgt := 18) dX8_feed_9 rfl (fun c9 => ?_) (fun c9 => ?_)
  · refine jv_aloadn (j := 0) dX8_feed_12 rfl ?_
    refine jv_iconst (v := 1) dX8_feed_13 (by decide) ?_
    refine hv_callI (As := [.int 1]) dX8_feed_14 lk8_107 kX8_finds nX8_finds (Nat.le_of_ble_eq_true rfl) (Nat.le_of_ble_eq_true rfl) at_MO_0 rfl rfl rfl (fun _ _ e l => c_X8_finds  e l V) ?_
    intro r4 M3
    exact vf_ret dX8_feed_17 rfl
  refine jv_aloadn (j := 0) dX8_feed_18 rfl ?_
  refine hv_getR dX8_feed_19 fl8_7 at_MO_0 rfl ?_
  refine jv_iconst (v := 4) dX8_feed_22 (by decide) ?_
  refine hv_iald dX8_feed_23 at_MO_1 (by decide) ?_
  refine jv_iloadn (j := 2) dX8_feed_24 rfl ?_
  refine jv_iadd dX8_feed_25 ?_
  refine jv_bipush (v := 50) dX8_feed_26 (by decide) ?_
  refine jw_ic_le (tgt := 37) dX8_feed_28 rfl (fun c28 => ?_) (fun c28 => ?_)
  · refine jv_iconst (v := 0) dX8_feed_37 (by decide) ?_
    refine jv_istore (L' := [(4, .int 0), (0, .ref (V.1 0)), (1, .long x1), (3, .int x2)]) dX8_feed_38 (Nat.le_of_ble_eq_true rfl) rfl ?_
    refine vl_b1 (P := fun (Ml : pm_M) => pm_J X V mX8_feed 2 (pm_wld V skD Ml) 89 [(0, .ref (V.1 0))] []) (vf_j (fun g => jr_sub [1, 2, 3, 0] rfl g) (wl_X8_feed_40 x1 x2  0 M1)) ?_
    intro M5
    refine jv_aloadn (j := 0) dX8_feed_89 rfl ?_
    refine hv_getR dX8_feed_90 fl8_7 at_MO_0 rfl ?_
    refine jv_iconst (v := 4) dX8_feed_93 (by decide) ?_
    refine hv_iald dX8_feed_94 at_MO_1 (by decide) ?_
    exact vf_ret dX8_feed_95 rfl
  refine jv_aloadn (j := 0) dX8_feed_31 rfl ?_
  refine jv_iconst (v := 4) dX8_feed_32 (by decide) ?_
  refine hv_callI (As := [.int 4]) dX8_feed_33 lk8_107 kX8_finds nX8_finds (Nat.le_of_ble_eq_true rfl) (Nat.le_of_ble_eq_true rfl) at_MO_0 rfl rfl rfl (fun _ _ e l => c_X8_finds  e l V) ?_
  intro r7 M6
  exact vf_ret dX8_feed_36 rfl
theorem c_X8_feed {M : pm_M} {x1 : Int64} {x2 : Int32}  {r : Int32} {M' : pm_M} (h : f_X8_feed M x1 x2 = some (r, M')) (l : Launch) (V : pm_V) : pm_Ci l V skD yX8_feed mX8_feed 2 [.ref (V.1 0), .long x1, .int x2] M r M' := pm_metI (by decide) rfl (Nat.le_of_ble_eq_true rfl) h (fun _ => w_X8_feed M x1 x2 )
def lb_X8_text_68 (x1 : Int32) (z5 : Int32) (ih : Int32 → pm_M → Option (pm_M)) : Int32 → pm_M → Option (pm_M) := fun (l4 : Int32) (Ml : pm_M) =>
  (if z5 ≤ l4 then (some Ml) else (pm_chk (pm_in (208 + l4) 258) (pm_chk (pm_in ((108 + (50 * x1)) + l4) 258) (pm_let (pm_up Ml 1 ((108 + (50 * x1)) + l4).toNatClampNeg (Ml 1 (208 + l4).toNatClampNeg)) (fun M69002 : pm_M => (ih (l4 + 1) M69002))))))
def lp_X8_text_68 (x1 : Int32) (z5 : Int32) : Int32 → pm_M → Option (pm_M) := pm_it (fun _ _ => none) (lb_X8_text_68 x1 z5) pm_F
def f_X8_text (M : pm_M) (x1 : Int32) : Option (Int32 × pm_M) :=
  (pm_b2 (f_X8_in M (x1.toInt64) 0 1) (fun (r2 : Int32) (M1 : pm_M) => (if r2 = 0 then (pm_b2 (f_X8_finds M1 1) (fun (r4 : Int32) (M3 : pm_M) => (some (r4, M3)))) else (pm_let (M1 1 (4 : Int32).toNatClampNeg) (fun z5 : Int32 => (pm_let (pm_up M1 1 (4 : Int32).toNatClampNeg 0) (fun M6 : pm_M => (pm_b2 (f_X8_worked M6 208 z5 x1) (fun (r8 : Int32) (M7 : pm_M) => (if (M7 0 8) < 0 then (pm_chk (pm_in (86 + x1) 258) (pm_let (pm_up M7 1 (86 + x1).toNatClampNeg z5) (fun M9 : pm_M => (pm_b1 (lp_X8_text_68 x1 z5 0 M9) (fun (M10 : pm_M) => (some (1, M10))))))) else (some (((-10) - (M7 0 8)), M7))))))))))))
set_option maxHeartbeats 4000000 in
set_option maxRecDepth 100000 in
theorem wl_X8_text_68 {X : pm_X} {V : pm_V} (x1 : Int32) (z5 : Int32)  : ∀ (l4 : Int32) (Ml : pm_M), pm_VF (lp_X8_text_68 x1 z5 l4 Ml) (fun b => (fun (Ml : pm_M) => pm_J X V mX8_text 105 (pm_wld V skD Ml) 106 [] []) b) (pm_J X V mX8_text 105 (pm_wld V skD Ml) 68 [(0, .ref (V.1 0)), (1, .int x1), (2, .int z5), (4, .int l4)] []) := by
  refine pm_it_ind (P := fun (f : Int32 → pm_M → Option (pm_M)) => ∀ (l4 : Int32) (Ml : pm_M), pm_VF (f l4 Ml) (fun b => (fun (Ml : pm_M) => pm_J X V mX8_text 105 (pm_wld V skD Ml) 106 [] []) b) (pm_J X V mX8_text 105 (pm_wld V skD Ml) 68 [(0, .ref (V.1 0)), (1, .int x1), (2, .int z5), (4, .int l4)] [])) (fun _ _ => vf_none) (fun ih hih l4 Ml => ?_) pm_F
  · unfold lb_X8_text_68
    refine jv_iload (j := 3) dX8_text_68 rfl ?_
    refine jv_iloadn (j := 2) dX8_text_70 rfl ?_
    refine jw_ic_ge (tgt := 106) dX8_text_71 rfl (fun c71 => ?_) (fun c71 => ?_)
    · exact vf_end (fun g => jr_sub [] rfl g)
    refine jv_aloadn (j := 0) dX8_text_74 rfl ?_
    refine hv_getR dX8_text_75 fl8_7 at_MO_0 rfl ?_
    refine jv_bipush (v := 108) dX8_text_78 (by decide) ?_
    refine jv_bipush (v := 50) dX8_text_80 (by decide) ?_
    refine jv_iloadn (j := 1) dX8_text_82 rfl ?_
    refine jv_imul dX8_text_83 ?_
    refine jv_iadd dX8_text_84 ?_
    refine jv_iload (j := 3) dX8_text_85 rfl ?_
    refine jv_iadd dX8_text_87 ?_
    refine jv_aloadn (j := 0) dX8_text_88 rfl ?_
    refine hv_getR dX8_text_89 fl8_7 at_MO_0 rfl ?_
    refine jv_sipush (v := 208) dX8_text_92 (by decide) ?_
    refine jv_iload (j := 3) dX8_text_95 rfl ?_
    refine jv_iadd dX8_text_97 ?_
    refine hv_ialdC dX8_text_98 at_MO_1 (fun _ => ?_)
    refine hv_iastC dX8_text_99 at_MO_1 (fun _ => ?_)
    refine vf_letM (fun M69002 => ?_)
    refine jv_iinc (j := 3) (v := l4 + 1) (L' := [(4, .int (l4 + 1)), (0, .ref (V.1 0)), (1, .int x1), (2, .int z5)]) dX8_text_100 rfl rfl (Nat.le_of_ble_eq_true rfl) rfl ?_
    refine jv_goto (tgt := 68) dX8_text_103 rfl ?_
    exact vf_j (fun g => jr_sub [1, 2, 3, 0] rfl g) (hih (l4 + 1) M69002)
set_option maxHeartbeats 4000000 in
set_option maxRecDepth 100000 in
theorem w_X8_text {X : pm_X} {V : pm_V} (M : pm_M) (x1 : Int32)  : pm_VF (f_X8_text M x1) (pm_K X V mX8_text 105 skD) (pm_J X V mX8_text 105 (pm_wld V skD M) 0 [(0, .ref (V.1 0)), (1, .int x1)] []) := by
  unfold f_X8_text
  refine jv_iloadn (j := 1) dX8_text_0 rfl ?_
  refine jv_i2l dX8_text_1 ?_
  refine jv_lconst (v := 0) dX8_text_2 (by decide) ?_
  refine jv_lconst (v := 1) dX8_text_3 (by decide) ?_
  refine hv_callS (As := [.long (x1.toInt64), .long 0, .long 1]) dX8_text_4 lk8_44 kX8_in nX8_in (Nat.le_of_ble_eq_true rfl) (Nat.le_of_ble_eq_true rfl) rfl (fun _ _ e l => c_X8_in  e l V) ?_
  intro r2 M1
  refine jw_if_ne (tgt := 16) dX8_text_7 rfl (fun c7 => ?_) (fun c7 => ?_)
  · refine jv_aloadn (j := 0) dX8_text_10 rfl ?_
    refine jv_iconst (v := 1) dX8_text_11 (by decide) ?_
    refine hv_callI (As := [.int 1]) dX8_text_12 lk8_107 kX8_finds nX8_finds (Nat.le_of_ble_eq_true rfl) (Nat.le_of_ble_eq_true rfl) at_MO_0 rfl rfl rfl (fun _ _ e l => c_X8_finds  e l V) ?_
    intro r4 M3
    exact vf_ret dX8_text_15 rfl
  refine jv_aloadn (j := 0) dX8_text_16 rfl ?_
  refine hv_getR dX8_text_17 fl8_7 at_MO_0 rfl ?_
  refine jv_iconst (v := 4) dX8_text_20 (by decide) ?_
  refine hv_iald dX8_text_21 at_MO_1 (by decide) ?_
  refine vf_letS (fun z5 => ?_)
  refine jv_istoren (L' := [(2, .int z5), (0, .ref (V.1 0)), (1, .int x1)]) dX8_text_22 (Nat.le_of_ble_eq_true rfl) rfl ?_
  refine jv_aloadn (j := 1) dX8_text_23 rfl ?_
  refine hv_getR dX8_text_24 fl8_7 at_MO_0 rfl ?_
  refine jv_iconst (v := 4) dX8_text_27 (by decide) ?_
  refine jv_iconst (v := 0) dX8_text_28 (by decide) ?_
  refine hv_iast dX8_text_29 at_MO_1 (by decide) ?_
  refine vf_letM (fun M6 => ?_)
  refine jv_aloadn (j := 1) dX8_text_30 rfl ?_
  refine jv_sipush (v := 208) dX8_text_31 (by decide) ?_
  refine jv_iloadn (j := 0) dX8_text_34 rfl ?_
  refine jv_iloadn (j := 2) dX8_text_35 rfl ?_
  refine hv_callI (As := [.int 208, .int z5, .int x1]) dX8_text_36 lk8_112 kX8_worked nX8_worked (Nat.le_of_ble_eq_true rfl) (Nat.le_of_ble_eq_true rfl) at_MO_0 rfl rfl rfl (fun _ _ e l => c_X8_worked  e l V) ?_
  intro r8 M7
  refine jv_istoren (L' := [(3, .int r8), (2, .int z5), (0, .ref (V.1 0)), (1, .int x1)]) dX8_text_39 (Nat.le_of_ble_eq_true rfl) rfl ?_
  refine jv_aloadn (j := 2) dX8_text_40 rfl ?_
  refine hv_getI dX8_text_41 fl8_55 at_MO_0 rfl ?_
  refine jw_if_lt (tgt := 55) dX8_text_44 rfl (fun c44 => ?_) (fun c44 => ?_)
  · refine jv_aloadn (j := 2) dX8_text_55 rfl ?_
    refine hv_getR dX8_text_56 fl8_7 at_MO_0 rfl ?_
    refine jv_bipush (v := 86) dX8_text_59 (by decide) ?_
    refine jv_iloadn (j := 3) dX8_text_61 rfl ?_
    refine jv_iadd dX8_text_62 ?_
    refine jv_iloadn (j := 1) dX8_text_63 rfl ?_
    refine hv_iastC dX8_text_64 at_MO_1 (fun _ => ?_)
    refine vf_letM (fun M9 => ?_)
    refine jv_iconst (v := 0) dX8_text_65 (by decide) ?_
    refine jv_istore (L' := [(4, .int 0), (3, .int r8), (2, .int z5), (0, .ref (V.1 0)), (1, .int x1)]) dX8_text_66 (Nat.le_of_ble_eq_true rfl) rfl ?_
    refine vl_b1 (P := fun (Ml : pm_M) => pm_J X V mX8_text 105 (pm_wld V skD Ml) 106 [] []) (vf_j (fun g => jr_sub [3, 4, 2, 0] rfl g) (wl_X8_text_68 x1 z5  0 M9)) ?_
    intro M10
    refine jv_iconst (v := 1) dX8_text_106 (by decide) ?_
    exact vf_ret dX8_text_107 rfl
  refine jv_bipush (v := -10) dX8_text_47 (by decide) ?_
  refine jv_aloadn (j := 2) dX8_text_49 rfl ?_
  refine hv_getI dX8_text_50 fl8_55 at_MO_0 rfl ?_
  refine jv_isub dX8_text_53 ?_
  exact vf_ret dX8_text_54 rfl
theorem c_X8_text {M : pm_M} {x1 : Int32}  {r : Int32} {M' : pm_M} (h : f_X8_text M x1 = some (r, M')) (l : Launch) (V : pm_V) : pm_Ci l V skD yX8_text mX8_text 105 [.ref (V.1 0), .int x1] M r M' := pm_metI (by decide) rfl (Nat.le_of_ble_eq_true rfl) h (fun _ => w_X8_text M x1 )
def f_X8_textGives (M : pm_M) (x1 : Int32) (x2 : Int32) (x3 : Int32) (x4 : Int32) : Option (Int32 × pm_M) :=
  (if x1 = 0 then (pm_chk (pm_in (86 + x1) 258) (if (M 1 (86 + x1).toNatClampNeg) ≤ 0 then (if x1 = 0 then (pm_b2 (f_X8_held M 12 0 99) (fun (r2 : Int32) (M1 : pm_M) => (some (r2, M1)))) else (pm_b2 (f_X8_held M 12 0 9) (fun (r4 : Int32) (M3 : pm_M) => (some (r4, M3))))) else (pm_let (pm_up M 5 (0 : Int32).toNatClampNeg x2) (fun M5 : pm_M => (pm_let (pm_up M5 5 (1 : Int32).toNatClampNeg x3) (fun M6 : pm_M => (pm_let (pm_up M6 5 (2 : Int32).toNatClampNeg x4) (fun M7 : pm_M => (pm_chk (pm_in (86 + x1) 258) (pm_b2 (f_X8_worked M7 (108 + (50 * x1)) (M7 1 (86 + x1).toNatClampNeg) x1) (fun (r9 : Int32) (M8 : pm_M) => (if x1 = 0 then (pm_b2 (f_X8_held M8 r9 0 99) (fun (r11 : Int32) (M10 : pm_M) => (some (r11, M10)))) else (pm_b2 (f_X8_held M8 r9 0 9) (fun (r13 : Int32) (M12 : pm_M) => (some (r13, M12)))))))))))))))) else (pm_chk (pm_in (86 + x1) 258) (if (M 1 (86 + x1).toNatClampNeg) ≤ 0 then (if x1 = 0 then (pm_b2 (f_X8_held M 1 0 99) (fun (r15 : Int32) (M14 : pm_M) => (some (r15, M14)))) else (pm_b2 (f_X8_held M 1 0 9) (fun (r17 : Int32) (M16 : pm_M) => (some (r17, M16))))) else (pm_let (pm_up M 5 (0 : Int32).toNatClampNeg x2) (fun M18 : pm_M => (pm_let (pm_up M18 5 (1 : Int32).toNatClampNeg x3) (fun M19 : pm_M => (pm_let (pm_up M19 5 (2 : Int32).toNatClampNeg x4) (fun M20 : pm_M => (pm_chk (pm_in (86 + x1) 258) (pm_b2 (f_X8_worked M20 (108 + (50 * x1)) (M20 1 (86 + x1).toNatClampNeg) x1) (fun (r22 : Int32) (M21 : pm_M) => (if x1 = 0 then (pm_b2 (f_X8_held M21 r22 0 99) (fun (r24 : Int32) (M23 : pm_M) => (some (r24, M23)))) else (pm_b2 (f_X8_held M21 r22 0 9) (fun (r26 : Int32) (M25 : pm_M) => (some (r26, M25)))))))))))))))))
set_option maxHeartbeats 4000000 in
set_option maxRecDepth 100000 in
theorem w_X8_textGives {X : pm_X} {V : pm_V} (M : pm_M) (x1 : Int32) (x2 : Int32) (x3 : Int32) (x4 : Int32)  : pm_VF (f_X8_textGives M x1 x2 x3 x4) (pm_K X V mX8_textGives 105 skD) (pm_J X V mX8_textGives 105 (pm_wld V skD M) 0 [(0, .ref (V.1 0)), (1, .int x1), (2, .int x2), (3, .int x3), (4, .int x4)] []) := by
  unfold f_X8_textGives
  refine jv_iloadn (j := 1) dX8_textGives_0 rfl ?_
  refine jw_if_ne (tgt := 9) dX8_textGives_1 rfl (fun c1 => ?_) (fun c1 => ?_)
  · refine jv_bipush (v := 12) dX8_textGives_4 (by decide) ?_
    refine jv_goto (tgt := 10) dX8_textGives_6 rfl ?_
    refine jv_istore (L' := [(5, .int 12), (0, .ref (V.1 0)), (1, .int x1), (2, .int x2), (3, .int x3), (4, .int x4)]) dX8_textGives_10 (Nat.le_of_ble_eq_true rfl) rfl ?_
    refine jv_aloadn (j := 1) dX8_textGives_12 rfl ?_
    refine hv_getR dX8_textGives_13 fl8_7 at_MO_0 rfl ?_
    refine jv_bipush (v := 86) dX8_textGives_16 (by decide) ?_
    refine jv_iloadn (j := 2) dX8_textGives_18 rfl ?_
    refine jv_iadd dX8_textGives_19 ?_
    refine hv_ialdC dX8_textGives_20 at_MO_1 (fun _ => ?_)
    refine jw_if_le (tgt := 69) dX8_textGives_21 rfl (fun c21 => ?_) (fun c21 => ?_)
    · refine jv_iload (j := 0) dX8_textGives_69 rfl ?_
      refine jv_iconst (v := 0) dX8_textGives_71 (by decide) ?_
      refine jv_iloadn (j := 2) dX8_textGives_72 rfl ?_
      refine jw_if_ne (tgt := 81) dX8_textGives_73 rfl (fun c73 => ?_) (fun c73 => ?_)
      · refine jv_bipush (v := 99) dX8_textGives_76 (by decide) ?_
        refine jv_goto (tgt := 83) dX8_textGives_78 rfl ?_
        refine hv_callS (As := [.int 12, .int 0, .int 99]) dX8_textGives_83 lk8_116 kX8_held nX8_held (Nat.le_of_ble_eq_true rfl) (Nat.le_of_ble_eq_true rfl) rfl (fun _ _ e l => c_X8_held  e l V) ?_
        intro r2 M1
        exact vf_ret dX8_textGives_86 rfl
      refine jv_bipush (v := 9) dX8_textGives_81 (by decide) ?_
      refine hv_callS (As := [.int 12, .int 0, .int 9]) dX8_textGives_83 lk8_116 kX8_held nX8_held (Nat.le_of_ble_eq_true rfl) (Nat.le_of_ble_eq_true rfl) rfl (fun _ _ e l => c_X8_held  e l V) ?_
      intro r4 M3
      exact vf_ret dX8_textGives_86 rfl
    refine jv_aloadn (j := 1) dX8_textGives_24 rfl ?_
    refine hv_getR dX8_textGives_25 fl8_22 at_MO_0 rfl ?_
    refine jv_iconst (v := 0) dX8_textGives_28 (by decide) ?_
    refine jv_iloadn (j := 3) dX8_textGives_29 rfl ?_
    refine hv_iast dX8_textGives_30 at_MO_5 (by decide) ?_
    refine vf_letM (fun M5 => ?_)
    refine jv_aloadn (j := 1) dX8_textGives_31 rfl ?_
    refine hv_getR dX8_textGives_32 fl8_22 at_MO_0 rfl ?_
    refine jv_iconst (v := 1) dX8_textGives_35 (by decide) ?_
    refine jv_iloadn (j := 4) dX8_textGives_36 rfl ?_
    refine hv_iast dX8_textGives_37 at_MO_5 (by decide) ?_
    refine vf_letM (fun M6 => ?_)
    refine jv_aloadn (j := 1) dX8_textGives_38 rfl ?_
    refine hv_getR dX8_textGives_39 fl8_22 at_MO_0 rfl ?_
    refine jv_iconst (v := 2) dX8_textGives_42 (by decide) ?_
    refine jv_iload (j := 5) dX8_textGives_43 rfl ?_
    refine hv_iast dX8_textGives_45 at_MO_5 (by decide) ?_
    refine vf_letM (fun M7 => ?_)
    refine jv_aloadn (j := 1) dX8_textGives_46 rfl ?_
    refine jv_bipush (v := 108) dX8_textGives_47 (by decide) ?_
    refine jv_bipush (v := 50) dX8_textGives_49 (by decide) ?_
    refine jv_iloadn (j := 2) dX8_textGives_51 rfl ?_
    refine jv_imul dX8_textGives_52 ?_
    refine jv_iadd dX8_textGives_53 ?_
    refine jv_aloadn (j := 1) dX8_textGives_54 rfl ?_
    refine hv_getR dX8_textGives_55 fl8_7 at_MO_0 rfl ?_
    refine jv_bipush (v := 86) dX8_textGives_58 (by decide) ?_
    refine jv_iloadn (j := 2) dX8_textGives_60 rfl ?_
    refine jv_iadd dX8_textGives_61 ?_
    refine hv_ialdC dX8_textGives_62 at_MO_1 (fun _ => ?_)
    refine jv_iloadn (j := 2) dX8_textGives_63 rfl ?_
    refine hv_callI (As := [.int (108 + (50 * x1)), .int (M7 1 (86 + x1).toNatClampNeg), .int x1]) dX8_textGives_64 lk8_112 kX8_worked nX8_worked (Nat.le_of_ble_eq_true rfl) (Nat.le_of_ble_eq_true rfl) at_MO_0 rfl rfl rfl (fun _ _ e l => c_X8_worked  e l V) ?_
    intro r9 M8
    refine jv_istore (L' := [(5, .int r9), (0, .ref (V.1 0)), (1, .int x1), (2, .int x2), (3, .int x3), (4, .int x4)]) dX8_textGives_67 (Nat.le_of_ble_eq_true rfl) rfl ?_
    refine jv_iload (j := 0) dX8_textGives_69 rfl ?_
    refine jv_iconst (v := 0) dX8_textGives_71 (by decide) ?_
    refine jv_iloadn (j := 2) dX8_textGives_72 rfl ?_
    refine jw_if_ne (tgt := 81) dX8_textGives_73 rfl (fun c73 => ?_) (fun c73 => ?_)
    · refine jv_bipush (v := 99) dX8_textGives_76 (by decide) ?_
      refine jv_goto (tgt := 83) dX8_textGives_78 rfl ?_
      refine hv_callS (As := [.int r9, .int 0, .int 99]) dX8_textGives_83 lk8_116 kX8_held nX8_held (Nat.le_of_ble_eq_true rfl) (Nat.le_of_ble_eq_true rfl) rfl (fun _ _ e l => c_X8_held  e l V) ?_
      intro r11 M10
      exact vf_ret dX8_textGives_86 rfl
    refine jv_bipush (v := 9) dX8_textGives_81 (by decide) ?_
    refine hv_callS (As := [.int r9, .int 0, .int 9]) dX8_textGives_83 lk8_116 kX8_held nX8_held (Nat.le_of_ble_eq_true rfl) (Nat.le_of_ble_eq_true rfl) rfl (fun _ _ e l => c_X8_held  e l V) ?_
    intro r13 M12
    exact vf_ret dX8_textGives_86 rfl
  refine jv_iconst (v := 1) dX8_textGives_9 (by decide) ?_
  refine jv_istore (L' := [(5, .int 1), (0, .ref (V.1 0)), (1, .int x1), (2, .int x2), (3, .int x3), (4, .int x4)]) dX8_textGives_10 (Nat.le_of_ble_eq_true rfl) rfl ?_
  refine jv_aloadn (j := 1) dX8_textGives_12 rfl ?_
  refine hv_getR dX8_textGives_13 fl8_7 at_MO_0 rfl ?_
  refine jv_bipush (v := 86) dX8_textGives_16 (by decide) ?_
  refine jv_iloadn (j := 2) dX8_textGives_18 rfl ?_
  refine jv_iadd dX8_textGives_19 ?_
  refine hv_ialdC dX8_textGives_20 at_MO_1 (fun _ => ?_)
  refine jw_if_le (tgt := 69) dX8_textGives_21 rfl (fun c21 => ?_) (fun c21 => ?_)
  · refine jv_iload (j := 0) dX8_textGives_69 rfl ?_
    refine jv_iconst (v := 0) dX8_textGives_71 (by decide) ?_
    refine jv_iloadn (j := 2) dX8_textGives_72 rfl ?_
    refine jw_if_ne (tgt := 81) dX8_textGives_73 rfl (fun c73 => ?_) (fun c73 => ?_)
    · refine jv_bipush (v := 99) dX8_textGives_76 (by decide) ?_
      refine jv_goto (tgt := 83) dX8_textGives_78 rfl ?_
      refine hv_callS (As := [.int 1, .int 0, .int 99]) dX8_textGives_83 lk8_116 kX8_held nX8_held (Nat.le_of_ble_eq_true rfl) (Nat.le_of_ble_eq_true rfl) rfl (fun _ _ e l => c_X8_held  e l V) ?_
      intro r15 M14
      exact vf_ret dX8_textGives_86 rfl
    refine jv_bipush (v := 9) dX8_textGives_81 (by decide) ?_
    refine hv_callS (As := [.int 1, .int 0, .int 9]) dX8_textGives_83 lk8_116 kX8_held nX8_held (Nat.le_of_ble_eq_true rfl) (Nat.le_of_ble_eq_true rfl) rfl (fun _ _ e l => c_X8_held  e l V) ?_
    intro r17 M16
    exact vf_ret dX8_textGives_86 rfl
  refine jv_aloadn (j := 1) dX8_textGives_24 rfl ?_
  refine hv_getR dX8_textGives_25 fl8_22 at_MO_0 rfl ?_
  refine jv_iconst (v := 0) dX8_textGives_28 (by decide) ?_
  refine jv_iloadn (j := 3) dX8_textGives_29 rfl ?_
  refine hv_iast dX8_textGives_30 at_MO_5 (by decide) ?_
  refine vf_letM (fun M18 => ?_)
  refine jv_aloadn (j := 1) dX8_textGives_31 rfl ?_
  refine hv_getR dX8_textGives_32 fl8_22 at_MO_0 rfl ?_
  refine jv_iconst (v := 1) dX8_textGives_35 (by decide) ?_
  refine jv_iloadn (j := 4) dX8_textGives_36 rfl ?_
  refine hv_iast dX8_textGives_37 at_MO_5 (by decide) ?_
  refine vf_letM (fun M19 => ?_)
  refine jv_aloadn (j := 1) dX8_textGives_38 rfl ?_
  refine hv_getR dX8_textGives_39 fl8_22 at_MO_0 rfl ?_
  refine jv_iconst (v := 2) dX8_textGives_42 (by decide) ?_
  refine jv_iload (j := 5) dX8_textGives_43 rfl ?_
  refine hv_iast dX8_textGives_45 at_MO_5 (by decide) ?_
  refine vf_letM (fun M20 => ?_)
  refine jv_aloadn (j := 1) dX8_textGives_46 rfl ?_
  refine jv_bipush (v := 108) dX8_textGives_47 (by decide) ?_
  refine jv_bipush (v := 50) dX8_textGives_49 (by decide) ?_
  refine jv_iloadn (j := 2) dX8_textGives_51 rfl ?_
  refine jv_imul dX8_textGives_52 ?_
  refine jv_iadd dX8_textGives_53 ?_
  refine jv_aloadn (j := 1) dX8_textGives_54 rfl ?_
  refine hv_getR dX8_textGives_55 fl8_7 at_MO_0 rfl ?_
  refine jv_bipush (v := 86) dX8_textGives_58 (by decide) ?_
  refine jv_iloadn (j := 2) dX8_textGives_60 rfl ?_
  refine jv_iadd dX8_textGives_61 ?_
  refine hv_ialdC dX8_textGives_62 at_MO_1 (fun _ => ?_)
  refine jv_iloadn (j := 2) dX8_textGives_63 rfl ?_
  refine hv_callI (As := [.int (108 + (50 * x1)), .int (M20 1 (86 + x1).toNatClampNeg), .int x1]) dX8_textGives_64 lk8_112 kX8_worked nX8_worked (Nat.le_of_ble_eq_true rfl) (Nat.le_of_ble_eq_true rfl) at_MO_0 rfl rfl rfl (fun _ _ e l => c_X8_worked  e l V) ?_
  intro r22 M21
  refine jv_istore (L' := [(5, .int r22), (0, .ref (V.1 0)), (1, .int x1), (2, .int x2), (3, .int x3), (4, .int x4)]) dX8_textGives_67 (Nat.le_of_ble_eq_true rfl) rfl ?_
  refine jv_iload (j := 0) dX8_textGives_69 rfl ?_
  refine jv_iconst (v := 0) dX8_textGives_71 (by decide) ?_
  refine jv_iloadn (j := 2) dX8_textGives_72 rfl ?_
  refine jw_if_ne (tgt := 81) dX8_textGives_73 rfl (fun c73 => ?_) (fun c73 => ?_)
  · refine jv_bipush (v := 99) dX8_textGives_76 (by decide) ?_
    refine jv_goto (tgt := 83) dX8_textGives_78 rfl ?_
    refine hv_callS (As := [.int r22, .int 0, .int 99]) dX8_textGives_83 lk8_116 kX8_held nX8_held (Nat.le_of_ble_eq_true rfl) (Nat.le_of_ble_eq_true rfl) rfl (fun _ _ e l => c_X8_held  e l V) ?_
    intro r24 M23
    exact vf_ret dX8_textGives_86 rfl
  refine jv_bipush (v := 9) dX8_textGives_81 (by decide) ?_
  refine hv_callS (As := [.int r22, .int 0, .int 9]) dX8_textGives_83 lk8_116 kX8_held nX8_held (Nat.le_of_ble_eq_true rfl) (Nat.le_of_ble_eq_true rfl) rfl (fun _ _ e l => c_X8_held  e l V) ?_
  intro r26 M25
  exact vf_ret dX8_textGives_86 rfl
theorem c_X8_textGives {M : pm_M} {x1 : Int32} {x2 : Int32} {x3 : Int32} {x4 : Int32}  {r : Int32} {M' : pm_M} (h : f_X8_textGives M x1 x2 x3 x4 = some (r, M')) (l : Launch) (V : pm_V) : pm_Ci l V skD yX8_textGives mX8_textGives 105 [.ref (V.1 0), .int x1, .int x2, .int x3, .int x4] M r M' := pm_metI (by decide) rfl (Nat.le_of_ble_eq_true rfl) h (fun _ => w_X8_textGives M x1 x2 x3 x4 )
def f_X8_law (M : pm_M) (x1 : Int32) (x2 : Int32) (x3 : Int32) (x4 : Int32) : Option (Int32 × pm_M) :=
  (pm_b2 (f_X8_in M (x1.toInt64) 0 1) (fun (r2 : Int32) (M1 : pm_M) => (if r2 = 0 then (pm_b2 (f_X8_finds M1 1) (fun (r4 : Int32) (M3 : pm_M) => (some (r4, M3)))) else (pm_b2 (f_X8_textGives M1 x1 x2 x3 x4) (fun (r6 : Int32) (M5 : pm_M) => (some (r6, M5)))))))
set_option maxHeartbeats 4000000 in
set_option maxRecDepth 100000 in
theorem w_X8_law {X : pm_X} {V : pm_V} (M : pm_M) (x1 : Int32) (x2 : Int32) (x3 : Int32) (x4 : Int32)  : pm_VF (f_X8_law M x1 x2 x3 x4) (pm_K X V mX8_law 106 skD) (pm_J X V mX8_law 106 (pm_wld V skD M) 0 [(0, .ref (V.1 0)), (1, .int x1), (2, .int x2), (3, .int x3), (4, .int x4)] []) := by
  unfold f_X8_law
  refine jv_iloadn (j := 1) dX8_law_0 rfl ?_
  refine jv_i2l dX8_law_1 ?_
  refine jv_lconst (v := 0) dX8_law_2 (by decide) ?_
  refine jv_lconst (v := 1) dX8_law_3 (by decide) ?_
  refine hv_callS (As := [.long (x1.toInt64), .long 0, .long 1]) dX8_law_4 lk8_44 kX8_in nX8_in (Nat.le_of_ble_eq_true rfl) (Nat.le_of_ble_eq_true rfl) rfl (fun _ _ e l => c_X8_in  e l V) ?_
  intro r2 M1
  refine jw_if_eq (tgt := 22) dX8_law_7 rfl (fun c7 => ?_) (fun c7 => ?_)
  · refine jv_aloadn (j := 0) dX8_law_22 rfl ?_
    refine jv_iconst (v := 1) dX8_law_23 (by decide) ?_
    refine hv_callI (As := [.int 1]) dX8_law_24 lk8_107 kX8_finds nX8_finds (Nat.le_of_ble_eq_true rfl) (Nat.le_of_ble_eq_true rfl) at_MO_0 rfl rfl rfl (fun _ _ e l => c_X8_finds  e l V) ?_
    intro r4 M3
    exact vf_ret dX8_law_27 rfl
  refine jv_aloadn (j := 0) dX8_law_10 rfl ?_
  refine jv_iloadn (j := 1) dX8_law_11 rfl ?_
  refine jv_iloadn (j := 2) dX8_law_12 rfl ?_
  refine jv_iloadn (j := 3) dX8_law_13 rfl ?_
  refine jv_iload (j := 4) dX8_law_14 rfl ?_
  refine hv_callI (As := [.int x1, .int x2, .int x3, .int x4]) dX8_law_16 lk8_119 kX8_textGives nX8_textGives (Nat.le_of_ble_eq_true rfl) (Nat.le_of_ble_eq_true rfl) at_MO_0 rfl rfl rfl (fun _ _ e l => c_X8_textGives  e l V) ?_
  intro r6 M5
  refine jv_goto (tgt := 27) dX8_law_19 rfl ?_
  exact vf_ret dX8_law_27 rfl
theorem c_X8_law {M : pm_M} {x1 : Int32} {x2 : Int32} {x3 : Int32} {x4 : Int32}  {r : Int32} {M' : pm_M} (h : f_X8_law M x1 x2 x3 x4 = some (r, M')) (l : Launch) (V : pm_V) : pm_Ci l V skD yX8_law mX8_law 106 [.ref (V.1 0), .int x1, .int x2, .int x3, .int x4] M r M' := pm_metI (by decide) rfl (Nat.le_of_ble_eq_true rfl) h (fun _ => w_X8_law M x1 x2 x3 x4 )
def f_X8_roof (M : pm_M) (x1 : Int32) : Option (Int32 × pm_M) :=
  (pm_b2 (f_X8_in M (x1.toInt64) 0 99) (fun (r2 : Int32) (M1 : pm_M) => (if r2 = 0 then (pm_b2 (f_X8_finds M1 1) (fun (r4 : Int32) (M3 : pm_M) => (some (r4, M3)))) else (if (M1 1 (0 : Int32).toNatClampNeg) = 6 then (pm_b2 (f_X8_finds M1 4) (fun (r6 : Int32) (M5 : pm_M) => (some (r6, M5)))) else (pm_let (6 + (4 * (M1 1 (0 : Int32).toNatClampNeg))) (fun z7 : Int32 => (pm_chk (pm_in (z7 + 0) 258) (pm_let (pm_up M1 1 (z7 + 0).toNatClampNeg x1) (fun M8 : pm_M => (pm_chk (pm_in (z7 + 1) 258) (pm_let (pm_up M8 1 (z7 + 1).toNatClampNeg 0) (fun M9 : pm_M => (pm_chk (pm_in (z7 + 2) 258) (pm_let (pm_up M9 1 (z7 + 2).toNatClampNeg 0) (fun M10 : pm_M => (pm_chk (pm_in (z7 + 3) 258) (pm_let (pm_up M10 1 (z7 + 3).toNatClampNeg 0) (fun M11 : pm_M => (pm_let (pm_up M11 1 (0 : Int32).toNatClampNeg ((M11 1 (0 : Int32).toNatClampNeg) + 1)) (fun M12 : pm_M => (some (((M12 1 (0 : Int32).toNatClampNeg) - 1), M12))))))))))))))))))))))
set_option maxHeartbeats 4000000 in
set_option maxRecDepth 100000 in
theorem w_X8_roof {X : pm_X} {V : pm_V} (M : pm_M) (x1 : Int32)  : pm_VF (f_X8_roof M x1) (pm_K X V mX8_roof 2 skD) (pm_J X V mX8_roof 2 (pm_wld V skD M) 0 [(0, .ref (V.1 0)), (1, .int x1)] []) := by
  unfold f_X8_roof
  refine jv_iloadn (j := 1) dX8_roof_0 rfl ?_
  refine jv_i2l dX8_roof_1 ?_
  refine jv_lconst (v := 0) dX8_roof_2 (by decide) ?_
  refine jv_ldc2 dX8_roof_3 lk8_123 ?_
  refine hv_callS (As := [.long (x1.toInt64), .long 0, .long 99]) dX8_roof_6 lk8_44 kX8_in nX8_in (Nat.le_of_ble_eq_true rfl) (Nat.le_of_ble_eq_true rfl) rfl (fun _ _ e l => c_X8_in  e l V) ?_
  intro r2 M1
  refine jw_if_ne (tgt := 18) dX8_roof_9 rfl (fun c9 => ?_) (fun c9 => ?_)
  · refine jv_aloadn (j := 0) dX8_roof_12 rfl ?_
    refine jv_iconst (v := 1) dX8_roof_13 (by decide) ?_
    refine hv_callI (As := [.int 1]) dX8_roof_14 lk8_107 kX8_finds nX8_finds (Nat.le_of_ble_eq_true rfl) (Nat.le_of_ble_eq_true rfl) at_MO_0 rfl rfl rfl (fun _ _ e l => c_X8_finds  e l V) ?_
    intro r4 M3
    exact vf_ret dX8_roof_17 rfl
  refine jv_aloadn (j := 0) dX8_roof_18 rfl ?_
  refine hv_getR dX8_roof_19 fl8_7 at_MO_0 rfl ?_
  refine jv_iconst (v := 0) dX8_roof_22 (by decide) ?_
  refine hv_iald dX8_roof_23 at_MO_1 (by decide) ?_
  refine jv_bipush (v := 6) dX8_roof_24 (by decide) ?_
  refine jw_ic_ne (tgt := 35) dX8_roof_26 rfl (fun c26 => ?_) (fun c26 => ?_)
  · refine jv_aloadn (j := 0) dX8_roof_29 rfl ?_
    refine jv_iconst (v := 4) dX8_roof_30 (by decide) ?_
    refine hv_callI (As := [.int 4]) dX8_roof_31 lk8_107 kX8_finds nX8_finds (Nat.le_of_ble_eq_true rfl) (Nat.le_of_ble_eq_true rfl) at_MO_0 rfl rfl rfl (fun _ _ e l => c_X8_finds  e l V) ?_
    intro r6 M5
    exact vf_ret dX8_roof_34 rfl
  refine jv_bipush (v := 6) dX8_roof_35 (by decide) ?_
  refine jv_iconst (v := 4) dX8_roof_37 (by decide) ?_
  refine jv_aloadn (j := 0) dX8_roof_38 rfl ?_
  refine hv_getR dX8_roof_39 fl8_7 at_MO_0 rfl ?_
  refine jv_iconst (v := 0) dX8_roof_42 (by decide) ?_
  refine hv_iald dX8_roof_43 at_MO_1 (by decide) ?_
  refine jv_imul dX8_roof_44 ?_
  refine jv_iadd dX8_roof_45 ?_
  refine vf_letS (fun z7 => ?_)
  refine jv_istoren (L' := [(2, .int z7), (0, .ref (V.1 0)), (1, .int x1)]) dX8_roof_46 (Nat.le_of_ble_eq_true rfl) rfl ?_
  refine jv_aloadn (j := 1) dX8_roof_47 rfl ?_
  refine hv_getR dX8_roof_48 fl8_7 at_MO_0 rfl ?_
  refine jv_iloadn (j := 0) dX8_roof_51 rfl ?_
  refine jv_iconst (v := 0) dX8_roof_52 (by decide) ?_
  refine jv_iadd dX8_roof_53 ?_
  refine jv_iloadn (j := 2) dX8_roof_54 rfl ?_
  refine hv_iastC dX8_roof_55 at_MO_1 (fun _ => ?_)
  refine vf_letM (fun M8 => ?_)
  refine jv_aloadn (j := 1) dX8_roof_56 rfl ?_
  refine hv_getR dX8_roof_57 fl8_7 at_MO_0 rfl ?_
  refine jv_iloadn (j := 0) dX8_roof_60 rfl ?_
  refine jv_iconst (v := 1) dX8_roof_61 (by decide) ?_
  refine jv_iadd dX8_roof_62 ?_
  refine jv_iconst (v := 0) dX8_roof_63 (by decide) ?_
  refine hv_iastC dX8_roof_64 at_MO_1 (fun _ => ?_)
  refine vf_letM (fun M9 => ?_)
  refine jv_aloadn (j := 1) dX8_roof_65 rfl ?_
  refine hv_getR dX8_roof_66 fl8_7 at_MO_0 rfl ?_
  refine jv_iloadn (j := 0) dX8_roof_69 rfl ?_
  refine jv_iconst (v := 2) dX8_roof_70 (by decide) ?_
  refine jv_iadd dX8_roof_71 ?_
  refine jv_iconst (v := 0) dX8_roof_72 (by decide) ?_
  refine hv_iastC dX8_roof_73 at_MO_1 (fun _ => ?_)
  refine vf_letM (fun M10 => ?_)
  refine jv_aloadn (j := 1) dX8_roof_74 rfl ?_
  refine hv_getR dX8_roof_75 fl8_7 at_MO_0 rfl ?_
  refine jv_iloadn (j := 0) dX8_roof_78 rfl ?_
  refine jv_iconst (v := 3) dX8_roof_79 (by decide) ?_
  refine jv_iadd dX8_roof_80 ?_
  refine jv_iconst (v := 0) dX8_roof_81 (by decide) ?_
  refine hv_iastC dX8_roof_82 at_MO_1 (fun _ => ?_)
  refine vf_letM (fun M11 => ?_)
  refine jv_aloadn (j := 1) dX8_roof_83 rfl ?_
  refine hv_getR dX8_roof_84 fl8_7 at_MO_0 rfl ?_
  refine jv_iconst (v := 0) dX8_roof_87 (by decide) ?_
  refine jv_dup2 dX8_roof_88 rfl rfl ?_
  refine hv_iald dX8_roof_89 at_MO_1 (by decide) ?_
  refine jv_iconst (v := 1) dX8_roof_90 (by decide) ?_
  refine jv_iadd dX8_roof_91 ?_
  refine hv_iast dX8_roof_92 at_MO_1 (by decide) ?_
  refine vf_letM (fun M12 => ?_)
  refine jv_aloadn (j := 1) dX8_roof_93 rfl ?_
  refine hv_getR dX8_roof_94 fl8_7 at_MO_0 rfl ?_
  refine jv_iconst (v := 0) dX8_roof_97 (by decide) ?_
  refine hv_iald dX8_roof_98 at_MO_1 (by decide) ?_
  refine jv_iconst (v := 1) dX8_roof_99 (by decide) ?_
  refine jv_isub dX8_roof_100 ?_
  exact vf_ret dX8_roof_101 rfl
theorem c_X8_roof {M : pm_M} {x1 : Int32}  {r : Int32} {M' : pm_M} (h : f_X8_roof M x1 = some (r, M')) (l : Launch) (V : pm_V) : pm_Ci l V skD yX8_roof mX8_roof 2 [.ref (V.1 0), .int x1] M r M' := pm_metI (by decide) rfl (Nat.le_of_ble_eq_true rfl) h (fun _ => w_X8_roof M x1 )
def lb_X8_ofRoof_34 (x1 : Int32) (x2 : Int32) (ih : Int32 → Int32 → pm_M → Option (Int32 × pm_M)) : Int32 → Int32 → pm_M → Option (Int32 × pm_M) := fun (l3 : Int32) (l5 : Int32) (Ml : pm_M) =>
  (if (Ml 1 (1 : Int32).toNatClampNeg) ≤ l5 then (some (l3, Ml)) else (pm_b2 (f_X8_of Ml l5 2) (fun (r35003 : Int32) (M35002 : pm_M) => (if r35003 = x1 then (pm_let (l3 ||| (pm_shl 1 l5)) (fun z35004 : Int32 => (ih z35004 (l5 + 1) M35002))) else (pm_let (l3 ||| 0) (fun z35005 : Int32 => (ih z35005 (l5 + 1) M35002)))))))
def lp_X8_ofRoof_34 (x1 : Int32) (x2 : Int32) : Int32 → Int32 → pm_M → Option (Int32 × pm_M) := pm_it (fun _ _ _ => none) (lb_X8_ofRoof_34 x1 x2) pm_F
def lb_X8_ofRoof_76 (x1 : Int32) (x2 : Int32) (l9 : Int32) (M10 : pm_M) (ih : Int32 → Int32 → Option (Int32)) : Int32 → Int32 → Option (Int32) := fun (l4 : Int32) (l5 : Int32) =>
  (if (M10 1 (0 : Int32).toNatClampNeg) ≤ l5 then (some l4) else (pm_chk (pm_in ((30 + (6 * x1)) + l5) 258) (pm_let (l4 + (M10 1 ((30 + (6 * x1)) + l5).toNatClampNeg)) (fun z77002 : Int32 => (ih z77002 (l5 + 1))))))
def lp_X8_ofRoof_76 (x1 : Int32) (x2 : Int32) (l9 : Int32) (M10 : pm_M) : Int32 → Int32 → Option (Int32) := pm_it (fun _ _ => none) (lb_X8_ofRoof_76 x1 x2 l9 M10) pm_F
def f_X8_ofRoof (M : pm_M) (x1 : Int32) (x2 : Int32) : Option (Int32 × pm_M) :=
  (pm_b2 (f_X8_isRoof M x1) (fun (r2 : Int32) (M1 : pm_M) => (if r2 = 0 then (pm_b2 (f_X8_finds M1 1) (fun (r4 : Int32) (M3 : pm_M) => (some (r4, M3)))) else (pm_b2 (f_X8_in M1 (x2.toInt64) 0 5) (fun (r6 : Int32) (M5 : pm_M) => (if r6 = 0 then (pm_b2 (f_X8_finds M5 1) (fun (r8 : Int32) (M7 : pm_M) => (some (r8, M7)))) else (pm_b2 (lp_X8_ofRoof_34 x1 x2 0 0 M5) (fun (l9 : Int32) (M10 : pm_M) => (pm_b1 (lp_X8_ofRoof_76 x1 x2 l9 M10 0 0) (fun (l11 : Int32) => (if 4 ≤ x2 then (if x2 = 4 then (some (l9, M10)) else (some (l11, M10))) else (pm_b2 (f_X8_its M10 x1 x2) (fun (r13 : Int32) (M12 : pm_M) => (some (r13, M12)))))))))))))))
set_option maxHeartbeats 4000000 in
set_option maxRecDepth 100000 in
theorem wl_X8_ofRoof_34 {X : pm_X} {V : pm_V} (x1 : Int32) (x2 : Int32)  : ∀ (l3 : Int32) (l5 : Int32) (Ml : pm_M), pm_VF (lp_X8_ofRoof_34 x1 x2 l3 l5 Ml) (fun b => (fun (l3 : Int32) (Ml : pm_M) => pm_J X V mX8_ofRoof 3 (pm_wld V skD Ml) 73 [(0, .ref (V.1 0)), (1, .int x1), (2, .int x2), (3, .int l3), (4, .int 0)] []) b.1 b.2) (pm_J X V mX8_ofRoof 3 (pm_wld V skD Ml) 34 [(0, .ref (V.1 0)), (1, .int x1), (2, .int x2), (3, .int l3), (4, .int 0), (5, .int l5)] []) := by
  refine pm_it_ind (P := fun (f : Int32 → Int32 → pm_M → Option (Int32 × pm_M)) => ∀ (l3 : Int32) (l5 : Int32) (Ml : pm_M), pm_VF (f l3 l5 Ml) (fun b => (fun (l3 : Int32) (Ml : pm_M) => pm_J X V mX8_ofRoof 3 (pm_wld V skD Ml) 73 [(0, .ref (V.1 0)), (1, .int x1), (2, .int x2), (3, .int l3), (4, .int 0)] []) b.1 b.2) (pm_J X V mX8_ofRoof 3 (pm_wld V skD Ml) 34 [(0, .ref (V.1 0)), (1, .int x1), (2, .int x2), (3, .int l3), (4, .int 0), (5, .int l5)] [])) (fun _ _ _ => vf_none) (fun ih hih l3 l5 Ml => ?_) pm_F
  · unfold lb_X8_ofRoof_34
    refine jv_iload (j := 5) dX8_ofRoof_34 rfl ?_
    refine jv_aloadn (j := 0) dX8_ofRoof_36 rfl ?_
    refine hv_getR dX8_ofRoof_37 fl8_7 at_MO_0 rfl ?_
    refine jv_iconst (v := 1) dX8_ofRoof_40 (by decide) ?_
    refine hv_iald dX8_ofRoof_41 at_MO_1 (by decide) ?_
    refine jw_ic_ge (tgt := 73) dX8_ofRoof_42 rfl (fun c42 => ?_) (fun c42 => ?_)
    · exact vf_end (fun g => jr_sub [0, 1, 2, 3, 4] rfl g)
    refine jv_iloadn (j := 3) dX8_ofRoof_45 rfl ?_
    refine jv_aloadn (j := 0) dX8_ofRoof_46 rfl ?_
    refine jv_iload (j := 5) dX8_ofRoof_47 rfl ?_
    refine jv_iconst (v := 2) dX8_ofRoof_49 (by decide) ?_
    refine hv_callI (As := [.int l5, .int 2]) dX8_ofRoof_50 lk8_130 kX8_of nX8_of (Nat.le_of_ble_eq_true rfl) (Nat.le_of_ble_eq_true rfl) at_MO_0 rfl rfl rfl (fun _ _ e l => c_X8_of  e l V) ?_
    intro r35003 M35002
    refine jv_iloadn (j := 1) dX8_ofRoof_53 rfl ?_
    refine jw_ic_ne (tgt := 64) dX8_ofRoof_54 rfl (fun c54 => ?_) (fun c54 => ?_)
    · refine jv_iconst (v := 1) dX8_ofRoof_57 (by decide) ?_
      refine jv_iload (j := 5) dX8_ofRoof_58 rfl ?_
      refine jv_ishl dX8_ofRoof_60 ?_
      refine jv_goto (tgt := 65) dX8_ofRoof_61 rfl ?_
      refine jv_ior dX8_ofRoof_65 ?_
      refine vf_letS (fun z35004 => ?_)
      refine jv_istoren (L' := [(3, .int z35004), (0, .ref (V.1 0)), (1, .int x1), (2, .int x2), (4, .int 0), (5, .int l5)]) dX8_ofRoof_66 (Nat.le_of_ble_eq_true rfl) rfl ?_
      refine jv_iinc (j := 5) (v := l5 + 1) (L' := [(5, .int (l5 + 1)), (3, .int z35004), (0, .ref (V.1 0)), (1, .int x1), (2, .int x2), (4, .int 0)]) dX8_ofRoof_67 rfl rfl (Nat.le_of_ble_eq_true rfl) rfl ?_
      refine jv_goto (tgt := 34) dX8_ofRoof_70 rfl ?_
      exact vf_j (fun g => jr_sub [2, 3, 4, 1, 5, 0] rfl g) (hih z35004 (l5 + 1) M35002)
    refine jv_iconst (v := 0) dX8_ofRoof_64 (by decide) ?_
    refine jv_ior dX8_ofRoof_65 ?_
    refine vf_letS (fun z35005 => ?_)
    refine jv_istoren (L' := [(3, .int z35005), (0, .ref (V.1 0)), (1, .int x1), (2, .int x2), (4, .int 0), (5, .int l5)]) dX8_ofRoof_66 (Nat.le_of_ble_eq_true rfl) rfl ?_
    refine jv_iinc (j := 5) (v := l5 + 1) (L' := [(5, .int (l5 + 1)), (3, .int z35005), (0, .ref (V.1 0)), (1, .int x1), (2, .int x2), (4, .int 0)]) dX8_ofRoof_67 rfl rfl (Nat.le_of_ble_eq_true rfl) rfl ?_
    refine jv_goto (tgt := 34) dX8_ofRoof_70 rfl ?_
    exact vf_j (fun g => jr_sub [2, 3, 4, 1, 5, 0] rfl g) (hih z35005 (l5 + 1) M35002)
set_option maxHeartbeats 4000000 in
set_option maxRecDepth 100000 in
theorem wl_X8_ofRoof_76 {X : pm_X} {V : pm_V} (x1 : Int32) (x2 : Int32) (l9 : Int32) (M10 : pm_M)  : ∀ (l4 : Int32) (l5 : Int32), pm_VF (lp_X8_ofRoof_76 x1 x2 l9 M10 l4 l5) (fun b => (fun (l4 : Int32) => pm_J X V mX8_ofRoof 3 (pm_wld V skD M10) 113 [(0, .ref (V.1 0)), (1, .int x1), (2, .int x2), (3, .int l9), (4, .int l4)] []) b) (pm_J X V mX8_ofRoof 3 (pm_wld V skD M10) 76 [(0, .ref (V.1 0)), (1, .int x1), (2, .int x2), (3, .int l9), (4, .int l4), (5, .int l5)] []) := by
  refine pm_it_ind (P := fun (f : Int32 → Int32 → Option (Int32)) => ∀ (l4 : Int32) (l5 : Int32), pm_VF (f l4 l5) (fun b => (fun (l4 : Int32) => pm_J X V mX8_ofRoof 3 (pm_wld V skD M10) 113 [(0, .ref (V.1 0)), (1, .int x1), (2, .int x2), (3, .int l9), (4, .int l4)] []) b) (pm_J X V mX8_ofRoof 3 (pm_wld V skD M10) 76 [(0, .ref (V.1 0)), (1, .int x1), (2, .int x2), (3, .int l9), (4, .int l4), (5, .int l5)] [])) (fun _ _ => vf_none) (fun ih hih l4 l5 => ?_) pm_F
  · unfold lb_X8_ofRoof_76
    refine jv_iload (j := 5) dX8_ofRoof_76 rfl ?_
    refine jv_aloadn (j := 0) dX8_ofRoof_78 rfl ?_
    refine hv_getR dX8_ofRoof_79 fl8_7 at_MO_0 rfl ?_
    refine jv_iconst (v := 0) dX8_ofRoof_82 (by decide) ?_
    refine hv_iald dX8_ofRoof_83 at_MO_1 (by decide) ?_
    refine jw_ic_ge (tgt := 113) dX8_ofRoof_84 rfl (fun c84 => ?_) (fun c84 => ?_)
    · exact vf_end (fun g => jr_sub [0, 1, 2, 3, 4] rfl g)
    refine jv_iload (j := 4) dX8_ofRoof_87 rfl ?_
    refine jv_aloadn (j := 0) dX8_ofRoof_89 rfl ?_
    refine hv_getR dX8_ofRoof_90 fl8_7 at_MO_0 rfl ?_
    refine jv_bipush (v := 30) dX8_ofRoof_93 (by decide) ?_
    refine jv_bipush (v := 6) dX8_ofRoof_95 (by decide) ?_
    refine jv_iloadn (j := 1) dX8_ofRoof_97 rfl ?_
    refine jv_imul dX8_ofRoof_98 ?_
    refine jv_iadd dX8_ofRoof_99 ?_
    refine jv_iload (j := 5) dX8_ofRoof_100 rfl ?_
    refine jv_iadd dX8_ofRoof_102 ?_
    refine hv_ialdC dX8_ofRoof_103 at_MO_1 (fun _ => ?_)
    refine jv_iadd dX8_ofRoof_104 ?_
    refine vf_letS (fun z77002 => ?_)
    refine jv_istore (L' := [(4, .int z77002), (0, .ref (V.1 0)), (1, .int x1), (2, .int x2), (3, .int l9), (5, .int l5)]) dX8_ofRoof_105 (Nat.le_of_ble_eq_true rfl) rfl ?_
    refine jv_iinc (j := 5) (v := l5 + 1) (L' := [(5, .int (l5 + 1)), (4, .int z77002), (0, .ref (V.1 0)), (1, .int x1), (2, .int x2), (3, .int l9)]) dX8_ofRoof_107 rfl rfl (Nat.le_of_ble_eq_true rfl) rfl ?_
    refine jv_goto (tgt := 76) dX8_ofRoof_110 rfl ?_
    exact vf_j (fun g => jr_sub [2, 3, 4, 5, 1, 0] rfl g) (hih z77002 (l5 + 1))
set_option maxHeartbeats 4000000 in
set_option maxRecDepth 100000 in
theorem w_X8_ofRoof {X : pm_X} {V : pm_V} (M : pm_M) (x1 : Int32) (x2 : Int32)  : pm_VF (f_X8_ofRoof M x1 x2) (pm_K X V mX8_ofRoof 3 skD) (pm_J X V mX8_ofRoof 3 (pm_wld V skD M) 0 [(0, .ref (V.1 0)), (1, .int x1), (2, .int x2)] []) := by
  unfold f_X8_ofRoof
  refine jv_aloadn (j := 0) dX8_ofRoof_0 rfl ?_
  refine jv_iloadn (j := 1) dX8_ofRoof_1 rfl ?_
  refine hv_callI (As := [.int x1]) dX8_ofRoof_2 lk8_125 kX8_isRoof nX8_isRoof (Nat.le_of_ble_eq_true rfl) (Nat.le_of_ble_eq_true rfl) at_MO_0 rfl rfl rfl (fun _ _ e l => c_X8_isRoof  e l V) ?_
  intro r2 M1
  refine jw_if_eq (tgt := 20) dX8_ofRoof_5 rfl (fun c5 => ?_) (fun c5 => ?_)
  · refine jv_aloadn (j := 0) dX8_ofRoof_20 rfl ?_
    refine jv_iconst (v := 1) dX8_ofRoof_21 (by decide) ?_
    refine hv_callI (As := [.int 1]) dX8_ofRoof_22 lk8_107 kX8_finds nX8_finds (Nat.le_of_ble_eq_true rfl) (Nat.le_of_ble_eq_true rfl) at_MO_0 rfl rfl rfl (fun _ _ e l => c_X8_finds  e l V) ?_
    intro r4 M3
    exact vf_ret dX8_ofRoof_25 rfl
  refine jv_iloadn (j := 2) dX8_ofRoof_8 rfl ?_
  refine jv_i2l dX8_ofRoof_9 ?_
  refine jv_lconst (v := 0) dX8_ofRoof_10 (by decide) ?_
  refine jv_ldc2 dX8_ofRoof_11 lk8_128 ?_
  refine hv_callS (As := [.long (x2.toInt64), .long 0, .long 5]) dX8_ofRoof_14 lk8_44 kX8_in nX8_in (Nat.le_of_ble_eq_true rfl) (Nat.le_of_ble_eq_true rfl) rfl (fun _ _ e l => c_X8_in  e l V) ?_
  intro r6 M5
  refine jw_if_ne (tgt := 26) dX8_ofRoof_17 rfl (fun c17 => ?_) (fun c17 => ?_)
  · refine jv_aloadn (j := 0) dX8_ofRoof_20 rfl ?_
    refine jv_iconst (v := 1) dX8_ofRoof_21 (by decide) ?_
    refine hv_callI (As := [.int 1]) dX8_ofRoof_22 lk8_107 kX8_finds nX8_finds (Nat.le_of_ble_eq_true rfl) (Nat.le_of_ble_eq_true rfl) at_MO_0 rfl rfl rfl (fun _ _ e l => c_X8_finds  e l V) ?_
    intro r8 M7
    exact vf_ret dX8_ofRoof_25 rfl
  refine jv_iconst (v := 0) dX8_ofRoof_26 (by decide) ?_
  refine jv_istoren (L' := [(3, .int 0), (0, .ref (V.1 0)), (1, .int x1), (2, .int x2)]) dX8_ofRoof_27 (Nat.le_of_ble_eq_true rfl) rfl ?_
  refine jv_iconst (v := 0) dX8_ofRoof_28 (by decide) ?_
  refine jv_istore (L' := [(4, .int 0), (3, .int 0), (0, .ref (V.1 0)), (1, .int x1), (2, .int x2)]) dX8_ofRoof_29 (Nat.le_of_ble_eq_true rfl) rfl ?_
  refine jv_iconst (v := 0) dX8_ofRoof_31 (by decide) ?_
  refine jv_istore (L' := [(5, .int 0), (4, .int 0), (3, .int 0), (0, .ref (V.1 0)), (1, .int x1), (2, .int x2)]) dX8_ofRoof_32 (Nat.le_of_ble_eq_true rfl) rfl ?_
  refine vl_b2 (P := fun (l3 : Int32) (Ml : pm_M) => pm_J X V mX8_ofRoof 3 (pm_wld V skD Ml) 73 [(0, .ref (V.1 0)), (1, .int x1), (2, .int x2), (3, .int l3), (4, .int 0)] []) (vf_j (fun g => jr_sub [3, 4, 5, 2, 1, 0] rfl g) (wl_X8_ofRoof_34 x1 x2  0 0 M5)) ?_
  intro l9 M10
  refine jv_iconst (v := 0) dX8_ofRoof_73 (by decide) ?_
  refine jv_istore (L' := [(5, .int 0), (0, .ref (V.1 0)), (1, .int x1), (2, .int x2), (3, .int l9), (4, .int 0)]) dX8_ofRoof_74 (Nat.le_of_ble_eq_true rfl) rfl ?_
  refine vl_b1 (P := fun (l4 : Int32) => pm_J X V mX8_ofRoof 3 (pm_wld V skD M10) 113 [(0, .ref (V.1 0)), (1, .int x1), (2, .int x2), (3, .int l9), (4, .int l4)] []) (vf_j (fun g => jr_sub [1, 2, 3, 4, 5, 0] rfl g) (wl_X8_ofRoof_76 x1 x2 l9 M10  0 0)) ?_
  intro l11
  refine jv_iloadn (j := 2) dX8_ofRoof_113 rfl ?_
  refine jv_iconst (v := 4) dX8_ofRoof_114 (by decide) ?_
  refine jw_ic_ge (tgt := 127) dX8_ofRoof_115 rfl (fun c115 => ?_) (fun c115 => ?_)
  · refine jv_iloadn (j := 2) dX8_ofRoof_127 rfl ?_
    refine jv_iconst (v := 4) dX8_ofRoof_128 (by decide) ?_
    refine jw_ic_ne (tgt := 136) dX8_ofRoof_129 rfl (fun c129 => ?_) (fun c129 => ?_)
    · refine jv_iloadn (j := 3) dX8_ofRoof_132 rfl ?_
      refine jv_goto (tgt := 138) dX8_ofRoof_133 rfl ?_
      exact vf_ret dX8_ofRoof_138 rfl
    refine jv_iload (j := 4) dX8_ofRoof_136 rfl ?_
    exact vf_ret dX8_ofRoof_138 rfl
  refine jv_aloadn (j := 0) dX8_ofRoof_118 rfl ?_
  refine jv_iloadn (j := 1) dX8_ofRoof_119 rfl ?_
  refine jv_iloadn (j := 2) dX8_ofRoof_120 rfl ?_
  refine hv_callI (As := [.int x1, .int x2]) dX8_ofRoof_121 lk8_134 kX8_its nX8_its (Nat.le_of_ble_eq_true rfl) (Nat.le_of_ble_eq_true rfl) at_MO_0 rfl rfl rfl (fun _ _ e l => c_X8_its  e l V) ?_
  intro r13 M12
  refine jv_goto (tgt := 138) dX8_ofRoof_124 rfl ?_
  exact vf_ret dX8_ofRoof_138 rfl
theorem c_X8_ofRoof {M : pm_M} {x1 : Int32} {x2 : Int32}  {r : Int32} {M' : pm_M} (h : f_X8_ofRoof M x1 x2 = some (r, M')) (l : Launch) (V : pm_V) : pm_Ci l V skD yX8_ofRoof mX8_ofRoof 3 [.ref (V.1 0), .int x1, .int x2] M r M' := pm_metI (by decide) rfl (Nat.le_of_ble_eq_true rfl) h (fun _ => w_X8_ofRoof M x1 x2 )
def f_X8_change (M : pm_M) (x1 : Int32) (x2 : Int32) (x3 : Int32) : Option (Int32 × pm_M) :=
  (pm_b2 (f_X8_isRoof M x1) (fun (r2 : Int32) (M1 : pm_M) => (if r2 = 0 then (pm_b2 (f_X8_finds M1 1) (fun (r4 : Int32) (M3 : pm_M) => (some (r4, M3)))) else (pm_b2 (f_X8_in M1 (x2.toInt64) 0 2) (fun (r6 : Int32) (M5 : pm_M) => (if r6 = 0 then (pm_b2 (f_X8_finds M5 1) (fun (r8 : Int32) (M7 : pm_M) => (some (r8, M7)))) else (if x2 = 1 then (pm_b2 (f_X8_in M5 (x3.toInt64) 0 9999) (fun (r10 : Int32) (M9 : pm_M) => (if r10 = 0 then (pm_b2 (f_X8_finds M9 1) (fun (r12 : Int32) (M11 : pm_M) => (some (r12, M11)))) else (if 2 ≤ x2 then (pm_let ((6 + (4 * x1)) + 3) (fun z13 : Int32 => (pm_chk (pm_in z13 258) (pm_let (M9 1 z13.toNatClampNeg) (fun z14 : Int32 => (pm_chk (pm_in z13 258) (pm_let (pm_up M9 1 z13.toNatClampNeg x3) (fun M15 : pm_M => (some (z14, M15)))))))))) else (pm_let ((6 + (4 * x1)) + x2) (fun z16 : Int32 => (pm_chk (pm_in z16 258) (pm_let (M9 1 z16.toNatClampNeg) (fun z17 : Int32 => (pm_chk (pm_in z16 258) (pm_let (pm_up M9 1 z16.toNatClampNeg x3) (fun M18 : pm_M => (some (z17, M18)))))))))))))) else (pm_b2 (f_X8_in M5 (x3.toInt64) 0 99) (fun (r20 : Int32) (M19 : pm_M) => (if r20 = 0 then (pm_b2 (f_X8_finds M19 1) (fun (r22 : Int32) (M21 : pm_M) => (some (r22, M21)))) else (if 2 ≤ x2 then (pm_let ((6 + (4 * x1)) + 3) (fun z23 : Int32 => (pm_chk (pm_in z23 258) (pm_let (M19 1 z23.toNatClampNeg) (fun z24 : Int32 => (pm_chk (pm_in z23 258) (pm_let (pm_up M19 1 z23.toNatClampNeg x3) (fun M25 : pm_M => (some (z24, M25)))))))))) else (pm_let ((6 + (4 * x1)) + x2) (fun z26 : Int32 => (pm_chk (pm_in z26 258) (pm_let (M19 1 z26.toNatClampNeg) (fun z27 : Int32 => (pm_chk (pm_in z26 258) (pm_let (pm_up M19 1 z26.toNatClampNeg x3) (fun M28 : pm_M => (some (z27, M28)))))))))))))))))))))
set_option maxHeartbeats 4000000 in
set_option maxRecDepth 100000 in
theorem w_X8_change {X : pm_X} {V : pm_V} (M : pm_M) (x1 : Int32) (x2 : Int32) (x3 : Int32)  : pm_VF (f_X8_change M x1 x2 x3) (pm_K X V mX8_change 3 skD) (pm_J X V mX8_change 3 (pm_wld V skD M) 0 [(0, .ref (V.1 0)), (1, .int x1), (2, .int x2), (3, .int x3)] []) := by
  unfold f_X8_change
  refine jv_aloadn (j := 0) dX8_change_0 rfl ?_
  refine jv_iloadn (j := 1) dX8_change_1 rfl ?_
  refine hv_callI (As := [.int x1]) dX8_change_2 lk8_125 kX8_isRoof nX8_isRoof (Nat.le_of_ble_eq_true rfl) (Nat.le_of_ble_eq_true rfl) at_MO_0 rfl rfl rfl (fun _ _ e l => c_X8_isRoof  e l V) ?_
  intro r2 M1
  refine jw_if_eq (tgt := 43) dX8_change_5 rfl (fun c5 => ?_) (fun c5 => ?_)
  · refine jv_aloadn (j := 0) dX8_change_43 rfl ?_
    refine jv_iconst (v := 1) dX8_change_44 (by decide) ?_
    refine hv_callI (As := [.int 1]) dX8_change_45 lk8_107 kX8_finds nX8_finds (Nat.le_of_ble_eq_true rfl) (Nat.le_of_ble_eq_true rfl) at_MO_0 rfl rfl rfl (fun _ _ e l => c_X8_finds  e l V) ?_
    intro r4 M3
    exact vf_ret dX8_change_48 rfl
  refine jv_iloadn (j := 2) dX8_change_8 rfl ?_
  refine jv_i2l dX8_change_9 ?_
  refine jv_lconst (v := 0) dX8_change_10 (by decide) ?_
  refine jv_ldc2 dX8_change_11 lk8_137 ?_
  refine hv_callS (As := [.long (x2.toInt64), .long 0, .long 2]) dX8_change_14 lk8_44 kX8_in nX8_in (Nat.le_of_ble_eq_true rfl) (Nat.le_of_ble_eq_true rfl) rfl (fun _ _ e l => c_X8_in  e l V) ?_
  intro r6 M5
  refine jw_if_eq (tgt := 43) dX8_change_17 rfl (fun c17 => ?_) (fun c17 => ?_)
  · refine jv_aloadn (j := 0) dX8_change_43 rfl ?_
    refine jv_iconst (v := 1) dX8_change_44 (by decide) ?_
    refine hv_callI (As := [.int 1]) dX8_change_45 lk8_107 kX8_finds nX8_finds (Nat.le_of_ble_eq_true rfl) (Nat.le_of_ble_eq_true rfl) at_MO_0 rfl rfl rfl (fun _ _ e l => c_X8_finds  e l V) ?_
    intro r8 M7
    exact vf_ret dX8_change_48 rfl
  refine jv_iloadn (j := 3) dX8_change_20 rfl ?_
  refine jv_i2l dX8_change_21 ?_
  refine jv_lconst (v := 0) dX8_change_22 (by decide) ?_
  refine jv_iloadn (j := 2) dX8_change_23 rfl ?_
  refine jv_iconst (v := 1) dX8_change_24 (by decide) ?_
  refine jw_ic_ne (tgt := 34) dX8_change_25 rfl (fun c25 => ?_) (fun c25 => ?_)
  · refine jv_ldc2 dX8_change_28 lk8_139 ?_
    refine jv_goto (tgt := 37) dX8_change_31 rfl ?_
    refine hv_callS (As := [.long (x3.toInt64), .long 0, .long 9999]) dX8_change_37 lk8_44 kX8_in nX8_in (Nat.le_of_ble_eq_true rfl) (Nat.le_of_ble_eq_true rfl) rfl (fun _ _ e l => c_X8_in  e l V) ?_
    intro r10 M9
    refine jw_if_ne (tgt := 49) dX8_change_40 rfl (fun c40 => ?_) (fun c40 => ?_)
    · refine jv_aloadn (j := 0) dX8_change_43 rfl ?_
      refine jv_iconst (v := 1) dX8_change_44 (by decide) ?_
      refine hv_callI (As := [.int 1]) dX8_change_45 lk8_107 kX8_finds nX8_finds (Nat.le_of_ble_eq_true rfl) (Nat.le_of_ble_eq_true rfl) at_MO_0 rfl rfl rfl (fun _ _ e l => c_X8_finds  e l V) ?_
      intro r12 M11
      exact vf_ret dX8_change_48 rfl
    refine jv_bipush (v := 6) dX8_change_49 (by decide) ?_
    refine jv_iconst (v := 4) dX8_change_51 (by decide) ?_
    refine jv_iloadn (j := 1) dX8_change_52 rfl ?_
    refine jv_imul dX8_change_53 ?_
    refine jv_iadd dX8_change_54 ?_
    refine jv_iloadn (j := 2) dX8_change_55 rfl ?_
    refine jv_iconst (v := 2) dX8_change_56 (by decide) ?_
    refine jw_ic_ge (tgt := 64) dX8_change_57 rfl (fun c57 => ?_) (fun c57 => ?_)
    · refine jv_iconst (v := 3) dX8_change_64 (by decide) ?_
      refine jv_iadd dX8_change_65 ?_
      refine vf_letS (fun z13 => ?_)
      refine jv_istore (L' := [(4, .int z13), (0, .ref (V.1 0)), (1, .int x1), (2, .int x2), (3, .int x3)]) dX8_change_66 (Nat.le_of_ble_eq_true rfl) rfl ?_
      refine jv_aloadn (j := 1) dX8_change_68 rfl ?_
      refine hv_getR dX8_change_69 fl8_7 at_MO_0 rfl ?_
      refine jv_iload (j := 0) dX8_change_72 rfl ?_
      refine hv_ialdC dX8_change_74 at_MO_1 (fun _ => ?_)
      refine vf_letS (fun z14 => ?_)
      refine jv_istore (L' := [(5, .int z14), (4, .int z13), (0, .ref (V.1 0)), (1, .int x1), (2, .int x2), (3, .int x3)]) dX8_change_75 (Nat.le_of_ble_eq_true rfl) rfl ?_
      refine jv_aloadn (j := 2) dX8_change_77 rfl ?_
      refine hv_getR dX8_change_78 fl8_7 at_MO_0 rfl ?_
      refine jv_iload (j := 1) dX8_change_81 rfl ?_
      refine jv_iloadn (j := 5) dX8_change_83 rfl ?_
      refine hv_iastC dX8_change_84 at_MO_1 (fun _ => ?_)
      refine vf_letM (fun M15 => ?_)
      refine jv_iload (j := 0) dX8_change_85 rfl ?_
      exact vf_ret dX8_change_87 rfl
    refine jv_iloadn (j := 2) dX8_change_60 rfl ?_
    refine jv_goto (tgt := 65) dX8_change_61 rfl ?_
    refine jv_iadd dX8_change_65 ?_
    refine vf_letS (fun z16 => ?_)
    refine jv_istore (L' := [(4, .int z16), (0, .ref (V.1 0)), (1, .int x1), (2, .int x2), (3, .int x3)]) dX8_change_66 (Nat.le_of_ble_eq_true rfl) rfl ?_
    refine jv_aloadn (j := 1) dX8_change_68 rfl ?_
    refine hv_getR dX8_change_69 fl8_7 at_MO_0 rfl ?_
    refine jv_iload (j := 0) dX8_change_72 rfl ?_
    refine hv_ialdC dX8_change_74 at_MO_1 (fun _ => ?_)
    refine vf_letS (fun z17 => ?_)
    refine jv_istore (L' := [(5, .int z17), (4, .int z16), (0, .ref (V.1 0)), (1, .int x1), (2, .int x2), (3, .int x3)]) dX8_change_75 (Nat.le_of_ble_eq_true rfl) rfl ?_
    refine jv_aloadn (j := 2) dX8_change_77 rfl ?_
    refine hv_getR dX8_change_78 fl8_7 at_MO_0 rfl ?_
    refine jv_iload (j := 1) dX8_change_81 rfl ?_
    refine jv_iloadn (j := 5) dX8_change_83 rfl ?_
    refine hv_iastC dX8_change_84 at_MO_1 (fun _ => ?_)
    refine vf_letM (fun M18 => ?_)
    refine jv_iload (j := 0) dX8_change_85 rfl ?_
    exact vf_ret dX8_change_87 rfl
  refine jv_ldc2 dX8_change_34 lk8_123 ?_
  refine hv_callS (As := [.long (x3.toInt64), .long 0, .long 99]) dX8_change_37 lk8_44 kX8_in nX8_in (Nat.le_of_ble_eq_true rfl) (Nat.le_of_ble_eq_true rfl) rfl (fun _ _ e l => c_X8_in  e l V) ?_
  intro r20 M19
  refine jw_if_ne (tgt := 49) dX8_change_40 rfl (fun c40 => ?_) (fun c40 => ?_)
  · refine jv_aloadn (j := 0) dX8_change_43 rfl ?_
    refine jv_iconst (v := 1) dX8_change_44 (by decide) ?_
    refine hv_callI (As := [.int 1]) dX8_change_45 lk8_107 kX8_finds nX8_finds (Nat.le_of_ble_eq_true rfl) (Nat.le_of_ble_eq_true rfl) at_MO_0 rfl rfl rfl (fun _ _ e l => c_X8_finds  e l V) ?_
    intro r22 M21
    exact vf_ret dX8_change_48 rfl
  refine jv_bipush (v := 6) dX8_change_49 (by decide) ?_
  refine jv_iconst (v := 4) dX8_change_51 (by decide) ?_
  refine jv_iloadn (j := 1) dX8_change_52 rfl ?_
  refine jv_imul dX8_change_53 ?_
  refine jv_iadd dX8_change_54 ?_
  refine jv_iloadn (j := 2) dX8_change_55 rfl ?_
  refine jv_iconst (v := 2) dX8_change_56 (by decide) ?_
  refine jw_ic_ge (tgt := 64) dX8_change_57 rfl (fun c57 => ?_) (fun c57 => ?_)
  · refine jv_iconst (v := 3) dX8_change_64 (by decide) ?_
    refine jv_iadd dX8_change_65 ?_
    refine vf_letS (fun z23 => ?_)
    refine jv_istore (L' := [(4, .int z23), (0, .ref (V.1 0)), (1, .int x1), (2, .int x2), (3, .int x3)]) dX8_change_66 (Nat.le_of_ble_eq_true rfl) rfl ?_
    refine jv_aloadn (j := 1) dX8_change_68 rfl ?_
    refine hv_getR dX8_change_69 fl8_7 at_MO_0 rfl ?_
    refine jv_iload (j := 0) dX8_change_72 rfl ?_
    refine hv_ialdC dX8_change_74 at_MO_1 (fun _ => ?_)
    refine vf_letS (fun z24 => ?_)
    refine jv_istore (L' := [(5, .int z24), (4, .int z23), (0, .ref (V.1 0)), (1, .int x1), (2, .int x2), (3, .int x3)]) dX8_change_75 (Nat.le_of_ble_eq_true rfl) rfl ?_
    refine jv_aloadn (j := 2) dX8_change_77 rfl ?_
    refine hv_getR dX8_change_78 fl8_7 at_MO_0 rfl ?_
    refine jv_iload (j := 1) dX8_change_81 rfl ?_
    refine jv_iloadn (j := 5) dX8_change_83 rfl ?_
    refine hv_iastC dX8_change_84 at_MO_1 (fun _ => ?_)
    refine vf_letM (fun M25 => ?_)
    refine jv_iload (j := 0) dX8_change_85 rfl ?_
    exact vf_ret dX8_change_87 rfl
  refine jv_iloadn (j := 2) dX8_change_60 rfl ?_
  refine jv_goto (tgt := 65) dX8_change_61 rfl ?_
  refine jv_iadd dX8_change_65 ?_
  refine vf_letS (fun z26 => ?_)
  refine jv_istore (L' := [(4, .int z26), (0, .ref (V.1 0)), (1, .int x1), (2, .int x2), (3, .int x3)]) dX8_change_66 (Nat.le_of_ble_eq_true rfl) rfl ?_
  refine jv_aloadn (j := 1) dX8_change_68 rfl ?_
  refine hv_getR dX8_change_69 fl8_7 at_MO_0 rfl ?_
  refine jv_iload (j := 0) dX8_change_72 rfl ?_
  refine hv_ialdC dX8_change_74 at_MO_1 (fun _ => ?_)
  refine vf_letS (fun z27 => ?_)
  refine jv_istore (L' := [(5, .int z27), (4, .int z26), (0, .ref (V.1 0)), (1, .int x1), (2, .int x2), (3, .int x3)]) dX8_change_75 (Nat.le_of_ble_eq_true rfl) rfl ?_
  refine jv_aloadn (j := 2) dX8_change_77 rfl ?_
  refine hv_getR dX8_change_78 fl8_7 at_MO_0 rfl ?_
  refine jv_iload (j := 1) dX8_change_81 rfl ?_
  refine jv_iloadn (j := 5) dX8_change_83 rfl ?_
  refine hv_iastC dX8_change_84 at_MO_1 (fun _ => ?_)
  refine vf_letM (fun M28 => ?_)
  refine jv_iload (j := 0) dX8_change_85 rfl ?_
  exact vf_ret dX8_change_87 rfl
theorem c_X8_change {M : pm_M} {x1 : Int32} {x2 : Int32} {x3 : Int32}  {r : Int32} {M' : pm_M} (h : f_X8_change M x1 x2 x3 = some (r, M')) (l : Launch) (V : pm_V) : pm_Ci l V skD yX8_change mX8_change 3 [.ref (V.1 0), .int x1, .int x2, .int x3] M r M' := pm_metI (by decide) rfl (Nat.le_of_ble_eq_true rfl) h (fun _ => w_X8_change M x1 x2 x3 )
def f_X8_areTwo (M : pm_M) (x1 : Int32) (x2 : Int32) : Option (Int32 × pm_M) :=
  (pm_b2 (f_X8_isRoof M x1) (fun (r2 : Int32) (M1 : pm_M) => (if r2 = 0 then (some (0, M1)) else (pm_b2 (f_X8_isRoof M1 x2) (fun (r4 : Int32) (M3 : pm_M) => (if r4 = 0 then (some (0, M3)) else (if x1 = x2 then (some (0, M3)) else (some (1, M3)))))))))
set_option maxHeartbeats 4000000 in
set_option maxRecDepth 100000 in
theorem w_X8_areTwo {X : pm_X} {V : pm_V} (M : pm_M) (x1 : Int32) (x2 : Int32)  : pm_VF (f_X8_areTwo M x1 x2) (pm_K X V mX8_areTwo 3 skD) (pm_J X V mX8_areTwo 3 (pm_wld V skD M) 0 [(0, .ref (V.1 0)), (1, .int x1), (2, .int x2)] []) := by
  unfold f_X8_areTwo
  refine jv_aloadn (j := 0) dX8_areTwo_0 rfl ?_
  refine jv_iloadn (j := 1) dX8_areTwo_1 rfl ?_
  refine hv_callI (As := [.int x1]) dX8_areTwo_2 lk8_125 kX8_isRoof nX8_isRoof (Nat.le_of_ble_eq_true rfl) (Nat.le_of_ble_eq_true rfl) at_MO_0 rfl rfl rfl (fun _ _ e l => c_X8_isRoof  e l V) ?_
  intro r2 M1
  refine jw_if_eq (tgt := 25) dX8_areTwo_5 rfl (fun c5 => ?_) (fun c5 => ?_)
  · refine jv_iconst (v := 0) dX8_areTwo_25 (by decide) ?_
    exact vf_zret dX8_areTwo_26 rfl (by decide)
  refine jv_aloadn (j := 0) dX8_areTwo_8 rfl ?_
  refine jv_iloadn (j := 2) dX8_areTwo_9 rfl ?_
  refine hv_callI (As := [.int x2]) dX8_areTwo_10 lk8_125 kX8_isRoof nX8_isRoof (Nat.le_of_ble_eq_true rfl) (Nat.le_of_ble_eq_true rfl) at_MO_0 rfl rfl rfl (fun _ _ e l => c_X8_isRoof  e l V) ?_
  intro r4 M3
  refine jw_if_eq (tgt := 25) dX8_areTwo_13 rfl (fun c13 => ?_) (fun c13 => ?_)
  · refine jv_iconst (v := 0) dX8_areTwo_25 (by decide) ?_
    exact vf_zret dX8_areTwo_26 rfl (by decide)
  refine jv_iloadn (j := 1) dX8_areTwo_16 rfl ?_
  refine jv_iloadn (j := 2) dX8_areTwo_17 rfl ?_
  refine jw_ic_eq (tgt := 25) dX8_areTwo_18 rfl (fun c18 => ?_) (fun c18 => ?_)
  · refine jv_iconst (v := 0) dX8_areTwo_25 (by decide) ?_
    exact vf_zret dX8_areTwo_26 rfl (by decide)
  refine jv_iconst (v := 1) dX8_areTwo_21 (by decide) ?_
  refine jv_goto (tgt := 26) dX8_areTwo_22 rfl ?_
  exact vf_zret dX8_areTwo_26 rfl (by decide)
theorem c_X8_areTwo {M : pm_M} {x1 : Int32} {x2 : Int32}  {r : Int32} {M' : pm_M} (h : f_X8_areTwo M x1 x2 = some (r, M')) (l : Launch) (V : pm_V) : pm_Ci l V skD yX8_areTwo mX8_areTwo 3 [.ref (V.1 0), .int x1, .int x2] M r M' := pm_metI (by decide) rfl (Nat.le_of_ble_eq_true rfl) h (fun _ => w_X8_areTwo M x1 x2 )
def f_X8_owe (M : pm_M) (x1 : Int32) (x2 : Int32) (x3 : Int32) : Option (Int32 × pm_M) :=
  (pm_b2 (f_X8_areTwo M x1 x2) (fun (r2 : Int32) (M1 : pm_M) => (if r2 = 0 then (pm_b2 (f_X8_finds M1 1) (fun (r4 : Int32) (M3 : pm_M) => (some (r4, M3)))) else (pm_b2 (f_X8_in M1 (x3.toInt64) 0 999) (fun (r6 : Int32) (M5 : pm_M) => (if r6 = 0 then (pm_b2 (f_X8_finds M5 1) (fun (r8 : Int32) (M7 : pm_M) => (some (r8, M7)))) else (pm_chk (pm_in ((30 + (6 * x1)) + x2) 258) (pm_let (M5 1 ((30 + (6 * x1)) + x2).toNatClampNeg) (fun z9 : Int32 => (pm_chk (pm_in ((30 + (6 * x1)) + x2) 258) (pm_let (pm_up M5 1 ((30 + (6 * x1)) + x2).toNatClampNeg x3) (fun M10 : pm_M => (some (z9, M10))))))))))))))
set_option maxHeartbeats 4000000 in
set_option maxRecDepth 100000 in
theorem w_X8_owe {X : pm_X} {V : pm_V} (M : pm_M) (x1 : Int32) (x2 : Int32) (x3 : Int32)  : pm_VF (f_X8_owe M x1 x2 x3) (pm_K X V mX8_owe 4 skD) (pm_J X V mX8_owe 4 (pm_wld V skD M) 0 [(0, .ref (V.1 0)), (1, .int x1), (2, .int x2), (3, .int x3)] []) := by
  unfold f_X8_owe
  refine jv_aloadn (j := 0) dX8_owe_0 rfl ?_
  refine jv_iloadn (j := 1) dX8_owe_1 rfl ?_
  refine jv_iloadn (j := 2) dX8_owe_2 rfl ?_
  refine hv_callI (As := [.int x1, .int x2]) dX8_owe_3 lk8_141 kX8_areTwo nX8_areTwo (Nat.le_of_ble_eq_true rfl) (Nat.le_of_ble_eq_true rfl) at_MO_0 rfl rfl rfl (fun _ _ e l => c_X8_areTwo  e l V) ?_
  intro r2 M1
  refine jw_if_eq (tgt := 21) dX8_owe_6 rfl (fun c6 => ?_) (fun c6 => ?_)
  · refine jv_aloadn (j := 0) dX8_owe_21 rfl ?_
    refine jv_iconst (v := 1) dX8_owe_22 (by decide) ?_
    refine hv_callI (As := [.int 1]) dX8_owe_23 lk8_107 kX8_finds nX8_finds (Nat.le_of_ble_eq_true rfl) (Nat.le_of_ble_eq_true rfl) at_MO_0 rfl rfl rfl (fun _ _ e l => c_X8_finds  e l V) ?_
    intro r4 M3
    exact vf_ret dX8_owe_26 rfl
  refine jv_iloadn (j := 3) dX8_owe_9 rfl ?_
  refine jv_i2l dX8_owe_10 ?_
  refine jv_lconst (v := 0) dX8_owe_11 (by decide) ?_
  refine jv_ldc2 dX8_owe_12 lk8_145 ?_
  refine hv_callS (As := [.long (x3.toInt64), .long 0, .long 999]) dX8_owe_15 lk8_44 kX8_in nX8_in (Nat.le_of_ble_eq_true rfl) (Nat.le_of_ble_eq_true rfl) rfl (fun _ _ e l => c_X8_in  e l V) ?_
  intro r6 M5
  refine jw_if_ne (tgt := 27) dX8_owe_18 rfl (fun c18 => ?_) (fun c18 => ?_)
  · refine jv_aloadn (j := 0) dX8_owe_21 rfl ?_
    refine jv_iconst (v := 1) dX8_owe_22 (by decide) ?_
    refine hv_callI (As := [.int 1]) dX8_owe_23 lk8_107 kX8_finds nX8_finds (Nat.le_of_ble_eq_true rfl) (Nat.le_of_ble_eq_true rfl) at_MO_0 rfl rfl rfl (fun _ _ e l => c_X8_finds  e l V) ?_
    intro r8 M7
    exact vf_ret dX8_owe_26 rfl
  refine jv_aloadn (j := 0) dX8_owe_27 rfl ?_
  refine hv_getR dX8_owe_28 fl8_7 at_MO_0 rfl ?_
  refine jv_bipush (v := 30) dX8_owe_31 (by decide) ?_
  refine jv_bipush (v := 6) dX8_owe_33 (by decide) ?_
  refine jv_iloadn (j := 1) dX8_owe_35 rfl ?_
  refine jv_imul dX8_owe_36 ?_
  refine jv_iadd dX8_owe_37 ?_
  refine jv_iloadn (j := 2) dX8_owe_38 rfl ?_
  refine jv_iadd dX8_owe_39 ?_
  refine hv_ialdC dX8_owe_40 at_MO_1 (fun _ => ?_)
  refine vf_letS (fun z9 => ?_)
  refine jv_istore (L' := [(4, .int z9), (0, .ref (V.1 0)), (1, .int x1), (2, .int x2), (3, .int x3)]) dX8_owe_41 (Nat.le_of_ble_eq_true rfl) rfl ?_
  refine jv_aloadn (j := 1) dX8_owe_43 rfl ?_
  refine hv_getR dX8_owe_44 fl8_7 at_MO_0 rfl ?_
  refine jv_bipush (v := 30) dX8_owe_47 (by decide) ?_
  refine jv_bipush (v := 6) dX8_owe_49 (by decide) ?_
  refine jv_iloadn (j := 2) dX8_owe_51 rfl ?_
  refine jv_imul dX8_owe_52 ?_
  refine jv_iadd dX8_owe_53 ?_
  refine jv_iloadn (j := 3) dX8_owe_54 rfl ?_
  refine jv_iadd dX8_owe_55 ?_
  refine jv_iloadn (j := 4) dX8_owe_56 rfl ?_
  refine hv_iastC dX8_owe_57 at_MO_1 (fun _ => ?_)
  refine vf_letM (fun M10 => ?_)
  refine jv_iload (j := 0) dX8_owe_58 rfl ?_
  exact vf_ret dX8_owe_60 rfl
theorem c_X8_owe {M : pm_M} {x1 : Int32} {x2 : Int32} {x3 : Int32}  {r : Int32} {M' : pm_M} (h : f_X8_owe M x1 x2 x3 = some (r, M')) (l : Launch) (V : pm_V) : pm_Ci l V skD yX8_owe mX8_owe 4 [.ref (V.1 0), .int x1, .int x2, .int x3] M r M' := pm_metI (by decide) rfl (Nat.le_of_ble_eq_true rfl) h (fun _ => w_X8_owe M x1 x2 x3 )
def f_X8_owed (M : pm_M) (x1 : Int32) (x2 : Int32) : Option (Int32 × pm_M) :=
  (pm_b2 (f_X8_areTwo M x1 x2) (fun (r2 : Int32) (M1 : pm_M) => (if r2 = 0 then (pm_b2 (f_X8_finds M1 1) (fun (r4 : Int32) (M3 : pm_M) => (some (r4, M3)))) else (pm_chk (pm_in ((30 + (6 * x1)) + x2) 258) (some ((M1 1 ((30 + (6 * x1)) + x2).toNatClampNeg), M1))))))
set_option maxHeartbeats 4000000 in
set_option maxRecDepth 100000 in
theorem w_X8_owed {X : pm_X} {V : pm_V} (M : pm_M) (x1 : Int32) (x2 : Int32)  : pm_VF (f_X8_owed M x1 x2) (pm_K X V mX8_owed 4 skD) (pm_J X V mX8_owed 4 (pm_wld V skD M) 0 [(0, .ref (V.1 0)), (1, .int x1), (2, .int x2)] []) := by
  unfold f_X8_owed
  refine jv_aloadn (j := 0) dX8_owed_0 rfl ?_
  refine jv_iloadn (j := 1) dX8_owed_1 rfl ?_
  refine jv_iloadn (j := 2) dX8_owed_2 rfl ?_
  refine hv_callI (As := [.int x1, .int x2]) dX8_owed_3 lk8_141 kX8_areTwo nX8_areTwo (Nat.le_of_ble_eq_true rfl) (Nat.le_of_ble_eq_true rfl) at_MO_0 rfl rfl rfl (fun _ _ e l => c_X8_areTwo  e l V) ?_
  intro r2 M1
  refine jw_if_eq (tgt := 26) dX8_owed_6 rfl (fun c6 => ?_) (fun c6 => ?_)
  · refine jv_aloadn (j := 0) dX8_owed_26 rfl ?_
    refine jv_iconst (v := 1) dX8_owed_27 (by decide) ?_
    refine hv_callI (As := [.int 1]) dX8_owed_28 lk8_107 kX8_finds nX8_finds (Nat.le_of_ble_eq_true rfl) (Nat.le_of_ble_eq_true rfl) at_MO_0 rfl rfl rfl (fun _ _ e l => c_X8_finds  e l V) ?_
    intro r4 M3
    exact vf_ret dX8_owed_31 rfl
  refine jv_aloadn (j := 0) dX8_owed_9 rfl ?_
  refine hv_getR dX8_owed_10 fl8_7 at_MO_0 rfl ?_
  refine jv_bipush (v := 30) dX8_owed_13 (by decide) ?_
  refine jv_bipush (v := 6) dX8_owed_15 (by decide) ?_
  refine jv_iloadn (j := 1) dX8_owed_17 rfl ?_
  refine jv_imul dX8_owed_18 ?_
  refine jv_iadd dX8_owed_19 ?_
  refine jv_iloadn (j := 2) dX8_owed_20 rfl ?_
  refine jv_iadd dX8_owed_21 ?_
  refine hv_ialdC dX8_owed_22 at_MO_1 (fun _ => ?_)
  refine jv_goto (tgt := 31) dX8_owed_23 rfl ?_
  exact vf_ret dX8_owed_31 rfl
theorem c_X8_owed {M : pm_M} {x1 : Int32} {x2 : Int32}  {r : Int32} {M' : pm_M} (h : f_X8_owed M x1 x2 = some (r, M')) (l : Launch) (V : pm_V) : pm_Ci l V skD yX8_owed mX8_owed 4 [.ref (V.1 0), .int x1, .int x2] M r M' := pm_metI (by decide) rfl (Nat.le_of_ble_eq_true rfl) h (fun _ => w_X8_owed M x1 x2 )
def f_X8_pay (M : pm_M) (x1 : Int32) (x2 : Int32) : Option (Int32 × pm_M) :=
  (pm_b2 (f_X8_isRoof M x1) (fun (r2 : Int32) (M1 : pm_M) => (if r2 = 0 then (pm_b2 (f_X8_finds M1 1) (fun (r4 : Int32) (M3 : pm_M) => (some (r4, M3)))) else (pm_b2 (f_X8_in M1 (x2.toInt64) 1 9999) (fun (r6 : Int32) (M5 : pm_M) => (if r6 = 0 then (pm_b2 (f_X8_finds M5 1) (fun (r8 : Int32) (M7 : pm_M) => (some (r8, M7)))) else (pm_b2 (f_X8_its M5 x1 1) (fun (r10 : Int32) (M9 : pm_M) => (if x2 ≤ r10 then (pm_let ((6 + (4 * x1)) + 1) (fun z11 : Int32 => (pm_chk (pm_in z11 258) (pm_chk (pm_in z11 258) (pm_let (pm_up M9 1 z11.toNatClampNeg ((M9 1 z11.toNatClampNeg) - x2)) (fun M12 : pm_M => (pm_b2 (f_X8_its M12 x1 1) (fun (r14 : Int32) (M13 : pm_M) => (some (r14, M13)))))))))) else (pm_b2 (f_X8_finds M9 3) (fun (r16 : Int32) (M15 : pm_M) => (some (r16, M15)))))))))))))
set_option maxHeartbeats 4000000 in
set_option maxRecDepth 100000 in
theorem w_X8_pay {X : pm_X} {V : pm_V} (M : pm_M) (x1 : Int32) (x2 : Int32)  : pm_VF (f_X8_pay M x1 x2) (pm_K X V mX8_pay 3 skD) (pm_J X V mX8_pay 3 (pm_wld V skD M) 0 [(0, .ref (V.1 0)), (1, .int x1), (2, .int x2)] []) := by
  unfold f_X8_pay
  refine jv_aloadn (j := 0) dX8_pay_0 rfl ?_
  refine jv_iloadn (j := 1) dX8_pay_1 rfl ?_
  refine hv_callI (As := [.int x1]) dX8_pay_2 lk8_125 kX8_isRoof nX8_isRoof (Nat.le_of_ble_eq_true rfl) (Nat.le_of_ble_eq_true rfl) at_MO_0 rfl rfl rfl (fun _ _ e l => c_X8_isRoof  e l V) ?_
  intro r2 M1
  refine jw_if_eq (tgt := 20) dX8_pay_5 rfl (fun c5 => ?_) (fun c5 => ?_)
  · refine jv_aloadn (j := 0) dX8_pay_20 rfl ?_
    refine jv_iconst (v := 1) dX8_pay_21 (by decide) ?_
    refine hv_callI (As := [.int 1]) dX8_pay_22 lk8_107 kX8_finds nX8_finds (Nat.le_of_ble_eq_true rfl) (Nat.le_of_ble_eq_true rfl) at_MO_0 rfl rfl rfl (fun _ _ e l => c_X8_finds  e l V) ?_
    intro r4 M3
    exact vf_ret dX8_pay_25 rfl
  refine jv_iloadn (j := 2) dX8_pay_8 rfl ?_
  refine jv_i2l dX8_pay_9 ?_
  refine jv_lconst (v := 1) dX8_pay_10 (by decide) ?_
  refine jv_ldc2 dX8_pay_11 lk8_139 ?_
  refine hv_callS (As := [.long (x2.toInt64), .long 1, .long 9999]) dX8_pay_14 lk8_44 kX8_in nX8_in (Nat.le_of_ble_eq_true rfl) (Nat.le_of_ble_eq_true rfl) rfl (fun _ _ e l => c_X8_in  e l V) ?_
  intro r6 M5
  refine jw_if_ne (tgt := 26) dX8_pay_17 rfl (fun c17 => ?_) (fun c17 => ?_)
  · refine jv_aloadn (j := 0) dX8_pay_20 rfl ?_
    refine jv_iconst (v := 1) dX8_pay_21 (by decide) ?_
    refine hv_callI (As := [.int 1]) dX8_pay_22 lk8_107 kX8_finds nX8_finds (Nat.le_of_ble_eq_true rfl) (Nat.le_of_ble_eq_true rfl) at_MO_0 rfl rfl rfl (fun _ _ e l => c_X8_finds  e l V) ?_
    intro r8 M7
    exact vf_ret dX8_pay_25 rfl
  refine jv_aloadn (j := 0) dX8_pay_26 rfl ?_
  refine jv_iloadn (j := 1) dX8_pay_27 rfl ?_
  refine jv_iconst (v := 1) dX8_pay_28 (by decide) ?_
  refine hv_callI (As := [.int x1, .int 1]) dX8_pay_29 lk8_134 kX8_its nX8_its (Nat.le_of_ble_eq_true rfl) (Nat.le_of_ble_eq_true rfl) at_MO_0 rfl rfl rfl (fun _ _ e l => c_X8_its  e l V) ?_
  intro r10 M9
  refine jv_iloadn (j := 2) dX8_pay_32 rfl ?_
  refine jw_ic_ge (tgt := 42) dX8_pay_33 rfl (fun c33 => ?_) (fun c33 => ?_)
  · refine jv_aloadn (j := 0) dX8_pay_42 rfl ?_
    refine hv_getR dX8_pay_43 fl8_7 at_MO_0 rfl ?_
    refine jv_bipush (v := 6) dX8_pay_46 (by decide) ?_
    refine jv_iconst (v := 4) dX8_pay_48 (by decide) ?_
    refine jv_iloadn (j := 1) dX8_pay_49 rfl ?_
    refine jv_imul dX8_pay_50 ?_
    refine jv_iadd dX8_pay_51 ?_
    refine jv_iconst (v := 1) dX8_pay_52 (by decide) ?_
    refine jv_iadd dX8_pay_53 ?_
    refine vf_letS (fun z11 => ?_)
    refine jv_dup2 dX8_pay_54 rfl rfl ?_
    refine hv_ialdC dX8_pay_55 at_MO_1 (fun _ => ?_)
    refine jv_iloadn (j := 2) dX8_pay_56 rfl ?_
    refine jv_isub dX8_pay_57 ?_
    refine hv_iastC dX8_pay_58 at_MO_1 (fun _ => ?_)
    refine vf_letM (fun M12 => ?_)
    refine jv_aloadn (j := 0) dX8_pay_59 rfl ?_
    refine jv_iloadn (j := 1) dX8_pay_60 rfl ?_
    refine jv_iconst (v := 1) dX8_pay_61 (by decide) ?_
    refine hv_callI (As := [.int x1, .int 1]) dX8_pay_62 lk8_134 kX8_its nX8_its (Nat.le_of_ble_eq_true rfl) (Nat.le_of_ble_eq_true rfl) at_MO_0 rfl rfl rfl (fun _ _ e l => c_X8_its  e l V) ?_
    intro r14 M13
    exact vf_ret dX8_pay_65 rfl
  refine jv_aloadn (j := 0) dX8_pay_36 rfl ?_
  refine jv_iconst (v := 3) dX8_pay_37 (by decide) ?_
  refine hv_callI (As := [.int 3]) dX8_pay_38 lk8_107 kX8_finds nX8_finds (Nat.le_of_ble_eq_true rfl) (Nat.le_of_ble_eq_true rfl) at_MO_0 rfl rfl rfl (fun _ _ e l => c_X8_finds  e l V) ?_
  intro r16 M15
  exact vf_ret dX8_pay_41 rfl
theorem c_X8_pay {M : pm_M} {x1 : Int32} {x2 : Int32}  {r : Int32} {M' : pm_M} (h : f_X8_pay M x1 x2 = some (r, M')) (l : Launch) (V : pm_V) : pm_Ci l V skD yX8_pay mX8_pay 3 [.ref (V.1 0), .int x1, .int x2] M r M' := pm_metI (by decide) rfl (Nat.le_of_ble_eq_true rfl) h (fun _ => w_X8_pay M x1 x2 )
def f_X8_sell (M : pm_M) (x1 : Int32) (x2 : Int32) (x3 : Int32) : Option (Int32 × pm_M) :=
  (pm_b2 (f_X8_areTwo M x1 x2) (fun (r2 : Int32) (M1 : pm_M) => (if r2 = 0 then (pm_b2 (f_X8_finds M1 1) (fun (r4 : Int32) (M3 : pm_M) => (some (r4, M3)))) else (pm_b2 (f_X8_in M1 (x3.toInt64) 1 99) (fun (r6 : Int32) (M5 : pm_M) => (if r6 = 0 then (pm_b2 (f_X8_finds M5 1) (fun (r8 : Int32) (M7 : pm_M) => (some (r8, M7)))) else (pm_b2 (f_X8_its M5 x1 0) (fun (r10 : Int32) (M9 : pm_M) => (if r10 < x3 then (pm_b2 (f_X8_finds M9 3) (fun (r12 : Int32) (M11 : pm_M) => (some (r12, M11)))) else (pm_b2 (f_X8_its M9 x2 0) (fun (r14 : Int32) (M13 : pm_M) => (if (r14 + x3) ≤ 99 then (pm_let ((6 + (4 * x1)) + 0) (fun z15 : Int32 => (pm_chk (pm_in z15 258) (pm_chk (pm_in z15 258) (pm_let (pm_up M13 1 z15.toNatClampNeg ((M13 1 z15.toNatClampNeg) - x3)) (fun M16 : pm_M => (pm_let ((6 + (4 * x2)) + 0) (fun z17 : Int32 => (pm_chk (pm_in z17 258) (pm_chk (pm_in z17 258) (pm_let (pm_up M16 1 z17.toNatClampNeg ((M16 1 z17.toNatClampNeg) + x3)) (fun M18 : pm_M => (pm_b2 (f_X8_its M18 x1 0) (fun (r20 : Int32) (M19 : pm_M) => (some (r20, M19)))))))))))))))) else (pm_b2 (f_X8_finds M13 3) (fun (r22 : Int32) (M21 : pm_M) => (some (r22, M21))))))))))))))))
set_option maxHeartbeats 4000000 in
set_option maxRecDepth 100000 in
theorem w_X8_sell {X : pm_X} {V : pm_V} (M : pm_M) (x1 : Int32) (x2 : Int32) (x3 : Int32)  : pm_VF (f_X8_sell M x1 x2 x3) (pm_K X V mX8_sell 4 skD) (pm_J X V mX8_sell 4 (pm_wld V skD M) 0 [(0, .ref (V.1 0)), (1, .int x1), (2, .int x2), (3, .int x3)] []) := by
  unfold f_X8_sell
  refine jv_aloadn (j := 0) dX8_sell_0 rfl ?_
  refine jv_iloadn (j := 1) dX8_sell_1 rfl ?_
  refine jv_iloadn (j := 2) dX8_sell_2 rfl ?_
  refine hv_callI (As := [.int x1, .int x2]) dX8_sell_3 lk8_141 kX8_areTwo nX8_areTwo (Nat.le_of_ble_eq_true rfl) (Nat.le_of_ble_eq_true rfl) at_MO_0 rfl rfl rfl (fun _ _ e l => c_X8_areTwo  e l V) ?_
  intro r2 M1
  refine jw_if_eq (tgt := 21) dX8_sell_6 rfl (fun c6 => ?_) (fun c6 => ?_)
  · refine jv_aloadn (j := 0) dX8_sell_21 rfl ?_
    refine jv_iconst (v := 1) dX8_sell_22 (by decide) ?_
    refine hv_callI (As := [.int 1]) dX8_sell_23 lk8_107 kX8_finds nX8_finds (Nat.le_of_ble_eq_true rfl) (Nat.le_of_ble_eq_true rfl) at_MO_0 rfl rfl rfl (fun _ _ e l => c_X8_finds  e l V) ?_
    intro r4 M3
    exact vf_ret dX8_sell_26 rfl
  refine jv_iloadn (j := 3) dX8_sell_9 rfl ?_
  refine jv_i2l dX8_sell_10 ?_
  refine jv_lconst (v := 1) dX8_sell_11 (by decide) ?_
  refine jv_ldc2 dX8_sell_12 lk8_123 ?_
  refine hv_callS (As := [.long (x3.toInt64), .long 1, .long 99]) dX8_sell_15 lk8_44 kX8_in nX8_in (Nat.le_of_ble_eq_true rfl) (Nat.le_of_ble_eq_true rfl) rfl (fun _ _ e l => c_X8_in  e l V) ?_
  intro r6 M5
  refine jw_if_ne (tgt := 27) dX8_sell_18 rfl (fun c18 => ?_) (fun c18 => ?_)
  · refine jv_aloadn (j := 0) dX8_sell_21 rfl ?_
    refine jv_iconst (v := 1) dX8_sell_22 (by decide) ?_
    refine hv_callI (As := [.int 1]) dX8_sell_23 lk8_107 kX8_finds nX8_finds (Nat.le_of_ble_eq_true rfl) (Nat.le_of_ble_eq_true rfl) at_MO_0 rfl rfl rfl (fun _ _ e l => c_X8_finds  e l V) ?_
    intro r8 M7
    exact vf_ret dX8_sell_26 rfl
  refine jv_aloadn (j := 0) dX8_sell_27 rfl ?_
  refine jv_iloadn (j := 1) dX8_sell_28 rfl ?_
  refine jv_iconst (v := 0) dX8_sell_29 (by decide) ?_
  refine hv_callI (As := [.int x1, .int 0]) dX8_sell_30 lk8_134 kX8_its nX8_its (Nat.le_of_ble_eq_true rfl) (Nat.le_of_ble_eq_true rfl) at_MO_0 rfl rfl rfl (fun _ _ e l => c_X8_its  e l V) ?_
  intro r10 M9
  refine jv_iloadn (j := 3) dX8_sell_33 rfl ?_
  refine jw_ic_lt (tgt := 50) dX8_sell_34 rfl (fun c34 => ?_) (fun c34 => ?_)
  · refine jv_aloadn (j := 0) dX8_sell_50 rfl ?_
    refine jv_iconst (v := 3) dX8_sell_51 (by decide) ?_
    refine hv_callI (As := [.int 3]) dX8_sell_52 lk8_107 kX8_finds nX8_finds (Nat.le_of_ble_eq_true rfl) (Nat.le_of_ble_eq_true rfl) at_MO_0 rfl rfl rfl (fun _ _ e l => c_X8_finds  e l V) ?_
    intro r12 M11
    exact vf_ret dX8_sell_55 rfl
  refine jv_aloadn (j := 0) dX8_sell_37 rfl ?_
  refine jv_iloadn (j := 2) dX8_sell_38 rfl ?_
  refine jv_iconst (v := 0) dX8_sell_39 (by decide) ?_
  refine hv_callI (As := [.int x2, .int 0]) dX8_sell_40 lk8_134 kX8_its nX8_its (Nat.le_of_ble_eq_true rfl) (Nat.le_of_ble_eq_true rfl) at_MO_0 rfl rfl rfl (fun _ _ e l => c_X8_its  e l V) ?_
  intro r14 M13
  refine jv_iloadn (j := 3) dX8_sell_43 rfl ?_
  refine jv_iadd dX8_sell_44 ?_
  refine jv_bipush (v := 99) dX8_sell_45 (by decide) ?_
  refine jw_ic_le (tgt := 56) dX8_sell_47 rfl (fun c47 => ?_) (fun c47 => ?_)
  · refine jv_aloadn (j := 0) dX8_sell_56 rfl ?_
    refine hv_getR dX8_sell_57 fl8_7 at_MO_0 rfl ?_
    refine jv_bipush (v := 6) dX8_sell_60 (by decide) ?_
    refine jv_iconst (v := 4) dX8_sell_62 (by decide) ?_
    refine jv_iloadn (j := 1) dX8_sell_63 rfl ?_
    refine jv_imul dX8_sell_64 ?_
    refine jv_iadd dX8_sell_65 ?_
    refine jv_iconst (v := 0) dX8_sell_66 (by decide) ?_
    refine jv_iadd dX8_sell_67 ?_
    refine vf_letS (fun z15 => ?_)
    refine jv_dup2 dX8_sell_68 rfl rfl ?_
    refine hv_ialdC dX8_sell_69 at_MO_1 (fun _ => ?_)
    refine jv_iloadn (j := 3) dX8_sell_70 rfl ?_
    refine jv_isub dX8_sell_71 ?_
    refine hv_iastC dX8_sell_72 at_MO_1 (fun _ => ?_)
    refine vf_letM (fun M16 => ?_)
    refine jv_aloadn (j := 0) dX8_sell_73 rfl ?_
    refine hv_getR dX8_sell_74 fl8_7 at_MO_0 rfl ?_
    refine jv_bipush (v := 6) dX8_sell_77 (by decide) ?_
    refine jv_iconst (v := 4) dX8_sell_79 (by decide) ?_
    refine jv_iloadn (j := 2) dX8_sell_80 rfl ?_
    refine jv_imul dX8_sell_81 ?_
    refine jv_iadd dX8_sell_82 ?_
    refine jv_iconst (v := 0) dX8_sell_83 (by decide) ?_
    refine jv_iadd dX8_sell_84 ?_
    refine vf_letS (fun z17 => ?_)
    refine jv_dup2 dX8_sell_85 rfl rfl ?_
    refine hv_ialdC dX8_sell_86 at_MO_1 (fun _ => ?_)
    refine jv_iloadn (j := 3) dX8_sell_87 rfl ?_
    refine jv_iadd dX8_sell_88 ?_
    refine hv_iastC dX8_sell_89 at_MO_1 (fun _ => ?_)
    refine vf_letM (fun M18 => ?_)
    refine jv_aloadn (j := 0) dX8_sell_90 rfl ?_
    refine jv_iloadn (j := 1) dX8_sell_91 rfl ?_
    refine jv_iconst (v := 0) dX8_sell_92 (by decide) ?_
    refine hv_callI (As := [.int x1, .int 0]) dX8_sell_93 lk8_134 kX8_its nX8_its (Nat.le_of_ble_eq_true rfl) (Nat.le_of_ble_eq_true rfl) at_MO_0 rfl rfl rfl (fun _ _ e l => c_X8_its  e l V) ?_
    intro r20 M19
    exact vf_ret dX8_sell_96 rfl
  refine jv_aloadn (j := 0) dX8_sell_50 rfl ?_
  refine jv_iconst (v := 3) dX8_sell_51 (by decide) ?_
  refine hv_callI (As := [.int 3]) dX8_sell_52 lk8_107 kX8_finds nX8_finds (Nat.le_of_ble_eq_true rfl) (Nat.le_of_ble_eq_true rfl) at_MO_0 rfl rfl rfl (fun _ _ e l => c_X8_finds  e l V) ?_
  intro r22 M21
  exact vf_ret dX8_sell_55 rfl
theorem c_X8_sell {M : pm_M} {x1 : Int32} {x2 : Int32} {x3 : Int32}  {r : Int32} {M' : pm_M} (h : f_X8_sell M x1 x2 x3 = some (r, M')) (l : Launch) (V : pm_V) : pm_Ci l V skD yX8_sell mX8_sell 4 [.ref (V.1 0), .int x1, .int x2, .int x3] M r M' := pm_metI (by decide) rfl (Nat.le_of_ble_eq_true rfl) h (fun _ => w_X8_sell M x1 x2 x3 )
def f_X8_cloud (M : pm_M) (x1 : Int32) (x2 : Int32) : Option (Int32 × pm_M) :=
  (pm_b2 (f_X8_in M (x1.toInt64) 0 69) (fun (r2 : Int32) (M1 : pm_M) => (if r2 = 0 then (pm_b2 (f_X8_finds M1 1) (fun (r4 : Int32) (M3 : pm_M) => (some (r4, M3)))) else (pm_b2 (f_X8_isRoof M1 x2) (fun (r6 : Int32) (M5 : pm_M) => (if r6 = 0 then (pm_b2 (f_X8_finds M5 1) (fun (r8 : Int32) (M7 : pm_M) => (some (r8, M7)))) else (if (M5 1 (1 : Int32).toNatClampNeg) = 5 then (pm_b2 (f_X8_finds M5 4) (fun (r10 : Int32) (M9 : pm_M) => (some (r10, M9)))) else (pm_let (66 + (4 * (M5 1 (1 : Int32).toNatClampNeg))) (fun z11 : Int32 => (pm_chk (pm_in (z11 + 0) 258) (pm_let (pm_up M5 1 (z11 + 0).toNatClampNeg (x1 / 10)) (fun M12 : pm_M => (pm_chk (pm_in (z11 + 1) 258) (pm_let (pm_up M12 1 (z11 + 1).toNatClampNeg (pm_rem x1 10)) (fun M13 : pm_M => (pm_chk (pm_in (z11 + 2) 258) (pm_let (pm_up M13 1 (z11 + 2).toNatClampNeg x2) (fun M14 : pm_M => (pm_chk (pm_in (z11 + 3) 258) (pm_let (pm_up M14 1 (z11 + 3).toNatClampNeg 0) (fun M15 : pm_M => (pm_let (pm_up M15 1 (1 : Int32).toNatClampNeg ((M15 1 (1 : Int32).toNatClampNeg) + 1)) (fun M16 : pm_M => (some (((M16 1 (1 : Int32).toNatClampNeg) - 1), M16)))))))))))))))))))))))))
set_option maxHeartbeats 4000000 in
set_option maxRecDepth 100000 in
theorem w_X8_cloud {X : pm_X} {V : pm_V} (M : pm_M) (x1 : Int32) (x2 : Int32)  : pm_VF (f_X8_cloud M x1 x2) (pm_K X V mX8_cloud 3 skD) (pm_J X V mX8_cloud 3 (pm_wld V skD M) 0 [(0, .ref (V.1 0)), (1, .int x1), (2, .int x2)] []) := by
  unfold f_X8_cloud
  refine jv_iloadn (j := 1) dX8_cloud_0 rfl ?_
  refine jv_i2l dX8_cloud_1 ?_
  refine jv_lconst (v := 0) dX8_cloud_2 (by decide) ?_
  refine jv_ldc2 dX8_cloud_3 lk8_147 ?_
  refine hv_callS (As := [.long (x1.toInt64), .long 0, .long 69]) dX8_cloud_6 lk8_44 kX8_in nX8_in (Nat.le_of_ble_eq_true rfl) (Nat.le_of_ble_eq_true rfl) rfl (fun _ _ e l => c_X8_in  e l V) ?_
  intro r2 M1
  refine jw_if_eq (tgt := 20) dX8_cloud_9 rfl (fun c9 => ?_) (fun c9 => ?_)
  · refine jv_aloadn (j := 0) dX8_cloud_20 rfl ?_
    refine jv_iconst (v := 1) dX8_cloud_21 (by decide) ?_
    refine hv_callI (As := [.int 1]) dX8_cloud_22 lk8_107 kX8_finds nX8_finds (Nat.le_of_ble_eq_true rfl) (Nat.le_of_ble_eq_true rfl) at_MO_0 rfl rfl rfl (fun _ _ e l => c_X8_finds  e l V) ?_
    intro r4 M3
    exact vf_ret dX8_cloud_25 rfl
  refine jv_aloadn (j := 0) dX8_cloud_12 rfl ?_
  refine jv_iloadn (j := 2) dX8_cloud_13 rfl ?_
  refine hv_callI (As := [.int x2]) dX8_cloud_14 lk8_125 kX8_isRoof nX8_isRoof (Nat.le_of_ble_eq_true rfl) (Nat.le_of_ble_eq_true rfl) at_MO_0 rfl rfl rfl (fun _ _ e l => c_X8_isRoof  e l V) ?_
  intro r6 M5
  refine jw_if_ne (tgt := 26) dX8_cloud_17 rfl (fun c17 => ?_) (fun c17 => ?_)
  · refine jv_aloadn (j := 0) dX8_cloud_20 rfl ?_
    refine jv_iconst (v := 1) dX8_cloud_21 (by decide) ?_
    refine hv_callI (As := [.int 1]) dX8_cloud_22 lk8_107 kX8_finds nX8_finds (Nat.le_of_ble_eq_true rfl) (Nat.le_of_ble_eq_true rfl) at_MO_0 rfl rfl rfl (fun _ _ e l => c_X8_finds  e l V) ?_
    intro r8 M7
    exact vf_ret dX8_cloud_25 rfl
  refine jv_aloadn (j := 0) dX8_cloud_26 rfl ?_
  refine hv_getR dX8_cloud_27 fl8_7 at_MO_0 rfl ?_
  refine jv_iconst (v := 1) dX8_cloud_30 (by decide) ?_
  refine hv_iald dX8_cloud_31 at_MO_1 (by decide) ?_
  refine jv_iconst (v := 5) dX8_cloud_32 (by decide) ?_
  refine jw_ic_ne (tgt := 42) dX8_cloud_33 rfl (fun c33 => ?_) (fun c33 => ?_)
  · refine jv_aloadn (j := 0) dX8_cloud_36 rfl ?_
    refine jv_iconst (v := 4) dX8_cloud_37 (by decide) ?_
    refine hv_callI (As := [.int 4]) dX8_cloud_38 lk8_107 kX8_finds nX8_finds (Nat.le_of_ble_eq_true rfl) (Nat.le_of_ble_eq_true rfl) at_MO_0 rfl rfl rfl (fun _ _ e l => c_X8_finds  e l V) ?_
    intro r10 M9
    exact vf_ret dX8_cloud_41 rfl
  refine jv_bipush (v := 66) dX8_cloud_42 (by decide) ?_
  refine jv_iconst (v := 4) dX8_cloud_44 (by decide) ?_
  refine jv_aloadn (j := 0) dX8_cloud_45 rfl ?_
  refine hv_getR dX8_cloud_46 fl8_7 at_MO_0 rfl ?_
  refine jv_iconst (v := 1) dX8_cloud_49 (by decide) ?_
  refine hv_iald dX8_cloud_50 at_MO_1 (by decide) ?_
  refine jv_imul dX8_cloud_51 ?_
  refine jv_iadd dX8_cloud_52 ?_
  refine vf_letS (fun z11 => ?_)
  refine jv_istoren (L' := [(3, .int z11), (0, .ref (V.1 0)), (1, .int x1), (2, .int x2)]) dX8_cloud_53 (Nat.le_of_ble_eq_true rfl) rfl ?_
  refine jv_aloadn (j := 1) dX8_cloud_54 rfl ?_
  refine hv_getR dX8_cloud_55 fl8_7 at_MO_0 rfl ?_
  refine jv_iloadn (j := 0) dX8_cloud_58 rfl ?_
  refine jv_iconst (v := 0) dX8_cloud_59 (by decide) ?_
  refine jv_iadd dX8_cloud_60 ?_
  refine jv_iloadn (j := 2) dX8_cloud_61 rfl ?_
  refine jv_bipush (v := 10) dX8_cloud_62 (by decide) ?_
  refine jv_idiv dX8_cloud_64 (by decide) ?_
  refine hv_iastC dX8_cloud_65 at_MO_1 (fun _ => ?_)
  refine vf_letM (fun M12 => ?_)
  refine jv_aloadn (j := 1) dX8_cloud_66 rfl ?_
  refine hv_getR dX8_cloud_67 fl8_7 at_MO_0 rfl ?_
  refine jv_iloadn (j := 0) dX8_cloud_70 rfl ?_
  refine jv_iconst (v := 1) dX8_cloud_71 (by decide) ?_
  refine jv_iadd dX8_cloud_72 ?_
  refine jv_iloadn (j := 2) dX8_cloud_73 rfl ?_
  refine jv_bipush (v := 10) dX8_cloud_74 (by decide) ?_
  refine jv_irem dX8_cloud_76 (by decide) ?_
  refine hv_iastC dX8_cloud_77 at_MO_1 (fun _ => ?_)
  refine vf_letM (fun M13 => ?_)
  refine jv_aloadn (j := 1) dX8_cloud_78 rfl ?_
  refine hv_getR dX8_cloud_79 fl8_7 at_MO_0 rfl ?_
  refine jv_iloadn (j := 0) dX8_cloud_82 rfl ?_
  refine jv_iconst (v := 2) dX8_cloud_83 (by decide) ?_
  refine jv_iadd dX8_cloud_84 ?_
  refine jv_iloadn (j := 3) dX8_cloud_85 rfl ?_
  refine hv_iastC dX8_cloud_86 at_MO_1 (fun _ => ?_)
  refine vf_letM (fun M14 => ?_)
  refine jv_aloadn (j := 1) dX8_cloud_87 rfl ?_
  refine hv_getR dX8_cloud_88 fl8_7 at_MO_0 rfl ?_
  refine jv_iloadn (j := 0) dX8_cloud_91 rfl ?_
  refine jv_iconst (v := 3) dX8_cloud_92 (by decide) ?_
  refine jv_iadd dX8_cloud_93 ?_
  refine jv_iconst (v := 0) dX8_cloud_94 (by decide) ?_
  refine hv_iastC dX8_cloud_95 at_MO_1 (fun _ => ?_)
  refine vf_letM (fun M15 => ?_)
  refine jv_aloadn (j := 1) dX8_cloud_96 rfl ?_
  refine hv_getR dX8_cloud_97 fl8_7 at_MO_0 rfl ?_
  refine jv_iconst (v := 1) dX8_cloud_100 (by decide) ?_
  refine jv_dup2 dX8_cloud_101 rfl rfl ?_
  refine hv_iald dX8_cloud_102 at_MO_1 (by decide) ?_
  refine jv_iconst (v := 1) dX8_cloud_103 (by decide) ?_
  refine jv_iadd dX8_cloud_104 ?_
  refine hv_iast dX8_cloud_105 at_MO_1 (by decide) ?_
  refine vf_letM (fun M16 => ?_)
  refine jv_aloadn (j := 1) dX8_cloud_106 rfl ?_
  refine hv_getR dX8_cloud_107 fl8_7 at_MO_0 rfl ?_
  refine jv_iconst (v := 1) dX8_cloud_110 (by decide) ?_
  refine hv_iald dX8_cloud_111 at_MO_1 (by decide) ?_
  refine jv_iconst (v := 1) dX8_cloud_112 (by decide) ?_
  refine jv_isub dX8_cloud_113 ?_
  exact vf_ret dX8_cloud_114 rfl
theorem c_X8_cloud {M : pm_M} {x1 : Int32} {x2 : Int32}  {r : Int32} {M' : pm_M} (h : f_X8_cloud M x1 x2 = some (r, M')) (l : Launch) (V : pm_V) : pm_Ci l V skD yX8_cloud mX8_cloud 3 [.ref (V.1 0), .int x1, .int x2] M r M' := pm_metI (by decide) rfl (Nat.le_of_ble_eq_true rfl) h (fun _ => w_X8_cloud M x1 x2 )
def f_X8_fallsOn (M : pm_M) (x1 : Int32) (x2 : Int32) : Option (Int32 × pm_M) :=
  (pm_b2 (f_X8_of M x1 1) (fun (r2 : Int32) (M1 : pm_M) => (pm_b2 (f_X8_of M1 x1 3) (fun (r4 : Int32) (M3 : pm_M) => (pm_b2 (f_X8_textGives M3 0 r4 (M3 1 (2 : Int32).toNatClampNeg) r2) (fun (r6 : Int32) (M5 : pm_M) => (pm_b2 (f_X8_its M5 x2 0) (fun (r8 : Int32) (M7 : pm_M) => (if r6 ≤ r8 then (pm_b2 (f_X8_of M7 x1 0) (fun (r10 : Int32) (M9 : pm_M) => (if r10.toInt < 1 ∨ 6 < r10.toInt then (some (r6, M9)) else if r10 = 1 then (pm_b2 (f_X8_of M9 x1 3) (fun (r12 : Int32) (M11 : pm_M) => (pm_b2 (f_X8_held M11 (r6 - (r12 / 10)) 0 99) (fun (r14 : Int32) (M13 : pm_M) => (some (r14, M13)))))) else if r10 = 2 then (some ((r6 + ((pm_rem (M9 1 (2 : Int32).toNatClampNeg) 2) * r2)), M9)) else if r10 = 3 then (some (r6, M9)) else if r10 = 4 then (pm_b2 (f_X8_of M9 x1 3) (fun (r16 : Int32) (M15 : pm_M) => (pm_b2 (f_X8_held M15 (r6 - (r16 / 10)) 0 99) (fun (r18 : Int32) (M17 : pm_M) => (some (r18, M17)))))) else if r10 = 5 then (some ((r6 + ((pm_rem (M9 1 (2 : Int32).toNatClampNeg) 2) * r2)), M9)) else if r10 = 6 then (some ((r6 / 2), M9)) else none))) else (pm_b2 (f_X8_its M7 x2 0) (fun (r20 : Int32) (M19 : pm_M) => (pm_b2 (f_X8_of M19 x1 0) (fun (r22 : Int32) (M21 : pm_M) => (if r22.toInt < 1 ∨ 6 < r22.toInt then (some (r6, M21)) else if r22 = 1 then (pm_b2 (f_X8_of M21 x1 3) (fun (r24 : Int32) (M23 : pm_M) => (pm_b2 (f_X8_held M23 (r6 - (r24 / 10)) 0 99) (fun (r26 : Int32) (M25 : pm_M) => (some (r26, M25)))))) else if r22 = 2 then (some ((r6 + ((pm_rem (M21 1 (2 : Int32).toNatClampNeg) 2) * r2)), M21)) else if r22 = 3 then (some (r20, M21)) else if r22 = 4 then (pm_b2 (f_X8_of M21 x1 3) (fun (r28 : Int32) (M27 : pm_M) => (pm_b2 (f_X8_held M27 (r6 - (r28 / 10)) 0 99) (fun (r30 : Int32) (M29 : pm_M) => (some (r30, M29)))))) else if r22 = 5 then (some ((r6 + ((pm_rem (M21 1 (2 : Int32).toNatClampNeg) 2) * r2)), M21)) else if r22 = 6 then (some ((r20 / 2), M21)) else none))))))))))))))
set_option maxHeartbeats 4000000 in
set_option maxRecDepth 100000 in
theorem w_X8_fallsOn {X : pm_X} {V : pm_V} (M : pm_M) (x1 : Int32) (x2 : Int32)  : pm_VF (f_X8_fallsOn M x1 x2) (pm_K X V mX8_fallsOn 106 skD) (pm_J X V mX8_fallsOn 106 (pm_wld V skD M) 0 [(0, .ref (V.1 0)), (1, .int x1), (2, .int x2)] []) := by
  unfold f_X8_fallsOn
  refine jv_aloadn (j := 0) dX8_fallsOn_0 rfl ?_
  refine jv_iloadn (j := 1) dX8_fallsOn_1 rfl ?_
  refine jv_iconst (v := 1) dX8_fallsOn_2 (by decide) ?_
  refine hv_callI (As := [.int x1, .int 1]) dX8_fallsOn_3 lk8_130 kX8_of nX8_of (Nat.le_of_ble_eq_true rfl) (Nat.le_of_ble_eq_true rfl) at_MO_0 rfl rfl rfl (fun _ _ e l => c_X8_of  e l V) ?_
  intro r2 M1
  refine jv_istoren (L' := [(3, .int r2), (0, .ref (V.1 0)), (1, .int x1), (2, .int x2)]) dX8_fallsOn_6 (Nat.le_of_ble_eq_true rfl) rfl ?_
  refine jv_aloadn (j := 1) dX8_fallsOn_7 rfl ?_
  refine jv_iconst (v := 0) dX8_fallsOn_8 (by decide) ?_
  refine jv_aloadn (j := 1) dX8_fallsOn_9 rfl ?_
  refine jv_iloadn (j := 2) dX8_fallsOn_10 rfl ?_
  refine jv_iconst (v := 3) dX8_fallsOn_11 (by decide) ?_
  refine hv_callI (As := [.int x1, .int 3]) dX8_fallsOn_12 lk8_130 kX8_of nX8_of (Nat.le_of_ble_eq_true rfl) (Nat.le_of_ble_eq_true rfl) at_MO_0 rfl rfl rfl (fun _ _ e l => c_X8_of  e l V) ?_
  intro r4 M3
  refine jv_aloadn (j := 1) dX8_fallsOn_15 rfl ?_
  refine hv_getR dX8_fallsOn_16 fl8_7 at_MO_0 rfl ?_
  refine jv_iconst (v := 2) dX8_fallsOn_19 (by decide) ?_
  refine hv_iald dX8_fallsOn_20 at_MO_1 (by decide) ?_
  refine jv_iloadn (j := 0) dX8_fallsOn_21 rfl ?_
  refine hv_callI (As := [.int 0, .int r4, .int (M3 1 (2 : Int32).toNatClampNeg), .int r2]) dX8_fallsOn_22 lk8_119 kX8_textGives nX8_textGives (Nat.le_of_ble_eq_true rfl) (Nat.le_of_ble_eq_true rfl) at_MO_0 rfl rfl rfl (fun _ _ e l => c_X8_textGives  e l V) ?_
  intro r6 M5
  refine jv_istore (L' := [(4, .int r6), (3, .int r2), (0, .ref (V.1 0)), (1, .int x1), (2, .int x2)]) dX8_fallsOn_25 (Nat.le_of_ble_eq_true rfl) rfl ?_
  refine jv_iload (j := 0) dX8_fallsOn_27 rfl ?_
  refine jv_aloadn (j := 2) dX8_fallsOn_29 rfl ?_
  refine jv_iloadn (j := 4) dX8_fallsOn_30 rfl ?_
  refine jv_iconst (v := 0) dX8_fallsOn_31 (by decide) ?_
  refine hv_callI (As := [.int x2, .int 0]) dX8_fallsOn_32 lk8_134 kX8_its nX8_its (Nat.le_of_ble_eq_true rfl) (Nat.le_of_ble_eq_true rfl) at_MO_0 rfl rfl rfl (fun _ _ e l => c_X8_its  e l V) ?_
  intro r8 M7
  refine jw_ic_le (tgt := 47) dX8_fallsOn_35 rfl (fun c35 => ?_) (fun c35 => ?_)
  · refine jv_iload (j := 0) dX8_fallsOn_47 rfl ?_
    refine jv_istore (L' := [(5, .int r6), (4, .int r6), (3, .int r2), (0, .ref (V.1 0)), (1, .int x1), (2, .int x2)]) dX8_fallsOn_49 (Nat.le_of_ble_eq_true rfl) rfl ?_
    refine jv_aloadn (j := 3) dX8_fallsOn_51 rfl ?_
    refine jv_iloadn (j := 4) dX8_fallsOn_52 rfl ?_
    refine jv_iconst (v := 0) dX8_fallsOn_53 (by decide) ?_
    refine hv_callI (As := [.int x1, .int 0]) dX8_fallsOn_54 lk8_130 kX8_of nX8_of (Nat.le_of_ble_eq_true rfl) (Nat.le_of_ble_eq_true rfl) at_MO_0 rfl rfl rfl (fun _ _ e l => c_X8_of  e l V) ?_
    intro r10 M9
    refine vf_case (fun c57 => ?_) (fun _ => ?_)
    · refine jv_tout (tgt := 137) dX8_fallsOn_57 c57 rfl ?_
      refine jv_iload (j := 1) dX8_fallsOn_137 rfl ?_
      exact vf_ret dX8_fallsOn_139 rfl
    refine vf_case (fun c57 => ?_) (fun _ => ?_)
    · refine jv_tin (v := 1) (tgt := 96) dX8_fallsOn_57 c57 (by decide) (by decide) rfl rfl ?_
      refine jv_iload (j := 1) dX8_fallsOn_96 rfl ?_
      refine jv_aloadn (j := 3) dX8_fallsOn_98 rfl ?_
      refine jv_iloadn (j := 4) dX8_fallsOn_99 rfl ?_
      refine jv_iconst (v := 3) dX8_fallsOn_100 (by decide) ?_
      refine hv_callI (As := [.int x1, .int 3]) dX8_fallsOn_101 lk8_130 kX8_of nX8_of (Nat.le_of_ble_eq_true rfl) (Nat.le_of_ble_eq_true rfl) at_MO_0 rfl rfl rfl (fun _ _ e l => c_X8_of  e l V) ?_
      intro r12 M11
      refine jv_bipush (v := 10) dX8_fallsOn_104 (by decide) ?_
      refine jv_idiv dX8_fallsOn_106 (by decide) ?_
      refine jv_isub dX8_fallsOn_107 ?_
      refine jv_iconst (v := 0) dX8_fallsOn_108 (by decide) ?_
      refine jv_bipush (v := 99) dX8_fallsOn_109 (by decide) ?_
      refine hv_callS (As := [.int (r6 - (r12 / 10)), .int 0, .int 99]) dX8_fallsOn_111 lk8_116 kX8_held nX8_held (Nat.le_of_ble_eq_true rfl) (Nat.le_of_ble_eq_true rfl) rfl (fun _ _ e l => c_X8_held  e l V) ?_
      intro r14 M13
      exact vf_ret dX8_fallsOn_114 rfl
    refine vf_case (fun c57 => ?_) (fun _ => ?_)
    · refine jv_tin (v := 2) (tgt := 115) dX8_fallsOn_57 c57 (by decide) (by decide) rfl rfl ?_
      refine jv_iload (j := 1) dX8_fallsOn_115 rfl ?_
      refine jv_aloadn (j := 3) dX8_fallsOn_117 rfl ?_
      refine hv_getR dX8_fallsOn_118 fl8_7 at_MO_0 rfl ?_
      refine jv_iconst (v := 2) dX8_fallsOn_121 (by decide) ?_
      refine hv_iald dX8_fallsOn_122 at_MO_1 (by decide) ?_
      refine jv_iconst (v := 2) dX8_fallsOn_123 (by decide) ?_
      refine jv_irem dX8_fallsOn_124 (by decide) ?_
      refine jv_iloadn (j := 2) dX8_fallsOn_125 rfl ?_
      refine jv_imul dX8_fallsOn_126 ?_
      refine jv_iadd dX8_fallsOn_127 ?_
      exact vf_ret dX8_fallsOn_128 rfl
    refine vf_case (fun c57 => ?_) (fun _ => ?_)
    · refine jv_tin (v := 3) (tgt := 129) dX8_fallsOn_57 c57 (by decide) (by decide) rfl rfl ?_
      refine jv_iload (j := 0) dX8_fallsOn_129 rfl ?_
      exact vf_ret dX8_fallsOn_131 rfl
    refine vf_case (fun c57 => ?_) (fun _ => ?_)
    · refine jv_tin (v := 4) (tgt := 96) dX8_fallsOn_57 c57 (by decide) (by decide) rfl rfl ?_
      refine jv_iload (j := 1) dX8_fallsOn_96 rfl ?_
      refine jv_aloadn (j := 3) dX8_fallsOn_98 rfl ?_
      refine jv_iloadn (j := 4) dX8_fallsOn_99 rfl ?_
      refine jv_iconst (v := 3) dX8_fallsOn_100 (by decide) ?_
      refine hv_callI (As := [.int x1, .int 3]) dX8_fallsOn_101 lk8_130 kX8_of nX8_of (Nat.le_of_ble_eq_true rfl) (Nat.le_of_ble_eq_true rfl) at_MO_0 rfl rfl rfl (fun _ _ e l => c_X8_of  e l V) ?_
      intro r16 M15
      refine jv_bipush (v := 10) dX8_fallsOn_104 (by decide) ?_
      refine jv_idiv dX8_fallsOn_106 (by decide) ?_
      refine jv_isub dX8_fallsOn_107 ?_
      refine jv_iconst (v := 0) dX8_fallsOn_108 (by decide) ?_
      refine jv_bipush (v := 99) dX8_fallsOn_109 (by decide) ?_
      refine hv_callS (As := [.int (r6 - (r16 / 10)), .int 0, .int 99]) dX8_fallsOn_111 lk8_116 kX8_held nX8_held (Nat.le_of_ble_eq_true rfl) (Nat.le_of_ble_eq_true rfl) rfl (fun _ _ e l => c_X8_held  e l V) ?_
      intro r18 M17
      exact vf_ret dX8_fallsOn_114 rfl
    refine vf_case (fun c57 => ?_) (fun _ => ?_)
    · refine jv_tin (v := 5) (tgt := 115) dX8_fallsOn_57 c57 (by decide) (by decide) rfl rfl ?_
      refine jv_iload (j := 1) dX8_fallsOn_115 rfl ?_
      refine jv_aloadn (j := 3) dX8_fallsOn_117 rfl ?_
      refine hv_getR dX8_fallsOn_118 fl8_7 at_MO_0 rfl ?_
      refine jv_iconst (v := 2) dX8_fallsOn_121 (by decide) ?_
      refine hv_iald dX8_fallsOn_122 at_MO_1 (by decide) ?_
      refine jv_iconst (v := 2) dX8_fallsOn_123 (by decide) ?_
      refine jv_irem dX8_fallsOn_124 (by decide) ?_
      refine jv_iloadn (j := 2) dX8_fallsOn_125 rfl ?_
      refine jv_imul dX8_fallsOn_126 ?_
      refine jv_iadd dX8_fallsOn_127 ?_
      exact vf_ret dX8_fallsOn_128 rfl
    refine vf_case (fun c57 => ?_) (fun _ => ?_)
    · refine jv_tin (v := 6) (tgt := 132) dX8_fallsOn_57 c57 (by decide) (by decide) rfl rfl ?_
      refine jv_iload (j := 0) dX8_fallsOn_132 rfl ?_
      refine jv_iconst (v := 2) dX8_fallsOn_134 (by decide) ?_
      refine jv_idiv dX8_fallsOn_135 (by decide) ?_
      exact vf_ret dX8_fallsOn_136 rfl
    exact vf_none
  refine jv_aloadn (j := 2) dX8_fallsOn_38 rfl ?_
  refine jv_iloadn (j := 4) dX8_fallsOn_39 rfl ?_
  refine jv_iconst (v := 0) dX8_fallsOn_40 (by decide) ?_
  refine hv_callI (As := [.int x2, .int 0]) dX8_fallsOn_41 lk8_134 kX8_its nX8_its (Nat.le_of_ble_eq_true rfl) (Nat.le_of_ble_eq_true rfl) at_MO_0 rfl rfl rfl (fun _ _ e l => c_X8_its  e l V) ?_
  intro r20 M19
  refine jv_goto (tgt := 49) dX8_fallsOn_44 rfl ?_
  refine jv_istore (L' := [(5, .int r20), (4, .int r6), (3, .int r2), (0, .ref (V.1 0)), (1, .int x1), (2, .int x2)]) dX8_fallsOn_49 (Nat.le_of_ble_eq_true rfl) rfl ?_
  refine jv_aloadn (j := 3) dX8_fallsOn_51 rfl ?_
  refine jv_iloadn (j := 4) dX8_fallsOn_52 rfl ?_
  refine jv_iconst (v := 0) dX8_fallsOn_53 (by decide) ?_
  refine hv_callI (As := [.int x1, .int 0]) dX8_fallsOn_54 lk8_130 kX8_of nX8_of (Nat.le_of_ble_eq_true rfl) (Nat.le_of_ble_eq_true rfl) at_MO_0 rfl rfl rfl (fun _ _ e l => c_X8_of  e l V) ?_
  intro r22 M21
  refine vf_case (fun c57 => ?_) (fun _ => ?_)
  · refine jv_tout (tgt := 137) dX8_fallsOn_57 c57 rfl ?_
    refine jv_iload (j := 1) dX8_fallsOn_137 rfl ?_
    exact vf_ret dX8_fallsOn_139 rfl
  refine vf_case (fun c57 => ?_) (fun _ => ?_)
  · refine jv_tin (v := 1) (tgt := 96) dX8_fallsOn_57 c57 (by decide) (by decide) rfl rfl ?_
    refine jv_iload (j := 1) dX8_fallsOn_96 rfl ?_
    refine jv_aloadn (j := 3) dX8_fallsOn_98 rfl ?_
    refine jv_iloadn (j := 4) dX8_fallsOn_99 rfl ?_
    refine jv_iconst (v := 3) dX8_fallsOn_100 (by decide) ?_
    refine hv_callI (As := [.int x1, .int 3]) dX8_fallsOn_101 lk8_130 kX8_of nX8_of (Nat.le_of_ble_eq_true rfl) (Nat.le_of_ble_eq_true rfl) at_MO_0 rfl rfl rfl (fun _ _ e l => c_X8_of  e l V) ?_
    intro r24 M23
    refine jv_bipush (v := 10) dX8_fallsOn_104 (by decide) ?_
    refine jv_idiv dX8_fallsOn_106 (by decide) ?_
    refine jv_isub dX8_fallsOn_107 ?_
    refine jv_iconst (v := 0) dX8_fallsOn_108 (by decide) ?_
    refine jv_bipush (v := 99) dX8_fallsOn_109 (by decide) ?_
    refine hv_callS (As := [.int (r6 - (r24 / 10)), .int 0, .int 99]) dX8_fallsOn_111 lk8_116 kX8_held nX8_held (Nat.le_of_ble_eq_true rfl) (Nat.le_of_ble_eq_true rfl) rfl (fun _ _ e l => c_X8_held  e l V) ?_
    intro r26 M25
    exact vf_ret dX8_fallsOn_114 rfl
  refine vf_case (fun c57 => ?_) (fun _ => ?_)
  · refine jv_tin (v := 2) (tgt := 115) dX8_fallsOn_57 c57 (by decide) (by decide) rfl rfl ?_
    refine jv_iload (j := 1) dX8_fallsOn_115 rfl ?_
    refine jv_aloadn (j := 3) dX8_fallsOn_117 rfl ?_
    refine hv_getR dX8_fallsOn_118 fl8_7 at_MO_0 rfl ?_
    refine jv_iconst (v := 2) dX8_fallsOn_121 (by decide) ?_
    refine hv_iald dX8_fallsOn_122 at_MO_1 (by decide) ?_
    refine jv_iconst (v := 2) dX8_fallsOn_123 (by decide) ?_
    refine jv_irem dX8_fallsOn_124 (by decide) ?_
    refine jv_iloadn (j := 2) dX8_fallsOn_125 rfl ?_
    refine jv_imul dX8_fallsOn_126 ?_
    refine jv_iadd dX8_fallsOn_127 ?_
    exact vf_ret dX8_fallsOn_128 rfl
  refine vf_case (fun c57 => ?_) (fun _ => ?_)
  · refine jv_tin (v := 3) (tgt := 129) dX8_fallsOn_57 c57 (by decide) (by decide) rfl rfl ?_
    refine jv_iload (j := 0) dX8_fallsOn_129 rfl ?_
    exact vf_ret dX8_fallsOn_131 rfl
  refine vf_case (fun c57 => ?_) (fun _ => ?_)
  · refine jv_tin (v := 4) (tgt := 96) dX8_fallsOn_57 c57 (by decide) (by decide) rfl rfl ?_
    refine jv_iload (j := 1) dX8_fallsOn_96 rfl ?_
    refine jv_aloadn (j := 3) dX8_fallsOn_98 rfl ?_
    refine jv_iloadn (j := 4) dX8_fallsOn_99 rfl ?_
    refine jv_iconst (v := 3) dX8_fallsOn_100 (by decide) ?_
    refine hv_callI (As := [.int x1, .int 3]) dX8_fallsOn_101 lk8_130 kX8_of nX8_of (Nat.le_of_ble_eq_true rfl) (Nat.le_of_ble_eq_true rfl) at_MO_0 rfl rfl rfl (fun _ _ e l => c_X8_of  e l V) ?_
    intro r28 M27
    refine jv_bipush (v := 10) dX8_fallsOn_104 (by decide) ?_
    refine jv_idiv dX8_fallsOn_106 (by decide) ?_
    refine jv_isub dX8_fallsOn_107 ?_
    refine jv_iconst (v := 0) dX8_fallsOn_108 (by decide) ?_
    refine jv_bipush (v := 99) dX8_fallsOn_109 (by decide) ?_
    refine hv_callS (As := [.int (r6 - (r28 / 10)), .int 0, .int 99]) dX8_fallsOn_111 lk8_116 kX8_held nX8_held (Nat.le_of_ble_eq_true rfl) (Nat.le_of_ble_eq_true rfl) rfl (fun _ _ e l => c_X8_held  e l V) ?_
    intro r30 M29
    exact vf_ret dX8_fallsOn_114 rfl
  refine vf_case (fun c57 => ?_) (fun _ => ?_)
  · refine jv_tin (v := 5) (tgt := 115) dX8_fallsOn_57 c57 (by decide) (by decide) rfl rfl ?_
    refine jv_iload (j := 1) dX8_fallsOn_115 rfl ?_
    refine jv_aloadn (j := 3) dX8_fallsOn_117 rfl ?_
    refine hv_getR dX8_fallsOn_118 fl8_7 at_MO_0 rfl ?_
    refine jv_iconst (v := 2) dX8_fallsOn_121 (by decide) ?_
    refine hv_iald dX8_fallsOn_122 at_MO_1 (by decide) ?_
    refine jv_iconst (v := 2) dX8_fallsOn_123 (by decide) ?_
    refine jv_irem dX8_fallsOn_124 (by decide) ?_
    refine jv_iloadn (j := 2) dX8_fallsOn_125 rfl ?_
    refine jv_imul dX8_fallsOn_126 ?_
    refine jv_iadd dX8_fallsOn_127 ?_
    exact vf_ret dX8_fallsOn_128 rfl
  refine vf_case (fun c57 => ?_) (fun _ => ?_)
  · refine jv_tin (v := 6) (tgt := 132) dX8_fallsOn_57 c57 (by decide) (by decide) rfl rfl ?_
    refine jv_iload (j := 0) dX8_fallsOn_132 rfl ?_
    refine jv_iconst (v := 2) dX8_fallsOn_134 (by decide) ?_
    refine jv_idiv dX8_fallsOn_135 (by decide) ?_
    exact vf_ret dX8_fallsOn_136 rfl
  exact vf_none
theorem c_X8_fallsOn {M : pm_M} {x1 : Int32} {x2 : Int32}  {r : Int32} {M' : pm_M} (h : f_X8_fallsOn M x1 x2 = some (r, M')) (l : Launch) (V : pm_V) : pm_Ci l V skD yX8_fallsOn mX8_fallsOn 106 [.ref (V.1 0), .int x1, .int x2] M r M' := pm_metI (by decide) rfl (Nat.le_of_ble_eq_true rfl) h (fun _ => w_X8_fallsOn M x1 x2 )
def f_X8_lasts (M : pm_M) (x1 : Int32) : Option (Int32 × pm_M) :=
  (pm_b2 (f_X8_of M x1 0) (fun (r2 : Int32) (M1 : pm_M) => (if r2.toInt < 1 ∨ 5 < r2.toInt then (some (20, M1)) else if r2 = 1 then (pm_b2 (f_X8_of M1 x1 1) (fun (r4 : Int32) (M3 : pm_M) => (some ((20 + r4), M3)))) else if r2 = 2 then (some (15, M1)) else if r2 = 3 then (some (20, M1)) else if r2 = 4 then (pm_b2 (f_X8_of M1 x1 1) (fun (r6 : Int32) (M5 : pm_M) => (some ((2 * (20 + r6)), M5)))) else if r2 = 5 then (some (15, M1)) else none)))
set_option maxHeartbeats 4000000 in
set_option maxRecDepth 100000 in
theorem w_X8_lasts {X : pm_X} {V : pm_V} (M : pm_M) (x1 : Int32)  : pm_VF (f_X8_lasts M x1) (pm_K X V mX8_lasts 2 skD) (pm_J X V mX8_lasts 2 (pm_wld V skD M) 0 [(0, .ref (V.1 0)), (1, .int x1)] []) := by
  unfold f_X8_lasts
  refine jv_aloadn (j := 0) dX8_lasts_0 rfl ?_
  refine jv_iloadn (j := 1) dX8_lasts_1 rfl ?_
  refine jv_iconst (v := 0) dX8_lasts_2 (by decide) ?_
  refine hv_callI (As := [.int x1, .int 0]) dX8_lasts_3 lk8_130 kX8_of nX8_of (Nat.le_of_ble_eq_true rfl) (Nat.le_of_ble_eq_true rfl) at_MO_0 rfl rfl rfl (fun _ _ e l => c_X8_of  e l V) ?_
  intro r2 M1
  refine vf_case (fun c6 => ?_) (fun _ => ?_)
  · refine jv_tout (tgt := 65) dX8_lasts_6 c6 rfl ?_
    refine jv_bipush (v := 20) dX8_lasts_65 (by decide) ?_
    exact vf_ret dX8_lasts_67 rfl
  refine vf_case (fun c6 => ?_) (fun _ => ?_)
  · refine jv_tin (v := 1) (tgt := 40) dX8_lasts_6 c6 (by decide) (by decide) rfl rfl ?_
    refine jv_bipush (v := 20) dX8_lasts_40 (by decide) ?_
    refine jv_aloadn (j := 0) dX8_lasts_42 rfl ?_
    refine jv_iloadn (j := 1) dX8_lasts_43 rfl ?_
    refine jv_iconst (v := 1) dX8_lasts_44 (by decide) ?_
    refine hv_callI (As := [.int x1, .int 1]) dX8_lasts_45 lk8_130 kX8_of nX8_of (Nat.le_of_ble_eq_true rfl) (Nat.le_of_ble_eq_true rfl) at_MO_0 rfl rfl rfl (fun _ _ e l => c_X8_of  e l V) ?_
    intro r4 M3
    refine jv_iadd dX8_lasts_48 ?_
    exact vf_ret dX8_lasts_49 rfl
  refine vf_case (fun c6 => ?_) (fun _ => ?_)
  · refine jv_tin (v := 2) (tgt := 62) dX8_lasts_6 c6 (by decide) (by decide) rfl rfl ?_
    refine jv_bipush (v := 15) dX8_lasts_62 (by decide) ?_
    exact vf_ret dX8_lasts_64 rfl
  refine vf_case (fun c6 => ?_) (fun _ => ?_)
  · refine jv_tin (v := 3) (tgt := 65) dX8_lasts_6 c6 (by decide) (by decide) rfl rfl ?_
    refine jv_bipush (v := 20) dX8_lasts_65 (by decide) ?_
    exact vf_ret dX8_lasts_67 rfl
  refine vf_case (fun c6 => ?_) (fun _ => ?_)
  · refine jv_tin (v := 4) (tgt := 50) dX8_lasts_6 c6 (by decide) (by decide) rfl rfl ?_
    refine jv_iconst (v := 2) dX8_lasts_50 (by decide) ?_
    refine jv_bipush (v := 20) dX8_lasts_51 (by decide) ?_
    refine jv_aloadn (j := 0) dX8_lasts_53 rfl ?_
    refine jv_iloadn (j := 1) dX8_lasts_54 rfl ?_
    refine jv_iconst (v := 1) dX8_lasts_55 (by decide) ?_
    refine hv_callI (As := [.int x1, .int 1]) dX8_lasts_56 lk8_130 kX8_of nX8_of (Nat.le_of_ble_eq_true rfl) (Nat.le_of_ble_eq_true rfl) at_MO_0 rfl rfl rfl (fun _ _ e l => c_X8_of  e l V) ?_
    intro r6 M5
    refine jv_iadd dX8_lasts_59 ?_
    refine jv_imul dX8_lasts_60 ?_
    exact vf_ret dX8_lasts_61 rfl
  refine vf_case (fun c6 => ?_) (fun _ => ?_)
  · refine jv_tin (v := 5) (tgt := 62) dX8_lasts_6 c6 (by decide) (by decide) rfl rfl ?_
    refine jv_bipush (v := 15) dX8_lasts_62 (by decide) ?_
    exact vf_ret dX8_lasts_64 rfl
  exact vf_none
theorem c_X8_lasts {M : pm_M} {x1 : Int32}  {r : Int32} {M' : pm_M} (h : f_X8_lasts M x1 = some (r, M')) (l : Launch) (V : pm_V) : pm_Ci l V skD yX8_lasts mX8_lasts 2 [.ref (V.1 0), .int x1] M r M' := pm_metI (by decide) rfl (Nat.le_of_ble_eq_true rfl) h (fun _ => w_X8_lasts M x1 )
def f_X8_isSpent (M : pm_M) (x1 : Int32) : Option (Int32 × pm_M) :=
  (pm_b2 (f_X8_of M x1 3) (fun (r2 : Int32) (M1 : pm_M) => (pm_b2 (f_X8_lasts M1 x1) (fun (r4 : Int32) (M3 : pm_M) => (if r2 < r4 then (some (0, M3)) else (some (1, M3)))))))
set_option maxHeartbeats 4000000 in
set_option maxRecDepth 100000 in
theorem w_X8_isSpent {X : pm_X} {V : pm_V} (M : pm_M) (x1 : Int32)  : pm_VF (f_X8_isSpent M x1) (pm_K X V mX8_isSpent 3 skD) (pm_J X V mX8_isSpent 3 (pm_wld V skD M) 0 [(0, .ref (V.1 0)), (1, .int x1)] []) := by
  unfold f_X8_isSpent
  refine jv_aloadn (j := 0) dX8_isSpent_0 rfl ?_
  refine jv_iloadn (j := 1) dX8_isSpent_1 rfl ?_
  refine jv_iconst (v := 3) dX8_isSpent_2 (by decide) ?_
  refine hv_callI (As := [.int x1, .int 3]) dX8_isSpent_3 lk8_130 kX8_of nX8_of (Nat.le_of_ble_eq_true rfl) (Nat.le_of_ble_eq_true rfl) at_MO_0 rfl rfl rfl (fun _ _ e l => c_X8_of  e l V) ?_
  intro r2 M1
  refine jv_aloadn (j := 0) dX8_isSpent_6 rfl ?_
  refine jv_iloadn (j := 1) dX8_isSpent_7 rfl ?_
  refine hv_callI (As := [.int x1]) dX8_isSpent_8 lk8_149 kX8_lasts nX8_lasts (Nat.le_of_ble_eq_true rfl) (Nat.le_of_ble_eq_true rfl) at_MO_0 rfl rfl rfl (fun _ _ e l => c_X8_lasts  e l V) ?_
  intro r4 M3
  refine jw_ic_lt (tgt := 18) dX8_isSpent_11 rfl (fun c11 => ?_) (fun c11 => ?_)
  · refine jv_iconst (v := 0) dX8_isSpent_18 (by decide) ?_
    exact vf_zret dX8_isSpent_19 rfl (by decide)
  refine jv_iconst (v := 1) dX8_isSpent_14 (by decide) ?_
  refine jv_goto (tgt := 19) dX8_isSpent_15 rfl ?_
  exact vf_zret dX8_isSpent_19 rfl (by decide)
theorem c_X8_isSpent {M : pm_M} {x1 : Int32}  {r : Int32} {M' : pm_M} (h : f_X8_isSpent M x1 = some (r, M')) (l : Launch) (V : pm_V) : pm_Ci l V skD yX8_isSpent mX8_isSpent 3 [.ref (V.1 0), .int x1] M r M' := pm_metI (by decide) rfl (Nat.le_of_ble_eq_true rfl) h (fun _ => w_X8_isSpent M x1 )
def f_X8_driftsTo (M : pm_M) (x1 : Int32) : Option (Int32 × pm_M) :=
  (pm_b2 (f_X8_of M x1 2) (fun (r2 : Int32) (M1 : pm_M) => (pm_let (r2 + 1) (fun z3 : Int32 => (pm_b2 (f_X8_of M1 x1 0) (fun (r5 : Int32) (M4 : pm_M) => (if r5 = 4 then (pm_b2 (f_X8_of M4 x1 1) (fun (r7 : Int32) (M6 : pm_M) => (pm_let (z3 + r7) (fun z8 : Int32 => (pm_chk (pm_nz (M6 1 (0 : Int32).toNatClampNeg)) (some ((pm_rem z8 (M6 1 (0 : Int32).toNatClampNeg)), M6))))))) else (if r5 = 3 then (pm_b2 (f_X8_of M4 x1 1) (fun (r10 : Int32) (M9 : pm_M) => (pm_chk (pm_nz (M9 1 (0 : Int32).toNatClampNeg)) (some ((pm_rem r10 (M9 1 (0 : Int32).toNatClampNeg)), M9))))) else (if r5 = 6 then (pm_b2 (f_X8_of M4 x1 1) (fun (r12 : Int32) (M11 : pm_M) => (pm_chk (pm_nz (M11 1 (0 : Int32).toNatClampNeg)) (some ((pm_rem r12 (M11 1 (0 : Int32).toNatClampNeg)), M11))))) else (if r5 = 5 then (pm_let (M4 1 (2 : Int32).toNatClampNeg) (fun z13 : Int32 => (pm_chk (pm_nz (M4 1 (0 : Int32).toNatClampNeg)) (some ((pm_rem z13 (M4 1 (0 : Int32).toNatClampNeg)), M4))))) else (pm_chk (pm_nz (M4 1 (0 : Int32).toNatClampNeg)) (some ((pm_rem z3 (M4 1 (0 : Int32).toNatClampNeg)), M4)))))))))))))
set_option maxHeartbeats 4000000 in
set_option maxRecDepth 100000 in
theorem w_X8_driftsTo {X : pm_X} {V : pm_V} (M : pm_M) (x1 : Int32)  : pm_VF (f_X8_driftsTo M x1) (pm_K X V mX8_driftsTo 2 skD) (pm_J X V mX8_driftsTo 2 (pm_wld V skD M) 0 [(0, .ref (V.1 0)), (1, .int x1)] []) := by
  unfold f_X8_driftsTo
  refine jv_aloadn (j := 0) dX8_driftsTo_0 rfl ?_
  refine jv_iloadn (j := 1) dX8_driftsTo_1 rfl ?_
  refine jv_iconst (v := 2) dX8_driftsTo_2 (by decide) ?_
  refine hv_callI (As := [.int x1, .int 2]) dX8_driftsTo_3 lk8_130 kX8_of nX8_of (Nat.le_of_ble_eq_true rfl) (Nat.le_of_ble_eq_true rfl) at_MO_0 rfl rfl rfl (fun _ _ e l => c_X8_of  e l V) ?_
  intro r2 M1
  refine jv_iconst (v := 1) dX8_driftsTo_6 (by decide) ?_
  refine jv_iadd dX8_driftsTo_7 ?_
  refine vf_letS (fun z3 => ?_)
  refine jv_istoren (L' := [(2, .int z3), (0, .ref (V.1 0)), (1, .int x1)]) dX8_driftsTo_8 (Nat.le_of_ble_eq_true rfl) rfl ?_
  refine jv_aloadn (j := 1) dX8_driftsTo_9 rfl ?_
  refine jv_iloadn (j := 2) dX8_driftsTo_10 rfl ?_
  refine jv_iconst (v := 0) dX8_driftsTo_11 (by decide) ?_
  refine hv_callI (As := [.int x1, .int 0]) dX8_driftsTo_12 lk8_130 kX8_of nX8_of (Nat.le_of_ble_eq_true rfl) (Nat.le_of_ble_eq_true rfl) at_MO_0 rfl rfl rfl (fun _ _ e l => c_X8_of  e l V) ?_
  intro r5 M4
  refine jv_istoren (L' := [(3, .int r5), (2, .int z3), (0, .ref (V.1 0)), (1, .int x1)]) dX8_driftsTo_15 (Nat.le_of_ble_eq_true rfl) rfl ?_
  refine jv_iloadn (j := 0) dX8_driftsTo_16 rfl ?_
  refine jv_iconst (v := 4) dX8_driftsTo_17 (by decide) ?_
  refine jw_ic_ne (tgt := 32) dX8_driftsTo_18 rfl (fun c18 => ?_) (fun c18 => ?_)
  · refine jv_iloadn (j := 1) dX8_driftsTo_21 rfl ?_
    refine jv_aloadn (j := 2) dX8_driftsTo_22 rfl ?_
    refine jv_iloadn (j := 3) dX8_driftsTo_23 rfl ?_
    refine jv_iconst (v := 1) dX8_driftsTo_24 (by decide) ?_
    refine hv_callI (As := [.int x1, .int 1]) dX8_driftsTo_25 lk8_130 kX8_of nX8_of (Nat.le_of_ble_eq_true rfl) (Nat.le_of_ble_eq_true rfl) at_MO_0 rfl rfl rfl (fun _ _ e l => c_X8_of  e l V) ?_
    intro r7 M6
    refine jv_iadd dX8_driftsTo_28 ?_
    refine jv_goto (tgt := 67) dX8_driftsTo_29 rfl ?_
    refine vf_letS (fun z8 => ?_)
    refine jv_istoren (L' := [(2, .int z8), (3, .int r5), (0, .ref (V.1 0)), (1, .int x1)]) dX8_driftsTo_67 (Nat.le_of_ble_eq_true rfl) rfl ?_
    refine jv_iloadn (j := 0) dX8_driftsTo_68 rfl ?_
    refine jv_aloadn (j := 2) dX8_driftsTo_69 rfl ?_
    refine hv_getR dX8_driftsTo_70 fl8_7 at_MO_0 rfl ?_
    refine jv_iconst (v := 0) dX8_driftsTo_73 (by decide) ?_
    refine hv_iald dX8_driftsTo_74 at_MO_1 (by decide) ?_
    refine jv_iremC dX8_driftsTo_75 ?_
    exact vf_ret dX8_driftsTo_76 rfl
  refine jv_iloadn (j := 0) dX8_driftsTo_32 rfl ?_
  refine jv_iconst (v := 3) dX8_driftsTo_33 (by decide) ?_
  refine jw_ic_eq (tgt := 43) dX8_driftsTo_34 rfl (fun c34 => ?_) (fun c34 => ?_)
  · refine jv_aloadn (j := 2) dX8_driftsTo_43 rfl ?_
    refine jv_iloadn (j := 3) dX8_driftsTo_44 rfl ?_
    refine jv_iconst (v := 1) dX8_driftsTo_45 (by decide) ?_
    refine hv_callI (As := [.int x1, .int 1]) dX8_driftsTo_46 lk8_130 kX8_of nX8_of (Nat.le_of_ble_eq_true rfl) (Nat.le_of_ble_eq_true rfl) at_MO_0 rfl rfl rfl (fun _ _ e l => c_X8_of  e l V) ?_
    intro r10 M9
    refine jv_goto (tgt := 67) dX8_driftsTo_49 rfl ?_
    refine jv_istoren (L' := [(2, .int r10), (3, .int r5), (0, .ref (V.1 0)), (1, .int x1)]) dX8_driftsTo_67 (Nat.le_of_ble_eq_true rfl) rfl ?_
    refine jv_iloadn (j := 0) dX8_driftsTo_68 rfl ?_
    refine jv_aloadn (j := 2) dX8_driftsTo_69 rfl ?_
    refine hv_getR dX8_driftsTo_70 fl8_7 at_MO_0 rfl ?_
    refine jv_iconst (v := 0) dX8_driftsTo_73 (by decide) ?_
    refine hv_iald dX8_driftsTo_74 at_MO_1 (by decide) ?_
    refine jv_iremC dX8_driftsTo_75 ?_
    exact vf_ret dX8_driftsTo_76 rfl
  refine jv_iloadn (j := 0) dX8_driftsTo_37 rfl ?_
  refine jv_bipush (v := 6) dX8_driftsTo_38 (by decide) ?_
  refine jw_ic_ne (tgt := 52) dX8_driftsTo_40 rfl (fun c40 => ?_) (fun c40 => ?_)
  · refine jv_aloadn (j := 2) dX8_driftsTo_43 rfl ?_
    refine jv_iloadn (j := 3) dX8_driftsTo_44 rfl ?_
    refine jv_iconst (v := 1) dX8_driftsTo_45 (by decide) ?_
    refine hv_callI (As := [.int x1, .int 1]) dX8_driftsTo_46 lk8_130 kX8_of nX8_of (Nat.le_of_ble_eq_true rfl) (Nat.le_of_ble_eq_true rfl) at_MO_0 rfl rfl rfl (fun _ _ e l => c_X8_of  e l V) ?_
    intro r12 M11
    refine jv_goto (tgt := 67) dX8_driftsTo_49 rfl ?_
    refine jv_istoren (L' := [(2, .int r12), (3, .int r5), (0, .ref (V.1 0)), (1, .int x1)]) dX8_driftsTo_67 (Nat.le_of_ble_eq_true rfl) rfl ?_
    refine jv_iloadn (j := 0) dX8_driftsTo_68 rfl ?_
    refine jv_aloadn (j := 2) dX8_driftsTo_69 rfl ?_
    refine hv_getR dX8_driftsTo_70 fl8_7 at_MO_0 rfl ?_
    refine jv_iconst (v := 0) dX8_driftsTo_73 (by decide) ?_
    refine hv_iald dX8_driftsTo_74 at_MO_1 (by decide) ?_
    refine jv_iremC dX8_driftsTo_75 ?_
    exact vf_ret dX8_driftsTo_76 rfl
  refine jv_iloadn (j := 0) dX8_driftsTo_52 rfl ?_
  refine jv_iconst (v := 5) dX8_driftsTo_53 (by decide) ?_
  refine jw_ic_ne (tgt := 66) dX8_driftsTo_54 rfl (fun c54 => ?_) (fun c54 => ?_)
  · refine jv_aloadn (j := 2) dX8_driftsTo_57 rfl ?_
    refine hv_getR dX8_driftsTo_58 fl8_7 at_MO_0 rfl ?_
    refine jv_iconst (v := 2) dX8_driftsTo_61 (by decide) ?_
    refine hv_iald dX8_driftsTo_62 at_MO_1 (by decide) ?_
    refine jv_goto (tgt := 67) dX8_driftsTo_63 rfl ?_
    refine vf_letS (fun z13 => ?_)
    refine jv_istoren (L' := [(2, .int z13), (3, .int r5), (0, .ref (V.1 0)), (1, .int x1)]) dX8_driftsTo_67 (Nat.le_of_ble_eq_true rfl) rfl ?_
    refine jv_iloadn (j := 0) dX8_driftsTo_68 rfl ?_
    refine jv_aloadn (j := 2) dX8_driftsTo_69 rfl ?_
    refine hv_getR dX8_driftsTo_70 fl8_7 at_MO_0 rfl ?_
    refine jv_iconst (v := 0) dX8_driftsTo_73 (by decide) ?_
    refine hv_iald dX8_driftsTo_74 at_MO_1 (by decide) ?_
    refine jv_iremC dX8_driftsTo_75 ?_
    exact vf_ret dX8_driftsTo_76 rfl
  refine jv_iloadn (j := 1) dX8_driftsTo_66 rfl ?_
  refine jv_istoren (L' := [(2, .int z3), (3, .int r5), (0, .ref (V.1 0)), (1, .int x1)]) dX8_driftsTo_67 (Nat.le_of_ble_eq_true rfl) rfl ?_
  refine jv_iloadn (j := 0) dX8_driftsTo_68 rfl ?_
  refine jv_aloadn (j := 2) dX8_driftsTo_69 rfl ?_
  refine hv_getR dX8_driftsTo_70 fl8_7 at_MO_0 rfl ?_
  refine jv_iconst (v := 0) dX8_driftsTo_73 (by decide) ?_
  refine hv_iald dX8_driftsTo_74 at_MO_1 (by decide) ?_
  refine jv_iremC dX8_driftsTo_75 ?_
  exact vf_ret dX8_driftsTo_76 rfl
theorem c_X8_driftsTo {M : pm_M} {x1 : Int32}  {r : Int32} {M' : pm_M} (h : f_X8_driftsTo M x1 = some (r, M')) (l : Launch) (V : pm_V) : pm_Ci l V skD yX8_driftsTo mX8_driftsTo 2 [.ref (V.1 0), .int x1] M r M' := pm_metI (by decide) rfl (Nat.le_of_ble_eq_true rfl) h (fun _ => w_X8_driftsTo M x1 )
def f_X8_ofCloud (M : pm_M) (x1 : Int32) (x2 : Int32) : Option (Int32 × pm_M) :=
  (pm_b2 (f_X8_isCloud M x1) (fun (r2 : Int32) (M1 : pm_M) => (if r2 = 0 then (pm_b2 (f_X8_finds M1 1) (fun (r4 : Int32) (M3 : pm_M) => (some (r4, M3)))) else (pm_b2 (f_X8_in M1 (x2.toInt64) 0 7) (fun (r6 : Int32) (M5 : pm_M) => (if r6 = 0 then (pm_b2 (f_X8_finds M5 1) (fun (r8 : Int32) (M7 : pm_M) => (some (r8, M7)))) else (if x2.toInt < 4 ∨ 7 < x2.toInt then (pm_b2 (f_X8_of M5 x1 x2) (fun (r10 : Int32) (M9 : pm_M) => (some (r10, M9)))) else if x2 = 4 then (pm_b2 (f_X8_lasts M5 x1) (fun (r12 : Int32) (M11 : pm_M) => (some (r12, M11)))) else if x2 = 5 then (pm_b2 (f_X8_isSpent M5 x1) (fun (r14 : Int32) (M13 : pm_M) => (if r14 = 0 then (some (0, M13)) else (some (1, M13))))) else if x2 = 6 then (pm_b2 (f_X8_of M5 x1 2) (fun (r16 : Int32) (M15 : pm_M) => (pm_b2 (f_X8_fallsOn M15 x1 r16) (fun (r18 : Int32) (M17 : pm_M) => (some (r18, M17)))))) else if x2 = 7 then (pm_b2 (f_X8_driftsTo M5 x1) (fun (r20 : Int32) (M19 : pm_M) => (some (r20, M19)))) else none)))))))
set_option maxHeartbeats 4000000 in
set_option maxRecDepth 100000 in
theorem w_X8_ofCloud {X : pm_X} {V : pm_V} (M : pm_M) (x1 : Int32) (x2 : Int32)  : pm_VF (f_X8_ofCloud M x1 x2) (pm_K X V mX8_ofCloud 107 skD) (pm_J X V mX8_ofCloud 107 (pm_wld V skD M) 0 [(0, .ref (V.1 0)), (1, .int x1), (2, .int x2)] []) := by
  unfold f_X8_ofCloud
  refine jv_aloadn (j := 0) dX8_ofCloud_0 rfl ?_
  refine jv_iloadn (j := 1) dX8_ofCloud_1 rfl ?_
  refine hv_callI (As := [.int x1]) dX8_ofCloud_2 lk8_152 kX8_isCloud nX8_isCloud (Nat.le_of_ble_eq_true rfl) (Nat.le_of_ble_eq_true rfl) at_MO_0 rfl rfl rfl (fun _ _ e l => c_X8_isCloud  e l V) ?_
  intro r2 M1
  refine jw_if_eq (tgt := 20) dX8_ofCloud_5 rfl (fun c5 => ?_) (fun c5 => ?_)
  · refine jv_aloadn (j := 0) dX8_ofCloud_20 rfl ?_
    refine jv_iconst (v := 1) dX8_ofCloud_21 (by decide) ?_
    refine hv_callI (As := [.int 1]) dX8_ofCloud_22 lk8_107 kX8_finds nX8_finds (Nat.le_of_ble_eq_true rfl) (Nat.le_of_ble_eq_true rfl) at_MO_0 rfl rfl rfl (fun _ _ e l => c_X8_finds  e l V) ?_
    intro r4 M3
    exact vf_ret dX8_ofCloud_25 rfl
  refine jv_iloadn (j := 2) dX8_ofCloud_8 rfl ?_
  refine jv_i2l dX8_ofCloud_9 ?_
  refine jv_lconst (v := 0) dX8_ofCloud_10 (by decide) ?_
  refine jv_ldc2 dX8_ofCloud_11 lk8_155 ?_
  refine hv_callS (As := [.long (x2.toInt64), .long 0, .long 7]) dX8_ofCloud_14 lk8_44 kX8_in nX8_in (Nat.le_of_ble_eq_true rfl) (Nat.le_of_ble_eq_true rfl) rfl (fun _ _ e l => c_X8_in  e l V) ?_
  intro r6 M5
  refine jw_if_ne (tgt := 26) dX8_ofCloud_17 rfl (fun c17 => ?_) (fun c17 => ?_)
  · refine jv_aloadn (j := 0) dX8_ofCloud_20 rfl ?_
    refine jv_iconst (v := 1) dX8_ofCloud_21 (by decide) ?_
    refine hv_callI (As := [.int 1]) dX8_ofCloud_22 lk8_107 kX8_finds nX8_finds (Nat.le_of_ble_eq_true rfl) (Nat.le_of_ble_eq_true rfl) at_MO_0 rfl rfl rfl (fun _ _ e l => c_X8_finds  e l V) ?_
    intro r8 M7
    exact vf_ret dX8_ofCloud_25 rfl
  refine jv_iloadn (j := 2) dX8_ofCloud_26 rfl ?_
  refine vf_case (fun c27 => ?_) (fun _ => ?_)
  · refine jv_tout (tgt := 94) dX8_ofCloud_27 c27 rfl ?_
    refine jv_aloadn (j := 0) dX8_ofCloud_94 rfl ?_
    refine jv_iloadn (j := 1) dX8_ofCloud_95 rfl ?_
    refine jv_iloadn (j := 2) dX8_ofCloud_96 rfl ?_
    refine hv_callI (As := [.int x1, .int x2]) dX8_ofCloud_97 lk8_130 kX8_of nX8_of (Nat.le_of_ble_eq_true rfl) (Nat.le_of_ble_eq_true rfl) at_MO_0 rfl rfl rfl (fun _ _ e l => c_X8_of  e l V) ?_
    intro r10 M9
    exact vf_ret dX8_ofCloud_100 rfl
  refine vf_case (fun c27 => ?_) (fun _ => ?_)
  · refine jv_tin (v := 4) (tgt := 56) dX8_ofCloud_27 c27 (by decide) (by decide) rfl rfl ?_
    refine jv_aloadn (j := 0) dX8_ofCloud_56 rfl ?_
    refine jv_iloadn (j := 1) dX8_ofCloud_57 rfl ?_
    refine hv_callI (As := [.int x1]) dX8_ofCloud_58 lk8_149 kX8_lasts nX8_lasts (Nat.le_of_ble_eq_true rfl) (Nat.le_of_ble_eq_true rfl) at_MO_0 rfl rfl rfl (fun _ _ e l => c_X8_lasts  e l V) ?_
    intro r12 M11
    exact vf_ret dX8_ofCloud_61 rfl
  refine vf_case (fun c27 => ?_) (fun _ => ?_)
  · refine jv_tin (v := 5) (tgt := 62) dX8_ofCloud_27 c27 (by decide) (by decide) rfl rfl ?_
    refine jv_aloadn (j := 0) dX8_ofCloud_62 rfl ?_
    refine jv_iloadn (j := 1) dX8_ofCloud_63 rfl ?_
    refine hv_callI (As := [.int x1]) dX8_ofCloud_64 lk8_157 kX8_isSpent nX8_isSpent (Nat.le_of_ble_eq_true rfl) (Nat.le_of_ble_eq_true rfl) at_MO_0 rfl rfl rfl (fun _ _ e l => c_X8_isSpent  e l V) ?_
    intro r14 M13
    refine jw_if_eq (tgt := 74) dX8_ofCloud_67 rfl (fun c67 => ?_) (fun c67 => ?_)
    · refine jv_iconst (v := 0) dX8_ofCloud_74 (by decide) ?_
      exact vf_ret dX8_ofCloud_75 rfl
    refine jv_iconst (v := 1) dX8_ofCloud_70 (by decide) ?_
    refine jv_goto (tgt := 75) dX8_ofCloud_71 rfl ?_
    exact vf_ret dX8_ofCloud_75 rfl
  refine vf_case (fun c27 => ?_) (fun _ => ?_)
  · refine jv_tin (v := 6) (tgt := 76) dX8_ofCloud_27 c27 (by decide) (by decide) rfl rfl ?_
    refine jv_aloadn (j := 0) dX8_ofCloud_76 rfl ?_
    refine jv_iloadn (j := 1) dX8_ofCloud_77 rfl ?_
    refine jv_aloadn (j := 0) dX8_ofCloud_78 rfl ?_
    refine jv_iloadn (j := 1) dX8_ofCloud_79 rfl ?_
    refine jv_iconst (v := 2) dX8_ofCloud_80 (by decide) ?_
    refine hv_callI (As := [.int x1, .int 2]) dX8_ofCloud_81 lk8_130 kX8_of nX8_of (Nat.le_of_ble_eq_true rfl) (Nat.le_of_ble_eq_true rfl) at_MO_0 rfl rfl rfl (fun _ _ e l => c_X8_of  e l V) ?_
    intro r16 M15
    refine hv_callI (As := [.int x1, .int r16]) dX8_ofCloud_84 lk8_160 kX8_fallsOn nX8_fallsOn (Nat.le_of_ble_eq_true rfl) (Nat.le_of_ble_eq_true rfl) at_MO_0 rfl rfl rfl (fun _ _ e l => c_X8_fallsOn  e l V) ?_
    intro r18 M17
    exact vf_ret dX8_ofCloud_87 rfl
  refine vf_case (fun c27 => ?_) (fun _ => ?_)
  · refine jv_tin (v := 7) (tgt := 88) dX8_ofCloud_27 c27 (by decide) (by decide) rfl rfl ?_
    refine jv_aloadn (j := 0) dX8_ofCloud_88 rfl ?_
    refine jv_iloadn (j := 1) dX8_ofCloud_89 rfl ?_
    refine hv_callI (As := [.int x1]) dX8_ofCloud_90 lk8_163 kX8_driftsTo nX8_driftsTo (Nat.le_of_ble_eq_true rfl) (Nat.le_of_ble_eq_true rfl) at_MO_0 rfl rfl rfl (fun _ _ e l => c_X8_driftsTo  e l V) ?_
    intro r20 M19
    exact vf_ret dX8_ofCloud_93 rfl
  exact vf_none
theorem c_X8_ofCloud {M : pm_M} {x1 : Int32} {x2 : Int32}  {r : Int32} {M' : pm_M} (h : f_X8_ofCloud M x1 x2 = some (r, M')) (l : Launch) (V : pm_V) : pm_Ci l V skD yX8_ofCloud mX8_ofCloud 107 [.ref (V.1 0), .int x1, .int x2] M r M' := pm_metI (by decide) rfl (Nat.le_of_ble_eq_true rfl) h (fun _ => w_X8_ofCloud M x1 x2 )
def f_X8_become (M : pm_M) (x1 : Int32) (x2 : Int32) : Option (Int32 × pm_M) :=
  (pm_b2 (f_X8_isCloud M x1) (fun (r2 : Int32) (M1 : pm_M) => (if r2 = 0 then (pm_b2 (f_X8_finds M1 1) (fun (r4 : Int32) (M3 : pm_M) => (some (r4, M3)))) else (pm_b2 (f_X8_in M1 (x2.toInt64) 0 69) (fun (r6 : Int32) (M5 : pm_M) => (if r6 = 0 then (pm_b2 (f_X8_finds M5 1) (fun (r8 : Int32) (M7 : pm_M) => (some (r8, M7)))) else (pm_b2 (f_X8_of M5 x1 0) (fun (r10 : Int32) (M9 : pm_M) => (pm_chk (pm_in ((66 + (4 * x1)) + 0) 258) (pm_let (pm_up M9 1 ((66 + (4 * x1)) + 0).toNatClampNeg (x2 / 10)) (fun M11 : pm_M => (pm_chk (pm_in ((66 + (4 * x1)) + 1) 258) (pm_let (pm_up M11 1 ((66 + (4 * x1)) + 1).toNatClampNeg (pm_rem x2 10)) (fun M12 : pm_M => (some (r10, M12))))))))))))))))
set_option maxHeartbeats 4000000 in
set_option maxRecDepth 100000 in
theorem w_X8_become {X : pm_X} {V : pm_V} (M : pm_M) (x1 : Int32) (x2 : Int32)  : pm_VF (f_X8_become M x1 x2) (pm_K X V mX8_become 3 skD) (pm_J X V mX8_become 3 (pm_wld V skD M) 0 [(0, .ref (V.1 0)), (1, .int x1), (2, .int x2)] []) := by
  unfold f_X8_become
  refine jv_aloadn (j := 0) dX8_become_0 rfl ?_
  refine jv_iloadn (j := 1) dX8_become_1 rfl ?_
  refine hv_callI (As := [.int x1]) dX8_become_2 lk8_152 kX8_isCloud nX8_isCloud (Nat.le_of_ble_eq_true rfl) (Nat.le_of_ble_eq_true rfl) at_MO_0 rfl rfl rfl (fun _ _ e l => c_X8_isCloud  e l V) ?_
  intro r2 M1
  refine jw_if_eq (tgt := 20) dX8_become_5 rfl (fun c5 => ?_) (fun c5 => ?_)
  · refine jv_aloadn (j := 0) dX8_become_20 rfl ?_
    refine jv_iconst (v := 1) dX8_become_21 (by decide) ?_
    refine hv_callI (As := [.int 1]) dX8_become_22 lk8_107 kX8_finds nX8_finds (Nat.le_of_ble_eq_true rfl) (Nat.le_of_ble_eq_true rfl) at_MO_0 rfl rfl rfl (fun _ _ e l => c_X8_finds  e l V) ?_
    intro r4 M3
    exact vf_ret dX8_become_25 rfl
  refine jv_iloadn (j := 2) dX8_become_8 rfl ?_
  refine jv_i2l dX8_become_9 ?_
  refine jv_lconst (v := 0) dX8_become_10 (by decide) ?_
  refine jv_ldc2 dX8_become_11 lk8_147 ?_
  refine hv_callS (As := [.long (x2.toInt64), .long 0, .long 69]) dX8_become_14 lk8_44 kX8_in nX8_in (Nat.le_of_ble_eq_true rfl) (Nat.le_of_ble_eq_true rfl) rfl (fun _ _ e l => c_X8_in  e l V) ?_
  intro r6 M5
  refine jw_if_ne (tgt := 26) dX8_become_17 rfl (fun c17 => ?_) (fun c17 => ?_)
  · refine jv_aloadn (j := 0) dX8_become_20 rfl ?_
    refine jv_iconst (v := 1) dX8_become_21 (by decide) ?_
    refine hv_callI (As := [.int 1]) dX8_become_22 lk8_107 kX8_finds nX8_finds (Nat.le_of_ble_eq_true rfl) (Nat.le_of_ble_eq_true rfl) at_MO_0 rfl rfl rfl (fun _ _ e l => c_X8_finds  e l V) ?_
    intro r8 M7
    exact vf_ret dX8_become_25 rfl
  refine jv_aloadn (j := 0) dX8_become_26 rfl ?_
  refine jv_iloadn (j := 1) dX8_become_27 rfl ?_
  refine jv_iconst (v := 0) dX8_become_28 (by decide) ?_
  refine hv_callI (As := [.int x1, .int 0]) dX8_become_29 lk8_130 kX8_of nX8_of (Nat.le_of_ble_eq_true rfl) (Nat.le_of_ble_eq_true rfl) at_MO_0 rfl rfl rfl (fun _ _ e l => c_X8_of  e l V) ?_
  intro r10 M9
  refine jv_istoren (L' := [(3, .int r10), (0, .ref (V.1 0)), (1, .int x1), (2, .int x2)]) dX8_become_32 (Nat.le_of_ble_eq_true rfl) rfl ?_
  refine jv_aloadn (j := 1) dX8_become_33 rfl ?_
  refine hv_getR dX8_become_34 fl8_7 at_MO_0 rfl ?_
  refine jv_bipush (v := 66) dX8_become_37 (by decide) ?_
  refine jv_iconst (v := 4) dX8_become_39 (by decide) ?_
  refine jv_iloadn (j := 2) dX8_become_40 rfl ?_
  refine jv_imul dX8_become_41 ?_
  refine jv_iadd dX8_become_42 ?_
  refine jv_iconst (v := 0) dX8_become_43 (by decide) ?_
  refine jv_iadd dX8_become_44 ?_
  refine jv_iloadn (j := 3) dX8_become_45 rfl ?_
  refine jv_bipush (v := 10) dX8_become_46 (by decide) ?_
  refine jv_idiv dX8_become_48 (by decide) ?_
  refine hv_iastC dX8_become_49 at_MO_1 (fun _ => ?_)
  refine vf_letM (fun M11 => ?_)
  refine jv_aloadn (j := 1) dX8_become_50 rfl ?_
  refine hv_getR dX8_become_51 fl8_7 at_MO_0 rfl ?_
  refine jv_bipush (v := 66) dX8_become_54 (by decide) ?_
  refine jv_iconst (v := 4) dX8_become_56 (by decide) ?_
  refine jv_iloadn (j := 2) dX8_become_57 rfl ?_
  refine jv_imul dX8_become_58 ?_
  refine jv_iadd dX8_become_59 ?_
  refine jv_iconst (v := 1) dX8_become_60 (by decide) ?_
  refine jv_iadd dX8_become_61 ?_
  refine jv_iloadn (j := 3) dX8_become_62 rfl ?_
  refine jv_bipush (v := 10) dX8_become_63 (by decide) ?_
  refine jv_irem dX8_become_65 (by decide) ?_
  refine hv_iastC dX8_become_66 at_MO_1 (fun _ => ?_)
  refine vf_letM (fun M12 => ?_)
  refine jv_iloadn (j := 0) dX8_become_67 rfl ?_
  exact vf_ret dX8_become_68 rfl
theorem c_X8_become {M : pm_M} {x1 : Int32} {x2 : Int32}  {r : Int32} {M' : pm_M} (h : f_X8_become M x1 x2 = some (r, M')) (l : Launch) (V : pm_V) : pm_Ci l V skD yX8_become mX8_become 3 [.ref (V.1 0), .int x1, .int x2] M r M' := pm_metI (by decide) rfl (Nat.le_of_ble_eq_true rfl) h (fun _ => w_X8_become M x1 x2 )
def f_X8_above (M : pm_M) (x1 : Int32) : Option (Int32 × pm_M) :=
  (if 4 ≤ x1 then (some ((x1 - 3), M)) else (some (0, M)))
set_option maxHeartbeats 4000000 in
set_option maxRecDepth 100000 in
theorem w_X8_above {X : pm_X} {V : pm_V} (M : pm_M) (x1 : Int32)  : pm_VF (f_X8_above M x1) (pm_K X V mX8_above 1 skD) (pm_J X V mX8_above 1 (pm_wld V skD M) 0 [(0, .int x1)] []) := by
  unfold f_X8_above
  refine jv_iloadn (j := 0) dX8_above_0 rfl ?_
  refine jv_iconst (v := 4) dX8_above_1 (by decide) ?_
  refine jw_ic_ge (tgt := 9) dX8_above_2 rfl (fun c2 => ?_) (fun c2 => ?_)
  · refine jv_iloadn (j := 0) dX8_above_9 rfl ?_
    refine jv_iconst (v := 3) dX8_above_10 (by decide) ?_
    refine jv_isub dX8_above_11 ?_
    exact vf_ret dX8_above_12 rfl
  refine jv_iconst (v := 0) dX8_above_5 (by decide) ?_
  refine jv_goto (tgt := 12) dX8_above_6 rfl ?_
  exact vf_ret dX8_above_12 rfl
theorem c_X8_above {M : pm_M} {x1 : Int32}  {r : Int32} {M' : pm_M} (h : f_X8_above M x1 = some (r, M')) (l : Launch) (V : pm_V) : pm_Ci l V skD yX8_above mX8_above 1 [.int x1] M r M' := pm_metI (by decide) rfl (Nat.le_of_ble_eq_true rfl) h (fun _ => w_X8_above M x1 )
def f_X8_as (M : pm_M) (x1 : Int32) (x2 : Int32) : Option (Int32 × pm_M) :=
  (pm_b2 (f_X8_isCloud M x1) (fun (r2 : Int32) (M1 : pm_M) => (if r2 = 0 then (pm_b2 (f_X8_finds M1 1) (fun (r4 : Int32) (M3 : pm_M) => (some (r4, M3)))) else (pm_b2 (f_X8_in M1 (x2.toInt64) 0 6) (fun (r6 : Int32) (M5 : pm_M) => (if r6 = 0 then (pm_b2 (f_X8_finds M5 1) (fun (r8 : Int32) (M7 : pm_M) => (some (r8, M7)))) else (pm_b2 (f_X8_of M5 x1 0) (fun (r10 : Int32) (M9 : pm_M) => (if x2 = 0 then (pm_b2 (f_X8_of M9 x1 1) (fun (r12 : Int32) (M11 : pm_M) => (some (r12, M11)))) else (if x2 = r10 then (pm_b2 (f_X8_of M9 x1 1) (fun (r14 : Int32) (M13 : pm_M) => (some (r14, M13)))) else (pm_b2 (f_X8_above M9 r10) (fun (r16 : Int32) (M15 : pm_M) => (if x2 = r16 then (pm_b2 (f_X8_of M15 x1 1) (fun (r18 : Int32) (M17 : pm_M) => (some (r18, M17)))) else (pm_b2 (f_X8_finds M15 5) (fun (r20 : Int32) (M19 : pm_M) => (some (r20, M19)))))))))))))))))
set_option maxHeartbeats 4000000 in
set_option maxRecDepth 100000 in
theorem w_X8_as {X : pm_X} {V : pm_V} (M : pm_M) (x1 : Int32) (x2 : Int32)  : pm_VF (f_X8_as M x1 x2) (pm_K X V mX8_as 3 skD) (pm_J X V mX8_as 3 (pm_wld V skD M) 0 [(0, .ref (V.1 0)), (1, .int x1), (2, .int x2)] []) := by
  unfold f_X8_as
  refine jv_aloadn (j := 0) dX8_as_0 rfl ?_
  refine jv_iloadn (j := 1) dX8_as_1 rfl ?_
  refine hv_callI (As := [.int x1]) dX8_as_2 lk8_152 kX8_isCloud nX8_isCloud (Nat.le_of_ble_eq_true rfl) (Nat.le_of_ble_eq_true rfl) at_MO_0 rfl rfl rfl (fun _ _ e l => c_X8_isCloud  e l V) ?_
  intro r2 M1
  refine jw_if_eq (tgt := 20) dX8_as_5 rfl (fun c5 => ?_) (fun c5 => ?_)
  · refine jv_aloadn (j := 0) dX8_as_20 rfl ?_
    refine jv_iconst (v := 1) dX8_as_21 (by decide) ?_
    refine hv_callI (As := [.int 1]) dX8_as_22 lk8_107 kX8_finds nX8_finds (Nat.le_of_ble_eq_true rfl) (Nat.le_of_ble_eq_true rfl) at_MO_0 rfl rfl rfl (fun _ _ e l => c_X8_finds  e l V) ?_
    intro r4 M3
    exact vf_ret dX8_as_25 rfl
  refine jv_iloadn (j := 2) dX8_as_8 rfl ?_
  refine jv_i2l dX8_as_9 ?_
  refine jv_lconst (v := 0) dX8_as_10 (by decide) ?_
  refine jv_ldc2 dX8_as_11 lk8_166 ?_
  refine hv_callS (As := [.long (x2.toInt64), .long 0, .long 6]) dX8_as_14 lk8_44 kX8_in nX8_in (Nat.le_of_ble_eq_true rfl) (Nat.le_of_ble_eq_true rfl) rfl (fun _ _ e l => c_X8_in  e l V) ?_
  intro r6 M5
  refine jw_if_ne (tgt := 26) dX8_as_17 rfl (fun c17 => ?_) (fun c17 => ?_)
  · refine jv_aloadn (j := 0) dX8_as_20 rfl ?_
    refine jv_iconst (v := 1) dX8_as_21 (by decide) ?_
    refine hv_callI (As := [.int 1]) dX8_as_22 lk8_107 kX8_finds nX8_finds (Nat.le_of_ble_eq_true rfl) (Nat.le_of_ble_eq_true rfl) at_MO_0 rfl rfl rfl (fun _ _ e l => c_X8_finds  e l V) ?_
    intro r8 M7
    exact vf_ret dX8_as_25 rfl
  refine jv_aloadn (j := 0) dX8_as_26 rfl ?_
  refine jv_iloadn (j := 1) dX8_as_27 rfl ?_
  refine jv_iconst (v := 0) dX8_as_28 (by decide) ?_
  refine hv_callI (As := [.int x1, .int 0]) dX8_as_29 lk8_130 kX8_of nX8_of (Nat.le_of_ble_eq_true rfl) (Nat.le_of_ble_eq_true rfl) at_MO_0 rfl rfl rfl (fun _ _ e l => c_X8_of  e l V) ?_
  intro r10 M9
  refine jv_istoren (L' := [(3, .int r10), (0, .ref (V.1 0)), (1, .int x1), (2, .int x2)]) dX8_as_32 (Nat.le_of_ble_eq_true rfl) rfl ?_
  refine jv_iloadn (j := 3) dX8_as_33 rfl ?_
  refine jw_if_eq (tgt := 50) dX8_as_34 rfl (fun c34 => ?_) (fun c34 => ?_)
  · refine jv_aloadn (j := 1) dX8_as_50 rfl ?_
    refine jv_iloadn (j := 2) dX8_as_51 rfl ?_
    refine jv_iconst (v := 1) dX8_as_52 (by decide) ?_
    refine hv_callI (As := [.int x1, .int 1]) dX8_as_53 lk8_130 kX8_of nX8_of (Nat.le_of_ble_eq_true rfl) (Nat.le_of_ble_eq_true rfl) at_MO_0 rfl rfl rfl (fun _ _ e l => c_X8_of  e l V) ?_
    intro r12 M11
    refine jv_goto (tgt := 64) dX8_as_56 rfl ?_
    exact vf_ret dX8_as_64 rfl
  refine jv_iloadn (j := 3) dX8_as_37 rfl ?_
  refine jv_iloadn (j := 0) dX8_as_38 rfl ?_
  refine jw_ic_eq (tgt := 50) dX8_as_39 rfl (fun c39 => ?_) (fun c39 => ?_)
  · refine jv_aloadn (j := 1) dX8_as_50 rfl ?_
    refine jv_iloadn (j := 2) dX8_as_51 rfl ?_
    refine jv_iconst (v := 1) dX8_as_52 (by decide) ?_
    refine hv_callI (As := [.int x1, .int 1]) dX8_as_53 lk8_130 kX8_of nX8_of (Nat.le_of_ble_eq_true rfl) (Nat.le_of_ble_eq_true rfl) at_MO_0 rfl rfl rfl (fun _ _ e l => c_X8_of  e l V) ?_
    intro r14 M13
    refine jv_goto (tgt := 64) dX8_as_56 rfl ?_
    exact vf_ret dX8_as_64 rfl
  refine jv_iloadn (j := 3) dX8_as_42 rfl ?_
  refine jv_iloadn (j := 0) dX8_as_43 rfl ?_
  refine hv_callS (As := [.int r10]) dX8_as_44 lk8_168 kX8_above nX8_above (Nat.le_of_ble_eq_true rfl) (Nat.le_of_ble_eq_true rfl) rfl (fun _ _ e l => c_X8_above  e l V) ?_
  intro r16 M15
  refine jw_ic_ne (tgt := 59) dX8_as_47 rfl (fun c47 => ?_) (fun c47 => ?_)
  · refine jv_aloadn (j := 1) dX8_as_50 rfl ?_
    refine jv_iloadn (j := 2) dX8_as_51 rfl ?_
    refine jv_iconst (v := 1) dX8_as_52 (by decide) ?_
    refine hv_callI (As := [.int x1, .int 1]) dX8_as_53 lk8_130 kX8_of nX8_of (Nat.le_of_ble_eq_true rfl) (Nat.le_of_ble_eq_true rfl) at_MO_0 rfl rfl rfl (fun _ _ e l => c_X8_of  e l V) ?_
    intro r18 M17
    refine jv_goto (tgt := 64) dX8_as_56 rfl ?_
    exact vf_ret dX8_as_64 rfl
  refine jv_aloadn (j := 1) dX8_as_59 rfl ?_
  refine jv_iconst (v := 5) dX8_as_60 (by decide) ?_
  refine hv_callI (As := [.int 5]) dX8_as_61 lk8_107 kX8_finds nX8_finds (Nat.le_of_ble_eq_true rfl) (Nat.le_of_ble_eq_true rfl) at_MO_0 rfl rfl rfl (fun _ _ e l => c_X8_finds  e l V) ?_
  intro r20 M19
  exact vf_ret dX8_as_64 rfl
theorem c_X8_as {M : pm_M} {x1 : Int32} {x2 : Int32}  {r : Int32} {M' : pm_M} (h : f_X8_as M x1 x2 = some (r, M')) (l : Launch) (V : pm_V) : pm_Ci l V skD yX8_as mX8_as 3 [.ref (V.1 0), .int x1, .int x2] M r M' := pm_metI (by decide) rfl (Nat.le_of_ble_eq_true rfl) h (fun _ => w_X8_as M x1 x2 )
def f_X8_lead (M : pm_M) (x1 : Int32) (x2 : Int32) (x3 : Int32) : Option (Int32 × pm_M) :=
  (pm_b2 (f_X8_isCloud M x1) (fun (r2 : Int32) (M1 : pm_M) => (if r2 = 0 then (pm_b2 (f_X8_finds M1 1) (fun (r4 : Int32) (M3 : pm_M) => (some (r4, M3)))) else (pm_b2 (f_X8_in M1 (x2.toInt64) 0 1) (fun (r6 : Int32) (M5 : pm_M) => (if r6 = 0 then (pm_b2 (f_X8_finds M5 1) (fun (r8 : Int32) (M7 : pm_M) => (some (r8, M7)))) else (if x2 = 0 then (pm_b2 (f_X8_in M5 (x3.toInt64) 0 (((M5 1 (0 : Int32).toNatClampNeg) - 1).toInt64)) (fun (r10 : Int32) (M9 : pm_M) => (if r10 = 0 then (pm_b2 (f_X8_finds M9 1) (fun (r12 : Int32) (M11 : pm_M) => (some (r12, M11)))) else (pm_b2 (f_X8_of M9 x1 (2 + x2)) (fun (r14 : Int32) (M13 : pm_M) => (pm_chk (pm_in (((66 + (4 * x1)) + 2) + x2) 258) (pm_let (pm_up M13 1 (((66 + (4 * x1)) + 2) + x2).toNatClampNeg x3) (fun M15 : pm_M => (some (r14, M15)))))))))) else (pm_b2 (f_X8_in M5 (x3.toInt64) 0 99) (fun (r17 : Int32) (M16 : pm_M) => (if r17 = 0 then (pm_b2 (f_X8_finds M16 1) (fun (r19 : Int32) (M18 : pm_M) => (some (r19, M18)))) else (pm_b2 (f_X8_of M16 x1 (2 + x2)) (fun (r21 : Int32) (M20 : pm_M) => (pm_chk (pm_in (((66 + (4 * x1)) + 2) + x2) 258) (pm_let (pm_up M20 1 (((66 + (4 * x1)) + 2) + x2).toNatClampNeg x3) (fun M22 : pm_M => (some (r21, M22)))))))))))))))))
set_option maxHeartbeats 4000000 in
set_option maxRecDepth 100000 in
theorem w_X8_lead {X : pm_X} {V : pm_V} (M : pm_M) (x1 : Int32) (x2 : Int32) (x3 : Int32)  : pm_VF (f_X8_lead M x1 x2 x3) (pm_K X V mX8_lead 3 skD) (pm_J X V mX8_lead 3 (pm_wld V skD M) 0 [(0, .ref (V.1 0)), (1, .int x1), (2, .int x2), (3, .int x3)] []) := by
  unfold f_X8_lead
  refine jv_aloadn (j := 0) dX8_lead_0 rfl ?_
  refine jv_iloadn (j := 1) dX8_lead_1 rfl ?_
  refine hv_callI (As := [.int x1]) dX8_lead_2 lk8_152 kX8_isCloud nX8_isCloud (Nat.le_of_ble_eq_true rfl) (Nat.le_of_ble_eq_true rfl) at_MO_0 rfl rfl rfl (fun _ _ e l => c_X8_isCloud  e l V) ?_
  intro r2 M1
  refine jw_if_eq (tgt := 46) dX8_lead_5 rfl (fun c5 => ?_) (fun c5 => ?_)
  · refine jv_aloadn (j := 0) dX8_lead_46 rfl ?_
    refine jv_iconst (v := 1) dX8_lead_47 (by decide) ?_
    refine hv_callI (As := [.int 1]) dX8_lead_48 lk8_107 kX8_finds nX8_finds (Nat.le_of_ble_eq_true rfl) (Nat.le_of_ble_eq_true rfl) at_MO_0 rfl rfl rfl (fun _ _ e l => c_X8_finds  e l V) ?_
    intro r4 M3
    exact vf_ret dX8_lead_51 rfl
  refine jv_iloadn (j := 2) dX8_lead_8 rfl ?_
  refine jv_i2l dX8_lead_9 ?_
  refine jv_lconst (v := 0) dX8_lead_10 (by decide) ?_
  refine jv_lconst (v := 1) dX8_lead_11 (by decide) ?_
  refine hv_callS (As := [.long (x2.toInt64), .long 0, .long 1]) dX8_lead_12 lk8_44 kX8_in nX8_in (Nat.le_of_ble_eq_true rfl) (Nat.le_of_ble_eq_true rfl) rfl (fun _ _ e l => c_X8_in  e l V) ?_
  intro r6 M5
  refine jw_if_eq (tgt := 46) dX8_lead_15 rfl (fun c15 => ?_) (fun c15 => ?_)
  · refine jv_aloadn (j := 0) dX8_lead_46 rfl ?_
    refine jv_iconst (v := 1) dX8_lead_47 (by decide) ?_
    refine hv_callI (As := [.int 1]) dX8_lead_48 lk8_107 kX8_finds nX8_finds (Nat.le_of_ble_eq_true rfl) (Nat.le_of_ble_eq_true rfl) at_MO_0 rfl rfl rfl (fun _ _ e l => c_X8_finds  e l V) ?_
    intro r8 M7
    exact vf_ret dX8_lead_51 rfl
  refine jv_iloadn (j := 3) dX8_lead_18 rfl ?_
  refine jv_i2l dX8_lead_19 ?_
  refine jv_lconst (v := 0) dX8_lead_20 (by decide) ?_
  refine jv_iloadn (j := 2) dX8_lead_21 rfl ?_
  refine jw_if_ne (tgt := 37) dX8_lead_22 rfl (fun c22 => ?_) (fun c22 => ?_)
  · refine jv_aloadn (j := 0) dX8_lead_25 rfl ?_
    refine hv_getR dX8_lead_26 fl8_7 at_MO_0 rfl ?_
    refine jv_iconst (v := 0) dX8_lead_29 (by decide) ?_
    refine hv_iald dX8_lead_30 at_MO_1 (by decide) ?_
    refine jv_iconst (v := 1) dX8_lead_31 (by decide) ?_
    refine jv_isub dX8_lead_32 ?_
    refine jv_i2l dX8_lead_33 ?_
    refine jv_goto (tgt := 40) dX8_lead_34 rfl ?_
    refine hv_callS (As := [.long (x3.toInt64), .long 0, .long (((M5 1 (0 : Int32).toNatClampNeg) - 1).toInt64)]) dX8_lead_40 lk8_44 kX8_in nX8_in (Nat.le_of_ble_eq_true rfl) (Nat.le_of_ble_eq_true rfl) rfl (fun _ _ e l => c_X8_in  e l V) ?_
    intro r10 M9
    refine jw_if_ne (tgt := 52) dX8_lead_43 rfl (fun c43 => ?_) (fun c43 => ?_)
    · refine jv_aloadn (j := 0) dX8_lead_46 rfl ?_
      refine jv_iconst (v := 1) dX8_lead_47 (by decide) ?_
      refine hv_callI (As := [.int 1]) dX8_lead_48 lk8_107 kX8_finds nX8_finds (Nat.le_of_ble_eq_true rfl) (Nat.le_of_ble_eq_true rfl) at_MO_0 rfl rfl rfl (fun _ _ e l => c_X8_finds  e l V) ?_
      intro r12 M11
      exact vf_ret dX8_lead_51 rfl
    refine jv_aloadn (j := 0) dX8_lead_52 rfl ?_
    refine jv_iloadn (j := 1) dX8_lead_53 rfl ?_
    refine jv_iconst (v := 2) dX8_lead_54 (by decide) ?_
    refine jv_iloadn (j := 2) dX8_lead_55 rfl ?_
    refine jv_iadd dX8_lead_56 ?_
    refine hv_callI (As := [.int x1, .int (2 + x2)]) dX8_lead_57 lk8_130 kX8_of nX8_of (Nat.le_of_ble_eq_true rfl) (Nat.le_of_ble_eq_true rfl) at_MO_0 rfl rfl rfl (fun _ _ e l => c_X8_of  e l V) ?_
    intro r14 M13
    refine jv_istore (L' := [(4, .int r14), (0, .ref (V.1 0)), (1, .int x1), (2, .int x2), (3, .int x3)]) dX8_lead_60 (Nat.le_of_ble_eq_true rfl) rfl ?_
    refine jv_aloadn (j := 1) dX8_lead_62 rfl ?_
    refine hv_getR dX8_lead_63 fl8_7 at_MO_0 rfl ?_
    refine jv_bipush (v := 66) dX8_lead_66 (by decide) ?_
    refine jv_iconst (v := 4) dX8_lead_68 (by decide) ?_
    refine jv_iloadn (j := 2) dX8_lead_69 rfl ?_
    refine jv_imul dX8_lead_70 ?_
    refine jv_iadd dX8_lead_71 ?_
    refine jv_iconst (v := 2) dX8_lead_72 (by decide) ?_
    refine jv_iadd dX8_lead_73 ?_
    refine jv_iloadn (j := 3) dX8_lead_74 rfl ?_
    refine jv_iadd dX8_lead_75 ?_
    refine jv_iloadn (j := 4) dX8_lead_76 rfl ?_
    refine hv_iastC dX8_lead_77 at_MO_1 (fun _ => ?_)
    refine vf_letM (fun M15 => ?_)
    refine jv_iload (j := 0) dX8_lead_78 rfl ?_
    exact vf_ret dX8_lead_80 rfl
  refine jv_ldc2 dX8_lead_37 lk8_123 ?_
  refine hv_callS (As := [.long (x3.toInt64), .long 0, .long 99]) dX8_lead_40 lk8_44 kX8_in nX8_in (Nat.le_of_ble_eq_true rfl) (Nat.le_of_ble_eq_true rfl) rfl (fun _ _ e l => c_X8_in  e l V) ?_
  intro r17 M16
  refine jw_if_ne (tgt := 52) dX8_lead_43 rfl (fun c43 => ?_) (fun c43 => ?_)
  · refine jv_aloadn (j := 0) dX8_lead_46 rfl ?_
    refine jv_iconst (v := 1) dX8_lead_47 (by decide) ?_
    refine hv_callI (As := [.int 1]) dX8_lead_48 lk8_107 kX8_finds nX8_finds (Nat.le_of_ble_eq_true rfl) (Nat.le_of_ble_eq_true rfl) at_MO_0 rfl rfl rfl (fun _ _ e l => c_X8_finds  e l V) ?_
    intro r19 M18
    exact vf_ret dX8_lead_51 rfl
  refine jv_aloadn (j := 0) dX8_lead_52 rfl ?_
  refine jv_iloadn (j := 1) dX8_lead_53 rfl ?_
  refine jv_iconst (v := 2) dX8_lead_54 (by decide) ?_
  refine jv_iloadn (j := 2) dX8_lead_55 rfl ?_
  refine jv_iadd dX8_lead_56 ?_
  refine hv_callI (As := [.int x1, .int (2 + x2)]) dX8_lead_57 lk8_130 kX8_of nX8_of (Nat.le_of_ble_eq_true rfl) (Nat.le_of_ble_eq_true rfl) at_MO_0 rfl rfl rfl (fun _ _ e l => c_X8_of  e l V) ?_
  intro r21 M20
  refine jv_istore (L' := [(4, .int r21), (0, .ref (V.1 0)), (1, .int x1), (2, .int x2), (3, .int x3)]) dX8_lead_60 (Nat.le_of_ble_eq_true rfl) rfl ?_
  refine jv_aloadn (j := 1) dX8_lead_62 rfl ?_
  refine hv_getR dX8_lead_63 fl8_7 at_MO_0 rfl ?_
  refine jv_bipush (v := 66) dX8_lead_66 (by decide) ?_
  refine jv_iconst (v := 4) dX8_lead_68 (by decide) ?_
  refine jv_iloadn (j := 2) dX8_lead_69 rfl ?_
  refine jv_imul dX8_lead_70 ?_
  refine jv_iadd dX8_lead_71 ?_
  refine jv_iconst (v := 2) dX8_lead_72 (by decide) ?_
  refine jv_iadd dX8_lead_73 ?_
  refine jv_iloadn (j := 3) dX8_lead_74 rfl ?_
  refine jv_iadd dX8_lead_75 ?_
  refine jv_iloadn (j := 4) dX8_lead_76 rfl ?_
  refine hv_iastC dX8_lead_77 at_MO_1 (fun _ => ?_)
  refine vf_letM (fun M22 => ?_)
  refine jv_iload (j := 0) dX8_lead_78 rfl ?_
  exact vf_ret dX8_lead_80 rfl
theorem c_X8_lead {M : pm_M} {x1 : Int32} {x2 : Int32} {x3 : Int32}  {r : Int32} {M' : pm_M} (h : f_X8_lead M x1 x2 x3 = some (r, M')) (l : Launch) (V : pm_V) : pm_Ci l V skD yX8_lead mX8_lead 3 [.ref (V.1 0), .int x1, .int x2, .int x3] M r M' := pm_metI (by decide) rfl (Nat.le_of_ble_eq_true rfl) h (fun _ => w_X8_lead M x1 x2 x3 )
def lb_X8_mostInArrears_17  (ih : Int32 → Int32 → pm_M → Option (Int32 × pm_M)) : Int32 → Int32 → pm_M → Option (Int32 × pm_M) := fun (l1 : Int32) (l2 : Int32) (Ml : pm_M) =>
  (if (Ml 1 (0 : Int32).toNatClampNeg) ≤ l2 then (some (l1, Ml)) else (pm_b2 (f_X8_its Ml l2 1) (fun (r18003 : Int32) (M18002 : pm_M) => (pm_b2 (f_X8_its M18002 l1 1) (fun (r18005 : Int32) (M18004 : pm_M) => (if r18003 ≤ r18005 then (ih l1 (l2 + 1) M18004) else (ih l2 (l2 + 1) M18004)))))))
def lp_X8_mostInArrears_17  : Int32 → Int32 → pm_M → Option (Int32 × pm_M) := pm_it (fun _ _ _ => none) (lb_X8_mostInArrears_17 ) pm_F
def f_X8_mostInArrears (M : pm_M) : Option (Int32 × pm_M) :=
  (if (M 1 (0 : Int32).toNatClampNeg) ≤ 0 then (pm_b2 (lp_X8_mostInArrears_17  (-1) 1 M) (fun (l1 : Int32) (M2 : pm_M) => (some (l1, M2)))) else (pm_b2 (lp_X8_mostInArrears_17  0 1 M) (fun (l3 : Int32) (M4 : pm_M) => (some (l3, M4)))))
set_option maxHeartbeats 4000000 in
set_option maxRecDepth 100000 in
theorem wl_X8_mostInArrears_17 {X : pm_X} {V : pm_V}   : ∀ (l1 : Int32) (l2 : Int32) (Ml : pm_M), pm_VF (lp_X8_mostInArrears_17  l1 l2 Ml) (fun b => (fun (l1 : Int32) (Ml : pm_M) => pm_J X V mX8_mostInArrears 2 (pm_wld V skD Ml) 54 [(1, .int l1)] []) b.1 b.2) (pm_J X V mX8_mostInArrears 2 (pm_wld V skD Ml) 17 [(0, .ref (V.1 0)), (1, .int l1), (2, .int l2)] []) := by
  refine pm_it_ind (P := fun (f : Int32 → Int32 → pm_M → Option (Int32 × pm_M)) => ∀ (l1 : Int32) (l2 : Int32) (Ml : pm_M), pm_VF (f l1 l2 Ml) (fun b => (fun (l1 : Int32) (Ml : pm_M) => pm_J X V mX8_mostInArrears 2 (pm_wld V skD Ml) 54 [(1, .int l1)] []) b.1 b.2) (pm_J X V mX8_mostInArrears 2 (pm_wld V skD Ml) 17 [(0, .ref (V.1 0)), (1, .int l1), (2, .int l2)] [])) (fun _ _ _ => vf_none) (fun ih hih l1 l2 Ml => ?_) pm_F
  · unfold lb_X8_mostInArrears_17
    refine jv_iloadn (j := 2) dX8_mostInArrears_17 rfl ?_
    refine jv_aloadn (j := 0) dX8_mostInArrears_18 rfl ?_
    refine hv_getR dX8_mostInArrears_19 fl8_7 at_MO_0 rfl ?_
    refine jv_iconst (v := 0) dX8_mostInArrears_22 (by decide) ?_
    refine hv_iald dX8_mostInArrears_23 at_MO_1 (by decide) ?_
    refine jw_ic_ge (tgt := 54) dX8_mostInArrears_24 rfl (fun c24 => ?_) (fun c24 => ?_)
    · exact vf_end (fun g => jr_sub [1] rfl g)
    refine jv_aloadn (j := 0) dX8_mostInArrears_27 rfl ?_
    refine jv_iloadn (j := 2) dX8_mostInArrears_28 rfl ?_
    refine jv_iconst (v := 1) dX8_mostInArrears_29 (by decide) ?_
    refine hv_callI (As := [.int l2, .int 1]) dX8_mostInArrears_30 lk8_134 kX8_its nX8_its (Nat.le_of_ble_eq_true rfl) (Nat.le_of_ble_eq_true rfl) at_MO_0 rfl rfl rfl (fun _ _ e l => c_X8_its  e l V) ?_
    intro r18003 M18002
    refine jv_aloadn (j := 0) dX8_mostInArrears_33 rfl ?_
    refine jv_iloadn (j := 1) dX8_mostInArrears_34 rfl ?_
    refine jv_iconst (v := 1) dX8_mostInArrears_35 (by decide) ?_
    refine hv_callI (As := [.int l1, .int 1]) dX8_mostInArrears_36 lk8_134 kX8_its nX8_its (Nat.le_of_ble_eq_true rfl) (Nat.le_of_ble_eq_true rfl) at_MO_0 rfl rfl rfl (fun _ _ e l => c_X8_its  e l V) ?_
    intro r18005 M18004
    refine jw_ic_le (tgt := 46) dX8_mostInArrears_39 rfl (fun c39 => ?_) (fun c39 => ?_)
    · refine jv_iloadn (j := 1) dX8_mostInArrears_46 rfl ?_
      refine jv_istoren (L' := [(1, .int l1), (0, .ref (V.1 0)), (2, .int l2)]) dX8_mostInArrears_47 (Nat.le_of_ble_eq_true rfl) rfl ?_
      refine jv_iinc (j := 2) (v := l2 + 1) (L' := [(2, .int (l2 + 1)), (1, .int l1), (0, .ref (V.1 0))]) dX8_mostInArrears_48 rfl rfl (Nat.le_of_ble_eq_true rfl) rfl ?_
      refine jv_goto (tgt := 17) dX8_mostInArrears_51 rfl ?_
      exact vf_j (fun g => jr_sub [2, 1, 0] rfl g) (hih l1 (l2 + 1) M18004)
    refine jv_iloadn (j := 2) dX8_mostInArrears_42 rfl ?_
    refine jv_goto (tgt := 47) dX8_mostInArrears_43 rfl ?_
    refine jv_istoren (L' := [(1, .int l2), (0, .ref (V.1 0)), (2, .int l2)]) dX8_mostInArrears_47 (Nat.le_of_ble_eq_true rfl) rfl ?_
    refine jv_iinc (j := 2) (v := l2 + 1) (L' := [(2, .int (l2 + 1)), (1, .int l2), (0, .ref (V.1 0))]) dX8_mostInArrears_48 rfl rfl (Nat.le_of_ble_eq_true rfl) rfl ?_
    refine jv_goto (tgt := 17) dX8_mostInArrears_51 rfl ?_
    exact vf_j (fun g => jr_sub [2, 1, 0] rfl g) (hih l2 (l2 + 1) M18004)
set_option maxHeartbeats 4000000 in
set_option maxRecDepth 100000 in
theorem w_X8_mostInArrears {X : pm_X} {V : pm_V} (M : pm_M)  : pm_VF (f_X8_mostInArrears M) (pm_K X V mX8_mostInArrears 2 skD) (pm_J X V mX8_mostInArrears 2 (pm_wld V skD M) 0 [(0, .ref (V.1 0))] []) := by
  unfold f_X8_mostInArrears
  refine jv_aloadn (j := 0) dX8_mostInArrears_0 rfl ?_
  refine hv_getR dX8_mostInArrears_1 fl8_7 at_MO_0 rfl ?_
  refine jv_iconst (v := 0) dX8_mostInArrears_4 (by decide) ?_
  refine hv_iald dX8_mostInArrears_5 at_MO_1 (by decide) ?_
  refine jw_if_le (tgt := 13) dX8_mostInArrears_6 rfl (fun c6 => ?_) (fun c6 => ?_)
  · refine jv_iconst (v := -1) dX8_mostInArrears_13 (by decide) ?_
    refine jv_istoren (L' := [(1, .int (-1)), (0, .ref (V.1 0))]) dX8_mostInArrears_14 (Nat.le_of_ble_eq_true rfl) rfl ?_
    refine jv_iconst (v := 1) dX8_mostInArrears_15 (by decide) ?_
    refine jv_istoren (L' := [(2, .int 1), (1, .int (-1)), (0, .ref (V.1 0))]) dX8_mostInArrears_16 (Nat.le_of_ble_eq_true rfl) rfl ?_
    refine vl_b2 (P := fun (l1 : Int32) (Ml : pm_M) => pm_J X V mX8_mostInArrears 2 (pm_wld V skD Ml) 54 [(1, .int l1)] []) (vf_j (fun g => jr_sub [2, 1, 0] rfl g) (wl_X8_mostInArrears_17   (-1) 1 M)) ?_
    intro l1 M2
    refine jv_iloadn (j := 0) dX8_mostInArrears_54 rfl ?_
    exact vf_ret dX8_mostInArrears_55 rfl
  refine jv_iconst (v := 0) dX8_mostInArrears_9 (by decide) ?_
  refine jv_goto (tgt := 14) dX8_mostInArrears_10 rfl ?_
  refine jv_istoren (L' := [(1, .int 0), (0, .ref (V.1 0))]) dX8_mostInArrears_14 (Nat.le_of_ble_eq_true rfl) rfl ?_
  refine jv_iconst (v := 1) dX8_mostInArrears_15 (by decide) ?_
  refine jv_istoren (L' := [(2, .int 1), (1, .int 0), (0, .ref (V.1 0))]) dX8_mostInArrears_16 (Nat.le_of_ble_eq_true rfl) rfl ?_
  refine vl_b2 (P := fun (l1 : Int32) (Ml : pm_M) => pm_J X V mX8_mostInArrears 2 (pm_wld V skD Ml) 54 [(1, .int l1)] []) (vf_j (fun g => jr_sub [2, 1, 0] rfl g) (wl_X8_mostInArrears_17   0 1 M)) ?_
  intro l3 M4
  refine jv_iloadn (j := 0) dX8_mostInArrears_54 rfl ?_
  exact vf_ret dX8_mostInArrears_55 rfl
theorem c_X8_mostInArrears {M : pm_M}  {r : Int32} {M' : pm_M} (h : f_X8_mostInArrears M = some (r, M')) (l : Launch) (V : pm_V) : pm_Ci l V skD yX8_mostInArrears mX8_mostInArrears 2 [.ref (V.1 0)] M r M' := pm_metI (by decide) rfl (Nat.le_of_ble_eq_true rfl) h (fun _ => w_X8_mostInArrears M )
def f_X8_fallsWhere (M : pm_M) (x1 : Int32) (x2 : Int32) : Option (Int32 × pm_M) :=
  (if (pm_rem (M 1 (2 : Int32).toNatClampNeg) 7) = 6 then (some (x2, M)) else (pm_b2 (f_X8_of M x1 2) (fun (r2 : Int32) (M1 : pm_M) => (some (r2, M1)))))
set_option maxHeartbeats 4000000 in
set_option maxRecDepth 100000 in
theorem w_X8_fallsWhere {X : pm_X} {V : pm_V} (M : pm_M) (x1 : Int32) (x2 : Int32)  : pm_VF (f_X8_fallsWhere M x1 x2) (pm_K X V mX8_fallsWhere 2 skD) (pm_J X V mX8_fallsWhere 2 (pm_wld V skD M) 0 [(0, .ref (V.1 0)), (1, .int x1), (2, .int x2)] []) := by
  unfold f_X8_fallsWhere
  refine jv_aloadn (j := 0) dX8_fallsWhere_0 rfl ?_
  refine hv_getR dX8_fallsWhere_1 fl8_7 at_MO_0 rfl ?_
  refine jv_iconst (v := 2) dX8_fallsWhere_4 (by decide) ?_
  refine hv_iald dX8_fallsWhere_5 at_MO_1 (by decide) ?_
  refine jv_bipush (v := 7) dX8_fallsWhere_6 (by decide) ?_
  refine jv_irem dX8_fallsWhere_8 (by decide) ?_
  refine jv_bipush (v := 6) dX8_fallsWhere_9 (by decide) ?_
  refine jw_ic_ne (tgt := 18) dX8_fallsWhere_11 rfl (fun c11 => ?_) (fun c11 => ?_)
  · refine jv_iloadn (j := 2) dX8_fallsWhere_14 rfl ?_
    refine jv_goto (tgt := 24) dX8_fallsWhere_15 rfl ?_
    exact vf_ret dX8_fallsWhere_24 rfl
  refine jv_aloadn (j := 0) dX8_fallsWhere_18 rfl ?_
  refine jv_iloadn (j := 1) dX8_fallsWhere_19 rfl ?_
  refine jv_iconst (v := 2) dX8_fallsWhere_20 (by decide) ?_
  refine hv_callI (As := [.int x1, .int 2]) dX8_fallsWhere_21 lk8_130 kX8_of nX8_of (Nat.le_of_ble_eq_true rfl) (Nat.le_of_ble_eq_true rfl) at_MO_0 rfl rfl rfl (fun _ _ e l => c_X8_of  e l V) ?_
  intro r2 M1
  exact vf_ret dX8_fallsWhere_24 rfl
theorem c_X8_fallsWhere {M : pm_M} {x1 : Int32} {x2 : Int32}  {r : Int32} {M' : pm_M} (h : f_X8_fallsWhere M x1 x2 = some (r, M')) (l : Launch) (V : pm_V) : pm_Ci l V skD yX8_fallsWhere mX8_fallsWhere 2 [.ref (V.1 0), .int x1, .int x2] M r M' := pm_metI (by decide) rfl (Nat.le_of_ble_eq_true rfl) h (fun _ => w_X8_fallsWhere M x1 x2 )
def lb_X8_dayGoes_7 (r2 : Int32) (ih : Int32 → pm_M → Option (pm_M)) : Int32 → pm_M → Option (pm_M) := fun (l2 : Int32) (Ml : pm_M) =>
  (if 6 ≤ l2 then (some Ml) else (pm_chk (pm_in l2 6) (pm_let (pm_up Ml 6 l2.toNatClampNeg 0) (fun M8002 : pm_M => (ih (l2 + 1) M8002)))))
def lp_X8_dayGoes_7 (r2 : Int32) : Int32 → pm_M → Option (pm_M) := pm_it (fun _ _ => none) (lb_X8_dayGoes_7 r2) pm_F
def lb_X8_dayGoes_28 (r2 : Int32) (ih : Int32 → pm_M → Option (pm_M)) : Int32 → pm_M → Option (pm_M) := fun (l2 : Int32) (Ml : pm_M) =>
  (if (Ml 1 (1 : Int32).toNatClampNeg) ≤ l2 then (some Ml) else (pm_b2 (f_X8_isSpent Ml l2) (fun (r29003 : Int32) (M29002 : pm_M) => (if r29003 = 0 then (pm_b2 (f_X8_fallsWhere M29002 l2 r2) (fun (r29005 : Int32) (M29004 : pm_M) => (pm_b2 (f_X8_fallsOn M29004 l2 r29005) (fun (r29007 : Int32) (M29006 : pm_M) => (pm_chk (pm_in r29005 6) (pm_chk (pm_in r29005 6) (pm_let (pm_up M29006 6 r29005.toNatClampNeg ((M29006 6 r29005.toNatClampNeg) + r29007)) (fun M29008 : pm_M => (pm_b2 (f_X8_its M29008 r29005 2) (fun (r29010 : Int32) (M29009 : pm_M) => (pm_b2 (f_X8_held M29009 (r29010 + r29007) 0 99999) (fun (r29012 : Int32) (M29011 : pm_M) => (pm_chk (pm_in ((6 + (4 * r29005)) + 2) 258) (pm_let (pm_up M29011 1 ((6 + (4 * r29005)) + 2).toNatClampNeg r29012) (fun M29013 : pm_M => (pm_b2 (f_X8_of M29013 l2 3) (fun (r29015 : Int32) (M29014 : pm_M) => (pm_b2 (f_X8_held M29014 (r29015 + 1) 0 99) (fun (r29017 : Int32) (M29016 : pm_M) => (pm_chk (pm_in ((66 + (4 * l2)) + 3) 258) (pm_let (pm_up M29016 1 ((66 + (4 * l2)) + 3).toNatClampNeg r29017) (fun M29018 : pm_M => (ih (l2 + 1) M29018))))))))))))))))))))))) else (ih (l2 + 1) M29002)))))
def lp_X8_dayGoes_28 (r2 : Int32) : Int32 → pm_M → Option (pm_M) := pm_it (fun _ _ => none) (lb_X8_dayGoes_28 r2) pm_F
def lb_X8_dayGoes_135  (ih : Int32 → pm_M → Option (pm_M)) : Int32 → pm_M → Option (pm_M) := fun (l2 : Int32) (Ml : pm_M) =>
  (if (Ml 1 (0 : Int32).toNatClampNeg) ≤ l2 then (some Ml) else (pm_chk (pm_in l2 6) (pm_b2 (f_X8_its Ml l2 0) (fun (r136003 : Int32) (M136002 : pm_M) => (pm_let ((Ml 6 l2.toNatClampNeg) - r136003) (fun z136004 : Int32 => (if z136004 ≤ 0 then (ih (l2 + 1) M136002) else (pm_b2 (f_X8_its M136002 l2 1) (fun (r136006 : Int32) (M136005 : pm_M) => (pm_b2 (f_X8_its M136005 l2 0) (fun (r136008 : Int32) (M136007 : pm_M) => (pm_b2 (f_X8_its M136007 l2 3) (fun (r136010 : Int32) (M136009 : pm_M) => (pm_b2 (f_X8_textGives M136009 1 r136008 r136010 (M136009 1 (2 : Int32).toNatClampNeg)) (fun (r136012 : Int32) (M136011 : pm_M) => (pm_b2 (f_X8_held M136011 (r136006 + (z136004 * r136012)) 0 9999) (fun (r136014 : Int32) (M136013 : pm_M) => (pm_chk (pm_in ((6 + (4 * l2)) + 1) 258) (pm_let (pm_up M136013 1 ((6 + (4 * l2)) + 1).toNatClampNeg r136014) (fun M136015 : pm_M => (ih (l2 + 1) M136015)))))))))))))))))))))
def lp_X8_dayGoes_135  : Int32 → pm_M → Option (pm_M) := pm_it (fun _ _ => none) (lb_X8_dayGoes_135 ) pm_F
def lb_X8_dayGoes_223  (ih : Int32 → pm_M → Option (pm_M)) : Int32 → pm_M → Option (pm_M) := fun (l2 : Int32) (Ml : pm_M) =>
  (if (Ml 1 (1 : Int32).toNatClampNeg) ≤ l2 then (some Ml) else (pm_b2 (f_X8_driftsTo Ml l2) (fun (r224003 : Int32) (M224002 : pm_M) => (pm_chk (pm_in ((66 + (4 * l2)) + 2) 258) (pm_let (pm_up M224002 1 ((66 + (4 * l2)) + 2).toNatClampNeg r224003) (fun M224004 : pm_M => (ih (l2 + 1) M224004)))))))
def lp_X8_dayGoes_223  : Int32 → pm_M → Option (pm_M) := pm_it (fun _ _ => none) (lb_X8_dayGoes_223 ) pm_F
def f_X8_dayGoes (M : pm_M) : Option pm_M :=
  (pm_b2 (f_X8_mostInArrears M) (fun (r2 : Int32) (M1 : pm_M) => (pm_b1 (lp_X8_dayGoes_7 r2 0 M1) (fun (M3 : pm_M) => (pm_b1 (lp_X8_dayGoes_28 r2 0 M3) (fun (M4 : pm_M) => (pm_b1 (lp_X8_dayGoes_135  0 M4) (fun (M5 : pm_M) => (pm_b1 (lp_X8_dayGoes_223  0 M5) (fun (M6 : pm_M) => (pm_let (pm_up M6 1 (2 : Int32).toNatClampNeg ((M6 1 (2 : Int32).toNatClampNeg) + 1)) (fun M7 : pm_M => (some M7)))))))))))))
set_option maxHeartbeats 4000000 in
set_option maxRecDepth 100000 in
theorem wl_X8_dayGoes_7 {X : pm_X} {V : pm_V} (r2 : Int32)  : ∀ (l2 : Int32) (Ml : pm_M), pm_VF (lp_X8_dayGoes_7 r2 l2 Ml) (fun b => (fun (Ml : pm_M) => pm_J X V mX8_dayGoes 107 (pm_wld V skD Ml) 26 [(0, .ref (V.1 0)), (1, .int r2)] []) b) (pm_J X V mX8_dayGoes 107 (pm_wld V skD Ml) 7 [(0, .ref (V.1 0)), (1, .int r2), (2, .int l2)] []) := by
  refine pm_it_ind (P := fun (f : Int32 → pm_M → Option (pm_M)) => ∀ (l2 : Int32) (Ml : pm_M), pm_VF (f l2 Ml) (fun b => (fun (Ml : pm_M) => pm_J X V mX8_dayGoes 107 (pm_wld V skD Ml) 26 [(0, .ref (V.1 0)), (1, .int r2)] []) b) (pm_J X V mX8_dayGoes 107 (pm_wld V skD Ml) 7 [(0, .ref (V.1 0)), (1, .int r2), (2, .int l2)] [])) (fun _ _ => vf_none) (fun ih hih l2 Ml => ?_) pm_F
  · unfold lb_X8_dayGoes_7
    refine jv_iloadn (j := 2) dX8_dayGoes_7 rfl ?_
    refine jv_bipush (v := 6) dX8_dayGoes_8 (by decide) ?_
    refine jw_ic_ge (tgt := 26) dX8_dayGoes_10 rfl (fun c10 => ?_) (fun c10 => ?_)
    · exact vf_end (fun g => jr_sub [0, 1] rfl g)
    refine jv_aloadn (j := 0) dX8_dayGoes_13 rfl ?_
    refine hv_getR dX8_dayGoes_14 fl8_25 at_MO_0 rfl ?_
    refine jv_iloadn (j := 2) dX8_dayGoes_17 rfl ?_
    refine jv_iconst (v := 0) dX8_dayGoes_18 (by decide) ?_
    refine hv_iastC dX8_dayGoes_19 at_MO_6 (fun _ => ?_)
    refine vf_letM (fun M8002 => ?_)
    refine jv_iinc (j := 2) (v := l2 + 1) (L' := [(2, .int (l2 + 1)), (0, .ref (V.1 0)), (1, .int r2)]) dX8_dayGoes_20 rfl rfl (Nat.le_of_ble_eq_true rfl) rfl ?_
    refine jv_goto (tgt := 7) dX8_dayGoes_23 rfl ?_
    exact vf_j (fun g => jr_sub [1, 2, 0] rfl g) (hih (l2 + 1) M8002)
set_option maxHeartbeats 4000000 in
set_option maxRecDepth 100000 in
theorem wl_X8_dayGoes_28 {X : pm_X} {V : pm_V} (r2 : Int32)  : ∀ (l2 : Int32) (Ml : pm_M), pm_VF (lp_X8_dayGoes_28 r2 l2 Ml) (fun b => (fun (Ml : pm_M) => pm_J X V mX8_dayGoes 107 (pm_wld V skD Ml) 133 [(0, .ref (V.1 0))] []) b) (pm_J X V mX8_dayGoes 107 (pm_wld V skD Ml) 28 [(0, .ref (V.1 0)), (1, .int r2), (2, .int l2)] []) := by
  refine pm_it_ind (P := fun (f : Int32 → pm_M → Option (pm_M)) => ∀ (l2 : Int32) (Ml : pm_M), pm_VF (f l2 Ml) (fun b => (fun (Ml : pm_M) => pm_J X V mX8_dayGoes 107 (pm_wld V skD Ml) 133 [(0, .ref (V.1 0))] []) b) (pm_J X V mX8_dayGoes 107 (pm_wld V skD Ml) 28 [(0, .ref (V.1 0)), (1, .int r2), (2, .int l2)] [])) (fun _ _ => vf_none) (fun ih hih l2 Ml => ?_) pm_F
  · unfold lb_X8_dayGoes_28
    refine jv_iloadn (j := 2) dX8_dayGoes_28 rfl ?_
    refine jv_aloadn (j := 0) dX8_dayGoes_29 rfl ?_
    refine hv_getR dX8_dayGoes_30 fl8_7 at_MO_0 rfl ?_
    refine jv_iconst (v := 1) dX8_dayGoes_33 (by decide) ?_
    refine hv_iald dX8_dayGoes_34 at_MO_1 (by decide) ?_
    refine jw_ic_ge (tgt := 133) dX8_dayGoes_35 rfl (fun c35 => ?_) (fun c35 => ?_)
    · exact vf_end (fun g => jr_sub [0] rfl g)
    refine jv_aloadn (j := 0) dX8_dayGoes_38 rfl ?_
    refine jv_iloadn (j := 2) dX8_dayGoes_39 rfl ?_
    refine hv_callI (As := [.int l2]) dX8_dayGoes_40 lk8_157 kX8_isSpent nX8_isSpent (Nat.le_of_ble_eq_true rfl) (Nat.le_of_ble_eq_true rfl) at_MO_0 rfl rfl rfl (fun _ _ e l => c_X8_isSpent  e l V) ?_
    intro r29003 M29002
    refine jw_if_ne (tgt := 127) dX8_dayGoes_43 rfl (fun c43 => ?_) (fun c43 => ?_)
    · refine jv_aloadn (j := 0) dX8_dayGoes_46 rfl ?_
      refine jv_iloadn (j := 2) dX8_dayGoes_47 rfl ?_
      refine jv_iloadn (j := 1) dX8_dayGoes_48 rfl ?_
      refine hv_callI (As := [.int l2, .int r2]) dX8_dayGoes_49 lk8_174 kX8_fallsWhere nX8_fallsWhere (Nat.le_of_ble_eq_true rfl) (Nat.le_of_ble_eq_true rfl) at_MO_0 rfl rfl rfl (fun _ _ e l => c_X8_fallsWhere  e l V) ?_
      intro r29005 M29004
      refine jv_istoren (L' := [(3, .int r29005), (0, .ref (V.1 0)), (1, .int r2), (2, .int l2)]) dX8_dayGoes_52 (Nat.le_of_ble_eq_true rfl) rfl ?_
      refine jv_aloadn (j := 1) dX8_dayGoes_53 rfl ?_
      refine jv_iloadn (j := 3) dX8_dayGoes_54 rfl ?_
      refine jv_iloadn (j := 0) dX8_dayGoes_55 rfl ?_
      refine hv_callI (As := [.int l2, .int r29005]) dX8_dayGoes_56 lk8_160 kX8_fallsOn nX8_fallsOn (Nat.le_of_ble_eq_true rfl) (Nat.le_of_ble_eq_true rfl) at_MO_0 rfl rfl rfl (fun _ _ e l => c_X8_fallsOn  e l V) ?_
      intro r29007 M29006
      refine jv_istore (L' := [(4, .int r29007), (3, .int r29005), (0, .ref (V.1 0)), (1, .int r2), (2, .int l2)]) dX8_dayGoes_59 (Nat.le_of_ble_eq_true rfl) rfl ?_
      refine jv_aloadn (j := 2) dX8_dayGoes_61 rfl ?_
      refine hv_getR dX8_dayGoes_62 fl8_25 at_MO_0 rfl ?_
      refine jv_iloadn (j := 1) dX8_dayGoes_65 rfl ?_
      refine jv_dup2 dX8_dayGoes_66 rfl rfl ?_
      refine hv_ialdC dX8_dayGoes_67 at_MO_6 (fun _ => ?_)
      refine jv_iload (j := 0) dX8_dayGoes_68 rfl ?_
      refine jv_iadd dX8_dayGoes_70 ?_
      refine hv_iastC dX8_dayGoes_71 at_MO_6 (fun _ => ?_)
      refine vf_letM (fun M29008 => ?_)
      refine jv_aloadn (j := 2) dX8_dayGoes_72 rfl ?_
      refine hv_getR dX8_dayGoes_73 fl8_7 at_MO_0 rfl ?_
      refine jv_bipush (v := 6) dX8_dayGoes_76 (by decide) ?_
      refine jv_iconst (v := 4) dX8_dayGoes_78 (by decide) ?_
      refine jv_iloadn (j := 1) dX8_dayGoes_79 rfl ?_
      refine jv_imul dX8_dayGoes_80 ?_
      refine jv_iadd dX8_dayGoes_81 ?_
      refine jv_iconst (v := 2) dX8_dayGoes_82 (by decide) ?_
      refine jv_iadd dX8_dayGoes_83 ?_
      refine jv_aloadn (j := 2) dX8_dayGoes_84 rfl ?_
      refine jv_iloadn (j := 1) dX8_dayGoes_85 rfl ?_
      refine jv_iconst (v := 2) dX8_dayGoes_86 (by decide) ?_
      refine hv_callI (As := [.int r29005, .int 2]) dX8_dayGoes_87 lk8_134 kX8_its nX8_its (Nat.le_of_ble_eq_true rfl) (Nat.le_of_ble_eq_true rfl) at_MO_0 rfl rfl rfl (fun _ _ e l => c_X8_its  e l V) ?_
      intro r29010 M29009
      refine jv_iload (j := 0) dX8_dayGoes_90 rfl ?_
      refine jv_iadd dX8_dayGoes_92 ?_
      refine jv_iconst (v := 0) dX8_dayGoes_93 (by decide) ?_
      refine jv_ldc dX8_dayGoes_94 lk8_177 ?_
      refine hv_callS (As := [.int (r29010 + r29007), .int 0, .int 99999]) dX8_dayGoes_96 lk8_116 kX8_held nX8_held (Nat.le_of_ble_eq_true rfl) (Nat.le_of_ble_eq_true rfl) rfl (fun _ _ e l => c_X8_held  e l V) ?_
      intro r29012 M29011
      refine hv_iastC dX8_dayGoes_99 at_MO_1 (fun _ => ?_)
      refine vf_letM (fun M29013 => ?_)
      refine jv_aloadn (j := 2) dX8_dayGoes_100 rfl ?_
      refine hv_getR dX8_dayGoes_101 fl8_7 at_MO_0 rfl ?_
      refine jv_bipush (v := 66) dX8_dayGoes_104 (by decide) ?_
      refine jv_iconst (v := 4) dX8_dayGoes_106 (by decide) ?_
      refine jv_iloadn (j := 4) dX8_dayGoes_107 rfl ?_
      refine jv_imul dX8_dayGoes_108 ?_
      refine jv_iadd dX8_dayGoes_109 ?_
      refine jv_iconst (v := 3) dX8_dayGoes_110 (by decide) ?_
      refine jv_iadd dX8_dayGoes_111 ?_
      refine jv_aloadn (j := 2) dX8_dayGoes_112 rfl ?_
      refine jv_iloadn (j := 4) dX8_dayGoes_113 rfl ?_
      refine jv_iconst (v := 3) dX8_dayGoes_114 (by decide) ?_
      refine hv_callI (As := [.int l2, .int 3]) dX8_dayGoes_115 lk8_130 kX8_of nX8_of (Nat.le_of_ble_eq_true rfl) (Nat.le_of_ble_eq_true rfl) at_MO_0 rfl rfl rfl (fun _ _ e l => c_X8_of  e l V) ?_
      intro r29015 M29014
      refine jv_iconst (v := 1) dX8_dayGoes_118 (by decide) ?_
      refine jv_iadd dX8_dayGoes_119 ?_
      refine jv_iconst (v := 0) dX8_dayGoes_120 (by decide) ?_
      refine jv_bipush (v := 99) dX8_dayGoes_121 (by decide) ?_
      refine hv_callS (As := [.int (r29015 + 1), .int 0, .int 99]) dX8_dayGoes_123 lk8_116 kX8_held nX8_held (Nat.le_of_ble_eq_true rfl) (Nat.le_of_ble_eq_true rfl) rfl (fun _ _ e l => c_X8_held  e l V) ?_
      intro r29017 M29016
      refine hv_iastC dX8_dayGoes_126 at_MO_1 (fun _ => ?_)
      refine vf_letM (fun M29018 => ?_)
      refine jv_iinc (j := 4) (v := l2 + 1) (L' := [(2, .int (l2 + 1)), (4, .int r29007), (3, .int r29005), (0, .ref (V.1 0)), (1, .int r2)]) dX8_dayGoes_127 rfl rfl (Nat.le_of_ble_eq_true rfl) rfl ?_
      refine jv_goto (tgt := 28) dX8_dayGoes_130 rfl ?_
      exact vf_j (fun g => jr_sub [3, 4, 0] rfl g) (hih (l2 + 1) M29018)
    refine jv_iinc (j := 2) (v := l2 + 1) (L' := [(2, .int (l2 + 1)), (0, .ref (V.1 0)), (1, .int r2)]) dX8_dayGoes_127 rfl rfl (Nat.le_of_ble_eq_true rfl) rfl ?_
    refine jv_goto (tgt := 28) dX8_dayGoes_130 rfl ?_
    exact vf_j (fun g => jr_sub [1, 2, 0] rfl g) (hih (l2 + 1) M29002)
set_option maxHeartbeats 4000000 in
set_option maxRecDepth 100000 in
theorem wl_X8_dayGoes_135 {X : pm_X} {V : pm_V}   : ∀ (l2 : Int32) (Ml : pm_M), pm_VF (lp_X8_dayGoes_135  l2 Ml) (fun b => (fun (Ml : pm_M) => pm_J X V mX8_dayGoes 107 (pm_wld V skD Ml) 221 [(0, .ref (V.1 0))] []) b) (pm_J X V mX8_dayGoes 107 (pm_wld V skD Ml) 135 [(0, .ref (V.1 0)), (2, .int l2)] []) := by
  refine pm_it_ind (P := fun (f : Int32 → pm_M → Option (pm_M)) => ∀ (l2 : Int32) (Ml : pm_M), pm_VF (f l2 Ml) (fun b => (fun (Ml : pm_M) => pm_J X V mX8_dayGoes 107 (pm_wld V skD Ml) 221 [(0, .ref (V.1 0))] []) b) (pm_J X V mX8_dayGoes 107 (pm_wld V skD Ml) 135 [(0, .ref (V.1 0)), (2, .int l2)] [])) (fun _ _ => vf_none) (fun ih hih l2 Ml => ?_) pm_F
  · unfold lb_X8_dayGoes_135
    refine jv_iloadn (j := 1) dX8_dayGoes_135 rfl ?_
    refine jv_aloadn (j := 0) dX8_dayGoes_136 rfl ?_
    refine hv_getR dX8_dayGoes_137 fl8_7 at_MO_0 rfl ?_
    refine jv_iconst (v := 0) dX8_dayGoes_140 (by decide) ?_
    refine hv_iald dX8_dayGoes_141 at_MO_1 (by decide) ?_
    refine jw_ic_ge (tgt := 221) dX8_dayGoes_142 rfl (fun c142 => ?_) (fun c142 => ?_)
    · exact vf_end (fun g => jr_sub [0] rfl g)
    refine jv_aloadn (j := 0) dX8_dayGoes_145 rfl ?_
    refine hv_getR dX8_dayGoes_146 fl8_25 at_MO_0 rfl ?_
    refine jv_iloadn (j := 1) dX8_dayGoes_149 rfl ?_
    refine hv_ialdC dX8_dayGoes_150 at_MO_6 (fun _ => ?_)
    refine jv_aloadn (j := 0) dX8_dayGoes_151 rfl ?_
    refine jv_iloadn (j := 1) dX8_dayGoes_152 rfl ?_
    refine jv_iconst (v := 0) dX8_dayGoes_153 (by decide) ?_
    refine hv_callI (As := [.int l2, .int 0]) dX8_dayGoes_154 lk8_134 kX8_its nX8_its (Nat.le_of_ble_eq_true rfl) (Nat.le_of_ble_eq_true rfl) at_MO_0 rfl rfl rfl (fun _ _ e l => c_X8_its  e l V) ?_
    intro r136003 M136002
    refine jv_isub dX8_dayGoes_157 ?_
    refine vf_letS (fun z136004 => ?_)
    refine jv_istoren (L' := [(3, .int z136004), (0, .ref (V.1 0)), (2, .int l2)]) dX8_dayGoes_158 (Nat.le_of_ble_eq_true rfl) rfl ?_
    refine jv_iloadn (j := 0) dX8_dayGoes_159 rfl ?_
    refine jw_if_le (tgt := 215) dX8_dayGoes_160 rfl (fun c160 => ?_) (fun c160 => ?_)
    · refine jv_iinc (j := 2) (v := l2 + 1) (L' := [(2, .int (l2 + 1)), (3, .int z136004), (0, .ref (V.1 0))]) dX8_dayGoes_215 rfl rfl (Nat.le_of_ble_eq_true rfl) rfl ?_
      refine jv_goto (tgt := 135) dX8_dayGoes_218 rfl ?_
      exact vf_j (fun g => jr_sub [2, 0] rfl g) (hih (l2 + 1) M136002)
    refine jv_aloadn (j := 1) dX8_dayGoes_163 rfl ?_
    refine hv_getR dX8_dayGoes_164 fl8_7 at_MO_0 rfl ?_
    refine jv_bipush (v := 6) dX8_dayGoes_167 (by decide) ?_
    refine jv_iconst (v := 4) dX8_dayGoes_169 (by decide) ?_
    refine jv_iloadn (j := 2) dX8_dayGoes_170 rfl ?_
    refine jv_imul dX8_dayGoes_171 ?_
    refine jv_iadd dX8_dayGoes_172 ?_
    refine jv_iconst (v := 1) dX8_dayGoes_173 (by decide) ?_
    refine jv_iadd dX8_dayGoes_174 ?_
    refine jv_aloadn (j := 1) dX8_dayGoes_175 rfl ?_
    refine jv_iloadn (j := 2) dX8_dayGoes_176 rfl ?_
    refine jv_iconst (v := 1) dX8_dayGoes_177 (by decide) ?_
    refine hv_callI (As := [.int l2, .int 1]) dX8_dayGoes_178 lk8_134 kX8_its nX8_its (Nat.le_of_ble_eq_true rfl) (Nat.le_of_ble_eq_true rfl) at_MO_0 rfl rfl rfl (fun _ _ e l => c_X8_its  e l V) ?_
    intro r136006 M136005
    refine jv_iloadn (j := 0) dX8_dayGoes_181 rfl ?_
    refine jv_aloadn (j := 1) dX8_dayGoes_182 rfl ?_
    refine jv_iconst (v := 1) dX8_dayGoes_183 (by decide) ?_
    refine jv_aloadn (j := 1) dX8_dayGoes_184 rfl ?_
    refine jv_iloadn (j := 2) dX8_dayGoes_185 rfl ?_
    refine jv_iconst (v := 0) dX8_dayGoes_186 (by decide) ?_
    refine hv_callI (As := [.int l2, .int 0]) dX8_dayGoes_187 lk8_134 kX8_its nX8_its (Nat.le_of_ble_eq_true rfl) (Nat.le_of_ble_eq_true rfl) at_MO_0 rfl rfl rfl (fun _ _ e l => c_X8_its  e l V) ?_
    intro r136008 M136007
    refine jv_aloadn (j := 1) dX8_dayGoes_190 rfl ?_
    refine jv_iloadn (j := 2) dX8_dayGoes_191 rfl ?_
    refine jv_iconst (v := 3) dX8_dayGoes_192 (by decide) ?_
    refine hv_callI (As := [.int l2, .int 3]) dX8_dayGoes_193 lk8_134 kX8_its nX8_its (Nat.le_of_ble_eq_true rfl) (Nat.le_of_ble_eq_true rfl) at_MO_0 rfl rfl rfl (fun _ _ e l => c_X8_its  e l V) ?_
    intro r136010 M136009
    refine jv_aloadn (j := 1) dX8_dayGoes_196 rfl ?_
    refine hv_getR dX8_dayGoes_197 fl8_7 at_MO_0 rfl ?_
    refine jv_iconst (v := 2) dX8_dayGoes_200 (by decide) ?_
    refine hv_iald dX8_dayGoes_201 at_MO_1 (by decide) ?_
    refine hv_callI (As := [.int 1, .int r136008, .int r136010, .int (M136009 1 (2 : Int32).toNatClampNeg)]) dX8_dayGoes_202 lk8_119 kX8_textGives nX8_textGives (Nat.le_of_ble_eq_true rfl) (Nat.le_of_ble_eq_true rfl) at_MO_0 rfl rfl rfl (fun _ _ e l => c_X8_textGives  e l V) ?_
    intro r136012 M136011
    refine jv_imul dX8_dayGoes_205 ?_
    refine jv_iadd dX8_dayGoes_206 ?_
    refine jv_iconst (v := 0) dX8_dayGoes_207 (by decide) ?_
    refine jv_sipush (v := 9999) dX8_dayGoes_208 (by decide) ?_
    refine hv_callS (As := [.int (r136006 + (z136004 * r136012)), .int 0, .int 9999]) dX8_dayGoes_211 lk8_116 kX8_held nX8_held (Nat.le_of_ble_eq_true rfl) (Nat.le_of_ble_eq_true rfl) rfl (fun _ _ e l => c_X8_held  e l V) ?_
    intro r136014 M136013
    refine hv_iastC dX8_dayGoes_214 at_MO_1 (fun _ => ?_)
    refine vf_letM (fun M136015 => ?_)
    refine jv_iinc (j := 2) (v := l2 + 1) (L' := [(2, .int (l2 + 1)), (3, .int z136004), (0, .ref (V.1 0))]) dX8_dayGoes_215 rfl rfl (Nat.le_of_ble_eq_true rfl) rfl ?_
    refine jv_goto (tgt := 135) dX8_dayGoes_218 rfl ?_
    exact vf_j (fun g => jr_sub [2, 0] rfl g) (hih (l2 + 1) M136015)
set_option maxHeartbeats 4000000 in
set_option maxRecDepth 100000 in
theorem wl_X8_dayGoes_223 {X : pm_X} {V : pm_V}   : ∀ (l2 : Int32) (Ml : pm_M), pm_VF (lp_X8_dayGoes_223  l2 Ml) (fun b => (fun (Ml : pm_M) => pm_J X V mX8_dayGoes 107 (pm_wld V skD Ml) 257 [(0, .ref (V.1 0))] []) b) (pm_J X V mX8_dayGoes 107 (pm_wld V skD Ml) 223 [(0, .ref (V.1 0)), (2, .int l2)] []) := by
  refine pm_it_ind (P := fun (f : Int32 → pm_M → Option (pm_M)) => ∀ (l2 : Int32) (Ml : pm_M), pm_VF (f l2 Ml) (fun b => (fun (Ml : pm_M) => pm_J X V mX8_dayGoes 107 (pm_wld V skD Ml) 257 [(0, .ref (V.1 0))] []) b) (pm_J X V mX8_dayGoes 107 (pm_wld V skD Ml) 223 [(0, .ref (V.1 0)), (2, .int l2)] [])) (fun _ _ => vf_none) (fun ih hih l2 Ml => ?_) pm_F
  · unfold lb_X8_dayGoes_223
    refine jv_iloadn (j := 1) dX8_dayGoes_223 rfl ?_
    refine jv_aloadn (j := 0) dX8_dayGoes_224 rfl ?_
    refine hv_getR dX8_dayGoes_225 fl8_7 at_MO_0 rfl ?_
    refine jv_iconst (v := 1) dX8_dayGoes_228 (by decide) ?_
    refine hv_iald dX8_dayGoes_229 at_MO_1 (by decide) ?_
    refine jw_ic_ge (tgt := 257) dX8_dayGoes_230 rfl (fun c230 => ?_) (fun c230 => ?_)
    · exact vf_end (fun g => jr_sub [0] rfl g)
    refine jv_aloadn (j := 0) dX8_dayGoes_233 rfl ?_
    refine hv_getR dX8_dayGoes_234 fl8_7 at_MO_0 rfl ?_
    refine jv_bipush (v := 66) dX8_dayGoes_237 (by decide) ?_
    refine jv_iconst (v := 4) dX8_dayGoes_239 (by decide) ?_
    refine jv_iloadn (j := 1) dX8_dayGoes_240 rfl ?_
    refine jv_imul dX8_dayGoes_241 ?_
    refine jv_iadd dX8_dayGoes_242 ?_
    refine jv_iconst (v := 2) dX8_dayGoes_243 (by decide) ?_
    refine jv_iadd dX8_dayGoes_244 ?_
    refine jv_aloadn (j := 0) dX8_dayGoes_245 rfl ?_
    refine jv_iloadn (j := 1) dX8_dayGoes_246 rfl ?_
    refine hv_callI (As := [.int l2]) dX8_dayGoes_247 lk8_163 kX8_driftsTo nX8_driftsTo (Nat.le_of_ble_eq_true rfl) (Nat.le_of_ble_eq_true rfl) at_MO_0 rfl rfl rfl (fun _ _ e l => c_X8_driftsTo  e l V) ?_
    intro r224003 M224002
    refine hv_iastC dX8_dayGoes_250 at_MO_1 (fun _ => ?_)
    refine vf_letM (fun M224004 => ?_)
    refine jv_iinc (j := 1) (v := l2 + 1) (L' := [(2, .int (l2 + 1)), (0, .ref (V.1 0))]) dX8_dayGoes_251 rfl rfl (Nat.le_of_ble_eq_true rfl) rfl ?_
    refine jv_goto (tgt := 223) dX8_dayGoes_254 rfl ?_
    exact vf_j (fun g => jr_sub [1, 0] rfl g) (hih (l2 + 1) M224004)
set_option maxHeartbeats 4000000 in
set_option maxRecDepth 100000 in
theorem w_X8_dayGoes {X : pm_X} {V : pm_V} (M : pm_M)  : pm_VF (f_X8_dayGoes M) (pm_Kv X V mX8_dayGoes 107 skD) (pm_J X V mX8_dayGoes 107 (pm_wld V skD M) 0 [(0, .ref (V.1 0))] []) := by
  unfold f_X8_dayGoes
  refine jv_aloadn (j := 0) dX8_dayGoes_0 rfl ?_
  refine hv_callI (As := []) dX8_dayGoes_1 lk8_171 kX8_mostInArrears nX8_mostInArrears (Nat.le_of_ble_eq_true rfl) (Nat.le_of_ble_eq_true rfl) at_MO_0 rfl rfl rfl (fun _ _ e l => c_X8_mostInArrears  e l V) ?_
  intro r2 M1
  refine jv_istoren (L' := [(1, .int r2), (0, .ref (V.1 0))]) dX8_dayGoes_4 (Nat.le_of_ble_eq_true rfl) rfl ?_
  refine jv_iconst (v := 0) dX8_dayGoes_5 (by decide) ?_
  refine jv_istoren (L' := [(2, .int 0), (1, .int r2), (0, .ref (V.1 0))]) dX8_dayGoes_6 (Nat.le_of_ble_eq_true rfl) rfl ?_
  refine vl_b1 (P := fun (Ml : pm_M) => pm_J X V mX8_dayGoes 107 (pm_wld V skD Ml) 26 [(0, .ref (V.1 0)), (1, .int r2)] []) (vf_j (fun g => jr_sub [2, 1, 0] rfl g) (wl_X8_dayGoes_7 r2  0 M1)) ?_
  intro M3
  refine jv_iconst (v := 0) dX8_dayGoes_26 (by decide) ?_
  refine jv_istoren (L' := [(2, .int 0), (0, .ref (V.1 0)), (1, .int r2)]) dX8_dayGoes_27 (Nat.le_of_ble_eq_true rfl) rfl ?_
  refine vl_b1 (P := fun (Ml : pm_M) => pm_J X V mX8_dayGoes 107 (pm_wld V skD Ml) 133 [(0, .ref (V.1 0))] []) (vf_j (fun g => jr_sub [1, 2, 0] rfl g) (wl_X8_dayGoes_28 r2  0 M3)) ?_
  intro M4
  refine jv_iconst (v := 0) dX8_dayGoes_133 (by decide) ?_
  refine jv_istoren (L' := [(2, .int 0), (0, .ref (V.1 0))]) dX8_dayGoes_134 (Nat.le_of_ble_eq_true rfl) rfl ?_
  refine vl_b1 (P := fun (Ml : pm_M) => pm_J X V mX8_dayGoes 107 (pm_wld V skD Ml) 221 [(0, .ref (V.1 0))] []) (vf_j (fun g => jr_sub [1, 0] rfl g) (wl_X8_dayGoes_135   0 M4)) ?_
  intro M5
  refine jv_iconst (v := 0) dX8_dayGoes_221 (by decide) ?_
  refine jv_istoren (L' := [(2, .int 0), (0, .ref (V.1 0))]) dX8_dayGoes_222 (Nat.le_of_ble_eq_true rfl) rfl ?_
  refine vl_b1 (P := fun (Ml : pm_M) => pm_J X V mX8_dayGoes 107 (pm_wld V skD Ml) 257 [(0, .ref (V.1 0))] []) (vf_j (fun g => jr_sub [1, 0] rfl g) (wl_X8_dayGoes_223   0 M5)) ?_
  intro M6
  refine jv_aloadn (j := 0) dX8_dayGoes_257 rfl ?_
  refine hv_getR dX8_dayGoes_258 fl8_7 at_MO_0 rfl ?_
  refine jv_iconst (v := 2) dX8_dayGoes_261 (by decide) ?_
  refine jv_dup2 dX8_dayGoes_262 rfl rfl ?_
  refine hv_iald dX8_dayGoes_263 at_MO_1 (by decide) ?_
  refine jv_iconst (v := 1) dX8_dayGoes_264 (by decide) ?_
  refine jv_iadd dX8_dayGoes_265 ?_
  refine hv_iast dX8_dayGoes_266 at_MO_1 (by decide) ?_
  refine vf_letM (fun M7 => ?_)
  exact vf_vret dX8_dayGoes_267
theorem c_X8_dayGoes {M : pm_M}  {M' : pm_M} (h : f_X8_dayGoes M = some M') (l : Launch) (V : pm_V) : pm_Cv l V skD yX8_dayGoes mX8_dayGoes 107 [.ref (V.1 0)] M M' := pm_metV (by decide) rfl (Nat.le_of_ble_eq_true rfl) rfl h (fun _ => w_X8_dayGoes M )
def lb_X8_daysGo_2 (x1 : Int32) (ih : Int32 → pm_M → Option (pm_M)) : Int32 → pm_M → Option (pm_M) := fun (l2 : Int32) (Ml : pm_M) =>
  (if x1 ≤ l2 then (some Ml) else (pm_b1 (f_X8_dayGoes Ml) (fun M3002 : pm_M => (ih (l2 + 1) M3002))))
def lp_X8_daysGo_2 (x1 : Int32) : Int32 → pm_M → Option (pm_M) := pm_it (fun _ _ => none) (lb_X8_daysGo_2 x1) pm_F
def f_X8_daysGo (M : pm_M) (x1 : Int32) : Option pm_M :=
  (pm_b1 (lp_X8_daysGo_2 x1 0 M) (fun (M1 : pm_M) => (some M1)))
set_option maxHeartbeats 4000000 in
set_option maxRecDepth 100000 in
theorem wl_X8_daysGo_2 {X : pm_X} {V : pm_V} (x1 : Int32)  : ∀ (l2 : Int32) (Ml : pm_M), pm_VF (lp_X8_daysGo_2 x1 l2 Ml) (fun b => (fun (Ml : pm_M) => pm_J X V mX8_daysGo 108 (pm_wld V skD Ml) 17 [] []) b) (pm_J X V mX8_daysGo 108 (pm_wld V skD Ml) 2 [(0, .ref (V.1 0)), (1, .int x1), (2, .int l2)] []) := by
  refine pm_it_ind (P := fun (f : Int32 → pm_M → Option (pm_M)) => ∀ (l2 : Int32) (Ml : pm_M), pm_VF (f l2 Ml) (fun b => (fun (Ml : pm_M) => pm_J X V mX8_daysGo 108 (pm_wld V skD Ml) 17 [] []) b) (pm_J X V mX8_daysGo 108 (pm_wld V skD Ml) 2 [(0, .ref (V.1 0)), (1, .int x1), (2, .int l2)] [])) (fun _ _ => vf_none) (fun ih hih l2 Ml => ?_) pm_F
  · unfold lb_X8_daysGo_2
    refine jv_iloadn (j := 2) dX8_daysGo_2 rfl ?_
    refine jv_iloadn (j := 1) dX8_daysGo_3 rfl ?_
    refine jw_ic_ge (tgt := 17) dX8_daysGo_4 rfl (fun c4 => ?_) (fun c4 => ?_)
    · exact vf_end (fun g => jr_sub [] rfl g)
    refine jv_aloadn (j := 0) dX8_daysGo_7 rfl ?_
    refine hv_callV (As := []) dX8_daysGo_8 lk8_178 kX8_dayGoes nX8_dayGoes (Nat.le_of_ble_eq_true rfl) (Nat.le_of_ble_eq_true rfl) at_MO_0 rfl rfl rfl (fun _ e l => c_X8_dayGoes  e l V) ?_
    intro M3002
    refine jv_iinc (j := 2) (v := l2 + 1) (L' := [(2, .int (l2 + 1)), (0, .ref (V.1 0)), (1, .int x1)]) dX8_daysGo_11 rfl rfl (Nat.le_of_ble_eq_true rfl) rfl ?_
    refine jv_goto (tgt := 2) dX8_daysGo_14 rfl ?_
    exact vf_j (fun g => jr_sub [1, 2, 0] rfl g) (hih (l2 + 1) M3002)
set_option maxHeartbeats 4000000 in
set_option maxRecDepth 100000 in
theorem w_X8_daysGo {X : pm_X} {V : pm_V} (M : pm_M) (x1 : Int32)  : pm_VF (f_X8_daysGo M x1) (pm_Kv X V mX8_daysGo 108 skD) (pm_J X V mX8_daysGo 108 (pm_wld V skD M) 0 [(0, .ref (V.1 0)), (1, .int x1)] []) := by
  unfold f_X8_daysGo
  refine jv_iconst (v := 0) dX8_daysGo_0 (by decide) ?_
  refine jv_istoren (L' := [(2, .int 0), (0, .ref (V.1 0)), (1, .int x1)]) dX8_daysGo_1 (Nat.le_of_ble_eq_true rfl) rfl ?_
  refine vl_b1 (P := fun (Ml : pm_M) => pm_J X V mX8_daysGo 108 (pm_wld V skD Ml) 17 [] []) (vf_j (fun g => jr_sub [1, 2, 0] rfl g) (wl_X8_daysGo_2 x1  0 M)) ?_
  intro M1
  exact vf_vret dX8_daysGo_17
theorem c_X8_daysGo {M : pm_M} {x1 : Int32}  {M' : pm_M} (h : f_X8_daysGo M x1 = some M') (l : Launch) (V : pm_V) : pm_Cv l V skD yX8_daysGo mX8_daysGo 108 [.ref (V.1 0), .int x1] M M' := pm_metV (by decide) rfl (Nat.le_of_ble_eq_true rfl) rfl h (fun _ => w_X8_daysGo M x1 )
def lb_X8_all_4 (x1 : Int32) (ih : Int32 → Int32 → pm_M → Option (Int32 × pm_M)) : Int32 → Int32 → pm_M → Option (Int32 × pm_M) := fun (l2 : Int32) (l3 : Int32) (Ml : pm_M) =>
  (if (Ml 1 (0 : Int32).toNatClampNeg) ≤ l3 then (some (l2, Ml)) else (pm_b2 (f_X8_its Ml l3 x1) (fun (r5003 : Int32) (M5002 : pm_M) => (pm_let (l2 + r5003) (fun z5004 : Int32 => (ih z5004 (l3 + 1) M5002))))))
def lp_X8_all_4 (x1 : Int32) : Int32 → Int32 → pm_M → Option (Int32 × pm_M) := pm_it (fun _ _ _ => none) (lb_X8_all_4 x1) pm_F
def f_X8_all (M : pm_M) (x1 : Int32) : Option (Int32 × pm_M) :=
  (pm_b2 (lp_X8_all_4 x1 0 0 M) (fun (l1 : Int32) (M2 : pm_M) => (some (l1, M2))))
set_option maxHeartbeats 4000000 in
set_option maxRecDepth 100000 in
theorem wl_X8_all_4 {X : pm_X} {V : pm_V} (x1 : Int32)  : ∀ (l2 : Int32) (l3 : Int32) (Ml : pm_M), pm_VF (lp_X8_all_4 x1 l2 l3 Ml) (fun b => (fun (l2 : Int32) (Ml : pm_M) => pm_J X V mX8_all 2 (pm_wld V skD Ml) 29 [(2, .int l2)] []) b.1 b.2) (pm_J X V mX8_all 2 (pm_wld V skD Ml) 4 [(0, .ref (V.1 0)), (1, .int x1), (2, .int l2), (3, .int l3)] []) := by
  refine pm_it_ind (P := fun (f : Int32 → Int32 → pm_M → Option (Int32 × pm_M)) => ∀ (l2 : Int32) (l3 : Int32) (Ml : pm_M), pm_VF (f l2 l3 Ml) (fun b => (fun (l2 : Int32) (Ml : pm_M) => pm_J X V mX8_all 2 (pm_wld V skD Ml) 29 [(2, .int l2)] []) b.1 b.2) (pm_J X V mX8_all 2 (pm_wld V skD Ml) 4 [(0, .ref (V.1 0)), (1, .int x1), (2, .int l2), (3, .int l3)] [])) (fun _ _ _ => vf_none) (fun ih hih l2 l3 Ml => ?_) pm_F
  · unfold lb_X8_all_4
    refine jv_iloadn (j := 3) dX8_all_4 rfl ?_
    refine jv_aloadn (j := 0) dX8_all_5 rfl ?_
    refine hv_getR dX8_all_6 fl8_7 at_MO_0 rfl ?_
    refine jv_iconst (v := 0) dX8_all_9 (by decide) ?_
    refine hv_iald dX8_all_10 at_MO_1 (by decide) ?_
    refine jw_ic_ge (tgt := 29) dX8_all_11 rfl (fun c11 => ?_) (fun c11 => ?_)
    · exact vf_end (fun g => jr_sub [2] rfl g)
    refine jv_iloadn (j := 2) dX8_all_14 rfl ?_
    refine jv_aloadn (j := 0) dX8_all_15 rfl ?_
    refine jv_iloadn (j := 3) dX8_all_16 rfl ?_
    refine jv_iloadn (j := 1) dX8_all_17 rfl ?_
    refine hv_callI (As := [.int l3, .int x1]) dX8_all_18 lk8_134 kX8_its nX8_its (Nat.le_of_ble_eq_true rfl) (Nat.le_of_ble_eq_true rfl) at_MO_0 rfl rfl rfl (fun _ _ e l => c_X8_its  e l V) ?_
    intro r5003 M5002
    refine jv_iadd dX8_all_21 ?_
    refine vf_letS (fun z5004 => ?_)
    refine jv_istoren (L' := [(2, .int z5004), (0, .ref (V.1 0)), (1, .int x1), (3, .int l3)]) dX8_all_22 (Nat.le_of_ble_eq_true rfl) rfl ?_
    refine jv_iinc (j := 3) (v := l3 + 1) (L' := [(3, .int (l3 + 1)), (2, .int z5004), (0, .ref (V.1 0)), (1, .int x1)]) dX8_all_23 rfl rfl (Nat.le_of_ble_eq_true rfl) rfl ?_
    refine jv_goto (tgt := 4) dX8_all_26 rfl ?_
    exact vf_j (fun g => jr_sub [2, 3, 1, 0] rfl g) (hih z5004 (l3 + 1) M5002)
set_option maxHeartbeats 4000000 in
set_option maxRecDepth 100000 in
theorem w_X8_all {X : pm_X} {V : pm_V} (M : pm_M) (x1 : Int32)  : pm_VF (f_X8_all M x1) (pm_K X V mX8_all 2 skD) (pm_J X V mX8_all 2 (pm_wld V skD M) 0 [(0, .ref (V.1 0)), (1, .int x1)] []) := by
  unfold f_X8_all
  refine jv_iconst (v := 0) dX8_all_0 (by decide) ?_
  refine jv_istoren (L' := [(2, .int 0), (0, .ref (V.1 0)), (1, .int x1)]) dX8_all_1 (Nat.le_of_ble_eq_true rfl) rfl ?_
  refine jv_iconst (v := 0) dX8_all_2 (by decide) ?_
  refine jv_istoren (L' := [(3, .int 0), (2, .int 0), (0, .ref (V.1 0)), (1, .int x1)]) dX8_all_3 (Nat.le_of_ble_eq_true rfl) rfl ?_
  refine vl_b2 (P := fun (l2 : Int32) (Ml : pm_M) => pm_J X V mX8_all 2 (pm_wld V skD Ml) 29 [(2, .int l2)] []) (vf_j (fun g => jr_sub [2, 3, 1, 0] rfl g) (wl_X8_all_4 x1  0 0 M)) ?_
  intro l1 M2
  refine jv_iloadn (j := 0) dX8_all_29 rfl ?_
  exact vf_ret dX8_all_30 rfl
theorem c_X8_all {M : pm_M} {x1 : Int32}  {r : Int32} {M' : pm_M} (h : f_X8_all M x1 = some (r, M')) (l : Launch) (V : pm_V) : pm_Ci l V skD yX8_all mX8_all 2 [.ref (V.1 0), .int x1] M r M' := pm_metI (by decide) rfl (Nat.le_of_ble_eq_true rfl) h (fun _ => w_X8_all M x1 )
def f_X8_days (M : pm_M) (x1 : Int32) : Option (Int32 × pm_M) :=
  (pm_b2 (f_X8_in M (x1.toInt64) 1 60) (fun (r2 : Int32) (M1 : pm_M) => (if r2 = 0 then (pm_b2 (f_X8_finds M1 1) (fun (r4 : Int32) (M3 : pm_M) => (some (r4, M3)))) else (if ((M1 1 (2 : Int32).toNatClampNeg) + x1) ≤ 9999 then (pm_b1 (f_X8_daysGo M1 x1) (fun M5 : pm_M => (pm_b2 (f_X8_all M5 2) (fun (r7 : Int32) (M6 : pm_M) => (some (r7, M6)))))) else (pm_b2 (f_X8_finds M1 3) (fun (r9 : Int32) (M8 : pm_M) => (some (r9, M8))))))))
set_option maxHeartbeats 4000000 in
set_option maxRecDepth 100000 in
theorem w_X8_days {X : pm_X} {V : pm_V} (M : pm_M) (x1 : Int32)  : pm_VF (f_X8_days M x1) (pm_K X V mX8_days 109 skD) (pm_J X V mX8_days 109 (pm_wld V skD M) 0 [(0, .ref (V.1 0)), (1, .int x1)] []) := by
  unfold f_X8_days
  refine jv_iloadn (j := 1) dX8_days_0 rfl ?_
  refine jv_i2l dX8_days_1 ?_
  refine jv_lconst (v := 1) dX8_days_2 (by decide) ?_
  refine jv_ldc2 dX8_days_3 lk8_181 ?_
  refine hv_callS (As := [.long (x1.toInt64), .long 1, .long 60]) dX8_days_6 lk8_44 kX8_in nX8_in (Nat.le_of_ble_eq_true rfl) (Nat.le_of_ble_eq_true rfl) rfl (fun _ _ e l => c_X8_in  e l V) ?_
  intro r2 M1
  refine jw_if_ne (tgt := 18) dX8_days_9 rfl (fun c9 => ?_) (fun c9 => ?_)
  · refine jv_aloadn (j := 0) dX8_days_12 rfl ?_
    refine jv_iconst (v := 1) dX8_days_13 (by decide) ?_
    refine hv_callI (As := [.int 1]) dX8_days_14 lk8_107 kX8_finds nX8_finds (Nat.le_of_ble_eq_true rfl) (Nat.le_of_ble_eq_true rfl) at_MO_0 rfl rfl rfl (fun _ _ e l => c_X8_finds  e l V) ?_
    intro r4 M3
    exact vf_ret dX8_days_17 rfl
  refine jv_aloadn (j := 0) dX8_days_18 rfl ?_
  refine hv_getR dX8_days_19 fl8_7 at_MO_0 rfl ?_
  refine jv_iconst (v := 2) dX8_days_22 (by decide) ?_
  refine hv_iald dX8_days_23 at_MO_1 (by decide) ?_
  refine jv_iloadn (j := 1) dX8_days_24 rfl ?_
  refine jv_iadd dX8_days_25 ?_
  refine jv_sipush (v := 9999) dX8_days_26 (by decide) ?_
  refine jw_ic_le (tgt := 38) dX8_days_29 rfl (fun c29 => ?_) (fun c29 => ?_)
  · refine jv_aloadn (j := 0) dX8_days_38 rfl ?_
    refine jv_iloadn (j := 1) dX8_days_39 rfl ?_
    refine hv_callV (As := [.int x1]) dX8_days_40 lk8_183 kX8_daysGo nX8_daysGo (Nat.le_of_ble_eq_true rfl) (Nat.le_of_ble_eq_true rfl) at_MO_0 rfl rfl rfl (fun _ e l => c_X8_daysGo  e l V) ?_
    intro M5
    refine jv_aloadn (j := 0) dX8_days_43 rfl ?_
    refine jv_iconst (v := 2) dX8_days_44 (by decide) ?_
    refine hv_callI (As := [.int 2]) dX8_days_45 lk8_187 kX8_all nX8_all (Nat.le_of_ble_eq_true rfl) (Nat.le_of_ble_eq_true rfl) at_MO_0 rfl rfl rfl (fun _ _ e l => c_X8_all  e l V) ?_
    intro r7 M6
    exact vf_ret dX8_days_48 rfl
  refine jv_aloadn (j := 0) dX8_days_32 rfl ?_
  refine jv_iconst (v := 3) dX8_days_33 (by decide) ?_
  refine hv_callI (As := [.int 3]) dX8_days_34 lk8_107 kX8_finds nX8_finds (Nat.le_of_ble_eq_true rfl) (Nat.le_of_ble_eq_true rfl) at_MO_0 rfl rfl rfl (fun _ _ e l => c_X8_finds  e l V) ?_
  intro r9 M8
  exact vf_ret dX8_days_37 rfl
theorem c_X8_days {M : pm_M} {x1 : Int32}  {r : Int32} {M' : pm_M} (h : f_X8_days M x1 = some (r, M')) (l : Launch) (V : pm_V) : pm_Ci l V skD yX8_days mX8_days 109 [.ref (V.1 0), .int x1] M r M' := pm_metI (by decide) rfl (Nat.le_of_ble_eq_true rfl) h (fun _ => w_X8_days M x1 )
def f_X8_drawn (M : pm_M) : Option (Int32 × pm_M) :=
  (pm_let (pm_up M 1 (3 : Int32).toNatClampNeg (((M 1 (3 : Int32).toNatClampNeg) * 1103515245) + 12345)) (fun M1 : pm_M => (some ((pm_ushr (M1 1 (3 : Int32).toNatClampNeg) 8), M1))))
set_option maxHeartbeats 4000000 in
set_option maxRecDepth 100000 in
theorem w_X8_drawn {X : pm_X} {V : pm_V} (M : pm_M)  : pm_VF (f_X8_drawn M) (pm_K X V mX8_drawn 1 skD) (pm_J X V mX8_drawn 1 (pm_wld V skD M) 0 [(0, .ref (V.1 0))] []) := by
  unfold f_X8_drawn
  refine jv_aloadn (j := 0) dX8_drawn_0 rfl ?_
  refine hv_getR dX8_drawn_1 fl8_7 at_MO_0 rfl ?_
  refine jv_iconst (v := 3) dX8_drawn_4 (by decide) ?_
  refine jv_aloadn (j := 0) dX8_drawn_5 rfl ?_
  refine hv_getR dX8_drawn_6 fl8_7 at_MO_0 rfl ?_
  refine jv_iconst (v := 3) dX8_drawn_9 (by decide) ?_
  refine hv_iald dX8_drawn_10 at_MO_1 (by decide) ?_
  refine jv_ldc dX8_drawn_11 lk8_190 ?_
  refine jv_imul dX8_drawn_13 ?_
  refine jv_sipush (v := 12345) dX8_drawn_14 (by decide) ?_
  refine jv_iadd dX8_drawn_17 ?_
  refine hv_iast dX8_drawn_18 at_MO_1 (by decide) ?_
  refine vf_letM (fun M1 => ?_)
  refine jv_aloadn (j := 0) dX8_drawn_19 rfl ?_
  refine hv_getR dX8_drawn_20 fl8_7 at_MO_0 rfl ?_
  refine jv_iconst (v := 3) dX8_drawn_23 (by decide) ?_
  refine hv_iald dX8_drawn_24 at_MO_1 (by decide) ?_
  refine jv_bipush (v := 8) dX8_drawn_25 (by decide) ?_
  refine jv_iushr dX8_drawn_27 ?_
  exact vf_ret dX8_drawn_28 rfl
theorem c_X8_drawn {M : pm_M}  {r : Int32} {M' : pm_M} (h : f_X8_drawn M = some (r, M')) (l : Launch) (V : pm_V) : pm_Ci l V skD yX8_drawn mX8_drawn 1 [.ref (V.1 0)] M r M' := pm_metI (by decide) rfl (Nat.le_of_ble_eq_true rfl) h (fun _ => w_X8_drawn M )
def lb_X8_loose_40 (x1 : Int32) (ih : Int32 → pm_M → Option (pm_M)) : Int32 → pm_M → Option (pm_M) := fun (l2 : Int32) (Ml : pm_M) =>
  (if x1 ≤ l2 then (some Ml) else (if (Ml 1 (1 : Int32).toNatClampNeg) ≤ 0 then (pm_b1 (f_X8_dayGoes Ml) (fun M41002 : pm_M => (ih (l2 + 1) M41002))) else (pm_b2 (f_X8_drawn Ml) (fun (r41004 : Int32) (M41003 : pm_M) => (pm_chk (pm_nz (M41003 1 (1 : Int32).toNatClampNeg)) (pm_let (pm_rem r41004 (M41003 1 (1 : Int32).toNatClampNeg)) (fun z41005 : Int32 => (pm_b2 (f_X8_drawn M41003) (fun (r41007 : Int32) (M41006 : pm_M) => (pm_chk (pm_nz (M41006 1 (0 : Int32).toNatClampNeg)) (pm_chk (pm_in ((66 + (4 * z41005)) + 2) 258) (pm_let (pm_up M41006 1 ((66 + (4 * z41005)) + 2).toNatClampNeg (pm_rem r41007 (M41006 1 (0 : Int32).toNatClampNeg))) (fun M41008 : pm_M => (pm_b1 (f_X8_dayGoes M41008) (fun M41009 : pm_M => (ih (l2 + 1) M41009))))))))))))))))
def lp_X8_loose_40 (x1 : Int32) : Int32 → pm_M → Option (pm_M) := pm_it (fun _ _ => none) (lb_X8_loose_40 x1) pm_F
def f_X8_loose (M : pm_M) (x1 : Int32) : Option (Int32 × pm_M) :=
  (pm_b2 (f_X8_in M (x1.toInt64) 1 40) (fun (r2 : Int32) (M1 : pm_M) => (if r2 = 0 then (pm_b2 (f_X8_finds M1 1) (fun (r4 : Int32) (M3 : pm_M) => (some (r4, M3)))) else (if ((M1 1 (2 : Int32).toNatClampNeg) + x1) ≤ 9999 then (pm_b1 (lp_X8_loose_40 x1 0 M1) (fun (M5 : pm_M) => (pm_b2 (f_X8_all M5 2) (fun (r7 : Int32) (M6 : pm_M) => (some (r7, M6)))))) else (pm_b2 (f_X8_finds M1 3) (fun (r9 : Int32) (M8 : pm_M) => (some (r9, M8))))))))
set_option maxHeartbeats 4000000 in
set_option maxRecDepth 100000 in
theorem wl_X8_loose_40 {X : pm_X} {V : pm_V} (x1 : Int32)  : ∀ (l2 : Int32) (Ml : pm_M), pm_VF (lp_X8_loose_40 x1 l2 Ml) (fun b => (fun (Ml : pm_M) => pm_J X V mX8_loose 108 (pm_wld V skD Ml) 100 [(0, .ref (V.1 0))] []) b) (pm_J X V mX8_loose 108 (pm_wld V skD Ml) 40 [(0, .ref (V.1 0)), (1, .int x1), (2, .int l2)] []) := by
  refine pm_it_ind (P := fun (f : Int32 → pm_M → Option (pm_M)) => ∀ (l2 : Int32) (Ml : pm_M), pm_VF (f l2 Ml) (fun b => (fun (Ml : pm_M) => pm_J X V mX8_loose 108 (pm_wld V skD Ml) 100 [(0, .ref (V.1 0))] []) b) (pm_J X V mX8_loose 108 (pm_wld V skD Ml) 40 [(0, .ref (V.1 0)), (1, .int x1), (2, .int l2)] [])) (fun _ _ => vf_none) (fun ih hih l2 Ml => ?_) pm_F
  · unfold lb_X8_loose_40
    refine jv_iloadn (j := 2) dX8_loose_40 rfl ?_
    refine jv_iloadn (j := 1) dX8_loose_41 rfl ?_
    refine jw_ic_ge (tgt := 100) dX8_loose_42 rfl (fun c42 => ?_) (fun c42 => ?_)
    · exact vf_end (fun g => jr_sub [0] rfl g)
    refine jv_aloadn (j := 0) dX8_loose_45 rfl ?_
    refine hv_getR dX8_loose_46 fl8_7 at_MO_0 rfl ?_
    refine jv_iconst (v := 1) dX8_loose_49 (by decide) ?_
    refine hv_iald dX8_loose_50 at_MO_1 (by decide) ?_
    refine jw_if_le (tgt := 90) dX8_loose_51 rfl (fun c51 => ?_) (fun c51 => ?_)
    · refine jv_aloadn (j := 0) dX8_loose_90 rfl ?_
      refine hv_callV (As := []) dX8_loose_91 lk8_178 kX8_dayGoes nX8_dayGoes (Nat.le_of_ble_eq_true rfl) (Nat.le_of_ble_eq_true rfl) at_MO_0 rfl rfl rfl (fun _ e l => c_X8_dayGoes  e l V) ?_
      intro M41002
      refine jv_iinc (j := 2) (v := l2 + 1) (L' := [(2, .int (l2 + 1)), (0, .ref (V.1 0)), (1, .int x1)]) dX8_loose_94 rfl rfl (Nat.le_of_ble_eq_true rfl) rfl ?_
      refine jv_goto (tgt := 40) dX8_loose_97 rfl ?_
      exact vf_j (fun g => jr_sub [1, 2, 0] rfl g) (hih (l2 + 1) M41002)
    refine jv_aloadn (j := 0) dX8_loose_54 rfl ?_
    refine hv_callI (As := []) dX8_loose_55 lk8_193 kX8_drawn nX8_drawn (Nat.le_of_ble_eq_true rfl) (Nat.le_of_ble_eq_true rfl) at_MO_0 rfl rfl rfl (fun _ _ e l => c_X8_drawn  e l V) ?_
    intro r41004 M41003
    refine jv_aloadn (j := 0) dX8_loose_58 rfl ?_
    refine hv_getR dX8_loose_59 fl8_7 at_MO_0 rfl ?_
    refine jv_iconst (v := 1) dX8_loose_62 (by decide) ?_
    refine hv_iald dX8_loose_63 at_MO_1 (by decide) ?_
    refine jv_iremC dX8_loose_64 ?_
    refine vf_letS (fun z41005 => ?_)
    refine jv_istoren (L' := [(3, .int z41005), (0, .ref (V.1 0)), (1, .int x1), (2, .int l2)]) dX8_loose_65 (Nat.le_of_ble_eq_true rfl) rfl ?_
    refine jv_aloadn (j := 1) dX8_loose_66 rfl ?_
    refine hv_getR dX8_loose_67 fl8_7 at_MO_0 rfl ?_
    refine jv_bipush (v := 66) dX8_loose_70 (by decide) ?_
    refine jv_iconst (v := 4) dX8_loose_72 (by decide) ?_
    refine jv_iloadn (j := 0) dX8_loose_73 rfl ?_
    refine jv_imul dX8_loose_74 ?_
    refine jv_iadd dX8_loose_75 ?_
    refine jv_iconst (v := 2) dX8_loose_76 (by decide) ?_
    refine jv_iadd dX8_loose_77 ?_
    refine jv_aloadn (j := 1) dX8_loose_78 rfl ?_
    refine hv_callI (As := []) dX8_loose_79 lk8_193 kX8_drawn nX8_drawn (Nat.le_of_ble_eq_true rfl) (Nat.le_of_ble_eq_true rfl) at_MO_0 rfl rfl rfl (fun _ _ e l => c_X8_drawn  e l V) ?_
    intro r41007 M41006
    refine jv_aloadn (j := 1) dX8_loose_82 rfl ?_
    refine hv_getR dX8_loose_83 fl8_7 at_MO_0 rfl ?_
    refine jv_iconst (v := 0) dX8_loose_86 (by decide) ?_
    refine hv_iald dX8_loose_87 at_MO_1 (by decide) ?_
    refine jv_iremC dX8_loose_88 ?_
    refine hv_iastC dX8_loose_89 at_MO_1 (fun _ => ?_)
    refine vf_letM (fun M41008 => ?_)
    refine jv_aloadn (j := 1) dX8_loose_90 rfl ?_
    refine hv_callV (As := []) dX8_loose_91 lk8_178 kX8_dayGoes nX8_dayGoes (Nat.le_of_ble_eq_true rfl) (Nat.le_of_ble_eq_true rfl) at_MO_0 rfl rfl rfl (fun _ e l => c_X8_dayGoes  e l V) ?_
    intro M41009
    refine jv_iinc (j := 3) (v := l2 + 1) (L' := [(2, .int (l2 + 1)), (3, .int z41005), (0, .ref (V.1 0)), (1, .int x1)]) dX8_loose_94 rfl rfl (Nat.le_of_ble_eq_true rfl) rfl ?_
    refine jv_goto (tgt := 40) dX8_loose_97 rfl ?_
    exact vf_j (fun g => jr_sub [2, 3, 0] rfl g) (hih (l2 + 1) M41009)
set_option maxHeartbeats 4000000 in
set_option maxRecDepth 100000 in
theorem w_X8_loose {X : pm_X} {V : pm_V} (M : pm_M) (x1 : Int32)  : pm_VF (f_X8_loose M x1) (pm_K X V mX8_loose 108 skD) (pm_J X V mX8_loose 108 (pm_wld V skD M) 0 [(0, .ref (V.1 0)), (1, .int x1)] []) := by
  unfold f_X8_loose
  refine jv_iloadn (j := 1) dX8_loose_0 rfl ?_
  refine jv_i2l dX8_loose_1 ?_
  refine jv_lconst (v := 1) dX8_loose_2 (by decide) ?_
  refine jv_ldc2 dX8_loose_3 lk8_191 ?_
  refine hv_callS (As := [.long (x1.toInt64), .long 1, .long 40]) dX8_loose_6 lk8_44 kX8_in nX8_in (Nat.le_of_ble_eq_true rfl) (Nat.le_of_ble_eq_true rfl) rfl (fun _ _ e l => c_X8_in  e l V) ?_
  intro r2 M1
  refine jw_if_ne (tgt := 18) dX8_loose_9 rfl (fun c9 => ?_) (fun c9 => ?_)
  · refine jv_aloadn (j := 0) dX8_loose_12 rfl ?_
    refine jv_iconst (v := 1) dX8_loose_13 (by decide) ?_
    refine hv_callI (As := [.int 1]) dX8_loose_14 lk8_107 kX8_finds nX8_finds (Nat.le_of_ble_eq_true rfl) (Nat.le_of_ble_eq_true rfl) at_MO_0 rfl rfl rfl (fun _ _ e l => c_X8_finds  e l V) ?_
    intro r4 M3
    exact vf_ret dX8_loose_17 rfl
  refine jv_aloadn (j := 0) dX8_loose_18 rfl ?_
  refine hv_getR dX8_loose_19 fl8_7 at_MO_0 rfl ?_
  refine jv_iconst (v := 2) dX8_loose_22 (by decide) ?_
  refine hv_iald dX8_loose_23 at_MO_1 (by decide) ?_
  refine jv_iloadn (j := 1) dX8_loose_24 rfl ?_
  refine jv_iadd dX8_loose_25 ?_
  refine jv_sipush (v := 9999) dX8_loose_26 (by decide) ?_
  refine jw_ic_le (tgt := 38) dX8_loose_29 rfl (fun c29 => ?_) (fun c29 => ?_)
  · refine jv_iconst (v := 0) dX8_loose_38 (by decide) ?_
    refine jv_istoren (L' := [(2, .int 0), (0, .ref (V.1 0)), (1, .int x1)]) dX8_loose_39 (Nat.le_of_ble_eq_true rfl) rfl ?_
    refine vl_b1 (P := fun (Ml : pm_M) => pm_J X V mX8_loose 108 (pm_wld V skD Ml) 100 [(0, .ref (V.1 0))] []) (vf_j (fun g => jr_sub [1, 2, 0] rfl g) (wl_X8_loose_40 x1  0 M1)) ?_
    intro M5
    refine jv_aloadn (j := 0) dX8_loose_100 rfl ?_
    refine jv_iconst (v := 2) dX8_loose_101 (by decide) ?_
    refine hv_callI (As := [.int 2]) dX8_loose_102 lk8_187 kX8_all nX8_all (Nat.le_of_ble_eq_true rfl) (Nat.le_of_ble_eq_true rfl) at_MO_0 rfl rfl rfl (fun _ _ e l => c_X8_all  e l V) ?_
    intro r7 M6
    exact vf_ret dX8_loose_105 rfl
  refine jv_aloadn (j := 0) dX8_loose_32 rfl ?_
  refine jv_iconst (v := 3) dX8_loose_33 (by decide) ?_
  refine hv_callI (As := [.int 3]) dX8_loose_34 lk8_107 kX8_finds nX8_finds (Nat.le_of_ble_eq_true rfl) (Nat.le_of_ble_eq_true rfl) at_MO_0 rfl rfl rfl (fun _ _ e l => c_X8_finds  e l V) ?_
  intro r9 M8
  exact vf_ret dX8_loose_37 rfl
theorem c_X8_loose {M : pm_M} {x1 : Int32}  {r : Int32} {M' : pm_M} (h : f_X8_loose M x1 = some (r, M')) (l : Launch) (V : pm_V) : pm_Ci l V skD yX8_loose mX8_loose 108 [.ref (V.1 0), .int x1] M r M' := pm_metI (by decide) rfl (Nat.le_of_ble_eq_true rfl) h (fun _ => w_X8_loose M x1 )
def f_X8_lessens (M : pm_M) (x1 : Int32) (x2 : Int32) (x3 : Int32) : Option pm_M :=
  (pm_let ((30 + (6 * x1)) + x2) (fun z1 : Int32 => (pm_chk (pm_in z1 258) (pm_chk (pm_in z1 258) (pm_let (pm_up M 1 z1.toNatClampNeg ((M 1 z1.toNatClampNeg) - x3)) (fun M2 : pm_M => (some M2)))))))
set_option maxHeartbeats 4000000 in
set_option maxRecDepth 100000 in
theorem w_X8_lessens {X : pm_X} {V : pm_V} (M : pm_M) (x1 : Int32) (x2 : Int32) (x3 : Int32)  : pm_VF (f_X8_lessens M x1 x2 x3) (pm_Kv X V mX8_lessens 1 skD) (pm_J X V mX8_lessens 1 (pm_wld V skD M) 0 [(0, .ref (V.1 0)), (1, .int x1), (2, .int x2), (3, .int x3)] []) := by
  unfold f_X8_lessens
  refine jv_aloadn (j := 0) dX8_lessens_0 rfl ?_
  refine hv_getR dX8_lessens_1 fl8_7 at_MO_0 rfl ?_
  refine jv_bipush (v := 30) dX8_lessens_4 (by decide) ?_
  refine jv_bipush (v := 6) dX8_lessens_6 (by decide) ?_
  refine jv_iloadn (j := 1) dX8_lessens_8 rfl ?_
  refine jv_imul dX8_lessens_9 ?_
  refine jv_iadd dX8_lessens_10 ?_
  refine jv_iloadn (j := 2) dX8_lessens_11 rfl ?_
  refine jv_iadd dX8_lessens_12 ?_
  refine vf_letS (fun z1 => ?_)
  refine jv_dup2 dX8_lessens_13 rfl rfl ?_
  refine hv_ialdC dX8_lessens_14 at_MO_1 (fun _ => ?_)
  refine jv_iloadn (j := 3) dX8_lessens_15 rfl ?_
  refine jv_isub dX8_lessens_16 ?_
  refine hv_iastC dX8_lessens_17 at_MO_1 (fun _ => ?_)
  refine vf_letM (fun M2 => ?_)
  exact vf_vret dX8_lessens_18
theorem c_X8_lessens {M : pm_M} {x1 : Int32} {x2 : Int32} {x3 : Int32}  {M' : pm_M} (h : f_X8_lessens M x1 x2 x3 = some M') (l : Launch) (V : pm_V) : pm_Cv l V skD yX8_lessens mX8_lessens 1 [.ref (V.1 0), .int x1, .int x2, .int x3] M M' := pm_metV (by decide) rfl (Nat.le_of_ble_eq_true rfl) rfl h (fun _ => w_X8_lessens M x1 x2 x3 )
def lb_X8_clearsAll_18 (l2 : Int32) (ih : Int32 → Int32 → pm_M → Option (Int32 × pm_M)) : Int32 → Int32 → pm_M → Option (Int32 × pm_M) := fun (l1 : Int32) (l3 : Int32) (Ml : pm_M) =>
  (if (Ml 1 (0 : Int32).toNatClampNeg) ≤ l3 then (some (l1, Ml)) else (pm_chk (pm_in ((30 + (6 * l2)) + l3) 258) (pm_let (Ml 1 ((30 + (6 * l2)) + l3).toNatClampNeg) (fun z19002 : Int32 => (pm_chk (pm_in ((30 + (6 * l3)) + l2) 258) (pm_let (Ml 1 ((30 + (6 * l3)) + l2).toNatClampNeg) (fun z19003 : Int32 => (if z19003 ≤ z19002 then (pm_b1 (f_X8_lessens Ml l2 l3 z19003) (fun M19004 : pm_M => (pm_b1 (f_X8_lessens M19004 l3 l2 z19003) (fun M19005 : pm_M => (pm_let (l1 + (2 * z19003)) (fun z19006 : Int32 => (ih z19006 (l3 + 1) M19005))))))) else (pm_b1 (f_X8_lessens Ml l2 l3 z19002) (fun M19007 : pm_M => (pm_b1 (f_X8_lessens M19007 l3 l2 z19002) (fun M19008 : pm_M => (pm_let (l1 + (2 * z19002)) (fun z19009 : Int32 => (ih z19009 (l3 + 1) M19008)))))))))))))))
def lp_X8_clearsAll_18 (l2 : Int32) : Int32 → Int32 → pm_M → Option (Int32 × pm_M) := pm_it (fun _ _ _ => none) (lb_X8_clearsAll_18 l2) pm_F
def lb_X8_clearsAll_4  (ih : Int32 → Int32 → pm_M → Option (Int32 × pm_M)) : Int32 → Int32 → pm_M → Option (Int32 × pm_M) := fun (l1 : Int32) (l2 : Int32) (Ml : pm_M) =>
  (if (Ml 1 (0 : Int32).toNatClampNeg) ≤ l2 then (some (l1, Ml)) else (pm_let (l2 + 1) (fun z5002 : Int32 => (pm_b2 (lp_X8_clearsAll_18 l2 l1 z5002 Ml) (fun (l5003 : Int32) (M5004 : pm_M) => (ih l5003 (l2 + 1) M5004))))))
def lp_X8_clearsAll_4  : Int32 → Int32 → pm_M → Option (Int32 × pm_M) := pm_it (fun _ _ _ => none) (lb_X8_clearsAll_4 ) pm_F
def lb_X8_clearsAll_142 (l2 : Int32) (l3 : Int32) (ih : Int32 → Int32 → pm_M → Option (Int32 × pm_M)) : Int32 → Int32 → pm_M → Option (Int32 × pm_M) := fun (l1 : Int32) (l4 : Int32) (Ml : pm_M) =>
  (if (Ml 1 (0 : Int32).toNatClampNeg) ≤ l4 then (some (l1, Ml)) else (if l3 = l4 then (pm_chk (pm_in ((30 + (6 * l3)) + l4) 258) (if 0 ≤ (Ml 1 ((30 + (6 * l3)) + l4).toNatClampNeg) then (pm_chk (pm_in ((30 + (6 * l4)) + l2) 258) (if 0 ≤ (Ml 1 ((30 + (6 * l4)) + l2).toNatClampNeg) then (pm_b1 (f_X8_lessens Ml l2 l3 0) (fun M143002 : pm_M => (pm_b1 (f_X8_lessens M143002 l3 l4 0) (fun M143003 : pm_M => (pm_b1 (f_X8_lessens M143003 l4 l2 0) (fun M143004 : pm_M => (pm_let (l1 + (3 * 0)) (fun z143005 : Int32 => (ih z143005 (l4 + 1) M143004))))))))) else (pm_chk (pm_in ((30 + (6 * l4)) + l2) 258) (pm_let (Ml 1 ((30 + (6 * l4)) + l2).toNatClampNeg) (fun z143006 : Int32 => (pm_b1 (f_X8_lessens Ml l2 l3 z143006) (fun M143007 : pm_M => (pm_b1 (f_X8_lessens M143007 l3 l4 z143006) (fun M143008 : pm_M => (pm_b1 (f_X8_lessens M143008 l4 l2 z143006) (fun M143009 : pm_M => (pm_let (l1 + (3 * z143006)) (fun z143010 : Int32 => (ih z143010 (l4 + 1) M143009)))))))))))))) else (pm_chk (pm_in ((30 + (6 * l3)) + l4) 258) (pm_let (Ml 1 ((30 + (6 * l3)) + l4).toNatClampNeg) (fun z143011 : Int32 => (pm_chk (pm_in ((30 + (6 * l4)) + l2) 258) (if z143011 ≤ (Ml 1 ((30 + (6 * l4)) + l2).toNatClampNeg) then (pm_b1 (f_X8_lessens Ml l2 l3 z143011) (fun M143012 : pm_M => (pm_b1 (f_X8_lessens M143012 l3 l4 z143011) (fun M143013 : pm_M => (pm_b1 (f_X8_lessens M143013 l4 l2 z143011) (fun M143014 : pm_M => (pm_let (l1 + (3 * z143011)) (fun z143015 : Int32 => (ih z143015 (l4 + 1) M143014))))))))) else (pm_chk (pm_in ((30 + (6 * l4)) + l2) 258) (pm_let (Ml 1 ((30 + (6 * l4)) + l2).toNatClampNeg) (fun z143016 : Int32 => (pm_b1 (f_X8_lessens Ml l2 l3 z143016) (fun M143017 : pm_M => (pm_b1 (f_X8_lessens M143017 l3 l4 z143016) (fun M143018 : pm_M => (pm_b1 (f_X8_lessens M143018 l4 l2 z143016) (fun M143019 : pm_M => (pm_let (l1 + (3 * z143016)) (fun z143020 : Int32 => (ih z143020 (l4 + 1) M143019))))))))))))))))))) else (pm_chk (pm_in ((30 + (6 * l2)) + l3) 258) (pm_let (Ml 1 ((30 + (6 * l2)) + l3).toNatClampNeg) (fun z143021 : Int32 => (pm_chk (pm_in ((30 + (6 * l3)) + l4) 258) (if z143021 ≤ (Ml 1 ((30 + (6 * l3)) + l4).toNatClampNeg) then (pm_chk (pm_in ((30 + (6 * l4)) + l2) 258) (if z143021 ≤ (Ml 1 ((30 + (6 * l4)) + l2).toNatClampNeg) then (pm_b1 (f_X8_lessens Ml l2 l3 z143021) (fun M143022 : pm_M => (pm_b1 (f_X8_lessens M143022 l3 l4 z143021) (fun M143023 : pm_M => (pm_b1 (f_X8_lessens M143023 l4 l2 z143021) (fun M143024 : pm_M => (pm_let (l1 + (3 * z143021)) (fun z143025 : Int32 => (ih z143025 (l4 + 1) M143024))))))))) else (pm_chk (pm_in ((30 + (6 * l4)) + l2) 258) (pm_let (Ml 1 ((30 + (6 * l4)) + l2).toNatClampNeg) (fun z143026 : Int32 => (pm_b1 (f_X8_lessens Ml l2 l3 z143026) (fun M143027 : pm_M => (pm_b1 (f_X8_lessens M143027 l3 l4 z143026) (fun M143028 : pm_M => (pm_b1 (f_X8_lessens M143028 l4 l2 z143026) (fun M143029 : pm_M => (pm_let (l1 + (3 * z143026)) (fun z143030 : Int32 => (ih z143030 (l4 + 1) M143029)))))))))))))) else (pm_chk (pm_in ((30 + (6 * l3)) + l4) 258) (pm_let (Ml 1 ((30 + (6 * l3)) + l4).toNatClampNeg) (fun z143031 : Int32 => (pm_chk (pm_in ((30 + (6 * l4)) + l2) 258) (if z143031 ≤ (Ml 1 ((30 + (6 * l4)) + l2).toNatClampNeg) then (pm_b1 (f_X8_lessens Ml l2 l3 z143031) (fun M143032 : pm_M => (pm_b1 (f_X8_lessens M143032 l3 l4 z143031) (fun M143033 : pm_M => (pm_b1 (f_X8_lessens M143033 l4 l2 z143031) (fun M143034 : pm_M => (pm_let (l1 + (3 * z143031)) (fun z143035 : Int32 => (ih z143035 (l4 + 1) M143034))))))))) else (pm_chk (pm_in ((30 + (6 * l4)) + l2) 258) (pm_let (Ml 1 ((30 + (6 * l4)) + l2).toNatClampNeg) (fun z143036 : Int32 => (pm_b1 (f_X8_lessens Ml l2 l3 z143036) (fun M143037 : pm_M => (pm_b1 (f_X8_lessens M143037 l3 l4 z143036) (fun M143038 : pm_M => (pm_b1 (f_X8_lessens M143038 l4 l2 z143036) (fun M143039 : pm_M => (pm_let (l1 + (3 * z143036)) (fun z143040 : Int32 => (ih z143040 (l4 + 1) M143039))))))))))))))))))))))))
def lp_X8_clearsAll_142 (l2 : Int32) (l3 : Int32) : Int32 → Int32 → pm_M → Option (Int32 × pm_M) := pm_it (fun _ _ _ => none) (lb_X8_clearsAll_142 l2 l3) pm_F
def lb_X8_clearsAll_127 (l2 : Int32) (ih : Int32 → Int32 → pm_M → Option (Int32 × pm_M)) : Int32 → Int32 → pm_M → Option (Int32 × pm_M) := fun (l1 : Int32) (l3 : Int32) (Ml : pm_M) =>
  (if (Ml 1 (0 : Int32).toNatClampNeg) ≤ l3 then (some (l1, Ml)) else (pm_let (l2 + 1) (fun z128002 : Int32 => (pm_b2 (lp_X8_clearsAll_142 l2 l3 l1 z128002 Ml) (fun (l128003 : Int32) (M128004 : pm_M) => (ih l128003 (l3 + 1) M128004))))))
def lp_X8_clearsAll_127 (l2 : Int32) : Int32 → Int32 → pm_M → Option (Int32 × pm_M) := pm_it (fun _ _ _ => none) (lb_X8_clearsAll_127 l2) pm_F
def lb_X8_clearsAll_113  (ih : Int32 → Int32 → pm_M → Option (Int32 × pm_M)) : Int32 → Int32 → pm_M → Option (Int32 × pm_M) := fun (l1 : Int32) (l2 : Int32) (Ml : pm_M) =>
  (if (Ml 1 (0 : Int32).toNatClampNeg) ≤ l2 then (some (l1, Ml)) else (pm_let (l2 + 1) (fun z114002 : Int32 => (pm_b2 (lp_X8_clearsAll_127 l2 l1 z114002 Ml) (fun (l114003 : Int32) (M114004 : pm_M) => (ih l114003 (l2 + 1) M114004))))))
def lp_X8_clearsAll_113  : Int32 → Int32 → pm_M → Option (Int32 × pm_M) := pm_it (fun _ _ _ => none) (lb_X8_clearsAll_113 ) pm_F
def f_X8_clearsAll (M : pm_M) : Option (Int32 × pm_M) :=
  (pm_b2 (lp_X8_clearsAll_4  0 0 M) (fun (l1 : Int32) (M2 : pm_M) => (pm_b2 (lp_X8_clearsAll_113  l1 0 M2) (fun (l3 : Int32) (M4 : pm_M) => (some (l3, M4))))))
set_option maxHeartbeats 4000000 in
set_option maxRecDepth 100000 in
theorem wl_X8_clearsAll_18 {X : pm_X} {V : pm_V} (l2 : Int32)  : ∀ (l1 : Int32) (l3 : Int32) (Ml : pm_M), pm_VF (lp_X8_clearsAll_18 l2 l1 l3 Ml) (fun b => (fun (l1 : Int32) (Ml : pm_M) => pm_J X V mX8_clearsAll 2 (pm_wld V skD Ml) 105 [(0, .ref (V.1 0)), (1, .int l1), (2, .int l2)] []) b.1 b.2) (pm_J X V mX8_clearsAll 2 (pm_wld V skD Ml) 18 [(0, .ref (V.1 0)), (1, .int l1), (2, .int l2), (3, .int l3)] []) := by
  refine pm_it_ind (P := fun (f : Int32 → Int32 → pm_M → Option (Int32 × pm_M)) => ∀ (l1 : Int32) (l3 : Int32) (Ml : pm_M), pm_VF (f l1 l3 Ml) (fun b => (fun (l1 : Int32) (Ml : pm_M) => pm_J X V mX8_clearsAll 2 (pm_wld V skD Ml) 105 [(0, .ref (V.1 0)), (1, .int l1), (2, .int l2)] []) b.1 b.2) (pm_J X V mX8_clearsAll 2 (pm_wld V skD Ml) 18 [(0, .ref (V.1 0)), (1, .int l1), (2, .int l2), (3, .int l3)] [])) (fun _ _ _ => vf_none) (fun ih hih l1 l3 Ml => ?_) pm_F
  · unfold lb_X8_clearsAll_18
    refine jv_iloadn (j := 3) dX8_clearsAll_18 rfl ?_
    refine jv_aloadn (j := 0) dX8_clearsAll_19 rfl ?_
    refine hv_getR dX8_clearsAll_20 fl8_7 at_MO_0 rfl ?_
    refine jv_iconst (v := 0) dX8_clearsAll_23 (by decide) ?_
    refine hv_iald dX8_clearsAll_24 at_MO_1 (by decide) ?_
    refine jw_ic_ge (tgt := 105) dX8_clearsAll_25 rfl (fun c25 => ?_) (fun c25 => ?_)
    · exact vf_end (fun g => jr_sub [0, 1, 2] rfl g)
    refine jv_aloadn (j := 0) dX8_clearsAll_28 rfl ?_
    refine hv_getR dX8_clearsAll_29 fl8_7 at_MO_0 rfl ?_
    refine jv_bipush (v := 30) dX8_clearsAll_32 (by decide) ?_
    refine jv_bipush (v := 6) dX8_clearsAll_34 (by decide) ?_
    refine jv_iloadn (j := 2) dX8_clearsAll_36 rfl ?_
    refine jv_imul dX8_clearsAll_37 ?_
    refine jv_iadd dX8_clearsAll_38 ?_
    refine jv_iloadn (j := 3) dX8_clearsAll_39 rfl ?_
    refine jv_iadd dX8_clearsAll_40 ?_
    refine hv_ialdC dX8_clearsAll_41 at_MO_1 (fun _ => ?_)
    refine vf_letS (fun z19002 => ?_)
    refine jv_istore (L' := [(4, .int z19002), (0, .ref (V.1 0)), (1, .int l1), (2, .int l2), (3, .int l3)]) dX8_clearsAll_42 (Nat.le_of_ble_eq_true rfl) rfl ?_
    refine jv_aloadn (j := 1) dX8_clearsAll_44 rfl ?_
    refine hv_getR dX8_clearsAll_45 fl8_7 at_MO_0 rfl ?_
    refine jv_bipush (v := 30) dX8_clearsAll_48 (by decide) ?_
    refine jv_bipush (v := 6) dX8_clearsAll_50 (by decide) ?_
    refine jv_iloadn (j := 4) dX8_clearsAll_52 rfl ?_
    refine jv_imul dX8_clearsAll_53 ?_
    refine jv_iadd dX8_clearsAll_54 ?_
    refine jv_iloadn (j := 3) dX8_clearsAll_55 rfl ?_
    refine jv_iadd dX8_clearsAll_56 ?_
    refine hv_ialdC dX8_clearsAll_57 at_MO_1 (fun _ => ?_)
    refine vf_letS (fun z19003 => ?_)
    refine jv_istore (L' := [(5, .int z19003), (4, .int z19002), (0, .ref (V.1 0)), (1, .int l1), (2, .int l2), (3, .int l3)]) dX8_clearsAll_58 (Nat.le_of_ble_eq_true rfl) rfl ?_
    refine jv_iload (j := 1) dX8_clearsAll_60 rfl ?_
    refine jv_iload (j := 0) dX8_clearsAll_62 rfl ?_
    refine jw_ic_ge (tgt := 72) dX8_clearsAll_64 rfl (fun c64 => ?_) (fun c64 => ?_)
    · refine jv_iload (j := 0) dX8_clearsAll_72 rfl ?_
      refine jv_istore (L' := [(6, .int z19003), (5, .int z19003), (4, .int z19002), (0, .ref (V.1 0)), (1, .int l1), (2, .int l2), (3, .int l3)]) dX8_clearsAll_74 (Nat.le_of_ble_eq_true rfl) rfl ?_
      refine jv_aloadn (j := 3) dX8_clearsAll_76 rfl ?_
      refine jv_iloadn (j := 5) dX8_clearsAll_77 rfl ?_
      refine jv_iloadn (j := 6) dX8_clearsAll_78 rfl ?_
      refine jv_iload (j := 0) dX8_clearsAll_79 rfl ?_
      refine hv_callV (As := [.int l2, .int l3, .int z19003]) dX8_clearsAll_81 lk8_196 kX8_lessens nX8_lessens (Nat.le_of_ble_eq_true rfl) (Nat.le_of_ble_eq_true rfl) at_MO_0 rfl rfl rfl (fun _ e l => c_X8_lessens  e l V) ?_
      intro M19004
      refine jv_aloadn (j := 3) dX8_clearsAll_84 rfl ?_
      refine jv_iloadn (j := 6) dX8_clearsAll_85 rfl ?_
      refine jv_iloadn (j := 5) dX8_clearsAll_86 rfl ?_
      refine jv_iload (j := 0) dX8_clearsAll_87 rfl ?_
      refine hv_callV (As := [.int l3, .int l2, .int z19003]) dX8_clearsAll_89 lk8_196 kX8_lessens nX8_lessens (Nat.le_of_ble_eq_true rfl) (Nat.le_of_ble_eq_true rfl) at_MO_0 rfl rfl rfl (fun _ e l => c_X8_lessens  e l V) ?_
      intro M19005
      refine jv_iloadn (j := 4) dX8_clearsAll_92 rfl ?_
      refine jv_iconst (v := 2) dX8_clearsAll_93 (by decide) ?_
      refine jv_iload (j := 0) dX8_clearsAll_94 rfl ?_
      refine jv_imul dX8_clearsAll_96 ?_
      refine jv_iadd dX8_clearsAll_97 ?_
      refine vf_letS (fun z19006 => ?_)
      refine jv_istoren (L' := [(1, .int z19006), (6, .int z19003), (5, .int z19003), (4, .int z19002), (0, .ref (V.1 0)), (2, .int l2), (3, .int l3)]) dX8_clearsAll_98 (Nat.le_of_ble_eq_true rfl) rfl ?_
      refine jv_iinc (j := 6) (v := l3 + 1) (L' := [(3, .int (l3 + 1)), (1, .int z19006), (6, .int z19003), (5, .int z19003), (4, .int z19002), (0, .ref (V.1 0)), (2, .int l2)]) dX8_clearsAll_99 rfl rfl (Nat.le_of_ble_eq_true rfl) rfl ?_
      refine jv_goto (tgt := 18) dX8_clearsAll_102 rfl ?_
      exact vf_j (fun g => jr_sub [5, 1, 6, 0] rfl g) (hih z19006 (l3 + 1) M19005)
    refine jv_iload (j := 1) dX8_clearsAll_67 rfl ?_
    refine jv_goto (tgt := 74) dX8_clearsAll_69 rfl ?_
    refine jv_istore (L' := [(6, .int z19002), (5, .int z19003), (4, .int z19002), (0, .ref (V.1 0)), (1, .int l1), (2, .int l2), (3, .int l3)]) dX8_clearsAll_74 (Nat.le_of_ble_eq_true rfl) rfl ?_
    refine jv_aloadn (j := 3) dX8_clearsAll_76 rfl ?_
    refine jv_iloadn (j := 5) dX8_clearsAll_77 rfl ?_
    refine jv_iloadn (j := 6) dX8_clearsAll_78 rfl ?_
    refine jv_iload (j := 0) dX8_clearsAll_79 rfl ?_
    refine hv_callV (As := [.int l2, .int l3, .int z19002]) dX8_clearsAll_81 lk8_196 kX8_lessens nX8_lessens (Nat.le_of_ble_eq_true rfl) (Nat.le_of_ble_eq_true rfl) at_MO_0 rfl rfl rfl (fun _ e l => c_X8_lessens  e l V) ?_
    intro M19007
    refine jv_aloadn (j := 3) dX8_clearsAll_84 rfl ?_
    refine jv_iloadn (j := 6) dX8_clearsAll_85 rfl ?_
    refine jv_iloadn (j := 5) dX8_clearsAll_86 rfl ?_
    refine jv_iload (j := 0) dX8_clearsAll_87 rfl ?_
    refine hv_callV (As := [.int l3, .int l2, .int z19002]) dX8_clearsAll_89 lk8_196 kX8_lessens nX8_lessens (Nat.le_of_ble_eq_true rfl) (Nat.le_of_ble_eq_true rfl) at_MO_0 rfl rfl rfl (fun _ e l => c_X8_lessens  e l V) ?_
    intro M19008
    refine jv_iloadn (j := 4) dX8_clearsAll_92 rfl ?_
    refine jv_iconst (v := 2) dX8_clearsAll_93 (by decide) ?_
    refine jv_iload (j := 0) dX8_clearsAll_94 rfl ?_
    refine jv_imul dX8_clearsAll_96 ?_
    refine jv_iadd dX8_clearsAll_97 ?_
    refine vf_letS (fun z19009 => ?_)
    refine jv_istoren (L' := [(1, .int z19009), (6, .int z19002), (5, .int z19003), (4, .int z19002), (0, .ref (V.1 0)), (2, .int l2), (3, .int l3)]) dX8_clearsAll_98 (Nat.le_of_ble_eq_true rfl) rfl ?_
    refine jv_iinc (j := 6) (v := l3 + 1) (L' := [(3, .int (l3 + 1)), (1, .int z19009), (6, .int z19002), (5, .int z19003), (4, .int z19002), (0, .ref (V.1 0)), (2, .int l2)]) dX8_clearsAll_99 rfl rfl (Nat.le_of_ble_eq_true rfl) rfl ?_
    refine jv_goto (tgt := 18) dX8_clearsAll_102 rfl ?_
    exact vf_j (fun g => jr_sub [5, 1, 6, 0] rfl g) (hih z19009 (l3 + 1) M19008)
set_option maxHeartbeats 4000000 in
set_option maxRecDepth 100000 in
theorem wl_X8_clearsAll_4 {X : pm_X} {V : pm_V}   : ∀ (l1 : Int32) (l2 : Int32) (Ml : pm_M), pm_VF (lp_X8_clearsAll_4  l1 l2 Ml) (fun b => (fun (l1 : Int32) (Ml : pm_M) => pm_J X V mX8_clearsAll 2 (pm_wld V skD Ml) 111 [(0, .ref (V.1 0)), (1, .int l1)] []) b.1 b.2) (pm_J X V mX8_clearsAll 2 (pm_wld V skD Ml) 4 [(0, .ref (V.1 0)), (1, .int l1), (2, .int l2)] []) := by
  refine pm_it_ind (P := fun (f : Int32 → Int32 → pm_M → Option (Int32 × pm_M)) => ∀ (l1 : Int32) (l2 : Int32) (Ml : pm_M), pm_VF (f l1 l2 Ml) (fun b => (fun (l1 : Int32) (Ml : pm_M) => pm_J X V mX8_clearsAll 2 (pm_wld V skD Ml) 111 [(0, .ref (V.1 0)), (1, .int l1)] []) b.1 b.2) (pm_J X V mX8_clearsAll 2 (pm_wld V skD Ml) 4 [(0, .ref (V.1 0)), (1, .int l1), (2, .int l2)] [])) (fun _ _ _ => vf_none) (fun ih hih l1 l2 Ml => ?_) pm_F
  · unfold lb_X8_clearsAll_4
    refine jv_iloadn (j := 2) dX8_clearsAll_4 rfl ?_
    refine jv_aloadn (j := 0) dX8_clearsAll_5 rfl ?_
    refine hv_getR dX8_clearsAll_6 fl8_7 at_MO_0 rfl ?_
    refine jv_iconst (v := 0) dX8_clearsAll_9 (by decide) ?_
    refine hv_iald dX8_clearsAll_10 at_MO_1 (by decide) ?_
    refine jw_ic_ge (tgt := 111) dX8_clearsAll_11 rfl (fun c11 => ?_) (fun c11 => ?_)
    · exact vf_end (fun g => jr_sub [0, 1] rfl g)
    refine jv_iloadn (j := 2) dX8_clearsAll_14 rfl ?_
    refine jv_iconst (v := 1) dX8_clearsAll_15 (by decide) ?_
    refine jv_iadd dX8_clearsAll_16 ?_
    refine vf_letS (fun z5002 => ?_)
    refine jv_istoren (L' := [(3, .int z5002), (0, .ref (V.1 0)), (1, .int l1), (2, .int l2)]) dX8_clearsAll_17 (Nat.le_of_ble_eq_true rfl) rfl ?_
    refine vl_b2 (P := fun (l1 : Int32) (Ml : pm_M) => pm_J X V mX8_clearsAll 2 (pm_wld V skD Ml) 105 [(0, .ref (V.1 0)), (1, .int l1), (2, .int l2)] []) (vf_j (fun g => jr_sub [1, 2, 3, 0] rfl g) (wl_X8_clearsAll_18 l2  l1 z5002 Ml)) ?_
    intro l5003 M5004
    refine jv_iinc (j := 2) (v := l2 + 1) (L' := [(2, .int (l2 + 1)), (0, .ref (V.1 0)), (1, .int l5003)]) dX8_clearsAll_105 rfl rfl (Nat.le_of_ble_eq_true rfl) rfl ?_
    refine jv_goto (tgt := 4) dX8_clearsAll_108 rfl ?_
    exact vf_j (fun g => jr_sub [1, 2, 0] rfl g) (hih l5003 (l2 + 1) M5004)
set_option maxHeartbeats 4000000 in
set_option maxRecDepth 100000 in
theorem wl_X8_clearsAll_142 {X : pm_X} {V : pm_V} (l2 : Int32) (l3 : Int32)  : ∀ (l1 : Int32) (l4 : Int32) (Ml : pm_M), pm_VF (lp_X8_clearsAll_142 l2 l3 l1 l4 Ml) (fun b => (fun (l1 : Int32) (Ml : pm_M) => pm_J X V mX8_clearsAll 2 (pm_wld V skD Ml) 302 [(0, .ref (V.1 0)), (1, .int l1), (2, .int l2), (3, .int l3)] []) b.1 b.2) (pm_J X V mX8_clearsAll 2 (pm_wld V skD Ml) 142 [(0, .ref (V.1 0)), (1, .int l1), (2, .int l2), (3, .int l3), (4, .int l4)] []) := by
  refine pm_it_ind (P := fun (f : Int32 → Int32 → pm_M → Option (Int32 × pm_M)) => ∀ (l1 : Int32) (l4 : Int32) (Ml : pm_M), pm_VF (f l1 l4 Ml) (fun b => (fun (l1 : Int32) (Ml : pm_M) => pm_J X V mX8_clearsAll 2 (pm_wld V skD Ml) 302 [(0, .ref (V.1 0)), (1, .int l1), (2, .int l2), (3, .int l3)] []) b.1 b.2) (pm_J X V mX8_clearsAll 2 (pm_wld V skD Ml) 142 [(0, .ref (V.1 0)), (1, .int l1), (2, .int l2), (3, .int l3), (4, .int l4)] [])) (fun _ _ _ => vf_none) (fun ih hih l1 l4 Ml => ?_) pm_F
  · unfold lb_X8_clearsAll_142
    refine jv_iload (j := 4) dX8_clearsAll_142 rfl ?_
    refine jv_aloadn (j := 0) dX8_clearsAll_144 rfl ?_
    refine hv_getR dX8_clearsAll_145 fl8_7 at_MO_0 rfl ?_
    refine jv_iconst (v := 0) dX8_clearsAll_148 (by decide) ?_
    refine hv_iald dX8_clearsAll_149 at_MO_1 (by decide) ?_
    refine jw_ic_ge (tgt := 302) dX8_clearsAll_150 rfl (fun c150 => ?_) (fun c150 => ?_)
    · exact vf_end (fun g => jr_sub [0, 1, 2, 3] rfl g)
    refine jv_iloadn (j := 3) dX8_clearsAll_153 rfl ?_
    refine jv_iload (j := 4) dX8_clearsAll_154 rfl ?_
    refine jw_ic_ne (tgt := 163) dX8_clearsAll_156 rfl (fun c156 => ?_) (fun c156 => ?_)
    · refine jv_iconst (v := 0) dX8_clearsAll_159 (by decide) ?_
      refine jv_goto (tgt := 177) dX8_clearsAll_160 rfl ?_
      refine jv_istore (L' := [(5, .int 0), (0, .ref (V.1 0)), (1, .int l1), (2, .int l2), (3, .int l3), (4, .int l4)]) dX8_clearsAll_177 (Nat.le_of_ble_eq_true rfl) rfl ?_
      refine jv_aloadn (j := 1) dX8_clearsAll_179 rfl ?_
      refine hv_getR dX8_clearsAll_180 fl8_7 at_MO_0 rfl ?_
      refine jv_bipush (v := 30) dX8_clearsAll_183 (by decide) ?_
      refine jv_bipush (v := 6) dX8_clearsAll_185 (by decide) ?_
      refine jv_iloadn (j := 4) dX8_clearsAll_187 rfl ?_
      refine jv_imul dX8_clearsAll_188 ?_
      refine jv_iadd dX8_clearsAll_189 ?_
      refine jv_iload (j := 5) dX8_clearsAll_190 rfl ?_
      refine jv_iadd dX8_clearsAll_192 ?_
      refine hv_ialdC dX8_clearsAll_193 at_MO_1 (fun _ => ?_)
      refine jv_iload (j := 0) dX8_clearsAll_194 rfl ?_
      refine jw_ic_ge (tgt := 217) dX8_clearsAll_196 rfl (fun c196 => ?_) (fun c196 => ?_)
      · refine jv_iload (j := 0) dX8_clearsAll_217 rfl ?_
        refine jv_istore (L' := [(5, .int 0), (0, .ref (V.1 0)), (1, .int l1), (2, .int l2), (3, .int l3), (4, .int l4)]) dX8_clearsAll_219 (Nat.le_of_ble_eq_true rfl) rfl ?_
        refine jv_aloadn (j := 1) dX8_clearsAll_221 rfl ?_
        refine hv_getR dX8_clearsAll_222 fl8_7 at_MO_0 rfl ?_
        refine jv_bipush (v := 30) dX8_clearsAll_225 (by decide) ?_
        refine jv_bipush (v := 6) dX8_clearsAll_227 (by decide) ?_
        refine jv_iload (j := 5) dX8_clearsAll_229 rfl ?_
        refine jv_imul dX8_clearsAll_231 ?_
        refine jv_iadd dX8_clearsAll_232 ?_
        refine jv_iloadn (j := 3) dX8_clearsAll_233 rfl ?_
        refine jv_iadd dX8_clearsAll_234 ?_
        refine hv_ialdC dX8_clearsAll_235 at_MO_1 (fun _ => ?_)
        refine jv_iload (j := 0) dX8_clearsAll_236 rfl ?_
        refine jw_ic_ge (tgt := 259) dX8_clearsAll_238 rfl (fun c238 => ?_) (fun c238 => ?_)
        · refine jv_iload (j := 0) dX8_clearsAll_259 rfl ?_
          refine jv_istore (L' := [(5, .int 0), (0, .ref (V.1 0)), (1, .int l1), (2, .int l2), (3, .int l3), (4, .int l4)]) dX8_clearsAll_261 (Nat.le_of_ble_eq_true rfl) rfl ?_
          refine jv_aloadn (j := 1) dX8_clearsAll_263 rfl ?_
          refine jv_iloadn (j := 3) dX8_clearsAll_264 rfl ?_
          refine jv_iloadn (j := 4) dX8_clearsAll_265 rfl ?_
          refine jv_iload (j := 0) dX8_clearsAll_266 rfl ?_
          refine hv_callV (As := [.int l2, .int l3, .int 0]) dX8_clearsAll_268 lk8_196 kX8_lessens nX8_lessens (Nat.le_of_ble_eq_true rfl) (Nat.le_of_ble_eq_true rfl) at_MO_0 rfl rfl rfl (fun _ e l => c_X8_lessens  e l V) ?_
          intro M143002
          refine jv_aloadn (j := 1) dX8_clearsAll_271 rfl ?_
          refine jv_iloadn (j := 4) dX8_clearsAll_272 rfl ?_
          refine jv_iload (j := 5) dX8_clearsAll_273 rfl ?_
          refine jv_iload (j := 0) dX8_clearsAll_275 rfl ?_
          refine hv_callV (As := [.int l3, .int l4, .int 0]) dX8_clearsAll_277 lk8_196 kX8_lessens nX8_lessens (Nat.le_of_ble_eq_true rfl) (Nat.le_of_ble_eq_true rfl) at_MO_0 rfl rfl rfl (fun _ e l => c_X8_lessens  e l V) ?_
          intro M143003
          refine jv_aloadn (j := 1) dX8_clearsAll_280 rfl ?_
          refine jv_iload (j := 5) dX8_clearsAll_281 rfl ?_
          refine jv_iloadn (j := 3) dX8_clearsAll_283 rfl ?_
          refine jv_iload (j := 0) dX8_clearsAll_284 rfl ?_
          refine hv_callV (As := [.int l4, .int l2, .int 0]) dX8_clearsAll_286 lk8_196 kX8_lessens nX8_lessens (Nat.le_of_ble_eq_true rfl) (Nat.le_of_ble_eq_true rfl) at_MO_0 rfl rfl rfl (fun _ e l => c_X8_lessens  e l V) ?_
          intro M143004
          refine jv_iloadn (j := 2) dX8_clearsAll_289 rfl ?_
          refine jv_iconst (v := 3) dX8_clearsAll_290 (by decide) ?_
          refine jv_iload (j := 0) dX8_clearsAll_291 rfl ?_
          refine jv_imul dX8_clearsAll_293 ?_
          refine jv_iadd dX8_clearsAll_294 ?_
          refine vf_letS (fun z143005 => ?_)
          refine jv_istoren (L' := [(1, .int z143005), (5, .int 0), (0, .ref (V.1 0)), (2, .int l2), (3, .int l3), (4, .int l4)]) dX8_clearsAll_295 (Nat.le_of_ble_eq_true rfl) rfl ?_
          refine jv_iinc (j := 5) (v := l4 + 1) (L' := [(4, .int (l4 + 1)), (1, .int z143005), (5, .int 0), (0, .ref (V.1 0)), (2, .int l2), (3, .int l3)]) dX8_clearsAll_296 rfl rfl (Nat.le_of_ble_eq_true rfl) rfl ?_
          refine jv_goto (tgt := 142) dX8_clearsAll_299 rfl ?_
          exact vf_j (fun g => jr_sub [3, 1, 4, 5, 0] rfl g) (hih z143005 (l4 + 1) M143004)
        refine jv_aloadn (j := 1) dX8_clearsAll_241 rfl ?_
        refine hv_getR dX8_clearsAll_242 fl8_7 at_MO_0 rfl ?_
        refine jv_bipush (v := 30) dX8_clearsAll_245 (by decide) ?_
        refine jv_bipush (v := 6) dX8_clearsAll_247 (by decide) ?_
        refine jv_iload (j := 5) dX8_clearsAll_249 rfl ?_
        refine jv_imul dX8_clearsAll_251 ?_
        refine jv_iadd dX8_clearsAll_252 ?_
        refine jv_iloadn (j := 3) dX8_clearsAll_253 rfl ?_
        refine jv_iadd dX8_clearsAll_254 ?_
        refine hv_ialdC dX8_clearsAll_255 at_MO_1 (fun _ => ?_)
        refine jv_goto (tgt := 261) dX8_clearsAll_256 rfl ?_
        refine vf_letS (fun z143006 => ?_)
        refine jv_istore (L' := [(5, .int z143006), (0, .ref (V.1 0)), (1, .int l1), (2, .int l2), (3, .int l3), (4, .int l4)]) dX8_clearsAll_261 (Nat.le_of_ble_eq_true rfl) rfl ?_
        refine jv_aloadn (j := 1) dX8_clearsAll_263 rfl ?_
        refine jv_iloadn (j := 3) dX8_clearsAll_264 rfl ?_
        refine jv_iloadn (j := 4) dX8_clearsAll_265 rfl ?_
        refine jv_iload (j := 0) dX8_clearsAll_266 rfl ?_
        refine hv_callV (As := [.int l2, .int l3, .int z143006]) dX8_clearsAll_268 lk8_196 kX8_lessens nX8_lessens (Nat.le_of_ble_eq_true rfl) (Nat.le_of_ble_eq_true rfl) at_MO_0 rfl rfl rfl (fun _ e l => c_X8_lessens  e l V) ?_
        intro M143007
        refine jv_aloadn (j := 1) dX8_clearsAll_271 rfl ?_
        refine jv_iloadn (j := 4) dX8_clearsAll_272 rfl ?_
        refine jv_iload (j := 5) dX8_clearsAll_273 rfl ?_
        refine jv_iload (j := 0) dX8_clearsAll_275 rfl ?_
        refine hv_callV (As := [.int l3, .int l4, .int z143006]) dX8_clearsAll_277 lk8_196 kX8_lessens nX8_lessens (Nat.le_of_ble_eq_true rfl) (Nat.le_of_ble_eq_true rfl) at_MO_0 rfl rfl rfl (fun _ e l => c_X8_lessens  e l V) ?_
        intro M143008
        refine jv_aloadn (j := 1) dX8_clearsAll_280 rfl ?_
        refine jv_iload (j := 5) dX8_clearsAll_281 rfl ?_
        refine jv_iloadn (j := 3) dX8_clearsAll_283 rfl ?_
        refine jv_iload (j := 0) dX8_clearsAll_284 rfl ?_
        refine hv_callV (As := [.int l4, .int l2, .int z143006]) dX8_clearsAll_286 lk8_196 kX8_lessens nX8_lessens (Nat.le_of_ble_eq_true rfl) (Nat.le_of_ble_eq_true rfl) at_MO_0 rfl rfl rfl (fun _ e l => c_X8_lessens  e l V) ?_
        intro M143009
        refine jv_iloadn (j := 2) dX8_clearsAll_289 rfl ?_
        refine jv_iconst (v := 3) dX8_clearsAll_290 (by decide) ?_
        refine jv_iload (j := 0) dX8_clearsAll_291 rfl ?_
        refine jv_imul dX8_clearsAll_293 ?_
        refine jv_iadd dX8_clearsAll_294 ?_
        refine vf_letS (fun z143010 => ?_)
        refine jv_istoren (L' := [(1, .int z143010), (5, .int z143006), (0, .ref (V.1 0)), (2, .int l2), (3, .int l3), (4, .int l4)]) dX8_clearsAll_295 (Nat.le_of_ble_eq_true rfl) rfl ?_
        refine jv_iinc (j := 5) (v := l4 + 1) (L' := [(4, .int (l4 + 1)), (1, .int z143010), (5, .int z143006), (0, .ref (V.1 0)), (2, .int l2), (3, .int l3)]) dX8_clearsAll_296 rfl rfl (Nat.le_of_ble_eq_true rfl) rfl ?_
        refine jv_goto (tgt := 142) dX8_clearsAll_299 rfl ?_
        exact vf_j (fun g => jr_sub [3, 1, 4, 5, 0] rfl g) (hih z143010 (l4 + 1) M143009)
      refine jv_aloadn (j := 1) dX8_clearsAll_199 rfl ?_
      refine hv_getR dX8_clearsAll_200 fl8_7 at_MO_0 rfl ?_
      refine jv_bipush (v := 30) dX8_clearsAll_203 (by decide) ?_
      refine jv_bipush (v := 6) dX8_clearsAll_205 (by decide) ?_
      refine jv_iloadn (j := 4) dX8_clearsAll_207 rfl ?_
      refine jv_imul dX8_clearsAll_208 ?_
      refine jv_iadd dX8_clearsAll_209 ?_
      refine jv_iload (j := 5) dX8_clearsAll_210 rfl ?_
      refine jv_iadd dX8_clearsAll_212 ?_
      refine hv_ialdC dX8_clearsAll_213 at_MO_1 (fun _ => ?_)
      refine jv_goto (tgt := 219) dX8_clearsAll_214 rfl ?_
      refine vf_letS (fun z143011 => ?_)
      refine jv_istore (L' := [(5, .int z143011), (0, .ref (V.1 0)), (1, .int l1), (2, .int l2), (3, .int l3), (4, .int l4)]) dX8_clearsAll_219 (Nat.le_of_ble_eq_true rfl) rfl ?_
      refine jv_aloadn (j := 1) dX8_clearsAll_221 rfl ?_
      refine hv_getR dX8_clearsAll_222 fl8_7 at_MO_0 rfl ?_
      refine jv_bipush (v := 30) dX8_clearsAll_225 (by decide) ?_
      refine jv_bipush (v := 6) dX8_clearsAll_227 (by decide) ?_
      refine jv_iload (j := 5) dX8_clearsAll_229 rfl ?_
      refine jv_imul dX8_clearsAll_231 ?_
      refine jv_iadd dX8_clearsAll_232 ?_
      refine jv_iloadn (j := 3) dX8_clearsAll_233 rfl ?_
      refine jv_iadd dX8_clearsAll_234 ?_
      refine hv_ialdC dX8_clearsAll_235 at_MO_1 (fun _ => ?_)
      refine jv_iload (j := 0) dX8_clearsAll_236 rfl ?_
      refine jw_ic_ge (tgt := 259) dX8_clearsAll_238 rfl (fun c238 => ?_) (fun c238 => ?_)
      · refine jv_iload (j := 0) dX8_clearsAll_259 rfl ?_
        refine jv_istore (L' := [(5, .int z143011), (0, .ref (V.1 0)), (1, .int l1), (2, .int l2), (3, .int l3), (4, .int l4)]) dX8_clearsAll_261 (Nat.le_of_ble_eq_true rfl) rfl ?_
        refine jv_aloadn (j := 1) dX8_clearsAll_263 rfl ?_
        refine jv_iloadn (j := 3) dX8_clearsAll_264 rfl ?_
        refine jv_iloadn (j := 4) dX8_clearsAll_265 rfl ?_
        refine jv_iload (j := 0) dX8_clearsAll_266 rfl ?_
        refine hv_callV (As := [.int l2, .int l3, .int z143011]) dX8_clearsAll_268 lk8_196 kX8_lessens nX8_lessens (Nat.le_of_ble_eq_true rfl) (Nat.le_of_ble_eq_true rfl) at_MO_0 rfl rfl rfl (fun _ e l => c_X8_lessens  e l V) ?_
        intro M143012
        refine jv_aloadn (j := 1) dX8_clearsAll_271 rfl ?_
        refine jv_iloadn (j := 4) dX8_clearsAll_272 rfl ?_
        refine jv_iload (j := 5) dX8_clearsAll_273 rfl ?_
        refine jv_iload (j := 0) dX8_clearsAll_275 rfl ?_
        refine hv_callV (As := [.int l3, .int l4, .int z143011]) dX8_clearsAll_277 lk8_196 kX8_lessens nX8_lessens (Nat.le_of_ble_eq_true rfl) (Nat.le_of_ble_eq_true rfl) at_MO_0 rfl rfl rfl (fun _ e l => c_X8_lessens  e l V) ?_
        intro M143013
        refine jv_aloadn (j := 1) dX8_clearsAll_280 rfl ?_
        refine jv_iload (j := 5) dX8_clearsAll_281 rfl ?_
        refine jv_iloadn (j := 3) dX8_clearsAll_283 rfl ?_
        refine jv_iload (j := 0) dX8_clearsAll_284 rfl ?_
        refine hv_callV (As := [.int l4, .int l2, .int z143011]) dX8_clearsAll_286 lk8_196 kX8_lessens nX8_lessens (Nat.le_of_ble_eq_true rfl) (Nat.le_of_ble_eq_true rfl) at_MO_0 rfl rfl rfl (fun _ e l => c_X8_lessens  e l V) ?_
        intro M143014
        refine jv_iloadn (j := 2) dX8_clearsAll_289 rfl ?_
        refine jv_iconst (v := 3) dX8_clearsAll_290 (by decide) ?_
        refine jv_iload (j := 0) dX8_clearsAll_291 rfl ?_
        refine jv_imul dX8_clearsAll_293 ?_
        refine jv_iadd dX8_clearsAll_294 ?_
        refine vf_letS (fun z143015 => ?_)
        refine jv_istoren (L' := [(1, .int z143015), (5, .int z143011), (0, .ref (V.1 0)), (2, .int l2), (3, .int l3), (4, .int l4)]) dX8_clearsAll_295 (Nat.le_of_ble_eq_true rfl) rfl ?_
        refine jv_iinc (j := 5) (v := l4 + 1) (L' := [(4, .int (l4 + 1)), (1, .int z143015), (5, .int z143011), (0, .ref (V.1 0)), (2, .int l2), (3, .int l3)]) dX8_clearsAll_296 rfl rfl (Nat.le_of_ble_eq_true rfl) rfl ?_
        refine jv_goto (tgt := 142) dX8_clearsAll_299 rfl ?_
        exact vf_j (fun g => jr_sub [3, 1, 4, 5, 0] rfl g) (hih z143015 (l4 + 1) M143014)
      refine jv_aloadn (j := 1) dX8_clearsAll_241 rfl ?_
      refine hv_getR dX8_clearsAll_242 fl8_7 at_MO_0 rfl ?_
      refine jv_bipush (v := 30) dX8_clearsAll_245 (by decide) ?_
      refine jv_bipush (v := 6) dX8_clearsAll_247 (by decide) ?_
      refine jv_iload (j := 5) dX8_clearsAll_249 rfl ?_
      refine jv_imul dX8_clearsAll_251 ?_
      refine jv_iadd dX8_clearsAll_252 ?_
      refine jv_iloadn (j := 3) dX8_clearsAll_253 rfl ?_
      refine jv_iadd dX8_clearsAll_254 ?_
      refine hv_ialdC dX8_clearsAll_255 at_MO_1 (fun _ => ?_)
      refine jv_goto (tgt := 261) dX8_clearsAll_256 rfl ?_
      refine vf_letS (fun z143016 => ?_)
      refine jv_istore (L' := [(5, .int z143016), (0, .ref (V.1 0)), (1, .int l1), (2, .int l2), (3, .int l3), (4, .int l4)]) dX8_clearsAll_261 (Nat.le_of_ble_eq_true rfl) rfl ?_
      refine jv_aloadn (j := 1) dX8_clearsAll_263 rfl ?_
      refine jv_iloadn (j := 3) dX8_clearsAll_264 rfl ?_
      refine jv_iloadn (j := 4) dX8_clearsAll_265 rfl ?_
      refine jv_iload (j := 0) dX8_clearsAll_266 rfl ?_
      refine hv_callV (As := [.int l2, .int l3, .int z143016]) dX8_clearsAll_268 lk8_196 kX8_lessens nX8_lessens (Nat.le_of_ble_eq_true rfl) (Nat.le_of_ble_eq_true rfl) at_MO_0 rfl rfl rfl (fun _ e l => c_X8_lessens  e l V) ?_
      intro M143017
      refine jv_aloadn (j := 1) dX8_clearsAll_271 rfl ?_
      refine jv_iloadn (j := 4) dX8_clearsAll_272 rfl ?_
      refine jv_iload (j := 5) dX8_clearsAll_273 rfl ?_
      refine jv_iload (j := 0) dX8_clearsAll_275 rfl ?_
      refine hv_callV (As := [.int l3, .int l4, .int z143016]) dX8_clearsAll_277 lk8_196 kX8_lessens nX8_lessens (Nat.le_of_ble_eq_true rfl) (Nat.le_of_ble_eq_true rfl) at_MO_0 rfl rfl rfl (fun _ e l => c_X8_lessens  e l V) ?_
      intro M143018
      refine jv_aloadn (j := 1) dX8_clearsAll_280 rfl ?_
      refine jv_iload (j := 5) dX8_clearsAll_281 rfl ?_
      refine jv_iloadn (j := 3) dX8_clearsAll_283 rfl ?_
      refine jv_iload (j := 0) dX8_clearsAll_284 rfl ?_
      refine hv_callV (As := [.int l4, .int l2, .int z143016]) dX8_clearsAll_286 lk8_196 kX8_lessens nX8_lessens (Nat.le_of_ble_eq_true rfl) (Nat.le_of_ble_eq_true rfl) at_MO_0 rfl rfl rfl (fun _ e l => c_X8_lessens  e l V) ?_
      intro M143019
      refine jv_iloadn (j := 2) dX8_clearsAll_289 rfl ?_
      refine jv_iconst (v := 3) dX8_clearsAll_290 (by decide) ?_
      refine jv_iload (j := 0) dX8_clearsAll_291 rfl ?_
      refine jv_imul dX8_clearsAll_293 ?_
      refine jv_iadd dX8_clearsAll_294 ?_
      refine vf_letS (fun z143020 => ?_)
      refine jv_istoren (L' := [(1, .int z143020), (5, .int z143016), (0, .ref (V.1 0)), (2, .int l2), (3, .int l3), (4, .int l4)]) dX8_clearsAll_295 (Nat.le_of_ble_eq_true rfl) rfl ?_
      refine jv_iinc (j := 5) (v := l4 + 1) (L' := [(4, .int (l4 + 1)), (1, .int z143020), (5, .int z143016), (0, .ref (V.1 0)), (2, .int l2), (3, .int l3)]) dX8_clearsAll_296 rfl rfl (Nat.le_of_ble_eq_true rfl) rfl ?_
      refine jv_goto (tgt := 142) dX8_clearsAll_299 rfl ?_
      exact vf_j (fun g => jr_sub [3, 1, 4, 5, 0] rfl g) (hih z143020 (l4 + 1) M143019)
    refine jv_aloadn (j := 0) dX8_clearsAll_163 rfl ?_
    refine hv_getR dX8_clearsAll_164 fl8_7 at_MO_0 rfl ?_
    refine jv_bipush (v := 30) dX8_clearsAll_167 (by decide) ?_
    refine jv_bipush (v := 6) dX8_clearsAll_169 (by decide) ?_
    refine jv_iloadn (j := 2) dX8_clearsAll_171 rfl ?_
    refine jv_imul dX8_clearsAll_172 ?_
    refine jv_iadd dX8_clearsAll_173 ?_
    refine jv_iloadn (j := 3) dX8_clearsAll_174 rfl ?_
    refine jv_iadd dX8_clearsAll_175 ?_
    refine hv_ialdC dX8_clearsAll_176 at_MO_1 (fun _ => ?_)
    refine vf_letS (fun z143021 => ?_)
    refine jv_istore (L' := [(5, .int z143021), (0, .ref (V.1 0)), (1, .int l1), (2, .int l2), (3, .int l3), (4, .int l4)]) dX8_clearsAll_177 (Nat.le_of_ble_eq_true rfl) rfl ?_
    refine jv_aloadn (j := 1) dX8_clearsAll_179 rfl ?_
    refine hv_getR dX8_clearsAll_180 fl8_7 at_MO_0 rfl ?_
    refine jv_bipush (v := 30) dX8_clearsAll_183 (by decide) ?_
    refine jv_bipush (v := 6) dX8_clearsAll_185 (by decide) ?_
    refine jv_iloadn (j := 4) dX8_clearsAll_187 rfl ?_
    refine jv_imul dX8_clearsAll_188 ?_
    refine jv_iadd dX8_clearsAll_189 ?_
    refine jv_iload (j := 5) dX8_clearsAll_190 rfl ?_
    refine jv_iadd dX8_clearsAll_192 ?_
    refine hv_ialdC dX8_clearsAll_193 at_MO_1 (fun _ => ?_)
    refine jv_iload (j := 0) dX8_clearsAll_194 rfl ?_
    refine jw_ic_ge (tgt := 217) dX8_clearsAll_196 rfl (fun c196 => ?_) (fun c196 => ?_)
    · refine jv_iload (j := 0) dX8_clearsAll_217 rfl ?_
      refine jv_istore (L' := [(5, .int z143021), (0, .ref (V.1 0)), (1, .int l1), (2, .int l2), (3, .int l3), (4, .int l4)]) dX8_clearsAll_219 (Nat.le_of_ble_eq_true rfl) rfl ?_
      refine jv_aloadn (j := 1) dX8_clearsAll_221 rfl ?_
      refine hv_getR dX8_clearsAll_222 fl8_7 at_MO_0 rfl ?_
      refine jv_bipush (v := 30) dX8_clearsAll_225 (by decide) ?_
      refine jv_bipush (v := 6) dX8_clearsAll_227 (by decide) ?_
      refine jv_iload (j := 5) dX8_clearsAll_229 rfl ?_
      refine jv_imul dX8_clearsAll_231 ?_
      refine jv_iadd dX8_clearsAll_232 ?_
      refine jv_iloadn (j := 3) dX8_clearsAll_233 rfl ?_
      refine jv_iadd dX8_clearsAll_234 ?_
      refine hv_ialdC dX8_clearsAll_235 at_MO_1 (fun _ => ?_)
      refine jv_iload (j := 0) dX8_clearsAll_236 rfl ?_
      refine jw_ic_ge (tgt := 259) dX8_clearsAll_238 rfl (fun c238 => ?_) (fun c238 => ?_)
      · refine jv_iload (j := 0) dX8_clearsAll_259 rfl ?_
        refine jv_istore (L' := [(5, .int z143021), (0, .ref (V.1 0)), (1, .int l1), (2, .int l2), (3, .int l3), (4, .int l4)]) dX8_clearsAll_261 (Nat.le_of_ble_eq_true rfl) rfl ?_
        refine jv_aloadn (j := 1) dX8_clearsAll_263 rfl ?_
        refine jv_iloadn (j := 3) dX8_clearsAll_264 rfl ?_
        refine jv_iloadn (j := 4) dX8_clearsAll_265 rfl ?_
        refine jv_iload (j := 0) dX8_clearsAll_266 rfl ?_
        refine hv_callV (As := [.int l2, .int l3, .int z143021]) dX8_clearsAll_268 lk8_196 kX8_lessens nX8_lessens (Nat.le_of_ble_eq_true rfl) (Nat.le_of_ble_eq_true rfl) at_MO_0 rfl rfl rfl (fun _ e l => c_X8_lessens  e l V) ?_
        intro M143022
        refine jv_aloadn (j := 1) dX8_clearsAll_271 rfl ?_
        refine jv_iloadn (j := 4) dX8_clearsAll_272 rfl ?_
        refine jv_iload (j := 5) dX8_clearsAll_273 rfl ?_
        refine jv_iload (j := 0) dX8_clearsAll_275 rfl ?_
        refine hv_callV (As := [.int l3, .int l4, .int z143021]) dX8_clearsAll_277 lk8_196 kX8_lessens nX8_lessens (Nat.le_of_ble_eq_true rfl) (Nat.le_of_ble_eq_true rfl) at_MO_0 rfl rfl rfl (fun _ e l => c_X8_lessens  e l V) ?_
        intro M143023
        refine jv_aloadn (j := 1) dX8_clearsAll_280 rfl ?_
        refine jv_iload (j := 5) dX8_clearsAll_281 rfl ?_
        refine jv_iloadn (j := 3) dX8_clearsAll_283 rfl ?_
        refine jv_iload (j := 0) dX8_clearsAll_284 rfl ?_
        refine hv_callV (As := [.int l4, .int l2, .int z143021]) dX8_clearsAll_286 lk8_196 kX8_lessens nX8_lessens (Nat.le_of_ble_eq_true rfl) (Nat.le_of_ble_eq_true rfl) at_MO_0 rfl rfl rfl (fun _ e l => c_X8_lessens  e l V) ?_
        intro M143024
        refine jv_iloadn (j := 2) dX8_clearsAll_289 rfl ?_
        refine jv_iconst (v := 3) dX8_clearsAll_290 (by decide) ?_
        refine jv_iload (j := 0) dX8_clearsAll_291 rfl ?_
        refine jv_imul dX8_clearsAll_293 ?_
        refine jv_iadd dX8_clearsAll_294 ?_
        refine vf_letS (fun z143025 => ?_)
        refine jv_istoren (L' := [(1, .int z143025), (5, .int z143021), (0, .ref (V.1 0)), (2, .int l2), (3, .int l3), (4, .int l4)]) dX8_clearsAll_295 (Nat.le_of_ble_eq_true rfl) rfl ?_
        refine jv_iinc (j := 5) (v := l4 + 1) (L' := [(4, .int (l4 + 1)), (1, .int z143025), (5, .int z143021), (0, .ref (V.1 0)), (2, .int l2), (3, .int l3)]) dX8_clearsAll_296 rfl rfl (Nat.le_of_ble_eq_true rfl) rfl ?_
        refine jv_goto (tgt := 142) dX8_clearsAll_299 rfl ?_
        exact vf_j (fun g => jr_sub [3, 1, 4, 5, 0] rfl g) (hih z143025 (l4 + 1) M143024)
      refine jv_aloadn (j := 1) dX8_clearsAll_241 rfl ?_
      refine hv_getR dX8_clearsAll_242 fl8_7 at_MO_0 rfl ?_
      refine jv_bipush (v := 30) dX8_clearsAll_245 (by decide) ?_
      refine jv_bipush (v := 6) dX8_clearsAll_247 (by decide) ?_
      refine jv_iload (j := 5) dX8_clearsAll_249 rfl ?_
      refine jv_imul dX8_clearsAll_251 ?_
      refine jv_iadd dX8_clearsAll_252 ?_
      refine jv_iloadn (j := 3) dX8_clearsAll_253 rfl ?_
      refine jv_iadd dX8_clearsAll_254 ?_
      refine hv_ialdC dX8_clearsAll_255 at_MO_1 (fun _ => ?_)
      refine jv_goto (tgt := 261) dX8_clearsAll_256 rfl ?_
      refine vf_letS (fun z143026 => ?_)
      refine jv_istore (L' := [(5, .int z143026), (0, .ref (V.1 0)), (1, .int l1), (2, .int l2), (3, .int l3), (4, .int l4)]) dX8_clearsAll_261 (Nat.le_of_ble_eq_true rfl) rfl ?_
      refine jv_aloadn (j := 1) dX8_clearsAll_263 rfl ?_
      refine jv_iloadn (j := 3) dX8_clearsAll_264 rfl ?_
      refine jv_iloadn (j := 4) dX8_clearsAll_265 rfl ?_
      refine jv_iload (j := 0) dX8_clearsAll_266 rfl ?_
      refine hv_callV (As := [.int l2, .int l3, .int z143026]) dX8_clearsAll_268 lk8_196 kX8_lessens nX8_lessens (Nat.le_of_ble_eq_true rfl) (Nat.le_of_ble_eq_true rfl) at_MO_0 rfl rfl rfl (fun _ e l => c_X8_lessens  e l V) ?_
      intro M143027
      refine jv_aloadn (j := 1) dX8_clearsAll_271 rfl ?_
      refine jv_iloadn (j := 4) dX8_clearsAll_272 rfl ?_
      refine jv_iload (j := 5) dX8_clearsAll_273 rfl ?_
      refine jv_iload (j := 0) dX8_clearsAll_275 rfl ?_
      refine hv_callV (As := [.int l3, .int l4, .int z143026]) dX8_clearsAll_277 lk8_196 kX8_lessens nX8_lessens (Nat.le_of_ble_eq_true rfl) (Nat.le_of_ble_eq_true rfl) at_MO_0 rfl rfl rfl (fun _ e l => c_X8_lessens  e l V) ?_
      intro M143028
      refine jv_aloadn (j := 1) dX8_clearsAll_280 rfl ?_
      refine jv_iload (j := 5) dX8_clearsAll_281 rfl ?_
      refine jv_iloadn (j := 3) dX8_clearsAll_283 rfl ?_
      refine jv_iload (j := 0) dX8_clearsAll_284 rfl ?_
      refine hv_callV (As := [.int l4, .int l2, .int z143026]) dX8_clearsAll_286 lk8_196 kX8_lessens nX8_lessens (Nat.le_of_ble_eq_true rfl) (Nat.le_of_ble_eq_true rfl) at_MO_0 rfl rfl rfl (fun _ e l => c_X8_lessens  e l V) ?_
      intro M143029
      refine jv_iloadn (j := 2) dX8_clearsAll_289 rfl ?_
      refine jv_iconst (v := 3) dX8_clearsAll_290 (by decide) ?_
      refine jv_iload (j := 0) dX8_clearsAll_291 rfl ?_
      refine jv_imul dX8_clearsAll_293 ?_
      refine jv_iadd dX8_clearsAll_294 ?_
      refine vf_letS (fun z143030 => ?_)
      refine jv_istoren (L' := [(1, .int z143030), (5, .int z143026), (0, .ref (V.1 0)), (2, .int l2), (3, .int l3), (4, .int l4)]) dX8_clearsAll_295 (Nat.le_of_ble_eq_true rfl) rfl ?_
      refine jv_iinc (j := 5) (v := l4 + 1) (L' := [(4, .int (l4 + 1)), (1, .int z143030), (5, .int z143026), (0, .ref (V.1 0)), (2, .int l2), (3, .int l3)]) dX8_clearsAll_296 rfl rfl (Nat.le_of_ble_eq_true rfl) rfl ?_
      refine jv_goto (tgt := 142) dX8_clearsAll_299 rfl ?_
      exact vf_j (fun g => jr_sub [3, 1, 4, 5, 0] rfl g) (hih z143030 (l4 + 1) M143029)
    refine jv_aloadn (j := 1) dX8_clearsAll_199 rfl ?_
    refine hv_getR dX8_clearsAll_200 fl8_7 at_MO_0 rfl ?_
    refine jv_bipush (v := 30) dX8_clearsAll_203 (by decide) ?_
    refine jv_bipush (v := 6) dX8_clearsAll_205 (by decide) ?_
    refine jv_iloadn (j := 4) dX8_clearsAll_207 rfl ?_
    refine jv_imul dX8_clearsAll_208 ?_
    refine jv_iadd dX8_clearsAll_209 ?_
    refine jv_iload (j := 5) dX8_clearsAll_210 rfl ?_
    refine jv_iadd dX8_clearsAll_212 ?_
    refine hv_ialdC dX8_clearsAll_213 at_MO_1 (fun _ => ?_)
    refine jv_goto (tgt := 219) dX8_clearsAll_214 rfl ?_
    refine vf_letS (fun z143031 => ?_)
    refine jv_istore (L' := [(5, .int z143031), (0, .ref (V.1 0)), (1, .int l1), (2, .int l2), (3, .int l3), (4, .int l4)]) dX8_clearsAll_219 (Nat.le_of_ble_eq_true rfl) rfl ?_
    refine jv_aloadn (j := 1) dX8_clearsAll_221 rfl ?_
    refine hv_getR dX8_clearsAll_222 fl8_7 at_MO_0 rfl ?_
    refine jv_bipush (v := 30) dX8_clearsAll_225 (by decide) ?_
    refine jv_bipush (v := 6) dX8_clearsAll_227 (by decide) ?_
    refine jv_iload (j := 5) dX8_clearsAll_229 rfl ?_
    refine jv_imul dX8_clearsAll_231 ?_
    refine jv_iadd dX8_clearsAll_232 ?_
    refine jv_iloadn (j := 3) dX8_clearsAll_233 rfl ?_
    refine jv_iadd dX8_clearsAll_234 ?_
    refine hv_ialdC dX8_clearsAll_235 at_MO_1 (fun _ => ?_)
    refine jv_iload (j := 0) dX8_clearsAll_236 rfl ?_
    refine jw_ic_ge (tgt := 259) dX8_clearsAll_238 rfl (fun c238 => ?_) (fun c238 => ?_)
    · refine jv_iload (j := 0) dX8_clearsAll_259 rfl ?_
      refine jv_istore (L' := [(5, .int z143031), (0, .ref (V.1 0)), (1, .int l1), (2, .int l2), (3, .int l3), (4, .int l4)]) dX8_clearsAll_261 (Nat.le_of_ble_eq_true rfl) rfl ?_
      refine jv_aloadn (j := 1) dX8_clearsAll_263 rfl ?_
      refine jv_iloadn (j := 3) dX8_clearsAll_264 rfl ?_
      refine jv_iloadn (j := 4) dX8_clearsAll_265 rfl ?_
      refine jv_iload (j := 0) dX8_clearsAll_266 rfl ?_
      refine hv_callV (As := [.int l2, .int l3, .int z143031]) dX8_clearsAll_268 lk8_196 kX8_lessens nX8_lessens (Nat.le_of_ble_eq_true rfl) (Nat.le_of_ble_eq_true rfl) at_MO_0 rfl rfl rfl (fun _ e l => c_X8_lessens  e l V) ?_
      intro M143032
      refine jv_aloadn (j := 1) dX8_clearsAll_271 rfl ?_
      refine jv_iloadn (j := 4) dX8_clearsAll_272 rfl ?_
      refine jv_iload (j := 5) dX8_clearsAll_273 rfl ?_
      refine jv_iload (j := 0) dX8_clearsAll_275 rfl ?_
      refine hv_callV (As := [.int l3, .int l4, .int z143031]) dX8_clearsAll_277 lk8_196 kX8_lessens nX8_lessens (Nat.le_of_ble_eq_true rfl) (Nat.le_of_ble_eq_true rfl) at_MO_0 rfl rfl rfl (fun _ e l => c_X8_lessens  e l V) ?_
      intro M143033
      refine jv_aloadn (j := 1) dX8_clearsAll_280 rfl ?_
      refine jv_iload (j := 5) dX8_clearsAll_281 rfl ?_
      refine jv_iloadn (j := 3) dX8_clearsAll_283 rfl ?_
      refine jv_iload (j := 0) dX8_clearsAll_284 rfl ?_
      refine hv_callV (As := [.int l4, .int l2, .int z143031]) dX8_clearsAll_286 lk8_196 kX8_lessens nX8_lessens (Nat.le_of_ble_eq_true rfl) (Nat.le_of_ble_eq_true rfl) at_MO_0 rfl rfl rfl (fun _ e l => c_X8_lessens  e l V) ?_
      intro M143034
      refine jv_iloadn (j := 2) dX8_clearsAll_289 rfl ?_
      refine jv_iconst (v := 3) dX8_clearsAll_290 (by decide) ?_
      refine jv_iload (j := 0) dX8_clearsAll_291 rfl ?_
      refine jv_imul dX8_clearsAll_293 ?_
      refine jv_iadd dX8_clearsAll_294 ?_
      refine vf_letS (fun z143035 => ?_)
      refine jv_istoren (L' := [(1, .int z143035), (5, .int z143031), (0, .ref (V.1 0)), (2, .int l2), (3, .int l3), (4, .int l4)]) dX8_clearsAll_295 (Nat.le_of_ble_eq_true rfl) rfl ?_
      refine jv_iinc (j := 5) (v := l4 + 1) (L' := [(4, .int (l4 + 1)), (1, .int z143035), (5, .int z143031), (0, .ref (V.1 0)), (2, .int l2), (3, .int l3)]) dX8_clearsAll_296 rfl rfl (Nat.le_of_ble_eq_true rfl) rfl ?_
      refine jv_goto (tgt := 142) dX8_clearsAll_299 rfl ?_
      exact vf_j (fun g => jr_sub [3, 1, 4, 5, 0] rfl g) (hih z143035 (l4 + 1) M143034)
    refine jv_aloadn (j := 1) dX8_clearsAll_241 rfl ?_
    refine hv_getR dX8_clearsAll_242 fl8_7 at_MO_0 rfl ?_
    refine jv_bipush (v := 30) dX8_clearsAll_245 (by decide) ?_
    refine jv_bipush (v := 6) dX8_clearsAll_247 (by decide) ?_
    refine jv_iload (j := 5) dX8_clearsAll_249 rfl ?_
    refine jv_imul dX8_clearsAll_251 ?_
    refine jv_iadd dX8_clearsAll_252 ?_
    refine jv_iloadn (j := 3) dX8_clearsAll_253 rfl ?_
    refine jv_iadd dX8_clearsAll_254 ?_
    refine hv_ialdC dX8_clearsAll_255 at_MO_1 (fun _ => ?_)
    refine jv_goto (tgt := 261) dX8_clearsAll_256 rfl ?_
    refine vf_letS (fun z143036 => ?_)
    refine jv_istore (L' := [(5, .int z143036), (0, .ref (V.1 0)), (1, .int l1), (2, .int l2), (3, .int l3), (4, .int l4)]) dX8_clearsAll_261 (Nat.le_of_ble_eq_true rfl) rfl ?_
    refine jv_aloadn (j := 1) dX8_clearsAll_263 rfl ?_
    refine jv_iloadn (j := 3) dX8_clearsAll_264 rfl ?_
    refine jv_iloadn (j := 4) dX8_clearsAll_265 rfl ?_
    refine jv_iload (j := 0) dX8_clearsAll_266 rfl ?_
    refine hv_callV (As := [.int l2, .int l3, .int z143036]) dX8_clearsAll_268 lk8_196 kX8_lessens nX8_lessens (Nat.le_of_ble_eq_true rfl) (Nat.le_of_ble_eq_true rfl) at_MO_0 rfl rfl rfl (fun _ e l => c_X8_lessens  e l V) ?_
    intro M143037
    refine jv_aloadn (j := 1) dX8_clearsAll_271 rfl ?_
    refine jv_iloadn (j := 4) dX8_clearsAll_272 rfl ?_
    refine jv_iload (j := 5) dX8_clearsAll_273 rfl ?_
    refine jv_iload (j := 0) dX8_clearsAll_275 rfl ?_
    refine hv_callV (As := [.int l3, .int l4, .int z143036]) dX8_clearsAll_277 lk8_196 kX8_lessens nX8_lessens (Nat.le_of_ble_eq_true rfl) (Nat.le_of_ble_eq_true rfl) at_MO_0 rfl rfl rfl (fun _ e l => c_X8_lessens  e l V) ?_
    intro M143038
    refine jv_aloadn (j := 1) dX8_clearsAll_280 rfl ?_
    refine jv_iload (j := 5) dX8_clearsAll_281 rfl ?_
    refine jv_iloadn (j := 3) dX8_clearsAll_283 rfl ?_
    refine jv_iload (j := 0) dX8_clearsAll_284 rfl ?_
    refine hv_callV (As := [.int l4, .int l2, .int z143036]) dX8_clearsAll_286 lk8_196 kX8_lessens nX8_lessens (Nat.le_of_ble_eq_true rfl) (Nat.le_of_ble_eq_true rfl) at_MO_0 rfl rfl rfl (fun _ e l => c_X8_lessens  e l V) ?_
    intro M143039
    refine jv_iloadn (j := 2) dX8_clearsAll_289 rfl ?_
    refine jv_iconst (v := 3) dX8_clearsAll_290 (by decide) ?_
    refine jv_iload (j := 0) dX8_clearsAll_291 rfl ?_
    refine jv_imul dX8_clearsAll_293 ?_
    refine jv_iadd dX8_clearsAll_294 ?_
    refine vf_letS (fun z143040 => ?_)
    refine jv_istoren (L' := [(1, .int z143040), (5, .int z143036), (0, .ref (V.1 0)), (2, .int l2), (3, .int l3), (4, .int l4)]) dX8_clearsAll_295 (Nat.le_of_ble_eq_true rfl) rfl ?_
    refine jv_iinc (j := 5) (v := l4 + 1) (L' := [(4, .int (l4 + 1)), (1, .int z143040), (5, .int z143036), (0, .ref (V.1 0)), (2, .int l2), (3, .int l3)]) dX8_clearsAll_296 rfl rfl (Nat.le_of_ble_eq_true rfl) rfl ?_
    refine jv_goto (tgt := 142) dX8_clearsAll_299 rfl ?_
    exact vf_j (fun g => jr_sub [3, 1, 4, 5, 0] rfl g) (hih z143040 (l4 + 1) M143039)
set_option maxHeartbeats 4000000 in
set_option maxRecDepth 100000 in
theorem wl_X8_clearsAll_127 {X : pm_X} {V : pm_V} (l2 : Int32)  : ∀ (l1 : Int32) (l3 : Int32) (Ml : pm_M), pm_VF (lp_X8_clearsAll_127 l2 l1 l3 Ml) (fun b => (fun (l1 : Int32) (Ml : pm_M) => pm_J X V mX8_clearsAll 2 (pm_wld V skD Ml) 308 [(0, .ref (V.1 0)), (1, .int l1), (2, .int l2)] []) b.1 b.2) (pm_J X V mX8_clearsAll 2 (pm_wld V skD Ml) 127 [(0, .ref (V.1 0)), (1, .int l1), (2, .int l2), (3, .int l3)] []) := by
  refine pm_it_ind (P := fun (f : Int32 → Int32 → pm_M → Option (Int32 × pm_M)) => ∀ (l1 : Int32) (l3 : Int32) (Ml : pm_M), pm_VF (f l1 l3 Ml) (fun b => (fun (l1 : Int32) (Ml : pm_M) => pm_J X V mX8_clearsAll 2 (pm_wld V skD Ml) 308 [(0, .ref (V.1 0)), (1, .int l1), (2, .int l2)] []) b.1 b.2) (pm_J X V mX8_clearsAll 2 (pm_wld V skD Ml) 127 [(0, .ref (V.1 0)), (1, .int l1), (2, .int l2), (3, .int l3)] [])) (fun _ _ _ => vf_none) (fun ih hih l1 l3 Ml => ?_) pm_F
  · unfold lb_X8_clearsAll_127
    refine jv_iloadn (j := 3) dX8_clearsAll_127 rfl ?_
    refine jv_aloadn (j := 0) dX8_clearsAll_128 rfl ?_
    refine hv_getR dX8_clearsAll_129 fl8_7 at_MO_0 rfl ?_
    refine jv_iconst (v := 0) dX8_clearsAll_132 (by decide) ?_
    refine hv_iald dX8_clearsAll_133 at_MO_1 (by decide) ?_
    refine jw_ic_ge (tgt := 308) dX8_clearsAll_134 rfl (fun c134 => ?_) (fun c134 => ?_)
    · exact vf_end (fun g => jr_sub [0, 1, 2] rfl g)
    refine jv_iloadn (j := 2) dX8_clearsAll_137 rfl ?_
    refine jv_iconst (v := 1) dX8_clearsAll_138 (by decide) ?_
    refine jv_iadd dX8_clearsAll_139 ?_
    refine vf_letS (fun z128002 => ?_)
    refine jv_istore (L' := [(4, .int z128002), (0, .ref (V.1 0)), (1, .int l1), (2, .int l2), (3, .int l3)]) dX8_clearsAll_140 (Nat.le_of_ble_eq_true rfl) rfl ?_
    refine vl_b2 (P := fun (l1 : Int32) (Ml : pm_M) => pm_J X V mX8_clearsAll 2 (pm_wld V skD Ml) 302 [(0, .ref (V.1 0)), (1, .int l1), (2, .int l2), (3, .int l3)] []) (vf_j (fun g => jr_sub [1, 2, 3, 4, 0] rfl g) (wl_X8_clearsAll_142 l2 l3  l1 z128002 Ml)) ?_
    intro l128003 M128004
    refine jv_iinc (j := 3) (v := l3 + 1) (L' := [(3, .int (l3 + 1)), (0, .ref (V.1 0)), (1, .int l128003), (2, .int l2)]) dX8_clearsAll_302 rfl rfl (Nat.le_of_ble_eq_true rfl) rfl ?_
    refine jv_goto (tgt := 127) dX8_clearsAll_305 rfl ?_
    exact vf_j (fun g => jr_sub [1, 2, 3, 0] rfl g) (hih l128003 (l3 + 1) M128004)
set_option maxHeartbeats 4000000 in
set_option maxRecDepth 100000 in
theorem wl_X8_clearsAll_113 {X : pm_X} {V : pm_V}   : ∀ (l1 : Int32) (l2 : Int32) (Ml : pm_M), pm_VF (lp_X8_clearsAll_113  l1 l2 Ml) (fun b => (fun (l1 : Int32) (Ml : pm_M) => pm_J X V mX8_clearsAll 2 (pm_wld V skD Ml) 314 [(1, .int l1)] []) b.1 b.2) (pm_J X V mX8_clearsAll 2 (pm_wld V skD Ml) 113 [(0, .ref (V.1 0)), (1, .int l1), (2, .int l2)] []) := by
  refine pm_it_ind (P := fun (f : Int32 → Int32 → pm_M → Option (Int32 × pm_M)) => ∀ (l1 : Int32) (l2 : Int32) (Ml : pm_M), pm_VF (f l1 l2 Ml) (fun b => (fun (l1 : Int32) (Ml : pm_M) => pm_J X V mX8_clearsAll 2 (pm_wld V skD Ml) 314 [(1, .int l1)] []) b.1 b.2) (pm_J X V mX8_clearsAll 2 (pm_wld V skD Ml) 113 [(0, .ref (V.1 0)), (1, .int l1), (2, .int l2)] [])) (fun _ _ _ => vf_none) (fun ih hih l1 l2 Ml => ?_) pm_F
  · unfold lb_X8_clearsAll_113
    refine jv_iloadn (j := 2) dX8_clearsAll_113 rfl ?_
    refine jv_aloadn (j := 0) dX8_clearsAll_114 rfl ?_
    refine hv_getR dX8_clearsAll_115 fl8_7 at_MO_0 rfl ?_
    refine jv_iconst (v := 0) dX8_clearsAll_118 (by decide) ?_
    refine hv_iald dX8_clearsAll_119 at_MO_1 (by decide) ?_
    refine jw_ic_ge (tgt := 314) dX8_clearsAll_120 rfl (fun c120 => ?_) (fun c120 => ?_)
    · exact vf_end (fun g => jr_sub [1] rfl g)
    refine jv_iloadn (j := 2) dX8_clearsAll_123 rfl ?_
    refine jv_iconst (v := 1) dX8_clearsAll_124 (by decide) ?_
    refine jv_iadd dX8_clearsAll_125 ?_
    refine vf_letS (fun z114002 => ?_)
    refine jv_istoren (L' := [(3, .int z114002), (0, .ref (V.1 0)), (1, .int l1), (2, .int l2)]) dX8_clearsAll_126 (Nat.le_of_ble_eq_true rfl) rfl ?_
    refine vl_b2 (P := fun (l1 : Int32) (Ml : pm_M) => pm_J X V mX8_clearsAll 2 (pm_wld V skD Ml) 308 [(0, .ref (V.1 0)), (1, .int l1), (2, .int l2)] []) (vf_j (fun g => jr_sub [1, 2, 3, 0] rfl g) (wl_X8_clearsAll_127 l2  l1 z114002 Ml)) ?_
    intro l114003 M114004
    refine jv_iinc (j := 2) (v := l2 + 1) (L' := [(2, .int (l2 + 1)), (0, .ref (V.1 0)), (1, .int l114003)]) dX8_clearsAll_308 rfl rfl (Nat.le_of_ble_eq_true rfl) rfl ?_
    refine jv_goto (tgt := 113) dX8_clearsAll_311 rfl ?_
    exact vf_j (fun g => jr_sub [1, 2, 0] rfl g) (hih l114003 (l2 + 1) M114004)
set_option maxHeartbeats 4000000 in
set_option maxRecDepth 100000 in
theorem w_X8_clearsAll {X : pm_X} {V : pm_V} (M : pm_M)  : pm_VF (f_X8_clearsAll M) (pm_K X V mX8_clearsAll 2 skD) (pm_J X V mX8_clearsAll 2 (pm_wld V skD M) 0 [(0, .ref (V.1 0))] []) := by
  unfold f_X8_clearsAll
  refine jv_iconst (v := 0) dX8_clearsAll_0 (by decide) ?_
  refine jv_istoren (L' := [(1, .int 0), (0, .ref (V.1 0))]) dX8_clearsAll_1 (Nat.le_of_ble_eq_true rfl) rfl ?_
  refine jv_iconst (v := 0) dX8_clearsAll_2 (by decide) ?_
  refine jv_istoren (L' := [(2, .int 0), (1, .int 0), (0, .ref (V.1 0))]) dX8_clearsAll_3 (Nat.le_of_ble_eq_true rfl) rfl ?_
  refine vl_b2 (P := fun (l1 : Int32) (Ml : pm_M) => pm_J X V mX8_clearsAll 2 (pm_wld V skD Ml) 111 [(0, .ref (V.1 0)), (1, .int l1)] []) (vf_j (fun g => jr_sub [2, 1, 0] rfl g) (wl_X8_clearsAll_4   0 0 M)) ?_
  intro l1 M2
  refine jv_iconst (v := 0) dX8_clearsAll_111 (by decide) ?_
  refine jv_istoren (L' := [(2, .int 0), (0, .ref (V.1 0)), (1, .int l1)]) dX8_clearsAll_112 (Nat.le_of_ble_eq_true rfl) rfl ?_
  refine vl_b2 (P := fun (l1 : Int32) (Ml : pm_M) => pm_J X V mX8_clearsAll 2 (pm_wld V skD Ml) 314 [(1, .int l1)] []) (vf_j (fun g => jr_sub [1, 2, 0] rfl g) (wl_X8_clearsAll_113   l1 0 M2)) ?_
  intro l3 M4
  refine jv_iloadn (j := 0) dX8_clearsAll_314 rfl ?_
  exact vf_ret dX8_clearsAll_315 rfl
theorem c_X8_clearsAll {M : pm_M}  {r : Int32} {M' : pm_M} (h : f_X8_clearsAll M = some (r, M')) (l : Launch) (V : pm_V) : pm_Ci l V skD yX8_clearsAll mX8_clearsAll 2 [.ref (V.1 0)] M r M' := pm_metI (by decide) rfl (Nat.le_of_ble_eq_true rfl) h (fun _ => w_X8_clearsAll M )
def f_X8_clear (M : pm_M) : Option (Int32 × pm_M) :=
  (pm_b2 (f_X8_clearsAll M) (fun (r2 : Int32) (M1 : pm_M) => (some (r2, M1))))
set_option maxHeartbeats 4000000 in
set_option maxRecDepth 100000 in
theorem w_X8_clear {X : pm_X} {V : pm_V} (M : pm_M)  : pm_VF (f_X8_clear M) (pm_K X V mX8_clear 3 skD) (pm_J X V mX8_clear 3 (pm_wld V skD M) 0 [(0, .ref (V.1 0))] []) := by
  unfold f_X8_clear
  refine jv_aloadn (j := 0) dX8_clear_0 rfl ?_
  refine hv_callI (As := []) dX8_clear_1 lk8_200 kX8_clearsAll nX8_clearsAll (Nat.le_of_ble_eq_true rfl) (Nat.le_of_ble_eq_true rfl) at_MO_0 rfl rfl rfl (fun _ _ e l => c_X8_clearsAll  e l V) ?_
  intro r2 M1
  exact vf_ret dX8_clear_4 rfl
theorem c_X8_clear {M : pm_M}  {r : Int32} {M' : pm_M} (h : f_X8_clear M = some (r, M')) (l : Launch) (V : pm_V) : pm_Ci l V skD yX8_clear mX8_clear 3 [.ref (V.1 0)] M r M' := pm_metI (by decide) rfl (Nat.le_of_ble_eq_true rfl) h (fun _ => w_X8_clear M )
def f_X8_then (M : pm_M) (x1 : Int32) (x2 : Int32) (x3 : Int32) : Option (Int32 × pm_M) :=
  (pm_b2 (f_X8_in M (x1.toInt64) 0 60) (fun (r2 : Int32) (M1 : pm_M) => (if r2 = 0 then (pm_b2 (f_X8_finds M1 1) (fun (r4 : Int32) (M3 : pm_M) => (some (r4, M3)))) else (pm_b2 (f_X8_isRoof M1 x2) (fun (r6 : Int32) (M5 : pm_M) => (if r6 = 0 then (pm_b2 (f_X8_finds M5 1) (fun (r8 : Int32) (M7 : pm_M) => (some (r8, M7)))) else (pm_b2 (f_X8_in M5 (x3.toInt64) 0 1) (fun (r10 : Int32) (M9 : pm_M) => (if r10 = 0 then (pm_b2 (f_X8_finds M9 1) (fun (r12 : Int32) (M11 : pm_M) => (some (r12, M11)))) else (pm_b1 (f_X8_keepAside M9) (fun M13 : pm_M => (pm_b1 (f_X8_daysGo M13 x1) (fun M14 : pm_M => (pm_b2 (f_X8_its M14 x2 (1 + x3)) (fun (r16 : Int32) (M15 : pm_M) => (pm_b1 (f_X8_putBack M15) (fun M17 : pm_M => (some (r16, M17)))))))))))))))))))
set_option maxHeartbeats 4000000 in
set_option maxRecDepth 100000 in
theorem w_X8_then {X : pm_X} {V : pm_V} (M : pm_M) (x1 : Int32) (x2 : Int32) (x3 : Int32)  : pm_VF (f_X8_then M x1 x2 x3) (pm_K X V mX8_then 109 skD) (pm_J X V mX8_then 109 (pm_wld V skD M) 0 [(0, .ref (V.1 0)), (1, .int x1), (2, .int x2), (3, .int x3)] []) := by
  unfold f_X8_then
  refine jv_iloadn (j := 1) dX8_then_0 rfl ?_
  refine jv_i2l dX8_then_1 ?_
  refine jv_lconst (v := 0) dX8_then_2 (by decide) ?_
  refine jv_ldc2 dX8_then_3 lk8_181 ?_
  refine hv_callS (As := [.long (x1.toInt64), .long 0, .long 60]) dX8_then_6 lk8_44 kX8_in nX8_in (Nat.le_of_ble_eq_true rfl) (Nat.le_of_ble_eq_true rfl) rfl (fun _ _ e l => c_X8_in  e l V) ?_
  intro r2 M1
  refine jw_if_eq (tgt := 30) dX8_then_9 rfl (fun c9 => ?_) (fun c9 => ?_)
  · refine jv_aloadn (j := 0) dX8_then_30 rfl ?_
    refine jv_iconst (v := 1) dX8_then_31 (by decide) ?_
    refine hv_callI (As := [.int 1]) dX8_then_32 lk8_107 kX8_finds nX8_finds (Nat.le_of_ble_eq_true rfl) (Nat.le_of_ble_eq_true rfl) at_MO_0 rfl rfl rfl (fun _ _ e l => c_X8_finds  e l V) ?_
    intro r4 M3
    exact vf_ret dX8_then_35 rfl
  refine jv_aloadn (j := 0) dX8_then_12 rfl ?_
  refine jv_iloadn (j := 2) dX8_then_13 rfl ?_
  refine hv_callI (As := [.int x2]) dX8_then_14 lk8_125 kX8_isRoof nX8_isRoof (Nat.le_of_ble_eq_true rfl) (Nat.le_of_ble_eq_true rfl) at_MO_0 rfl rfl rfl (fun _ _ e l => c_X8_isRoof  e l V) ?_
  intro r6 M5
  refine jw_if_eq (tgt := 30) dX8_then_17 rfl (fun c17 => ?_) (fun c17 => ?_)
  · refine jv_aloadn (j := 0) dX8_then_30 rfl ?_
    refine jv_iconst (v := 1) dX8_then_31 (by decide) ?_
    refine hv_callI (As := [.int 1]) dX8_then_32 lk8_107 kX8_finds nX8_finds (Nat.le_of_ble_eq_true rfl) (Nat.le_of_ble_eq_true rfl) at_MO_0 rfl rfl rfl (fun _ _ e l => c_X8_finds  e l V) ?_
    intro r8 M7
    exact vf_ret dX8_then_35 rfl
  refine jv_iloadn (j := 3) dX8_then_20 rfl ?_
  refine jv_i2l dX8_then_21 ?_
  refine jv_lconst (v := 0) dX8_then_22 (by decide) ?_
  refine jv_lconst (v := 1) dX8_then_23 (by decide) ?_
  refine hv_callS (As := [.long (x3.toInt64), .long 0, .long 1]) dX8_then_24 lk8_44 kX8_in nX8_in (Nat.le_of_ble_eq_true rfl) (Nat.le_of_ble_eq_true rfl) rfl (fun _ _ e l => c_X8_in  e l V) ?_
  intro r10 M9
  refine jw_if_ne (tgt := 36) dX8_then_27 rfl (fun c27 => ?_) (fun c27 => ?_)
  · refine jv_aloadn (j := 0) dX8_then_30 rfl ?_
    refine jv_iconst (v := 1) dX8_then_31 (by decide) ?_
    refine hv_callI (As := [.int 1]) dX8_then_32 lk8_107 kX8_finds nX8_finds (Nat.le_of_ble_eq_true rfl) (Nat.le_of_ble_eq_true rfl) at_MO_0 rfl rfl rfl (fun _ _ e l => c_X8_finds  e l V) ?_
    intro r12 M11
    exact vf_ret dX8_then_35 rfl
  refine jv_aloadn (j := 0) dX8_then_36 rfl ?_
  refine hv_callV (As := []) dX8_then_37 lk8_203 kX8_keepAside nX8_keepAside (Nat.le_of_ble_eq_true rfl) (Nat.le_of_ble_eq_true rfl) at_MO_0 rfl rfl rfl (fun _ e l => c_X8_keepAside  e l V) ?_
  intro M13
  refine jv_aloadn (j := 0) dX8_then_40 rfl ?_
  refine jv_iloadn (j := 1) dX8_then_41 rfl ?_
  refine hv_callV (As := [.int x1]) dX8_then_42 lk8_183 kX8_daysGo nX8_daysGo (Nat.le_of_ble_eq_true rfl) (Nat.le_of_ble_eq_true rfl) at_MO_0 rfl rfl rfl (fun _ e l => c_X8_daysGo  e l V) ?_
  intro M14
  refine jv_aloadn (j := 0) dX8_then_45 rfl ?_
  refine jv_iloadn (j := 2) dX8_then_46 rfl ?_
  refine jv_iconst (v := 1) dX8_then_47 (by decide) ?_
  refine jv_iloadn (j := 3) dX8_then_48 rfl ?_
  refine jv_iadd dX8_then_49 ?_
  refine hv_callI (As := [.int x2, .int (1 + x3)]) dX8_then_50 lk8_134 kX8_its nX8_its (Nat.le_of_ble_eq_true rfl) (Nat.le_of_ble_eq_true rfl) at_MO_0 rfl rfl rfl (fun _ _ e l => c_X8_its  e l V) ?_
  intro r16 M15
  refine jv_istore (L' := [(4, .int r16), (0, .ref (V.1 0)), (1, .int x1), (2, .int x2), (3, .int x3)]) dX8_then_53 (Nat.le_of_ble_eq_true rfl) rfl ?_
  refine jv_aloadn (j := 1) dX8_then_55 rfl ?_
  refine hv_callV (As := []) dX8_then_56 lk8_206 kX8_putBack nX8_putBack (Nat.le_of_ble_eq_true rfl) (Nat.le_of_ble_eq_true rfl) at_MO_0 rfl rfl rfl (fun _ e l => c_X8_putBack  e l V) ?_
  intro M17
  refine jv_iload (j := 0) dX8_then_59 rfl ?_
  exact vf_ret dX8_then_61 rfl
theorem c_X8_then {M : pm_M} {x1 : Int32} {x2 : Int32} {x3 : Int32}  {r : Int32} {M' : pm_M} (h : f_X8_then M x1 x2 x3 = some (r, M')) (l : Launch) (V : pm_V) : pm_Ci l V skD yX8_then mX8_then 109 [.ref (V.1 0), .int x1, .int x2, .int x3] M r M' := pm_metI (by decide) rfl (Nat.le_of_ble_eq_true rfl) h (fun _ => w_X8_then M x1 x2 x3 )
def lb_X8_drought_38 (x1 : Int32) (x2 : Int32) (ih : Int32 → Int32 → Int32 → pm_M → Option (Int32 × pm_M)) : Int32 → Int32 → Int32 → pm_M → Option (Int32 × pm_M) := fun (l3 : Int32) (l4 : Int32) (l5 : Int32) (Ml : pm_M) =>
  (if x2 ≤ l5 then (some (l3, Ml)) else (pm_b1 (f_X8_dayGoes Ml) (fun M39002 : pm_M => (pm_chk (pm_in x1 6) (if (M39002 6 x1.toNatClampNeg) = 0 then (pm_let (l4 + 1) (fun z39003 : Int32 => (if z39003 ≤ l3 then (ih l3 z39003 (l5 + 1) M39002) else (ih z39003 z39003 (l5 + 1) M39002)))) else (if 0 ≤ l3 then (ih l3 0 (l5 + 1) M39002) else (ih 0 0 (l5 + 1) M39002)))))))
def lp_X8_drought_38 (x1 : Int32) (x2 : Int32) : Int32 → Int32 → Int32 → pm_M → Option (Int32 × pm_M) := pm_it (fun _ _ _ _ => none) (lb_X8_drought_38 x1 x2) pm_F
def f_X8_drought (M : pm_M) (x1 : Int32) (x2 : Int32) : Option (Int32 × pm_M) :=
  (pm_b2 (f_X8_isRoof M x1) (fun (r2 : Int32) (M1 : pm_M) => (if r2 = 0 then (pm_b2 (f_X8_finds M1 1) (fun (r4 : Int32) (M3 : pm_M) => (some (r4, M3)))) else (pm_b2 (f_X8_in M1 (x2.toInt64) 1 60) (fun (r6 : Int32) (M5 : pm_M) => (if r6 = 0 then (pm_b2 (f_X8_finds M5 1) (fun (r8 : Int32) (M7 : pm_M) => (some (r8, M7)))) else (pm_b1 (f_X8_keepAside M5) (fun M9 : pm_M => (pm_b2 (lp_X8_drought_38 x1 x2 0 0 0 M9) (fun (l10 : Int32) (M11 : pm_M) => (pm_b1 (f_X8_putBack M11) (fun M12 : pm_M => (some (l10, M12))))))))))))))
set_option maxHeartbeats 4000000 in
set_option maxRecDepth 100000 in
theorem wl_X8_drought_38 {X : pm_X} {V : pm_V} (x1 : Int32) (x2 : Int32)  : ∀ (l3 : Int32) (l4 : Int32) (l5 : Int32) (Ml : pm_M), pm_VF (lp_X8_drought_38 x1 x2 l3 l4 l5 Ml) (fun b => (fun (l3 : Int32) (Ml : pm_M) => pm_J X V mX8_drought 108 (pm_wld V skD Ml) 86 [(0, .ref (V.1 0)), (3, .int l3)] []) b.1 b.2) (pm_J X V mX8_drought 108 (pm_wld V skD Ml) 38 [(0, .ref (V.1 0)), (1, .int x1), (2, .int x2), (3, .int l3), (4, .int l4), (5, .int l5)] []) := by
  refine pm_it_ind (P := fun (f : Int32 → Int32 → Int32 → pm_M → Option (Int32 × pm_M)) => ∀ (l3 : Int32) (l4 : Int32) (l5 : Int32) (Ml : pm_M), pm_VF (f l3 l4 l5 Ml) (fun b => (fun (l3 : Int32) (Ml : pm_M) => pm_J X V mX8_drought 108 (pm_wld V skD Ml) 86 [(0, .ref (V.1 0)), (3, .int l3)] []) b.1 b.2) (pm_J X V mX8_drought 108 (pm_wld V skD Ml) 38 [(0, .ref (V.1 0)), (1, .int x1), (2, .int x2), (3, .int l3), (4, .int l4), (5, .int l5)] [])) (fun _ _ _ _ => vf_none) (fun ih hih l3 l4 l5 Ml => ?_) pm_F
  · unfold lb_X8_drought_38
    refine jv_iload (j := 5) dX8_drought_38 rfl ?_
    refine jv_iloadn (j := 2) dX8_drought_40 rfl ?_
    refine jw_ic_ge (tgt := 86) dX8_drought_41 rfl (fun c41 => ?_) (fun c41 => ?_)
    · exact vf_end (fun g => jr_sub [0, 3] rfl g)
    refine jv_aloadn (j := 0) dX8_drought_44 rfl ?_
    refine hv_callV (As := []) dX8_drought_45 lk8_178 kX8_dayGoes nX8_dayGoes (Nat.le_of_ble_eq_true rfl) (Nat.le_of_ble_eq_true rfl) at_MO_0 rfl rfl rfl (fun _ e l => c_X8_dayGoes  e l V) ?_
    intro M39002
    refine jv_aloadn (j := 0) dX8_drought_48 rfl ?_
    refine hv_getR dX8_drought_49 fl8_25 at_MO_0 rfl ?_
    refine jv_iloadn (j := 1) dX8_drought_52 rfl ?_
    refine hv_ialdC dX8_drought_53 at_MO_6 (fun _ => ?_)
    refine jw_if_ne (tgt := 64) dX8_drought_54 rfl (fun c54 => ?_) (fun c54 => ?_)
    · refine jv_iload (j := 4) dX8_drought_57 rfl ?_
      refine jv_iconst (v := 1) dX8_drought_59 (by decide) ?_
      refine jv_iadd dX8_drought_60 ?_
      refine jv_goto (tgt := 65) dX8_drought_61 rfl ?_
      refine vf_letS (fun z39003 => ?_)
      refine jv_istore (L' := [(4, .int z39003), (0, .ref (V.1 0)), (1, .int x1), (2, .int x2), (3, .int l3), (5, .int l5)]) dX8_drought_65 (Nat.le_of_ble_eq_true rfl) rfl ?_
      refine jv_iload (j := 0) dX8_drought_67 rfl ?_
      refine jv_iloadn (j := 4) dX8_drought_69 rfl ?_
      refine jw_ic_le (tgt := 78) dX8_drought_70 rfl (fun c70 => ?_) (fun c70 => ?_)
      · refine jv_iloadn (j := 4) dX8_drought_78 rfl ?_
        refine jv_istoren (L' := [(3, .int l3), (4, .int z39003), (0, .ref (V.1 0)), (1, .int x1), (2, .int x2), (5, .int l5)]) dX8_drought_79 (Nat.le_of_ble_eq_true rfl) rfl ?_
        refine jv_iinc (j := 5) (v := l5 + 1) (L' := [(5, .int (l5 + 1)), (3, .int l3), (4, .int z39003), (0, .ref (V.1 0)), (1, .int x1), (2, .int x2)]) dX8_drought_80 rfl rfl (Nat.le_of_ble_eq_true rfl) rfl ?_
        refine jv_goto (tgt := 38) dX8_drought_83 rfl ?_
        exact vf_j (fun g => jr_sub [3, 4, 5, 1, 2, 0] rfl g) (hih l3 z39003 (l5 + 1) M39002)
      refine jv_iload (j := 0) dX8_drought_73 rfl ?_
      refine jv_goto (tgt := 79) dX8_drought_75 rfl ?_
      refine jv_istoren (L' := [(3, .int z39003), (4, .int z39003), (0, .ref (V.1 0)), (1, .int x1), (2, .int x2), (5, .int l5)]) dX8_drought_79 (Nat.le_of_ble_eq_true rfl) rfl ?_
      refine jv_iinc (j := 5) (v := l5 + 1) (L' := [(5, .int (l5 + 1)), (3, .int z39003), (4, .int z39003), (0, .ref (V.1 0)), (1, .int x1), (2, .int x2)]) dX8_drought_80 rfl rfl (Nat.le_of_ble_eq_true rfl) rfl ?_
      refine jv_goto (tgt := 38) dX8_drought_83 rfl ?_
      exact vf_j (fun g => jr_sub [3, 4, 5, 1, 2, 0] rfl g) (hih z39003 z39003 (l5 + 1) M39002)
    refine jv_iconst (v := 0) dX8_drought_64 (by decide) ?_
    refine jv_istore (L' := [(4, .int 0), (0, .ref (V.1 0)), (1, .int x1), (2, .int x2), (3, .int l3), (5, .int l5)]) dX8_drought_65 (Nat.le_of_ble_eq_true rfl) rfl ?_
    refine jv_iload (j := 0) dX8_drought_67 rfl ?_
    refine jv_iloadn (j := 4) dX8_drought_69 rfl ?_
    refine jw_ic_le (tgt := 78) dX8_drought_70 rfl (fun c70 => ?_) (fun c70 => ?_)
    · refine jv_iloadn (j := 4) dX8_drought_78 rfl ?_
      refine jv_istoren (L' := [(3, .int l3), (4, .int 0), (0, .ref (V.1 0)), (1, .int x1), (2, .int x2), (5, .int l5)]) dX8_drought_79 (Nat.le_of_ble_eq_true rfl) rfl ?_
      refine jv_iinc (j := 5) (v := l5 + 1) (L' := [(5, .int (l5 + 1)), (3, .int l3), (4, .int 0), (0, .ref (V.1 0)), (1, .int x1), (2, .int x2)]) dX8_drought_80 rfl rfl (Nat.le_of_ble_eq_true rfl) rfl ?_
      refine jv_goto (tgt := 38) dX8_drought_83 rfl ?_
      exact vf_j (fun g => jr_sub [3, 4, 5, 1, 2, 0] rfl g) (hih l3 0 (l5 + 1) M39002)
    refine jv_iload (j := 0) dX8_drought_73 rfl ?_
    refine jv_goto (tgt := 79) dX8_drought_75 rfl ?_
    refine jv_istoren (L' := [(3, .int 0), (4, .int 0), (0, .ref (V.1 0)), (1, .int x1), (2, .int x2), (5, .int l5)]) dX8_drought_79 (Nat.le_of_ble_eq_true rfl) rfl ?_
    refine jv_iinc (j := 5) (v := l5 + 1) (L' := [(5, .int (l5 + 1)), (3, .int 0), (4, .int 0), (0, .ref (V.1 0)), (1, .int x1), (2, .int x2)]) dX8_drought_80 rfl rfl (Nat.le_of_ble_eq_true rfl) rfl ?_
    refine jv_goto (tgt := 38) dX8_drought_83 rfl ?_
    exact vf_j (fun g => jr_sub [3, 4, 5, 1, 2, 0] rfl g) (hih 0 0 (l5 + 1) M39002)
set_option maxHeartbeats 4000000 in
set_option maxRecDepth 100000 in
theorem w_X8_drought {X : pm_X} {V : pm_V} (M : pm_M) (x1 : Int32) (x2 : Int32)  : pm_VF (f_X8_drought M x1 x2) (pm_K X V mX8_drought 108 skD) (pm_J X V mX8_drought 108 (pm_wld V skD M) 0 [(0, .ref (V.1 0)), (1, .int x1), (2, .int x2)] []) := by
  unfold f_X8_drought
  refine jv_aloadn (j := 0) dX8_drought_0 rfl ?_
  refine jv_iloadn (j := 1) dX8_drought_1 rfl ?_
  refine hv_callI (As := [.int x1]) dX8_drought_2 lk8_125 kX8_isRoof nX8_isRoof (Nat.le_of_ble_eq_true rfl) (Nat.le_of_ble_eq_true rfl) at_MO_0 rfl rfl rfl (fun _ _ e l => c_X8_isRoof  e l V) ?_
  intro r2 M1
  refine jw_if_eq (tgt := 20) dX8_drought_5 rfl (fun c5 => ?_) (fun c5 => ?_)
  · refine jv_aloadn (j := 0) dX8_drought_20 rfl ?_
    refine jv_iconst (v := 1) dX8_drought_21 (by decide) ?_
    refine hv_callI (As := [.int 1]) dX8_drought_22 lk8_107 kX8_finds nX8_finds (Nat.le_of_ble_eq_true rfl) (Nat.le_of_ble_eq_true rfl) at_MO_0 rfl rfl rfl (fun _ _ e l => c_X8_finds  e l V) ?_
    intro r4 M3
    exact vf_ret dX8_drought_25 rfl
  refine jv_iloadn (j := 2) dX8_drought_8 rfl ?_
  refine jv_i2l dX8_drought_9 ?_
  refine jv_lconst (v := 1) dX8_drought_10 (by decide) ?_
  refine jv_ldc2 dX8_drought_11 lk8_181 ?_
  refine hv_callS (As := [.long (x2.toInt64), .long 1, .long 60]) dX8_drought_14 lk8_44 kX8_in nX8_in (Nat.le_of_ble_eq_true rfl) (Nat.le_of_ble_eq_true rfl) rfl (fun _ _ e l => c_X8_in  e l V) ?_
  intro r6 M5
  refine jw_if_ne (tgt := 26) dX8_drought_17 rfl (fun c17 => ?_) (fun c17 => ?_)
  · refine jv_aloadn (j := 0) dX8_drought_20 rfl ?_
    refine jv_iconst (v := 1) dX8_drought_21 (by decide) ?_
    refine hv_callI (As := [.int 1]) dX8_drought_22 lk8_107 kX8_finds nX8_finds (Nat.le_of_ble_eq_true rfl) (Nat.le_of_ble_eq_true rfl) at_MO_0 rfl rfl rfl (fun _ _ e l => c_X8_finds  e l V) ?_
    intro r8 M7
    exact vf_ret dX8_drought_25 rfl
  refine jv_aloadn (j := 0) dX8_drought_26 rfl ?_
  refine hv_callV (As := []) dX8_drought_27 lk8_203 kX8_keepAside nX8_keepAside (Nat.le_of_ble_eq_true rfl) (Nat.le_of_ble_eq_true rfl) at_MO_0 rfl rfl rfl (fun _ e l => c_X8_keepAside  e l V) ?_
  intro M9
  refine jv_iconst (v := 0) dX8_drought_30 (by decide) ?_
  refine jv_istoren (L' := [(3, .int 0), (0, .ref (V.1 0)), (1, .int x1), (2, .int x2)]) dX8_drought_31 (Nat.le_of_ble_eq_true rfl) rfl ?_
  refine jv_iconst (v := 0) dX8_drought_32 (by decide) ?_
  refine jv_istore (L' := [(4, .int 0), (3, .int 0), (0, .ref (V.1 0)), (1, .int x1), (2, .int x2)]) dX8_drought_33 (Nat.le_of_ble_eq_true rfl) rfl ?_
  refine jv_iconst (v := 0) dX8_drought_35 (by decide) ?_
  refine jv_istore (L' := [(5, .int 0), (4, .int 0), (3, .int 0), (0, .ref (V.1 0)), (1, .int x1), (2, .int x2)]) dX8_drought_36 (Nat.le_of_ble_eq_true rfl) rfl ?_
  refine vl_b2 (P := fun (l3 : Int32) (Ml : pm_M) => pm_J X V mX8_drought 108 (pm_wld V skD Ml) 86 [(0, .ref (V.1 0)), (3, .int l3)] []) (vf_j (fun g => jr_sub [3, 4, 5, 2, 1, 0] rfl g) (wl_X8_drought_38 x1 x2  0 0 0 M9)) ?_
  intro l10 M11
  refine jv_aloadn (j := 0) dX8_drought_86 rfl ?_
  refine hv_callV (As := []) dX8_drought_87 lk8_206 kX8_putBack nX8_putBack (Nat.le_of_ble_eq_true rfl) (Nat.le_of_ble_eq_true rfl) at_MO_0 rfl rfl rfl (fun _ e l => c_X8_putBack  e l V) ?_
  intro M12
  refine jv_iloadn (j := 1) dX8_drought_90 rfl ?_
  exact vf_ret dX8_drought_91 rfl
theorem c_X8_drought {M : pm_M} {x1 : Int32} {x2 : Int32}  {r : Int32} {M' : pm_M} (h : f_X8_drought M x1 x2 = some (r, M')) (l : Launch) (V : pm_V) : pm_Ci l V skD yX8_drought mX8_drought 108 [.ref (V.1 0), .int x1, .int x2] M r M' := pm_metI (by decide) rfl (Nat.le_of_ble_eq_true rfl) h (fun _ => w_X8_drought M x1 x2 )
def lb_X8_when_32 (x1 : Int32) (x2 : Int32) (ih : Int32 → pm_M → Option (Int32 × pm_M)) : Int32 → pm_M → Option (Int32 × pm_M) := fun (l3 : Int32) (Ml : pm_M) =>
  (if 60 < l3 then (some (l3, Ml)) else (pm_b2 (f_X8_its Ml x1 1) (fun (r33003 : Int32) (M33002 : pm_M) => (if x2 ≤ r33003 then (some (l3, M33002)) else (pm_b1 (f_X8_dayGoes M33002) (fun M33004 : pm_M => (ih (l3 + 1) M33004)))))))
def lp_X8_when_32 (x1 : Int32) (x2 : Int32) : Int32 → pm_M → Option (Int32 × pm_M) := pm_it (fun _ _ => none) (lb_X8_when_32 x1 x2) pm_F
def f_X8_when (M : pm_M) (x1 : Int32) (x2 : Int32) : Option (Int32 × pm_M) :=
  (pm_b2 (f_X8_isRoof M x1) (fun (r2 : Int32) (M1 : pm_M) => (if r2 = 0 then (pm_b2 (f_X8_finds M1 1) (fun (r4 : Int32) (M3 : pm_M) => (some (r4, M3)))) else (pm_b2 (f_X8_in M1 (x2.toInt64) 0 9999) (fun (r6 : Int32) (M5 : pm_M) => (if r6 = 0 then (pm_b2 (f_X8_finds M5 1) (fun (r8 : Int32) (M7 : pm_M) => (some (r8, M7)))) else (pm_b1 (f_X8_keepAside M5) (fun M9 : pm_M => (pm_b2 (lp_X8_when_32 x1 x2 0 M9) (fun (l10 : Int32) (M11 : pm_M) => (pm_b1 (f_X8_putBack M11) (fun M12 : pm_M => (if l10 ≤ 60 then (some (l10, M12)) else (pm_b2 (f_X8_finds M12 2) (fun (r14 : Int32) (M13 : pm_M) => (some (r14, M13)))))))))))))))))
set_option maxHeartbeats 4000000 in
set_option maxRecDepth 100000 in
theorem wl_X8_when_32 {X : pm_X} {V : pm_V} (x1 : Int32) (x2 : Int32)  : ∀ (l3 : Int32) (Ml : pm_M), pm_VF (lp_X8_when_32 x1 x2 l3 Ml) (fun b => (fun (l3 : Int32) (Ml : pm_M) => pm_J X V mX8_when 108 (pm_wld V skD Ml) 58 [(0, .ref (V.1 0)), (3, .int l3)] []) b.1 b.2) (pm_J X V mX8_when 108 (pm_wld V skD Ml) 32 [(0, .ref (V.1 0)), (1, .int x1), (2, .int x2), (3, .int l3)] []) := by
  refine pm_it_ind (P := fun (f : Int32 → pm_M → Option (Int32 × pm_M)) => ∀ (l3 : Int32) (Ml : pm_M), pm_VF (f l3 Ml) (fun b => (fun (l3 : Int32) (Ml : pm_M) => pm_J X V mX8_when 108 (pm_wld V skD Ml) 58 [(0, .ref (V.1 0)), (3, .int l3)] []) b.1 b.2) (pm_J X V mX8_when 108 (pm_wld V skD Ml) 32 [(0, .ref (V.1 0)), (1, .int x1), (2, .int x2), (3, .int l3)] [])) (fun _ _ => vf_none) (fun ih hih l3 Ml => ?_) pm_F
  · unfold lb_X8_when_32
    refine jv_iloadn (j := 3) dX8_when_32 rfl ?_
    refine jv_bipush (v := 60) dX8_when_33 (by decide) ?_
    refine jw_ic_gt (tgt := 58) dX8_when_35 rfl (fun c35 => ?_) (fun c35 => ?_)
    · exact vf_end (fun g => jr_sub [0, 3] rfl g)
    refine jv_aloadn (j := 0) dX8_when_38 rfl ?_
    refine jv_iloadn (j := 1) dX8_when_39 rfl ?_
    refine jv_iconst (v := 1) dX8_when_40 (by decide) ?_
    refine hv_callI (As := [.int x1, .int 1]) dX8_when_41 lk8_134 kX8_its nX8_its (Nat.le_of_ble_eq_true rfl) (Nat.le_of_ble_eq_true rfl) at_MO_0 rfl rfl rfl (fun _ _ e l => c_X8_its  e l V) ?_
    intro r33003 M33002
    refine jv_iloadn (j := 2) dX8_when_44 rfl ?_
    refine jw_ic_ge (tgt := 58) dX8_when_45 rfl (fun c45 => ?_) (fun c45 => ?_)
    · exact vf_end (fun g => jr_sub [0, 3] rfl g)
    refine jv_aloadn (j := 0) dX8_when_48 rfl ?_
    refine hv_callV (As := []) dX8_when_49 lk8_178 kX8_dayGoes nX8_dayGoes (Nat.le_of_ble_eq_true rfl) (Nat.le_of_ble_eq_true rfl) at_MO_0 rfl rfl rfl (fun _ e l => c_X8_dayGoes  e l V) ?_
    intro M33004
    refine jv_iinc (j := 3) (v := l3 + 1) (L' := [(3, .int (l3 + 1)), (0, .ref (V.1 0)), (1, .int x1), (2, .int x2)]) dX8_when_52 rfl rfl (Nat.le_of_ble_eq_true rfl) rfl ?_
    refine jv_goto (tgt := 32) dX8_when_55 rfl ?_
    exact vf_j (fun g => jr_sub [1, 2, 3, 0] rfl g) (hih (l3 + 1) M33004)
set_option maxHeartbeats 4000000 in
set_option maxRecDepth 100000 in
theorem w_X8_when {X : pm_X} {V : pm_V} (M : pm_M) (x1 : Int32) (x2 : Int32)  : pm_VF (f_X8_when M x1 x2) (pm_K X V mX8_when 108 skD) (pm_J X V mX8_when 108 (pm_wld V skD M) 0 [(0, .ref (V.1 0)), (1, .int x1), (2, .int x2)] []) := by
  unfold f_X8_when
  refine jv_aloadn (j := 0) dX8_when_0 rfl ?_
  refine jv_iloadn (j := 1) dX8_when_1 rfl ?_
  refine hv_callI (As := [.int x1]) dX8_when_2 lk8_125 kX8_isRoof nX8_isRoof (Nat.le_of_ble_eq_true rfl) (Nat.le_of_ble_eq_true rfl) at_MO_0 rfl rfl rfl (fun _ _ e l => c_X8_isRoof  e l V) ?_
  intro r2 M1
  refine jw_if_eq (tgt := 20) dX8_when_5 rfl (fun c5 => ?_) (fun c5 => ?_)
  · refine jv_aloadn (j := 0) dX8_when_20 rfl ?_
    refine jv_iconst (v := 1) dX8_when_21 (by decide) ?_
    refine hv_callI (As := [.int 1]) dX8_when_22 lk8_107 kX8_finds nX8_finds (Nat.le_of_ble_eq_true rfl) (Nat.le_of_ble_eq_true rfl) at_MO_0 rfl rfl rfl (fun _ _ e l => c_X8_finds  e l V) ?_
    intro r4 M3
    exact vf_ret dX8_when_25 rfl
  refine jv_iloadn (j := 2) dX8_when_8 rfl ?_
  refine jv_i2l dX8_when_9 ?_
  refine jv_lconst (v := 0) dX8_when_10 (by decide) ?_
  refine jv_ldc2 dX8_when_11 lk8_139 ?_
  refine hv_callS (As := [.long (x2.toInt64), .long 0, .long 9999]) dX8_when_14 lk8_44 kX8_in nX8_in (Nat.le_of_ble_eq_true rfl) (Nat.le_of_ble_eq_true rfl) rfl (fun _ _ e l => c_X8_in  e l V) ?_
  intro r6 M5
  refine jw_if_ne (tgt := 26) dX8_when_17 rfl (fun c17 => ?_) (fun c17 => ?_)
  · refine jv_aloadn (j := 0) dX8_when_20 rfl ?_
    refine jv_iconst (v := 1) dX8_when_21 (by decide) ?_
    refine hv_callI (As := [.int 1]) dX8_when_22 lk8_107 kX8_finds nX8_finds (Nat.le_of_ble_eq_true rfl) (Nat.le_of_ble_eq_true rfl) at_MO_0 rfl rfl rfl (fun _ _ e l => c_X8_finds  e l V) ?_
    intro r8 M7
    exact vf_ret dX8_when_25 rfl
  refine jv_aloadn (j := 0) dX8_when_26 rfl ?_
  refine hv_callV (As := []) dX8_when_27 lk8_203 kX8_keepAside nX8_keepAside (Nat.le_of_ble_eq_true rfl) (Nat.le_of_ble_eq_true rfl) at_MO_0 rfl rfl rfl (fun _ e l => c_X8_keepAside  e l V) ?_
  intro M9
  refine jv_iconst (v := 0) dX8_when_30 (by decide) ?_
  refine jv_istoren (L' := [(3, .int 0), (0, .ref (V.1 0)), (1, .int x1), (2, .int x2)]) dX8_when_31 (Nat.le_of_ble_eq_true rfl) rfl ?_
  refine vl_b2 (P := fun (l3 : Int32) (Ml : pm_M) => pm_J X V mX8_when 108 (pm_wld V skD Ml) 58 [(0, .ref (V.1 0)), (3, .int l3)] []) (vf_j (fun g => jr_sub [1, 2, 3, 0] rfl g) (wl_X8_when_32 x1 x2  0 M9)) ?_
  intro l10 M11
  refine jv_aloadn (j := 0) dX8_when_58 rfl ?_
  refine hv_callV (As := []) dX8_when_59 lk8_206 kX8_putBack nX8_putBack (Nat.le_of_ble_eq_true rfl) (Nat.le_of_ble_eq_true rfl) at_MO_0 rfl rfl rfl (fun _ e l => c_X8_putBack  e l V) ?_
  intro M12
  refine jv_iloadn (j := 1) dX8_when_62 rfl ?_
  refine jv_bipush (v := 60) dX8_when_63 (by decide) ?_
  refine jw_ic_le (tgt := 76) dX8_when_65 rfl (fun c65 => ?_) (fun c65 => ?_)
  · refine jv_iloadn (j := 1) dX8_when_76 rfl ?_
    exact vf_ret dX8_when_77 rfl
  refine jv_aloadn (j := 0) dX8_when_68 rfl ?_
  refine jv_iconst (v := 2) dX8_when_69 (by decide) ?_
  refine hv_callI (As := [.int 2]) dX8_when_70 lk8_107 kX8_finds nX8_finds (Nat.le_of_ble_eq_true rfl) (Nat.le_of_ble_eq_true rfl) at_MO_0 rfl rfl rfl (fun _ _ e l => c_X8_finds  e l V) ?_
  intro r14 M13
  refine jv_goto (tgt := 77) dX8_when_73 rfl ?_
  exact vf_ret dX8_when_77 rfl
theorem c_X8_when {M : pm_M} {x1 : Int32} {x2 : Int32}  {r : Int32} {M' : pm_M} (h : f_X8_when M x1 x2 = some (r, M')) (l : Launch) (V : pm_V) : pm_Ci l V skD yX8_when mX8_when 108 [.ref (V.1 0), .int x1, .int x2] M r M' := pm_metI (by decide) rfl (Nat.le_of_ble_eq_true rfl) h (fun _ => w_X8_when M x1 x2 )
def lb_X8_sellers_67 (x1 : Int32) (x2 : Int32) (l3 : Int32) (l4 : Int32) (l5 : Int32) (l6 : Int32) (l7 : Int32) (ih : Int32 → Int32 → Int32 → Int32 → pm_M → Option (Int32 × Int32 × Int32 × pm_M)) : Int32 → Int32 → Int32 → Int32 → pm_M → Option (Int32 × Int32 × Int32 × pm_M) := fun (l8 : Int32) (l9 : Int32) (l10 : Int32) (l11 : Int32) (Ml : pm_M) =>
  (if (Ml 1 (0 : Int32).toNatClampNeg) ≤ l11 then (some (l8, l9, l10, Ml)) else (pm_let ((pm_shr l7 l11) &&& 1) (fun z68002 : Int32 => (pm_let (l8 + z68002) (fun z68003 : Int32 => (pm_b2 (f_X8_its Ml l11 1) (fun (r68005 : Int32) (M68004 : pm_M) => (pm_let (l9 + (z68002 * r68005)) (fun z68006 : Int32 => (pm_b2 (f_X8_its M68004 l11 0) (fun (r68008 : Int32) (M68007 : pm_M) => (pm_let (l10 + (z68002 * r68008)) (fun z68009 : Int32 => (ih z68003 z68006 z68009 (l11 + 1) M68007))))))))))))))
def lp_X8_sellers_67 (x1 : Int32) (x2 : Int32) (l3 : Int32) (l4 : Int32) (l5 : Int32) (l6 : Int32) (l7 : Int32) : Int32 → Int32 → Int32 → Int32 → pm_M → Option (Int32 × Int32 × Int32 × pm_M) := pm_it (fun _ _ _ _ _ => none) (lb_X8_sellers_67 x1 x2 l3 l4 l5 l6 l7) pm_F
def lb_X8_sellers_42 (x1 : Int32) (x2 : Int32) (ih : Int32 → Int32 → Int32 → Int32 → Int32 → pm_M → Option (Int32 × Int32 × pm_M)) : Int32 → Int32 → Int32 → Int32 → Int32 → pm_M → Option (Int32 × Int32 × pm_M) := fun (l3 : Int32) (l4 : Int32) (l5 : Int32) (l6 : Int32) (l7 : Int32) (Ml : pm_M) =>
  (if (pm_shl 1 (Ml 1 (0 : Int32).toNatClampNeg)) ≤ l7 then (some (l3, l6, Ml)) else (pm_b4 (lp_X8_sellers_67 x1 x2 l3 l4 l5 l6 l7 0 0 0 0 Ml) (fun (l43002 : Int32) (l43003 : Int32) (l43004 : Int32) (M43005 : pm_M) => (if l3 < 0 then (if l43004 < x1 then (ih l3 l4 l5 l6 (l7 + 1) M43005) else (ih l7 l43002 l43003 l43004 (l7 + 1) M43005)) else (if l43002 < l4 then (if l43004 < x1 then (ih l3 l4 l5 l6 (l7 + 1) M43005) else (ih l7 l43002 l43003 l43004 (l7 + 1) M43005)) else (if l43002 = l4 then (if l5 ≤ l43003 then (if l43004 < x1 then (ih l3 l4 l5 l6 (l7 + 1) M43005) else (ih l3 l4 l5 l6 (l7 + 1) M43005)) else (if l43004 < x1 then (ih l3 l4 l5 l6 (l7 + 1) M43005) else (ih l7 l43002 l43003 l43004 (l7 + 1) M43005))) else (if l43004 < x1 then (ih l3 l4 l5 l6 (l7 + 1) M43005) else (ih l3 l4 l5 l6 (l7 + 1) M43005))))))))
def lp_X8_sellers_42 (x1 : Int32) (x2 : Int32) : Int32 → Int32 → Int32 → Int32 → Int32 → pm_M → Option (Int32 × Int32 × pm_M) := pm_it (fun _ _ _ _ _ _ => none) (lb_X8_sellers_42 x1 x2) pm_F
def f_X8_sellers (M : pm_M) (x1 : Int32) (x2 : Int32) : Option (Int32 × pm_M) :=
  (pm_b2 (f_X8_in M (x1.toInt64) 0 999) (fun (r2 : Int32) (M1 : pm_M) => (if r2 = 0 then (pm_b2 (f_X8_finds M1 1) (fun (r4 : Int32) (M3 : pm_M) => (some (r4, M3)))) else (pm_b2 (f_X8_in M1 (x2.toInt64) 0 1) (fun (r6 : Int32) (M5 : pm_M) => (if r6 = 0 then (pm_b2 (f_X8_finds M5 1) (fun (r8 : Int32) (M7 : pm_M) => (some (r8, M7)))) else (pm_b3 (lp_X8_sellers_42 x1 x2 (-1) 0 0 0 0 M5) (fun (l9 : Int32) (l10 : Int32) (M11 : pm_M) => (if 0 ≤ l9 then (if x2 = 0 then (some (l9, M11)) else (some (l10, M11))) else (pm_b2 (f_X8_finds M11 2) (fun (r13 : Int32) (M12 : pm_M) => (some (r13, M12)))))))))))))
set_option maxHeartbeats 4000000 in
set_option maxRecDepth 100000 in
theorem wl_X8_sellers_67 {X : pm_X} {V : pm_V} (x1 : Int32) (x2 : Int32) (l3 : Int32) (l4 : Int32) (l5 : Int32) (l6 : Int32) (l7 : Int32)  : ∀ (l8 : Int32) (l9 : Int32) (l10 : Int32) (l11 : Int32) (Ml : pm_M), pm_VF (lp_X8_sellers_67 x1 x2 l3 l4 l5 l6 l7 l8 l9 l10 l11 Ml) (fun b => (fun (l8 : Int32) (l9 : Int32) (l10 : Int32) (Ml : pm_M) => pm_J X V mX8_sellers 2 (pm_wld V skD Ml) 130 [(0, .ref (V.1 0)), (1, .int x1), (2, .int x2), (3, .int l3), (4, .int l4), (5, .int l5), (6, .int l6), (7, .int l7), (8, .int l8), (9, .int l9), (10, .int l10)] []) b.1 b.2.1 b.2.2.1 b.2.2.2) (pm_J X V mX8_sellers 2 (pm_wld V skD Ml) 67 [(0, .ref (V.1 0)), (1, .int x1), (2, .int x2), (3, .int l3), (4, .int l4), (5, .int l5), (6, .int l6), (7, .int l7), (8, .int l8), (9, .int l9), (10, .int l10), (11, .int l11)] []) := by
  refine pm_it_ind (P := fun (f : Int32 → Int32 → Int32 → Int32 → pm_M → Option (Int32 × Int32 × Int32 × pm_M)) => ∀ (l8 : Int32) (l9 : Int32) (l10 : Int32) (l11 : Int32) (Ml : pm_M), pm_VF (f l8 l9 l10 l11 Ml) (fun b => (fun (l8 : Int32) (l9 : Int32) (l10 : Int32) (Ml : pm_M) => pm_J X V mX8_sellers 2 (pm_wld V skD Ml) 130 [(0, .ref (V.1 0)), (1, .int x1), (2, .int x2), (3, .int l3), (4, .int l4), (5, .int l5), (6, .int l6), (7, .int l7), (8, .int l8), (9, .int l9), (10, .int l10)] []) b.1 b.2.1 b.2.2.1 b.2.2.2) (pm_J X V mX8_sellers 2 (pm_wld V skD Ml) 67 [(0, .ref (V.1 0)), (1, .int x1), (2, .int x2), (3, .int l3), (4, .int l4), (5, .int l5), (6, .int l6), (7, .int l7), (8, .int l8), (9, .int l9), (10, .int l10), (11, .int l11)] [])) (fun _ _ _ _ _ => vf_none) (fun ih hih l8 l9 l10 l11 Ml => ?_) pm_F
  · unfold lb_X8_sellers_67
    refine jv_iload (j := 11) dX8_sellers_67 rfl ?_
    refine jv_aloadn (j := 0) dX8_sellers_69 rfl ?_
    refine hv_getR dX8_sellers_70 fl8_7 at_MO_0 rfl ?_
    refine jv_iconst (v := 0) dX8_sellers_73 (by decide) ?_
    refine hv_iald dX8_sellers_74 at_MO_1 (by decide) ?_
    refine jw_ic_ge (tgt := 130) dX8_sellers_75 rfl (fun c75 => ?_) (fun c75 => ?_)
    · exact vf_end (fun g => jr_sub [0, 1, 2, 3, 4, 5, 6, 7, 8, 9, 10] rfl g)
    refine jv_iload (j := 7) dX8_sellers_78 rfl ?_
    refine jv_iload (j := 11) dX8_sellers_80 rfl ?_
    refine jv_ishr dX8_sellers_82 ?_
    refine jv_iconst (v := 1) dX8_sellers_83 (by decide) ?_
    refine jv_iand dX8_sellers_84 ?_
    refine vf_letS (fun z68002 => ?_)
    refine jv_istore (L' := [(12, .int z68002), (0, .ref (V.1 0)), (1, .int x1), (2, .int x2), (3, .int l3), (4, .int l4), (5, .int l5), (6, .int l6), (7, .int l7), (8, .int l8), (9, .int l9), (10, .int l10), (11, .int l11)]) dX8_sellers_85 (Nat.le_of_ble_eq_true rfl) rfl ?_
    refine jv_iload (j := 9) dX8_sellers_87 rfl ?_
    refine jv_iload (j := 0) dX8_sellers_89 rfl ?_
    refine jv_iadd dX8_sellers_91 ?_
    refine vf_letS (fun z68003 => ?_)
    refine jv_istore (L' := [(8, .int z68003), (12, .int z68002), (0, .ref (V.1 0)), (1, .int x1), (2, .int x2), (3, .int l3), (4, .int l4), (5, .int l5), (6, .int l6), (7, .int l7), (9, .int l9), (10, .int l10), (11, .int l11)]) dX8_sellers_92 (Nat.le_of_ble_eq_true rfl) rfl ?_
    refine jv_iload (j := 10) dX8_sellers_94 rfl ?_
    refine jv_iload (j := 1) dX8_sellers_96 rfl ?_
    refine jv_aloadn (j := 2) dX8_sellers_98 rfl ?_
    refine jv_iload (j := 12) dX8_sellers_99 rfl ?_
    refine jv_iconst (v := 1) dX8_sellers_101 (by decide) ?_
    refine hv_callI (As := [.int l11, .int 1]) dX8_sellers_102 lk8_134 kX8_its nX8_its (Nat.le_of_ble_eq_true rfl) (Nat.le_of_ble_eq_true rfl) at_MO_0 rfl rfl rfl (fun _ _ e l => c_X8_its  e l V) ?_
    intro r68005 M68004
    refine jv_imul dX8_sellers_105 ?_
    refine jv_iadd dX8_sellers_106 ?_
    refine vf_letS (fun z68006 => ?_)
    refine jv_istore (L' := [(9, .int z68006), (8, .int z68003), (12, .int z68002), (0, .ref (V.1 0)), (1, .int x1), (2, .int x2), (3, .int l3), (4, .int l4), (5, .int l5), (6, .int l6), (7, .int l7), (10, .int l10), (11, .int l11)]) dX8_sellers_107 (Nat.le_of_ble_eq_true rfl) rfl ?_
    refine jv_iload (j := 11) dX8_sellers_109 rfl ?_
    refine jv_iload (j := 2) dX8_sellers_111 rfl ?_
    refine jv_aloadn (j := 3) dX8_sellers_113 rfl ?_
    refine jv_iload (j := 12) dX8_sellers_114 rfl ?_
    refine jv_iconst (v := 0) dX8_sellers_116 (by decide) ?_
    refine hv_callI (As := [.int l11, .int 0]) dX8_sellers_117 lk8_134 kX8_its nX8_its (Nat.le_of_ble_eq_true rfl) (Nat.le_of_ble_eq_true rfl) at_MO_0 rfl rfl rfl (fun _ _ e l => c_X8_its  e l V) ?_
    intro r68008 M68007
    refine jv_imul dX8_sellers_120 ?_
    refine jv_iadd dX8_sellers_121 ?_
    refine vf_letS (fun z68009 => ?_)
    refine jv_istore (L' := [(10, .int z68009), (9, .int z68006), (8, .int z68003), (12, .int z68002), (0, .ref (V.1 0)), (1, .int x1), (2, .int x2), (3, .int l3), (4, .int l4), (5, .int l5), (6, .int l6), (7, .int l7), (11, .int l11)]) dX8_sellers_122 (Nat.le_of_ble_eq_true rfl) rfl ?_
    refine jv_iinc (j := 12) (v := l11 + 1) (L' := [(11, .int (l11 + 1)), (10, .int z68009), (9, .int z68006), (8, .int z68003), (12, .int z68002), (0, .ref (V.1 0)), (1, .int x1), (2, .int x2), (3, .int l3), (4, .int l4), (5, .int l5), (6, .int l6), (7, .int l7)]) dX8_sellers_124 rfl rfl (Nat.le_of_ble_eq_true rfl) rfl ?_
    refine jv_goto (tgt := 67) dX8_sellers_127 rfl ?_
    exact vf_j (fun g => jr_sub [5, 6, 7, 8, 9, 10, 11, 12, 3, 2, 1, 0] rfl g) (hih z68003 z68006 z68009 (l11 + 1) M68007)
set_option maxHeartbeats 4000000 in
set_option maxRecDepth 100000 in
theorem wl_X8_sellers_42 {X : pm_X} {V : pm_V} (x1 : Int32) (x2 : Int32)  : ∀ (l3 : Int32) (l4 : Int32) (l5 : Int32) (l6 : Int32) (l7 : Int32) (Ml : pm_M), pm_VF (lp_X8_sellers_42 x1 x2 l3 l4 l5 l6 l7 Ml) (fun b => (fun (l3 : Int32) (l6 : Int32) (Ml : pm_M) => pm_J X V mX8_sellers 2 (pm_wld V skD Ml) 194 [(0, .ref (V.1 0)), (2, .int x2), (3, .int l3), (6, .int l6)] []) b.1 b.2.1 b.2.2) (pm_J X V mX8_sellers 2 (pm_wld V skD Ml) 42 [(0, .ref (V.1 0)), (1, .int x1), (2, .int x2), (3, .int l3), (4, .int l4), (5, .int l5), (6, .int l6), (7, .int l7)] []) := by
  refine pm_it_ind (P := fun (f : Int32 → Int32 → Int32 → Int32 → Int32 → pm_M → Option (Int32 × Int32 × pm_M)) => ∀ (l3 : Int32) (l4 : Int32) (l5 : Int32) (l6 : Int32) (l7 : Int32) (Ml : pm_M), pm_VF (f l3 l4 l5 l6 l7 Ml) (fun b => (fun (l3 : Int32) (l6 : Int32) (Ml : pm_M) => pm_J X V mX8_sellers 2 (pm_wld V skD Ml) 194 [(0, .ref (V.1 0)), (2, .int x2), (3, .int l3), (6, .int l6)] []) b.1 b.2.1 b.2.2) (pm_J X V mX8_sellers 2 (pm_wld V skD Ml) 42 [(0, .ref (V.1 0)), (1, .int x1), (2, .int x2), (3, .int l3), (4, .int l4), (5, .int l5), (6, .int l6), (7, .int l7)] [])) (fun _ _ _ _ _ _ => vf_none) (fun ih hih l3 l4 l5 l6 l7 Ml => ?_) pm_F
  · unfold lb_X8_sellers_42
    refine jv_iload (j := 7) dX8_sellers_42 rfl ?_
    refine jv_iconst (v := 1) dX8_sellers_44 (by decide) ?_
    refine jv_aloadn (j := 0) dX8_sellers_45 rfl ?_
    refine hv_getR dX8_sellers_46 fl8_7 at_MO_0 rfl ?_
    refine jv_iconst (v := 0) dX8_sellers_49 (by decide) ?_
    refine hv_iald dX8_sellers_50 at_MO_1 (by decide) ?_
    refine jv_ishl dX8_sellers_51 ?_
    refine jw_ic_ge (tgt := 194) dX8_sellers_52 rfl (fun c52 => ?_) (fun c52 => ?_)
    · exact vf_end (fun g => jr_sub [0, 2, 3, 6] rfl g)
    refine jv_iconst (v := 0) dX8_sellers_55 (by decide) ?_
    refine jv_istore (L' := [(8, .int 0), (0, .ref (V.1 0)), (1, .int x1), (2, .int x2), (3, .int l3), (4, .int l4), (5, .int l5), (6, .int l6), (7, .int l7)]) dX8_sellers_56 (Nat.le_of_ble_eq_true rfl) rfl ?_
    refine jv_iconst (v := 0) dX8_sellers_58 (by decide) ?_
    refine jv_istore (L' := [(9, .int 0), (8, .int 0), (0, .ref (V.1 0)), (1, .int x1), (2, .int x2), (3, .int l3), (4, .int l4), (5, .int l5), (6, .int l6), (7, .int l7)]) dX8_sellers_59 (Nat.le_of_ble_eq_true rfl) rfl ?_
    refine jv_iconst (v := 0) dX8_sellers_61 (by decide) ?_
    refine jv_istore (L' := [(10, .int 0), (9, .int 0), (8, .int 0), (0, .ref (V.1 0)), (1, .int x1), (2, .int x2), (3, .int l3), (4, .int l4), (5, .int l5), (6, .int l6), (7, .int l7)]) dX8_sellers_62 (Nat.le_of_ble_eq_true rfl) rfl ?_
    refine jv_iconst (v := 0) dX8_sellers_64 (by decide) ?_
    refine jv_istore (L' := [(11, .int 0), (10, .int 0), (9, .int 0), (8, .int 0), (0, .ref (V.1 0)), (1, .int x1), (2, .int x2), (3, .int l3), (4, .int l4), (5, .int l5), (6, .int l6), (7, .int l7)]) dX8_sellers_65 (Nat.le_of_ble_eq_true rfl) rfl ?_
    refine vl_b4 (P := fun (l8 : Int32) (l9 : Int32) (l10 : Int32) (Ml : pm_M) => pm_J X V mX8_sellers 2 (pm_wld V skD Ml) 130 [(0, .ref (V.1 0)), (1, .int x1), (2, .int x2), (3, .int l3), (4, .int l4), (5, .int l5), (6, .int l6), (7, .int l7), (8, .int l8), (9, .int l9), (10, .int l10)] []) (vf_j (fun g => jr_sub [4, 5, 6, 7, 8, 9, 10, 11, 3, 2, 1, 0] rfl g) (wl_X8_sellers_67 x1 x2 l3 l4 l5 l6 l7  0 0 0 0 Ml)) ?_
    intro l43002 l43003 l43004 M43005
    refine jv_iloadn (j := 3) dX8_sellers_130 rfl ?_
    refine jw_if_lt (tgt := 155) dX8_sellers_131 rfl (fun c131 => ?_) (fun c131 => ?_)
    · refine jv_iconst (v := 1) dX8_sellers_155 (by decide) ?_
      refine jv_goto (tgt := 160) dX8_sellers_156 rfl ?_
      refine jv_istore (L' := [(11, .int 1), (0, .ref (V.1 0)), (1, .int x1), (2, .int x2), (3, .int l3), (4, .int l4), (5, .int l5), (6, .int l6), (7, .int l7), (8, .int l43002), (9, .int l43003), (10, .int l43004)]) dX8_sellers_160 (Nat.le_of_ble_eq_true rfl) rfl ?_
      refine jv_iload (j := 11) dX8_sellers_162 rfl ?_
      refine jv_iloadn (j := 2) dX8_sellers_164 rfl ?_
      refine jw_ic_lt (tgt := 188) dX8_sellers_165 rfl (fun c165 => ?_) (fun c165 => ?_)
      · refine jv_iinc (j := 8) (v := l7 + 1) (L' := [(7, .int (l7 + 1)), (11, .int 1), (0, .ref (V.1 0)), (1, .int x1), (2, .int x2), (3, .int l3), (4, .int l4), (5, .int l5), (6, .int l6), (8, .int l43002), (9, .int l43003), (10, .int l43004)]) dX8_sellers_188 rfl rfl (Nat.le_of_ble_eq_true rfl) rfl ?_
        refine jv_goto (tgt := 42) dX8_sellers_191 rfl ?_
        exact vf_j (fun g => jr_sub [2, 3, 4, 5, 6, 7, 8, 0] rfl g) (hih l3 l4 l5 l6 (l7 + 1) M43005)
      refine jv_iload (j := 0) dX8_sellers_168 rfl ?_
      refine vf_j (fun g => jr_if_eq (tgt := 188) dX8_sellers_170 rfl (fun h => absurd h (by decide)) (fun _ => g)) ?_
      refine jv_iload (j := 8) dX8_sellers_173 rfl ?_
      refine jv_istoren (L' := [(3, .int l7), (11, .int 1), (0, .ref (V.1 0)), (1, .int x1), (2, .int x2), (4, .int l4), (5, .int l5), (6, .int l6), (7, .int l7), (8, .int l43002), (9, .int l43003), (10, .int l43004)]) dX8_sellers_175 (Nat.le_of_ble_eq_true rfl) rfl ?_
      refine jv_iload (j := 9) dX8_sellers_176 rfl ?_
      refine jv_istore (L' := [(4, .int l43002), (3, .int l7), (11, .int 1), (0, .ref (V.1 0)), (1, .int x1), (2, .int x2), (5, .int l5), (6, .int l6), (7, .int l7), (8, .int l43002), (9, .int l43003), (10, .int l43004)]) dX8_sellers_178 (Nat.le_of_ble_eq_true rfl) rfl ?_
      refine jv_iload (j := 10) dX8_sellers_180 rfl ?_
      refine jv_istore (L' := [(5, .int l43003), (4, .int l43002), (3, .int l7), (11, .int 1), (0, .ref (V.1 0)), (1, .int x1), (2, .int x2), (6, .int l6), (7, .int l7), (8, .int l43002), (9, .int l43003), (10, .int l43004)]) dX8_sellers_182 (Nat.le_of_ble_eq_true rfl) rfl ?_
      refine jv_iload (j := 11) dX8_sellers_184 rfl ?_
      refine jv_istore (L' := [(6, .int l43004), (5, .int l43003), (4, .int l43002), (3, .int l7), (11, .int 1), (0, .ref (V.1 0)), (1, .int x1), (2, .int x2), (7, .int l7), (8, .int l43002), (9, .int l43003), (10, .int l43004)]) dX8_sellers_186 (Nat.le_of_ble_eq_true rfl) rfl ?_
      refine jv_iinc (j := 8) (v := l7 + 1) (L' := [(7, .int (l7 + 1)), (6, .int l43004), (5, .int l43003), (4, .int l43002), (3, .int l7), (11, .int 1), (0, .ref (V.1 0)), (1, .int x1), (2, .int x2), (8, .int l43002), (9, .int l43003), (10, .int l43004)]) dX8_sellers_188 rfl rfl (Nat.le_of_ble_eq_true rfl) rfl ?_
      refine jv_goto (tgt := 42) dX8_sellers_191 rfl ?_
      exact vf_j (fun g => jr_sub [6, 7, 8, 4, 3, 2, 1, 0] rfl g) (hih l7 l43002 l43003 l43004 (l7 + 1) M43005)
    refine jv_iload (j := 8) dX8_sellers_134 rfl ?_
    refine jv_iload (j := 4) dX8_sellers_136 rfl ?_
    refine jw_ic_lt (tgt := 155) dX8_sellers_138 rfl (fun c138 => ?_) (fun c138 => ?_)
    · refine jv_iconst (v := 1) dX8_sellers_155 (by decide) ?_
      refine jv_goto (tgt := 160) dX8_sellers_156 rfl ?_
      refine jv_istore (L' := [(11, .int 1), (0, .ref (V.1 0)), (1, .int x1), (2, .int x2), (3, .int l3), (4, .int l4), (5, .int l5), (6, .int l6), (7, .int l7), (8, .int l43002), (9, .int l43003), (10, .int l43004)]) dX8_sellers_160 (Nat.le_of_ble_eq_true rfl) rfl ?_
      refine jv_iload (j := 11) dX8_sellers_162 rfl ?_
      refine jv_iloadn (j := 2) dX8_sellers_164 rfl ?_
      refine jw_ic_lt (tgt := 188) dX8_sellers_165 rfl (fun c165 => ?_) (fun c165 => ?_)
      · refine jv_iinc (j := 8) (v := l7 + 1) (L' := [(7, .int (l7 + 1)), (11, .int 1), (0, .ref (V.1 0)), (1, .int x1), (2, .int x2), (3, .int l3), (4, .int l4), (5, .int l5), (6, .int l6), (8, .int l43002), (9, .int l43003), (10, .int l43004)]) dX8_sellers_188 rfl rfl (Nat.le_of_ble_eq_true rfl) rfl ?_
        refine jv_goto (tgt := 42) dX8_sellers_191 rfl ?_
        exact vf_j (fun g => jr_sub [2, 3, 4, 5, 6, 7, 8, 0] rfl g) (hih l3 l4 l5 l6 (l7 + 1) M43005)
      refine jv_iload (j := 0) dX8_sellers_168 rfl ?_
      refine vf_j (fun g => jr_if_eq (tgt := 188) dX8_sellers_170 rfl (fun h => absurd h (by decide)) (fun _ => g)) ?_
      refine jv_iload (j := 8) dX8_sellers_173 rfl ?_
      refine jv_istoren (L' := [(3, .int l7), (11, .int 1), (0, .ref (V.1 0)), (1, .int x1), (2, .int x2), (4, .int l4), (5, .int l5), (6, .int l6), (7, .int l7), (8, .int l43002), (9, .int l43003), (10, .int l43004)]) dX8_sellers_175 (Nat.le_of_ble_eq_true rfl) rfl ?_
      refine jv_iload (j := 9) dX8_sellers_176 rfl ?_
      refine jv_istore (L' := [(4, .int l43002), (3, .int l7), (11, .int 1), (0, .ref (V.1 0)), (1, .int x1), (2, .int x2), (5, .int l5), (6, .int l6), (7, .int l7), (8, .int l43002), (9, .int l43003), (10, .int l43004)]) dX8_sellers_178 (Nat.le_of_ble_eq_true rfl) rfl ?_
      refine jv_iload (j := 10) dX8_sellers_180 rfl ?_
      refine jv_istore (L' := [(5, .int l43003), (4, .int l43002), (3, .int l7), (11, .int 1), (0, .ref (V.1 0)), (1, .int x1), (2, .int x2), (6, .int l6), (7, .int l7), (8, .int l43002), (9, .int l43003), (10, .int l43004)]) dX8_sellers_182 (Nat.le_of_ble_eq_true rfl) rfl ?_
      refine jv_iload (j := 11) dX8_sellers_184 rfl ?_
      refine jv_istore (L' := [(6, .int l43004), (5, .int l43003), (4, .int l43002), (3, .int l7), (11, .int 1), (0, .ref (V.1 0)), (1, .int x1), (2, .int x2), (7, .int l7), (8, .int l43002), (9, .int l43003), (10, .int l43004)]) dX8_sellers_186 (Nat.le_of_ble_eq_true rfl) rfl ?_
      refine jv_iinc (j := 8) (v := l7 + 1) (L' := [(7, .int (l7 + 1)), (6, .int l43004), (5, .int l43003), (4, .int l43002), (3, .int l7), (11, .int 1), (0, .ref (V.1 0)), (1, .int x1), (2, .int x2), (8, .int l43002), (9, .int l43003), (10, .int l43004)]) dX8_sellers_188 rfl rfl (Nat.le_of_ble_eq_true rfl) rfl ?_
      refine jv_goto (tgt := 42) dX8_sellers_191 rfl ?_
      exact vf_j (fun g => jr_sub [6, 7, 8, 4, 3, 2, 1, 0] rfl g) (hih l7 l43002 l43003 l43004 (l7 + 1) M43005)
    refine jv_iload (j := 8) dX8_sellers_141 rfl ?_
    refine jv_iload (j := 4) dX8_sellers_143 rfl ?_
    refine jw_ic_ne (tgt := 159) dX8_sellers_145 rfl (fun c145 => ?_) (fun c145 => ?_)
    · refine jv_iload (j := 9) dX8_sellers_148 rfl ?_
      refine jv_iload (j := 5) dX8_sellers_150 rfl ?_
      refine jw_ic_ge (tgt := 159) dX8_sellers_152 rfl (fun c152 => ?_) (fun c152 => ?_)
      · refine jv_iconst (v := 0) dX8_sellers_159 (by decide) ?_
        refine jv_istore (L' := [(11, .int 0), (0, .ref (V.1 0)), (1, .int x1), (2, .int x2), (3, .int l3), (4, .int l4), (5, .int l5), (6, .int l6), (7, .int l7), (8, .int l43002), (9, .int l43003), (10, .int l43004)]) dX8_sellers_160 (Nat.le_of_ble_eq_true rfl) rfl ?_
        refine jv_iload (j := 11) dX8_sellers_162 rfl ?_
        refine jv_iloadn (j := 2) dX8_sellers_164 rfl ?_
        refine jw_ic_lt (tgt := 188) dX8_sellers_165 rfl (fun c165 => ?_) (fun c165 => ?_)
        · refine jv_iinc (j := 8) (v := l7 + 1) (L' := [(7, .int (l7 + 1)), (11, .int 0), (0, .ref (V.1 0)), (1, .int x1), (2, .int x2), (3, .int l3), (4, .int l4), (5, .int l5), (6, .int l6), (8, .int l43002), (9, .int l43003), (10, .int l43004)]) dX8_sellers_188 rfl rfl (Nat.le_of_ble_eq_true rfl) rfl ?_
          refine jv_goto (tgt := 42) dX8_sellers_191 rfl ?_
          exact vf_j (fun g => jr_sub [2, 3, 4, 5, 6, 7, 8, 0] rfl g) (hih l3 l4 l5 l6 (l7 + 1) M43005)
        refine jv_iload (j := 0) dX8_sellers_168 rfl ?_
        refine vf_j (fun g => jr_if_eq (tgt := 188) dX8_sellers_170 rfl (fun _ => g) (fun h => absurd (by decide) h)) ?_
        refine jv_iinc (j := 8) (v := l7 + 1) (L' := [(7, .int (l7 + 1)), (11, .int 0), (0, .ref (V.1 0)), (1, .int x1), (2, .int x2), (3, .int l3), (4, .int l4), (5, .int l5), (6, .int l6), (8, .int l43002), (9, .int l43003), (10, .int l43004)]) dX8_sellers_188 rfl rfl (Nat.le_of_ble_eq_true rfl) rfl ?_
        refine jv_goto (tgt := 42) dX8_sellers_191 rfl ?_
        exact vf_j (fun g => jr_sub [2, 3, 4, 5, 6, 7, 8, 0] rfl g) (hih l3 l4 l5 l6 (l7 + 1) M43005)
      refine jv_iconst (v := 1) dX8_sellers_155 (by decide) ?_
      refine jv_goto (tgt := 160) dX8_sellers_156 rfl ?_
      refine jv_istore (L' := [(11, .int 1), (0, .ref (V.1 0)), (1, .int x1), (2, .int x2), (3, .int l3), (4, .int l4), (5, .int l5), (6, .int l6), (7, .int l7), (8, .int l43002), (9, .int l43003), (10, .int l43004)]) dX8_sellers_160 (Nat.le_of_ble_eq_true rfl) rfl ?_
      refine jv_iload (j := 11) dX8_sellers_162 rfl ?_
      refine jv_iloadn (j := 2) dX8_sellers_164 rfl ?_
      refine jw_ic_lt (tgt := 188) dX8_sellers_165 rfl (fun c165 => ?_) (fun c165 => ?_)
      · refine jv_iinc (j := 8) (v := l7 + 1) (L' := [(7, .int (l7 + 1)), (11, .int 1), (0, .ref (V.1 0)), (1, .int x1), (2, .int x2), (3, .int l3), (4, .int l4), (5, .int l5), (6, .int l6), (8, .int l43002), (9, .int l43003), (10, .int l43004)]) dX8_sellers_188 rfl rfl (Nat.le_of_ble_eq_true rfl) rfl ?_
        refine jv_goto (tgt := 42) dX8_sellers_191 rfl ?_
        exact vf_j (fun g => jr_sub [2, 3, 4, 5, 6, 7, 8, 0] rfl g) (hih l3 l4 l5 l6 (l7 + 1) M43005)
      refine jv_iload (j := 0) dX8_sellers_168 rfl ?_
      refine vf_j (fun g => jr_if_eq (tgt := 188) dX8_sellers_170 rfl (fun h => absurd h (by decide)) (fun _ => g)) ?_
      refine jv_iload (j := 8) dX8_sellers_173 rfl ?_
      refine jv_istoren (L' := [(3, .int l7), (11, .int 1), (0, .ref (V.1 0)), (1, .int x1), (2, .int x2), (4, .int l4), (5, .int l5), (6, .int l6), (7, .int l7), (8, .int l43002), (9, .int l43003), (10, .int l43004)]) dX8_sellers_175 (Nat.le_of_ble_eq_true rfl) rfl ?_
      refine jv_iload (j := 9) dX8_sellers_176 rfl ?_
      refine jv_istore (L' := [(4, .int l43002), (3, .int l7), (11, .int 1), (0, .ref (V.1 0)), (1, .int x1), (2, .int x2), (5, .int l5), (6, .int l6), (7, .int l7), (8, .int l43002), (9, .int l43003), (10, .int l43004)]) dX8_sellers_178 (Nat.le_of_ble_eq_true rfl) rfl ?_
      refine jv_iload (j := 10) dX8_sellers_180 rfl ?_
      refine jv_istore (L' := [(5, .int l43003), (4, .int l43002), (3, .int l7), (11, .int 1), (0, .ref (V.1 0)), (1, .int x1), (2, .int x2), (6, .int l6), (7, .int l7), (8, .int l43002), (9, .int l43003), (10, .int l43004)]) dX8_sellers_182 (Nat.le_of_ble_eq_true rfl) rfl ?_
      refine jv_iload (j := 11) dX8_sellers_184 rfl ?_
      refine jv_istore (L' := [(6, .int l43004), (5, .int l43003), (4, .int l43002), (3, .int l7), (11, .int 1), (0, .ref (V.1 0)), (1, .int x1), (2, .int x2), (7, .int l7), (8, .int l43002), (9, .int l43003), (10, .int l43004)]) dX8_sellers_186 (Nat.le_of_ble_eq_true rfl) rfl ?_
      refine jv_iinc (j := 8) (v := l7 + 1) (L' := [(7, .int (l7 + 1)), (6, .int l43004), (5, .int l43003), (4, .int l43002), (3, .int l7), (11, .int 1), (0, .ref (V.1 0)), (1, .int x1), (2, .int x2), (8, .int l43002), (9, .int l43003), (10, .int l43004)]) dX8_sellers_188 rfl rfl (Nat.le_of_ble_eq_true rfl) rfl ?_
      refine jv_goto (tgt := 42) dX8_sellers_191 rfl ?_
      exact vf_j (fun g => jr_sub [6, 7, 8, 4, 3, 2, 1, 0] rfl g) (hih l7 l43002 l43003 l43004 (l7 + 1) M43005)
    refine jv_iconst (v := 0) dX8_sellers_159 (by decide) ?_
    refine jv_istore (L' := [(11, .int 0), (0, .ref (V.1 0)), (1, .int x1), (2, .int x2), (3, .int l3), (4, .int l4), (5, .int l5), (6, .int l6), (7, .int l7), (8, .int l43002), (9, .int l43003), (10, .int l43004)]) dX8_sellers_160 (Nat.le_of_ble_eq_true rfl) rfl ?_
    refine jv_iload (j := 11) dX8_sellers_162 rfl ?_
    refine jv_iloadn (j := 2) dX8_sellers_164 rfl ?_
    refine jw_ic_lt (tgt := 188) dX8_sellers_165 rfl (fun c165 => ?_) (fun c165 => ?_)
    · refine jv_iinc (j := 8) (v := l7 + 1) (L' := [(7, .int (l7 + 1)), (11, .int 0), (0, .ref (V.1 0)), (1, .int x1), (2, .int x2), (3, .int l3), (4, .int l4), (5, .int l5), (6, .int l6), (8, .int l43002), (9, .int l43003), (10, .int l43004)]) dX8_sellers_188 rfl rfl (Nat.le_of_ble_eq_true rfl) rfl ?_
      refine jv_goto (tgt := 42) dX8_sellers_191 rfl ?_
      exact vf_j (fun g => jr_sub [2, 3, 4, 5, 6, 7, 8, 0] rfl g) (hih l3 l4 l5 l6 (l7 + 1) M43005)
    refine jv_iload (j := 0) dX8_sellers_168 rfl ?_
    refine vf_j (fun g => jr_if_eq (tgt := 188) dX8_sellers_170 rfl (fun _ => g) (fun h => absurd (by decide) h)) ?_
    refine jv_iinc (j := 8) (v := l7 + 1) (L' := [(7, .int (l7 + 1)), (11, .int 0), (0, .ref (V.1 0)), (1, .int x1), (2, .int x2), (3, .int l3), (4, .int l4), (5, .int l5), (6, .int l6), (8, .int l43002), (9, .int l43003), (10, .int l43004)]) dX8_sellers_188 rfl rfl (Nat.le_of_ble_eq_true rfl) rfl ?_
    refine jv_goto (tgt := 42) dX8_sellers_191 rfl ?_
    exact vf_j (fun g => jr_sub [2, 3, 4, 5, 6, 7, 8, 0] rfl g) (hih l3 l4 l5 l6 (l7 + 1) M43005)
set_option maxHeartbeats 4000000 in
set_option maxRecDepth 100000 in
theorem w_X8_sellers {X : pm_X} {V : pm_V} (M : pm_M) (x1 : Int32) (x2 : Int32)  : pm_VF (f_X8_sellers M x1 x2) (pm_K X V mX8_sellers 2 skD) (pm_J X V mX8_sellers 2 (pm_wld V skD M) 0 [(0, .ref (V.1 0)), (1, .int x1), (2, .int x2)] []) := by
  unfold f_X8_sellers
  refine jv_iloadn (j := 1) dX8_sellers_0 rfl ?_
  refine jv_i2l dX8_sellers_1 ?_
  refine jv_lconst (v := 0) dX8_sellers_2 (by decide) ?_
  refine jv_ldc2 dX8_sellers_3 lk8_145 ?_
  refine hv_callS (As := [.long (x1.toInt64), .long 0, .long 999]) dX8_sellers_6 lk8_44 kX8_in nX8_in (Nat.le_of_ble_eq_true rfl) (Nat.le_of_ble_eq_true rfl) rfl (fun _ _ e l => c_X8_in  e l V) ?_
  intro r2 M1
  refine jw_if_eq (tgt := 22) dX8_sellers_9 rfl (fun c9 => ?_) (fun c9 => ?_)
  · refine jv_aloadn (j := 0) dX8_sellers_22 rfl ?_
    refine jv_iconst (v := 1) dX8_sellers_23 (by decide) ?_
    refine hv_callI (As := [.int 1]) dX8_sellers_24 lk8_107 kX8_finds nX8_finds (Nat.le_of_ble_eq_true rfl) (Nat.le_of_ble_eq_true rfl) at_MO_0 rfl rfl rfl (fun _ _ e l => c_X8_finds  e l V) ?_
    intro r4 M3
    exact vf_ret dX8_sellers_27 rfl
  refine jv_iloadn (j := 2) dX8_sellers_12 rfl ?_
  refine jv_i2l dX8_sellers_13 ?_
  refine jv_lconst (v := 0) dX8_sellers_14 (by decide) ?_
  refine jv_lconst (v := 1) dX8_sellers_15 (by decide) ?_
  refine hv_callS (As := [.long (x2.toInt64), .long 0, .long 1]) dX8_sellers_16 lk8_44 kX8_in nX8_in (Nat.le_of_ble_eq_true rfl) (Nat.le_of_ble_eq_true rfl) rfl (fun _ _ e l => c_X8_in  e l V) ?_
  intro r6 M5
  refine jw_if_ne (tgt := 28) dX8_sellers_19 rfl (fun c19 => ?_) (fun c19 => ?_)
  · refine jv_aloadn (j := 0) dX8_sellers_22 rfl ?_
    refine jv_iconst (v := 1) dX8_sellers_23 (by decide) ?_
    refine hv_callI (As := [.int 1]) dX8_sellers_24 lk8_107 kX8_finds nX8_finds (Nat.le_of_ble_eq_true rfl) (Nat.le_of_ble_eq_true rfl) at_MO_0 rfl rfl rfl (fun _ _ e l => c_X8_finds  e l V) ?_
    intro r8 M7
    exact vf_ret dX8_sellers_27 rfl
  refine jv_iconst (v := -1) dX8_sellers_28 (by decide) ?_
  refine jv_istoren (L' := [(3, .int (-1)), (0, .ref (V.1 0)), (1, .int x1), (2, .int x2)]) dX8_sellers_29 (Nat.le_of_ble_eq_true rfl) rfl ?_
  refine jv_iconst (v := 0) dX8_sellers_30 (by decide) ?_
  refine jv_istore (L' := [(4, .int 0), (3, .int (-1)), (0, .ref (V.1 0)), (1, .int x1), (2, .int x2)]) dX8_sellers_31 (Nat.le_of_ble_eq_true rfl) rfl ?_
  refine jv_iconst (v := 0) dX8_sellers_33 (by decide) ?_
  refine jv_istore (L' := [(5, .int 0), (4, .int 0), (3, .int (-1)), (0, .ref (V.1 0)), (1, .int x1), (2, .int x2)]) dX8_sellers_34 (Nat.le_of_ble_eq_true rfl) rfl ?_
  refine jv_iconst (v := 0) dX8_sellers_36 (by decide) ?_
  refine jv_istore (L' := [(6, .int 0), (5, .int 0), (4, .int 0), (3, .int (-1)), (0, .ref (V.1 0)), (1, .int x1), (2, .int x2)]) dX8_sellers_37 (Nat.le_of_ble_eq_true rfl) rfl ?_
  refine jv_iconst (v := 0) dX8_sellers_39 (by decide) ?_
  refine jv_istore (L' := [(7, .int 0), (6, .int 0), (5, .int 0), (4, .int 0), (3, .int (-1)), (0, .ref (V.1 0)), (1, .int x1), (2, .int x2)]) dX8_sellers_40 (Nat.le_of_ble_eq_true rfl) rfl ?_
  refine vl_b3 (P := fun (l3 : Int32) (l6 : Int32) (Ml : pm_M) => pm_J X V mX8_sellers 2 (pm_wld V skD Ml) 194 [(0, .ref (V.1 0)), (2, .int x2), (3, .int l3), (6, .int l6)] []) (vf_j (fun g => jr_sub [5, 6, 7, 4, 3, 2, 1, 0] rfl g) (wl_X8_sellers_42 x1 x2  (-1) 0 0 0 0 M5)) ?_
  intro l9 l10 M11
  refine jv_iloadn (j := 2) dX8_sellers_194 rfl ?_
  refine jw_if_ge (tgt := 206) dX8_sellers_195 rfl (fun c195 => ?_) (fun c195 => ?_)
  · refine jv_iloadn (j := 1) dX8_sellers_206 rfl ?_
    refine jw_if_ne (tgt := 214) dX8_sellers_207 rfl (fun c207 => ?_) (fun c207 => ?_)
    · refine jv_iloadn (j := 2) dX8_sellers_210 rfl ?_
      refine jv_goto (tgt := 216) dX8_sellers_211 rfl ?_
      exact vf_ret dX8_sellers_216 rfl
    refine jv_iload (j := 3) dX8_sellers_214 rfl ?_
    exact vf_ret dX8_sellers_216 rfl
  refine jv_aloadn (j := 0) dX8_sellers_198 rfl ?_
  refine jv_iconst (v := 2) dX8_sellers_199 (by decide) ?_
  refine hv_callI (As := [.int 2]) dX8_sellers_200 lk8_107 kX8_finds nX8_finds (Nat.le_of_ble_eq_true rfl) (Nat.le_of_ble_eq_true rfl) at_MO_0 rfl rfl rfl (fun _ _ e l => c_X8_finds  e l V) ?_
  intro r13 M12
  refine jv_goto (tgt := 216) dX8_sellers_203 rfl ?_
  exact vf_ret dX8_sellers_216 rfl
theorem c_X8_sellers {M : pm_M} {x1 : Int32} {x2 : Int32}  {r : Int32} {M' : pm_M} (h : f_X8_sellers M x1 x2 = some (r, M')) (l : Launch) (V : pm_V) : pm_Ci l V skD yX8_sellers mX8_sellers 2 [.ref (V.1 0), .int x1, .int x2] M r M' := pm_metI (by decide) rfl (Nat.le_of_ble_eq_true rfl) h (fun _ => w_X8_sellers M x1 x2 )
def f_X8_clears (M : pm_M) : Option (Int32 × pm_M) :=
  (pm_b1 (f_X8_keepAside M) (fun M1 : pm_M => (pm_b2 (f_X8_clearsAll M1) (fun (r3 : Int32) (M2 : pm_M) => (pm_b1 (f_X8_putBack M2) (fun M4 : pm_M => (some (r3, M4))))))))
set_option maxHeartbeats 4000000 in
set_option maxRecDepth 100000 in
theorem w_X8_clears {X : pm_X} {V : pm_V} (M : pm_M)  : pm_VF (f_X8_clears M) (pm_K X V mX8_clears 3 skD) (pm_J X V mX8_clears 3 (pm_wld V skD M) 0 [(0, .ref (V.1 0))] []) := by
  unfold f_X8_clears
  refine jv_aloadn (j := 0) dX8_clears_0 rfl ?_
  refine hv_callV (As := []) dX8_clears_1 lk8_203 kX8_keepAside nX8_keepAside (Nat.le_of_ble_eq_true rfl) (Nat.le_of_ble_eq_true rfl) at_MO_0 rfl rfl rfl (fun _ e l => c_X8_keepAside  e l V) ?_
  intro M1
  refine jv_aloadn (j := 0) dX8_clears_4 rfl ?_
  refine hv_callI (As := []) dX8_clears_5 lk8_200 kX8_clearsAll nX8_clearsAll (Nat.le_of_ble_eq_true rfl) (Nat.le_of_ble_eq_true rfl) at_MO_0 rfl rfl rfl (fun _ _ e l => c_X8_clearsAll  e l V) ?_
  intro r3 M2
  refine jv_istoren (L' := [(1, .int r3), (0, .ref (V.1 0))]) dX8_clears_8 (Nat.le_of_ble_eq_true rfl) rfl ?_
  refine jv_aloadn (j := 1) dX8_clears_9 rfl ?_
  refine hv_callV (As := []) dX8_clears_10 lk8_206 kX8_putBack nX8_putBack (Nat.le_of_ble_eq_true rfl) (Nat.le_of_ble_eq_true rfl) at_MO_0 rfl rfl rfl (fun _ e l => c_X8_putBack  e l V) ?_
  intro M4
  refine jv_iloadn (j := 0) dX8_clears_13 rfl ?_
  exact vf_ret dX8_clears_14 rfl
theorem c_X8_clears {M : pm_M}  {r : Int32} {M' : pm_M} (h : f_X8_clears M = some (r, M')) (l : Launch) (V : pm_V) : pm_Ci l V skD yX8_clears mX8_clears 3 [.ref (V.1 0)] M r M' := pm_metI (by decide) rfl (Nat.le_of_ble_eq_true rfl) h (fun _ => w_X8_clears M )
def f_X8_daysLeft (M : pm_M) (x1 : Int32) : Option (Int32 × pm_M) :=
  (pm_b2 (f_X8_lasts M x1) (fun (r2 : Int32) (M1 : pm_M) => (pm_b2 (f_X8_of M1 x1 3) (fun (r4 : Int32) (M3 : pm_M) => (pm_b2 (f_X8_held M3 (r2 - r4) 0 99) (fun (r6 : Int32) (M5 : pm_M) => (some (r6, M5))))))))
set_option maxHeartbeats 4000000 in
set_option maxRecDepth 100000 in
theorem w_X8_daysLeft {X : pm_X} {V : pm_V} (M : pm_M) (x1 : Int32)  : pm_VF (f_X8_daysLeft M x1) (pm_K X V mX8_daysLeft 3 skD) (pm_J X V mX8_daysLeft 3 (pm_wld V skD M) 0 [(0, .ref (V.1 0)), (1, .int x1)] []) := by
  unfold f_X8_daysLeft
  refine jv_aloadn (j := 0) dX8_daysLeft_0 rfl ?_
  refine jv_iloadn (j := 1) dX8_daysLeft_1 rfl ?_
  refine hv_callI (As := [.int x1]) dX8_daysLeft_2 lk8_149 kX8_lasts nX8_lasts (Nat.le_of_ble_eq_true rfl) (Nat.le_of_ble_eq_true rfl) at_MO_0 rfl rfl rfl (fun _ _ e l => c_X8_lasts  e l V) ?_
  intro r2 M1
  refine jv_aloadn (j := 0) dX8_daysLeft_5 rfl ?_
  refine jv_iloadn (j := 1) dX8_daysLeft_6 rfl ?_
  refine jv_iconst (v := 3) dX8_daysLeft_7 (by decide) ?_
  refine hv_callI (As := [.int x1, .int 3]) dX8_daysLeft_8 lk8_130 kX8_of nX8_of (Nat.le_of_ble_eq_true rfl) (Nat.le_of_ble_eq_true rfl) at_MO_0 rfl rfl rfl (fun _ _ e l => c_X8_of  e l V) ?_
  intro r4 M3
  refine jv_isub dX8_daysLeft_11 ?_
  refine jv_iconst (v := 0) dX8_daysLeft_12 (by decide) ?_
  refine jv_bipush (v := 99) dX8_daysLeft_13 (by decide) ?_
  refine hv_callS (As := [.int (r2 - r4), .int 0, .int 99]) dX8_daysLeft_15 lk8_116 kX8_held nX8_held (Nat.le_of_ble_eq_true rfl) (Nat.le_of_ble_eq_true rfl) rfl (fun _ _ e l => c_X8_held  e l V) ?_
  intro r6 M5
  exact vf_ret dX8_daysLeft_18 rfl
theorem c_X8_daysLeft {M : pm_M} {x1 : Int32}  {r : Int32} {M' : pm_M} (h : f_X8_daysLeft M x1 = some (r, M')) (l : Launch) (V : pm_V) : pm_Ci l V skD yX8_daysLeft mX8_daysLeft 3 [.ref (V.1 0), .int x1] M r M' := pm_metI (by decide) rfl (Nat.le_of_ble_eq_true rfl) h (fun _ => w_X8_daysLeft M x1 )
def lb_X8_fewestLeft_4  (ih : Int32 → Int32 → pm_M → Option (Int32 × pm_M)) : Int32 → Int32 → pm_M → Option (Int32 × pm_M) := fun (l1 : Int32) (l2 : Int32) (Ml : pm_M) =>
  (if (Ml 1 (1 : Int32).toNatClampNeg) ≤ l2 then (some (l1, Ml)) else (pm_b2 (f_X8_daysLeft Ml l2) (fun (r5003 : Int32) (M5002 : pm_M) => (pm_b2 (f_X8_daysLeft M5002 l1) (fun (r5005 : Int32) (M5004 : pm_M) => (if r5005 ≤ r5003 then (ih l1 (l2 + 1) M5004) else (ih l2 (l2 + 1) M5004)))))))
def lp_X8_fewestLeft_4  : Int32 → Int32 → pm_M → Option (Int32 × pm_M) := pm_it (fun _ _ _ => none) (lb_X8_fewestLeft_4 ) pm_F
def f_X8_fewestLeft (M : pm_M) : Option (Int32 × pm_M) :=
  (pm_b2 (lp_X8_fewestLeft_4  0 1 M) (fun (l1 : Int32) (M2 : pm_M) => (some (l1, M2))))
set_option maxHeartbeats 4000000 in
set_option maxRecDepth 100000 in
theorem wl_X8_fewestLeft_4 {X : pm_X} {V : pm_V}   : ∀ (l1 : Int32) (l2 : Int32) (Ml : pm_M), pm_VF (lp_X8_fewestLeft_4  l1 l2 Ml) (fun b => (fun (l1 : Int32) (Ml : pm_M) => pm_J X V mX8_fewestLeft 4 (pm_wld V skD Ml) 39 [(1, .int l1)] []) b.1 b.2) (pm_J X V mX8_fewestLeft 4 (pm_wld V skD Ml) 4 [(0, .ref (V.1 0)), (1, .int l1), (2, .int l2)] []) := by
  refine pm_it_ind (P := fun (f : Int32 → Int32 → pm_M → Option (Int32 × pm_M)) => ∀ (l1 : Int32) (l2 : Int32) (Ml : pm_M), pm_VF (f l1 l2 Ml) (fun b => (fun (l1 : Int32) (Ml : pm_M) => pm_J X V mX8_fewestLeft 4 (pm_wld V skD Ml) 39 [(1, .int l1)] []) b.1 b.2) (pm_J X V mX8_fewestLeft 4 (pm_wld V skD Ml) 4 [(0, .ref (V.1 0)), (1, .int l1), (2, .int l2)] [])) (fun _ _ _ => vf_none) (fun ih hih l1 l2 Ml => ?_) pm_F
  · unfold lb_X8_fewestLeft_4
    refine jv_iloadn (j := 2) dX8_fewestLeft_4 rfl ?_
    refine jv_aloadn (j := 0) dX8_fewestLeft_5 rfl ?_
    refine hv_getR dX8_fewestLeft_6 fl8_7 at_MO_0 rfl ?_
    refine jv_iconst (v := 1) dX8_fewestLeft_9 (by decide) ?_
    refine hv_iald dX8_fewestLeft_10 at_MO_1 (by decide) ?_
    refine jw_ic_ge (tgt := 39) dX8_fewestLeft_11 rfl (fun c11 => ?_) (fun c11 => ?_)
    · exact vf_end (fun g => jr_sub [1] rfl g)
    refine jv_aloadn (j := 0) dX8_fewestLeft_14 rfl ?_
    refine jv_iloadn (j := 2) dX8_fewestLeft_15 rfl ?_
    refine hv_callI (As := [.int l2]) dX8_fewestLeft_16 lk8_209 kX8_daysLeft nX8_daysLeft (Nat.le_of_ble_eq_true rfl) (Nat.le_of_ble_eq_true rfl) at_MO_0 rfl rfl rfl (fun _ _ e l => c_X8_daysLeft  e l V) ?_
    intro r5003 M5002
    refine jv_aloadn (j := 0) dX8_fewestLeft_19 rfl ?_
    refine jv_iloadn (j := 1) dX8_fewestLeft_20 rfl ?_
    refine hv_callI (As := [.int l1]) dX8_fewestLeft_21 lk8_209 kX8_daysLeft nX8_daysLeft (Nat.le_of_ble_eq_true rfl) (Nat.le_of_ble_eq_true rfl) at_MO_0 rfl rfl rfl (fun _ _ e l => c_X8_daysLeft  e l V) ?_
    intro r5005 M5004
    refine jw_ic_ge (tgt := 31) dX8_fewestLeft_24 rfl (fun c24 => ?_) (fun c24 => ?_)
    · refine jv_iloadn (j := 1) dX8_fewestLeft_31 rfl ?_
      refine jv_istoren (L' := [(1, .int l1), (0, .ref (V.1 0)), (2, .int l2)]) dX8_fewestLeft_32 (Nat.le_of_ble_eq_true rfl) rfl ?_
      refine jv_iinc (j := 2) (v := l2 + 1) (L' := [(2, .int (l2 + 1)), (1, .int l1), (0, .ref (V.1 0))]) dX8_fewestLeft_33 rfl rfl (Nat.le_of_ble_eq_true rfl) rfl ?_
      refine jv_goto (tgt := 4) dX8_fewestLeft_36 rfl ?_
      exact vf_j (fun g => jr_sub [2, 1, 0] rfl g) (hih l1 (l2 + 1) M5004)
    refine jv_iloadn (j := 2) dX8_fewestLeft_27 rfl ?_
    refine jv_goto (tgt := 32) dX8_fewestLeft_28 rfl ?_
    refine jv_istoren (L' := [(1, .int l2), (0, .ref (V.1 0)), (2, .int l2)]) dX8_fewestLeft_32 (Nat.le_of_ble_eq_true rfl) rfl ?_
    refine jv_iinc (j := 2) (v := l2 + 1) (L' := [(2, .int (l2 + 1)), (1, .int l2), (0, .ref (V.1 0))]) dX8_fewestLeft_33 rfl rfl (Nat.le_of_ble_eq_true rfl) rfl ?_
    refine jv_goto (tgt := 4) dX8_fewestLeft_36 rfl ?_
    exact vf_j (fun g => jr_sub [2, 1, 0] rfl g) (hih l2 (l2 + 1) M5004)
set_option maxHeartbeats 4000000 in
set_option maxRecDepth 100000 in
theorem w_X8_fewestLeft {X : pm_X} {V : pm_V} (M : pm_M)  : pm_VF (f_X8_fewestLeft M) (pm_K X V mX8_fewestLeft 4 skD) (pm_J X V mX8_fewestLeft 4 (pm_wld V skD M) 0 [(0, .ref (V.1 0))] []) := by
  unfold f_X8_fewestLeft
  refine jv_iconst (v := 0) dX8_fewestLeft_0 (by decide) ?_
  refine jv_istoren (L' := [(1, .int 0), (0, .ref (V.1 0))]) dX8_fewestLeft_1 (Nat.le_of_ble_eq_true rfl) rfl ?_
  refine jv_iconst (v := 1) dX8_fewestLeft_2 (by decide) ?_
  refine jv_istoren (L' := [(2, .int 1), (1, .int 0), (0, .ref (V.1 0))]) dX8_fewestLeft_3 (Nat.le_of_ble_eq_true rfl) rfl ?_
  refine vl_b2 (P := fun (l1 : Int32) (Ml : pm_M) => pm_J X V mX8_fewestLeft 4 (pm_wld V skD Ml) 39 [(1, .int l1)] []) (vf_j (fun g => jr_sub [2, 1, 0] rfl g) (wl_X8_fewestLeft_4   0 1 M)) ?_
  intro l1 M2
  refine jv_iloadn (j := 0) dX8_fewestLeft_39 rfl ?_
  exact vf_ret dX8_fewestLeft_40 rfl
theorem c_X8_fewestLeft {M : pm_M}  {r : Int32} {M' : pm_M} (h : f_X8_fewestLeft M = some (r, M')) (l : Launch) (V : pm_V) : pm_Ci l V skD yX8_fewestLeft mX8_fewestLeft 4 [.ref (V.1 0)] M r M' := pm_metI (by decide) rfl (Nat.le_of_ble_eq_true rfl) h (fun _ => w_X8_fewestLeft M )
def lb_X8_patches_39 (x1 : Int32) (ih : Int32 → pm_M → Option (pm_M)) : Int32 → pm_M → Option (pm_M) := fun (l2 : Int32) (Ml : pm_M) =>
  (if x1 ≤ l2 then (some Ml) else (pm_b2 (f_X8_fewestLeft Ml) (fun (r40003 : Int32) (M40002 : pm_M) => (pm_b2 (f_X8_of M40002 r40003 3) (fun (r40005 : Int32) (M40004 : pm_M) => (pm_b2 (f_X8_held M40004 (r40005 - 5) 0 99) (fun (r40007 : Int32) (M40006 : pm_M) => (pm_chk (pm_in ((66 + (4 * r40003)) + 3) 258) (pm_let (pm_up M40006 1 ((66 + (4 * r40003)) + 3).toNatClampNeg r40007) (fun M40008 : pm_M => (ih (l2 + 1) M40008)))))))))))
def lp_X8_patches_39 (x1 : Int32) : Int32 → pm_M → Option (pm_M) := pm_it (fun _ _ => none) (lb_X8_patches_39 x1) pm_F
def f_X8_patches (M : pm_M) (x1 : Int32) : Option (Int32 × pm_M) :=
  (pm_b2 (f_X8_in M (x1.toInt64) 0 20) (fun (r2 : Int32) (M1 : pm_M) => (if r2 = 0 then (pm_b2 (f_X8_finds M1 1) (fun (r4 : Int32) (M3 : pm_M) => (some (r4, M3)))) else (if (M1 1 (1 : Int32).toNatClampNeg) = 0 then (pm_b2 (f_X8_finds M1 2) (fun (r6 : Int32) (M5 : pm_M) => (some (r6, M5)))) else (pm_b1 (f_X8_keepAside M1) (fun M7 : pm_M => (pm_b1 (lp_X8_patches_39 x1 0 M7) (fun (M8 : pm_M) => (pm_b2 (f_X8_fewestLeft M8) (fun (r10 : Int32) (M9 : pm_M) => (pm_b2 (f_X8_daysLeft M9 r10) (fun (r12 : Int32) (M11 : pm_M) => (pm_b1 (f_X8_putBack M11) (fun M13 : pm_M => (some (r12, M13))))))))))))))))
set_option maxHeartbeats 4000000 in
set_option maxRecDepth 100000 in
theorem wl_X8_patches_39 {X : pm_X} {V : pm_V} (x1 : Int32)  : ∀ (l2 : Int32) (Ml : pm_M), pm_VF (lp_X8_patches_39 x1 l2 Ml) (fun b => (fun (Ml : pm_M) => pm_J X V mX8_patches 5 (pm_wld V skD Ml) 82 [(0, .ref (V.1 0))] []) b) (pm_J X V mX8_patches 5 (pm_wld V skD Ml) 39 [(0, .ref (V.1 0)), (1, .int x1), (2, .int l2)] []) := by
  refine pm_it_ind (P := fun (f : Int32 → pm_M → Option (pm_M)) => ∀ (l2 : Int32) (Ml : pm_M), pm_VF (f l2 Ml) (fun b => (fun (Ml : pm_M) => pm_J X V mX8_patches 5 (pm_wld V skD Ml) 82 [(0, .ref (V.1 0))] []) b) (pm_J X V mX8_patches 5 (pm_wld V skD Ml) 39 [(0, .ref (V.1 0)), (1, .int x1), (2, .int l2)] [])) (fun _ _ => vf_none) (fun ih hih l2 Ml => ?_) pm_F
  · unfold lb_X8_patches_39
    refine jv_iloadn (j := 2) dX8_patches_39 rfl ?_
    refine jv_iloadn (j := 1) dX8_patches_40 rfl ?_
    refine jw_ic_ge (tgt := 82) dX8_patches_41 rfl (fun c41 => ?_) (fun c41 => ?_)
    · exact vf_end (fun g => jr_sub [0] rfl g)
    refine jv_aloadn (j := 0) dX8_patches_44 rfl ?_
    refine hv_callI (As := []) dX8_patches_45 lk8_214 kX8_fewestLeft nX8_fewestLeft (Nat.le_of_ble_eq_true rfl) (Nat.le_of_ble_eq_true rfl) at_MO_0 rfl rfl rfl (fun _ _ e l => c_X8_fewestLeft  e l V) ?_
    intro r40003 M40002
    refine jv_istoren (L' := [(3, .int r40003), (0, .ref (V.1 0)), (1, .int x1), (2, .int l2)]) dX8_patches_48 (Nat.le_of_ble_eq_true rfl) rfl ?_
    refine jv_aloadn (j := 1) dX8_patches_49 rfl ?_
    refine hv_getR dX8_patches_50 fl8_7 at_MO_0 rfl ?_
    refine jv_bipush (v := 66) dX8_patches_53 (by decide) ?_
    refine jv_iconst (v := 4) dX8_patches_55 (by decide) ?_
    refine jv_iloadn (j := 0) dX8_patches_56 rfl ?_
    refine jv_imul dX8_patches_57 ?_
    refine jv_iadd dX8_patches_58 ?_
    refine jv_iconst (v := 3) dX8_patches_59 (by decide) ?_
    refine jv_iadd dX8_patches_60 ?_
    refine jv_aloadn (j := 1) dX8_patches_61 rfl ?_
    refine jv_iloadn (j := 0) dX8_patches_62 rfl ?_
    refine jv_iconst (v := 3) dX8_patches_63 (by decide) ?_
    refine hv_callI (As := [.int r40003, .int 3]) dX8_patches_64 lk8_130 kX8_of nX8_of (Nat.le_of_ble_eq_true rfl) (Nat.le_of_ble_eq_true rfl) at_MO_0 rfl rfl rfl (fun _ _ e l => c_X8_of  e l V) ?_
    intro r40005 M40004
    refine jv_iconst (v := 5) dX8_patches_67 (by decide) ?_
    refine jv_isub dX8_patches_68 ?_
    refine jv_iconst (v := 0) dX8_patches_69 (by decide) ?_
    refine jv_bipush (v := 99) dX8_patches_70 (by decide) ?_
    refine hv_callS (As := [.int (r40005 - 5), .int 0, .int 99]) dX8_patches_72 lk8_116 kX8_held nX8_held (Nat.le_of_ble_eq_true rfl) (Nat.le_of_ble_eq_true rfl) rfl (fun _ _ e l => c_X8_held  e l V) ?_
    intro r40007 M40006
    refine hv_iastC dX8_patches_75 at_MO_1 (fun _ => ?_)
    refine vf_letM (fun M40008 => ?_)
    refine jv_iinc (j := 3) (v := l2 + 1) (L' := [(2, .int (l2 + 1)), (3, .int r40003), (0, .ref (V.1 0)), (1, .int x1)]) dX8_patches_76 rfl rfl (Nat.le_of_ble_eq_true rfl) rfl ?_
    refine jv_goto (tgt := 39) dX8_patches_79 rfl ?_
    exact vf_j (fun g => jr_sub [2, 3, 0] rfl g) (hih (l2 + 1) M40008)
set_option maxHeartbeats 4000000 in
set_option maxRecDepth 100000 in
theorem w_X8_patches {X : pm_X} {V : pm_V} (M : pm_M) (x1 : Int32)  : pm_VF (f_X8_patches M x1) (pm_K X V mX8_patches 5 skD) (pm_J X V mX8_patches 5 (pm_wld V skD M) 0 [(0, .ref (V.1 0)), (1, .int x1)] []) := by
  unfold f_X8_patches
  refine jv_iloadn (j := 1) dX8_patches_0 rfl ?_
  refine jv_i2l dX8_patches_1 ?_
  refine jv_lconst (v := 0) dX8_patches_2 (by decide) ?_
  refine jv_ldc2 dX8_patches_3 lk8_212 ?_
  refine hv_callS (As := [.long (x1.toInt64), .long 0, .long 20]) dX8_patches_6 lk8_44 kX8_in nX8_in (Nat.le_of_ble_eq_true rfl) (Nat.le_of_ble_eq_true rfl) rfl (fun _ _ e l => c_X8_in  e l V) ?_
  intro r2 M1
  refine jw_if_ne (tgt := 18) dX8_patches_9 rfl (fun c9 => ?_) (fun c9 => ?_)
  · refine jv_aloadn (j := 0) dX8_patches_12 rfl ?_
    refine jv_iconst (v := 1) dX8_patches_13 (by decide) ?_
    refine hv_callI (As := [.int 1]) dX8_patches_14 lk8_107 kX8_finds nX8_finds (Nat.le_of_ble_eq_true rfl) (Nat.le_of_ble_eq_true rfl) at_MO_0 rfl rfl rfl (fun _ _ e l => c_X8_finds  e l V) ?_
    intro r4 M3
    exact vf_ret dX8_patches_17 rfl
  refine jv_aloadn (j := 0) dX8_patches_18 rfl ?_
  refine hv_getR dX8_patches_19 fl8_7 at_MO_0 rfl ?_
  refine jv_iconst (v := 1) dX8_patches_22 (by decide) ?_
  refine hv_iald dX8_patches_23 at_MO_1 (by decide) ?_
  refine jw_if_ne (tgt := 33) dX8_patches_24 rfl (fun c24 => ?_) (fun c24 => ?_)
  · refine jv_aloadn (j := 0) dX8_patches_27 rfl ?_
    refine jv_iconst (v := 2) dX8_patches_28 (by decide) ?_
    refine hv_callI (As := [.int 2]) dX8_patches_29 lk8_107 kX8_finds nX8_finds (Nat.le_of_ble_eq_true rfl) (Nat.le_of_ble_eq_true rfl) at_MO_0 rfl rfl rfl (fun _ _ e l => c_X8_finds  e l V) ?_
    intro r6 M5
    exact vf_ret dX8_patches_32 rfl
  refine jv_aloadn (j := 0) dX8_patches_33 rfl ?_
  refine hv_callV (As := []) dX8_patches_34 lk8_203 kX8_keepAside nX8_keepAside (Nat.le_of_ble_eq_true rfl) (Nat.le_of_ble_eq_true rfl) at_MO_0 rfl rfl rfl (fun _ e l => c_X8_keepAside  e l V) ?_
  intro M7
  refine jv_iconst (v := 0) dX8_patches_37 (by decide) ?_
  refine jv_istoren (L' := [(2, .int 0), (0, .ref (V.1 0)), (1, .int x1)]) dX8_patches_38 (Nat.le_of_ble_eq_true rfl) rfl ?_
  refine vl_b1 (P := fun (Ml : pm_M) => pm_J X V mX8_patches 5 (pm_wld V skD Ml) 82 [(0, .ref (V.1 0))] []) (vf_j (fun g => jr_sub [1, 2, 0] rfl g) (wl_X8_patches_39 x1  0 M7)) ?_
  intro M8
  refine jv_aloadn (j := 0) dX8_patches_82 rfl ?_
  refine jv_aloadn (j := 0) dX8_patches_83 rfl ?_
  refine hv_callI (As := []) dX8_patches_84 lk8_214 kX8_fewestLeft nX8_fewestLeft (Nat.le_of_ble_eq_true rfl) (Nat.le_of_ble_eq_true rfl) at_MO_0 rfl rfl rfl (fun _ _ e l => c_X8_fewestLeft  e l V) ?_
  intro r10 M9
  refine hv_callI (As := [.int r10]) dX8_patches_87 lk8_209 kX8_daysLeft nX8_daysLeft (Nat.le_of_ble_eq_true rfl) (Nat.le_of_ble_eq_true rfl) at_MO_0 rfl rfl rfl (fun _ _ e l => c_X8_daysLeft  e l V) ?_
  intro r12 M11
  refine jv_istoren (L' := [(2, .int r12), (0, .ref (V.1 0))]) dX8_patches_90 (Nat.le_of_ble_eq_true rfl) rfl ?_
  refine jv_aloadn (j := 1) dX8_patches_91 rfl ?_
  refine hv_callV (As := []) dX8_patches_92 lk8_206 kX8_putBack nX8_putBack (Nat.le_of_ble_eq_true rfl) (Nat.le_of_ble_eq_true rfl) at_MO_0 rfl rfl rfl (fun _ e l => c_X8_putBack  e l V) ?_
  intro M13
  refine jv_iloadn (j := 0) dX8_patches_95 rfl ?_
  exact vf_ret dX8_patches_96 rfl
theorem c_X8_patches {M : pm_M} {x1 : Int32}  {r : Int32} {M' : pm_M} (h : f_X8_patches M x1 = some (r, M')) (l : Launch) (V : pm_V) : pm_Ci l V skD yX8_patches mX8_patches 5 [.ref (V.1 0), .int x1] M r M' := pm_metI (by decide) rfl (Nat.le_of_ble_eq_true rfl) h (fun _ => w_X8_patches M x1 )
def lb_X8_trades_16 (l2 : Int32) (ih : Int32 → Int32 → pm_M → Option (Int32 × pm_M)) : Int32 → Int32 → pm_M → Option (Int32 × pm_M) := fun (l1 : Int32) (l3 : Int32) (Ml : pm_M) =>
  (if (Ml 1 (0 : Int32).toNatClampNeg) ≤ l3 then (some (l1, Ml)) else (pm_b2 (f_X8_its Ml l2 3) (fun (r17003 : Int32) (M17002 : pm_M) => (pm_b2 (f_X8_its M17002 l3 3) (fun (r17005 : Int32) (M17004 : pm_M) => (if r17003 ≤ r17005 then (pm_let (l1 + 0) (fun z17006 : Int32 => (ih z17006 (l3 + 1) M17004))) else (pm_b2 (f_X8_its M17004 l2 0) (fun (r17008 : Int32) (M17007 : pm_M) => (pm_b2 (f_X8_its M17007 l3 0) (fun (r17010 : Int32) (M17009 : pm_M) => (if r17010 ≤ r17008 then (pm_let (l1 + 0) (fun z17011 : Int32 => (ih z17011 (l3 + 1) M17009))) else (pm_let (l1 + 1) (fun z17012 : Int32 => (ih z17012 (l3 + 1) M17009))))))))))))))
def lp_X8_trades_16 (l2 : Int32) : Int32 → Int32 → pm_M → Option (Int32 × pm_M) := pm_it (fun _ _ _ => none) (lb_X8_trades_16 l2) pm_F
def lb_X8_trades_4  (ih : Int32 → Int32 → pm_M → Option (Int32 × pm_M)) : Int32 → Int32 → pm_M → Option (Int32 × pm_M) := fun (l1 : Int32) (l2 : Int32) (Ml : pm_M) =>
  (if (Ml 1 (0 : Int32).toNatClampNeg) ≤ l2 then (some (l1, Ml)) else (pm_b2 (lp_X8_trades_16 l2 l1 0 Ml) (fun (l5002 : Int32) (M5003 : pm_M) => (ih l5002 (l2 + 1) M5003))))
def lp_X8_trades_4  : Int32 → Int32 → pm_M → Option (Int32 × pm_M) := pm_it (fun _ _ _ => none) (lb_X8_trades_4 ) pm_F
def f_X8_trades (M : pm_M) : Option (Int32 × pm_M) :=
  (pm_b2 (lp_X8_trades_4  0 0 M) (fun (l1 : Int32) (M2 : pm_M) => (some (l1, M2))))
set_option maxHeartbeats 4000000 in
set_option maxRecDepth 100000 in
theorem wl_X8_trades_16 {X : pm_X} {V : pm_V} (l2 : Int32)  : ∀ (l1 : Int32) (l3 : Int32) (Ml : pm_M), pm_VF (lp_X8_trades_16 l2 l1 l3 Ml) (fun b => (fun (l1 : Int32) (Ml : pm_M) => pm_J X V mX8_trades 2 (pm_wld V skD Ml) 70 [(0, .ref (V.1 0)), (1, .int l1), (2, .int l2)] []) b.1 b.2) (pm_J X V mX8_trades 2 (pm_wld V skD Ml) 16 [(0, .ref (V.1 0)), (1, .int l1), (2, .int l2), (3, .int l3)] []) := by
  refine pm_it_ind (P := fun (f : Int32 → Int32 → pm_M → Option (Int32 × pm_M)) => ∀ (l1 : Int32) (l3 : Int32) (Ml : pm_M), pm_VF (f l1 l3 Ml) (fun b => (fun (l1 : Int32) (Ml : pm_M) => pm_J X V mX8_trades 2 (pm_wld V skD Ml) 70 [(0, .ref (V.1 0)), (1, .int l1), (2, .int l2)] []) b.1 b.2) (pm_J X V mX8_trades 2 (pm_wld V skD Ml) 16 [(0, .ref (V.1 0)), (1, .int l1), (2, .int l2), (3, .int l3)] [])) (fun _ _ _ => vf_none) (fun ih hih l1 l3 Ml => ?_) pm_F
  · unfold lb_X8_trades_16
    refine jv_iloadn (j := 3) dX8_trades_16 rfl ?_
    refine jv_aloadn (j := 0) dX8_trades_17 rfl ?_
    refine hv_getR dX8_trades_18 fl8_7 at_MO_0 rfl ?_
    refine jv_iconst (v := 0) dX8_trades_21 (by decide) ?_
    refine hv_iald dX8_trades_22 at_MO_1 (by decide) ?_
    refine jw_ic_ge (tgt := 70) dX8_trades_23 rfl (fun c23 => ?_) (fun c23 => ?_)
    · exact vf_end (fun g => jr_sub [0, 1, 2] rfl g)
    refine jv_iloadn (j := 1) dX8_trades_26 rfl ?_
    refine jv_aloadn (j := 0) dX8_trades_27 rfl ?_
    refine jv_iloadn (j := 2) dX8_trades_28 rfl ?_
    refine jv_iconst (v := 3) dX8_trades_29 (by decide) ?_
    refine hv_callI (As := [.int l2, .int 3]) dX8_trades_30 lk8_134 kX8_its nX8_its (Nat.le_of_ble_eq_true rfl) (Nat.le_of_ble_eq_true rfl) at_MO_0 rfl rfl rfl (fun _ _ e l => c_X8_its  e l V) ?_
    intro r17003 M17002
    refine jv_aloadn (j := 0) dX8_trades_33 rfl ?_
    refine jv_iloadn (j := 3) dX8_trades_34 rfl ?_
    refine jv_iconst (v := 3) dX8_trades_35 (by decide) ?_
    refine hv_callI (As := [.int l3, .int 3]) dX8_trades_36 lk8_134 kX8_its nX8_its (Nat.le_of_ble_eq_true rfl) (Nat.le_of_ble_eq_true rfl) at_MO_0 rfl rfl rfl (fun _ _ e l => c_X8_its  e l V) ?_
    intro r17005 M17004
    refine jw_ic_le (tgt := 61) dX8_trades_39 rfl (fun c39 => ?_) (fun c39 => ?_)
    · refine jv_iconst (v := 0) dX8_trades_61 (by decide) ?_
      refine jv_iadd dX8_trades_62 ?_
      refine vf_letS (fun z17006 => ?_)
      refine jv_istoren (L' := [(1, .int z17006), (0, .ref (V.1 0)), (2, .int l2), (3, .int l3)]) dX8_trades_63 (Nat.le_of_ble_eq_true rfl) rfl ?_
      refine jv_iinc (j := 3) (v := l3 + 1) (L' := [(3, .int (l3 + 1)), (1, .int z17006), (0, .ref (V.1 0)), (2, .int l2)]) dX8_trades_64 rfl rfl (Nat.le_of_ble_eq_true rfl) rfl ?_
      refine jv_goto (tgt := 16) dX8_trades_67 rfl ?_
      exact vf_j (fun g => jr_sub [2, 1, 3, 0] rfl g) (hih z17006 (l3 + 1) M17004)
    refine jv_aloadn (j := 0) dX8_trades_42 rfl ?_
    refine jv_iloadn (j := 2) dX8_trades_43 rfl ?_
    refine jv_iconst (v := 0) dX8_trades_44 (by decide) ?_
    refine hv_callI (As := [.int l2, .int 0]) dX8_trades_45 lk8_134 kX8_its nX8_its (Nat.le_of_ble_eq_true rfl) (Nat.le_of_ble_eq_true rfl) at_MO_0 rfl rfl rfl (fun _ _ e l => c_X8_its  e l V) ?_
    intro r17008 M17007
    refine jv_aloadn (j := 0) dX8_trades_48 rfl ?_
    refine jv_iloadn (j := 3) dX8_trades_49 rfl ?_
    refine jv_iconst (v := 0) dX8_trades_50 (by decide) ?_
    refine hv_callI (As := [.int l3, .int 0]) dX8_trades_51 lk8_134 kX8_its nX8_its (Nat.le_of_ble_eq_true rfl) (Nat.le_of_ble_eq_true rfl) at_MO_0 rfl rfl rfl (fun _ _ e l => c_X8_its  e l V) ?_
    intro r17010 M17009
    refine jw_ic_ge (tgt := 61) dX8_trades_54 rfl (fun c54 => ?_) (fun c54 => ?_)
    · refine jv_iconst (v := 0) dX8_trades_61 (by decide) ?_
      refine jv_iadd dX8_trades_62 ?_
      refine vf_letS (fun z17011 => ?_)
      refine jv_istoren (L' := [(1, .int z17011), (0, .ref (V.1 0)), (2, .int l2), (3, .int l3)]) dX8_trades_63 (Nat.le_of_ble_eq_true rfl) rfl ?_
      refine jv_iinc (j := 3) (v := l3 + 1) (L' := [(3, .int (l3 + 1)), (1, .int z17011), (0, .ref (V.1 0)), (2, .int l2)]) dX8_trades_64 rfl rfl (Nat.le_of_ble_eq_true rfl) rfl ?_
      refine jv_goto (tgt := 16) dX8_trades_67 rfl ?_
      exact vf_j (fun g => jr_sub [2, 1, 3, 0] rfl g) (hih z17011 (l3 + 1) M17009)
    refine jv_iconst (v := 1) dX8_trades_57 (by decide) ?_
    refine jv_goto (tgt := 62) dX8_trades_58 rfl ?_
    refine jv_iadd dX8_trades_62 ?_
    refine vf_letS (fun z17012 => ?_)
    refine jv_istoren (L' := [(1, .int z17012), (0, .ref (V.1 0)), (2, .int l2), (3, .int l3)]) dX8_trades_63 (Nat.le_of_ble_eq_true rfl) rfl ?_
    refine jv_iinc (j := 3) (v := l3 + 1) (L' := [(3, .int (l3 + 1)), (1, .int z17012), (0, .ref (V.1 0)), (2, .int l2)]) dX8_trades_64 rfl rfl (Nat.le_of_ble_eq_true rfl) rfl ?_
    refine jv_goto (tgt := 16) dX8_trades_67 rfl ?_
    exact vf_j (fun g => jr_sub [2, 1, 3, 0] rfl g) (hih z17012 (l3 + 1) M17009)
set_option maxHeartbeats 4000000 in
set_option maxRecDepth 100000 in
theorem wl_X8_trades_4 {X : pm_X} {V : pm_V}   : ∀ (l1 : Int32) (l2 : Int32) (Ml : pm_M), pm_VF (lp_X8_trades_4  l1 l2 Ml) (fun b => (fun (l1 : Int32) (Ml : pm_M) => pm_J X V mX8_trades 2 (pm_wld V skD Ml) 76 [(1, .int l1)] []) b.1 b.2) (pm_J X V mX8_trades 2 (pm_wld V skD Ml) 4 [(0, .ref (V.1 0)), (1, .int l1), (2, .int l2)] []) := by
  refine pm_it_ind (P := fun (f : Int32 → Int32 → pm_M → Option (Int32 × pm_M)) => ∀ (l1 : Int32) (l2 : Int32) (Ml : pm_M), pm_VF (f l1 l2 Ml) (fun b => (fun (l1 : Int32) (Ml : pm_M) => pm_J X V mX8_trades 2 (pm_wld V skD Ml) 76 [(1, .int l1)] []) b.1 b.2) (pm_J X V mX8_trades 2 (pm_wld V skD Ml) 4 [(0, .ref (V.1 0)), (1, .int l1), (2, .int l2)] [])) (fun _ _ _ => vf_none) (fun ih hih l1 l2 Ml => ?_) pm_F
  · unfold lb_X8_trades_4
    refine jv_iloadn (j := 2) dX8_trades_4 rfl ?_
    refine jv_aloadn (j := 0) dX8_trades_5 rfl ?_
    refine hv_getR dX8_trades_6 fl8_7 at_MO_0 rfl ?_
    refine jv_iconst (v := 0) dX8_trades_9 (by decide) ?_
    refine hv_iald dX8_trades_10 at_MO_1 (by decide) ?_
    refine jw_ic_ge (tgt := 76) dX8_trades_11 rfl (fun c11 => ?_) (fun c11 => ?_)
    · exact vf_end (fun g => jr_sub [1] rfl g)
    refine jv_iconst (v := 0) dX8_trades_14 (by decide) ?_
    refine jv_istoren (L' := [(3, .int 0), (0, .ref (V.1 0)), (1, .int l1), (2, .int l2)]) dX8_trades_15 (Nat.le_of_ble_eq_true rfl) rfl ?_
    refine vl_b2 (P := fun (l1 : Int32) (Ml : pm_M) => pm_J X V mX8_trades 2 (pm_wld V skD Ml) 70 [(0, .ref (V.1 0)), (1, .int l1), (2, .int l2)] []) (vf_j (fun g => jr_sub [1, 2, 3, 0] rfl g) (wl_X8_trades_16 l2  l1 0 Ml)) ?_
    intro l5002 M5003
    refine jv_iinc (j := 2) (v := l2 + 1) (L' := [(2, .int (l2 + 1)), (0, .ref (V.1 0)), (1, .int l5002)]) dX8_trades_70 rfl rfl (Nat.le_of_ble_eq_true rfl) rfl ?_
    refine jv_goto (tgt := 4) dX8_trades_73 rfl ?_
    exact vf_j (fun g => jr_sub [1, 2, 0] rfl g) (hih l5002 (l2 + 1) M5003)
set_option maxHeartbeats 4000000 in
set_option maxRecDepth 100000 in
theorem w_X8_trades {X : pm_X} {V : pm_V} (M : pm_M)  : pm_VF (f_X8_trades M) (pm_K X V mX8_trades 2 skD) (pm_J X V mX8_trades 2 (pm_wld V skD M) 0 [(0, .ref (V.1 0))] []) := by
  unfold f_X8_trades
  refine jv_iconst (v := 0) dX8_trades_0 (by decide) ?_
  refine jv_istoren (L' := [(1, .int 0), (0, .ref (V.1 0))]) dX8_trades_1 (Nat.le_of_ble_eq_true rfl) rfl ?_
  refine jv_iconst (v := 0) dX8_trades_2 (by decide) ?_
  refine jv_istoren (L' := [(2, .int 0), (1, .int 0), (0, .ref (V.1 0))]) dX8_trades_3 (Nat.le_of_ble_eq_true rfl) rfl ?_
  refine vl_b2 (P := fun (l1 : Int32) (Ml : pm_M) => pm_J X V mX8_trades 2 (pm_wld V skD Ml) 76 [(1, .int l1)] []) (vf_j (fun g => jr_sub [2, 1, 0] rfl g) (wl_X8_trades_4   0 0 M)) ?_
  intro l1 M2
  refine jv_iloadn (j := 0) dX8_trades_76 rfl ?_
  exact vf_ret dX8_trades_77 rfl
theorem c_X8_trades {M : pm_M}  {r : Int32} {M' : pm_M} (h : f_X8_trades M = some (r, M')) (l : Launch) (V : pm_V) : pm_Ci l V skD yX8_trades mX8_trades 2 [.ref (V.1 0)] M r M' := pm_metI (by decide) rfl (Nat.le_of_ble_eq_true rfl) h (fun _ => w_X8_trades M )
def f_X8_isSheet (M : pm_M) (x1 : Int32) : Option (Int32 × pm_M) :=
  (pm_b2 (f_X8_in M (x1.toInt64) 0 3) (fun (r2 : Int32) (M1 : pm_M) => (pm_chk (pm_zo r2) (some (r2, M1)))))
set_option maxHeartbeats 4000000 in
set_option maxRecDepth 100000 in
theorem w_X8_isSheet {X : pm_X} {V : pm_V} (M : pm_M) (x1 : Int32)  : pm_VF (f_X8_isSheet M x1) (pm_K X V mX8_isSheet 2 skD) (pm_J X V mX8_isSheet 2 (pm_wld V skD M) 0 [(0, .int x1)] []) := by
  unfold f_X8_isSheet
  refine jv_iloadn (j := 0) dX8_isSheet_0 rfl ?_
  refine jv_i2l dX8_isSheet_1 ?_
  refine jv_lconst (v := 0) dX8_isSheet_2 (by decide) ?_
  refine jv_ldc2 dX8_isSheet_3 lk8_241 ?_
  refine hv_callS (As := [.long (x1.toInt64), .long 0, .long 3]) dX8_isSheet_6 lk8_44 kX8_in nX8_in (Nat.le_of_ble_eq_true rfl) (Nat.le_of_ble_eq_true rfl) rfl (fun _ _ e l => c_X8_in  e l V) ?_
  intro r2 M1
  refine vf_chk (fun hz => ?_)
  exact vf_zret dX8_isSheet_9 rfl hz
theorem c_X8_isSheet {M : pm_M} {x1 : Int32}  {r : Int32} {M' : pm_M} (h : f_X8_isSheet M x1 = some (r, M')) (l : Launch) (V : pm_V) : pm_Ci l V skD yX8_isSheet mX8_isSheet 2 [.int x1] M r M' := pm_metI (by decide) rfl (Nat.le_of_ble_eq_true rfl) h (fun _ => w_X8_isSheet M x1 )
def lb_X8_fell_83 (x1 : Int32) (x2 : Int32) (r12 : Int32) (l4 : Int32) (l5 : Int32) (l6 : Int32) (ih : Int32 → pm_M → Option (pm_M)) : Int32 → pm_M → Option (pm_M) := fun (l7 : Int32) (Ml : pm_M) =>
  (if 6 ≤ l7 then (some Ml) else (pm_chk (pm_in l7 6) (pm_let (pm_up Ml 6 l7.toNatClampNeg 0) (fun M84002 : pm_M => (ih (l7 + 1) M84002)))))
def lp_X8_fell_83 (x1 : Int32) (x2 : Int32) (r12 : Int32) (l4 : Int32) (l5 : Int32) (l6 : Int32) : Int32 → pm_M → Option (pm_M) := pm_it (fun _ _ => none) (lb_X8_fell_83 x1 x2 r12 l4 l5 l6) pm_F
def lb_X8_fell_110 (x1 : Int32) (x2 : Int32) (r12 : Int32) (l4 : Int32) (l5 : Int32) (l6 : Int32) (ih : Int32 → Int32 → pm_M → Option (Int32 × pm_M)) : Int32 → Int32 → pm_M → Option (Int32 × pm_M) := fun (l7 : Int32) (l8 : Int32) (Ml : pm_M) =>
  (if (Ml 1 (1 : Int32).toNatClampNeg) ≤ l8 then (some (l7, Ml)) else (if ((pm_shr l6 l8) &&& 1) = 1 then (pm_b2 (f_X8_fallsWhere Ml l8 r12) (fun (r111003 : Int32) (M111002 : pm_M) => (pm_chk (pm_in r111003 6) (pm_b2 (f_X8_fallsOn M111002 l8 r111003) (fun (r111005 : Int32) (M111004 : pm_M) => (pm_chk (pm_in r111003 6) (pm_let (pm_up M111004 6 r111003.toNatClampNeg ((M111002 6 r111003.toNatClampNeg) + r111005)) (fun M111006 : pm_M => (if l7 = 0 then (ih 0 (l8 + 1) M111006) else (pm_b2 (f_X8_isSpent M111006 l8) (fun (r111008 : Int32) (M111007 : pm_M) => (if r111008 = 0 then (ih 1 (l8 + 1) M111007) else (ih 0 (l8 + 1) M111007))))))))))))) else (ih l7 (l8 + 1) Ml)))
def lp_X8_fell_110 (x1 : Int32) (x2 : Int32) (r12 : Int32) (l4 : Int32) (l5 : Int32) (l6 : Int32) : Int32 → Int32 → pm_M → Option (Int32 × pm_M) := pm_it (fun _ _ _ => none) (lb_X8_fell_110 x1 x2 r12 l4 l5 l6) pm_F
def lb_X8_fell_189 (x1 : Int32) (x2 : Int32) (r12 : Int32) (l4 : Int32) (l5 : Int32) (l6 : Int32) (M68004 : pm_M) (ih : Int32 → Int32 → Option (Int32)) : Int32 → Int32 → Option (Int32) := fun (l7 : Int32) (l8 : Int32) =>
  (if (M68004 1 (0 : Int32).toNatClampNeg) ≤ l8 then (some l7) else (if l7 = 0 then (ih 0 (l8 + 1)) else (pm_chk (pm_in l8 6) (pm_chk (pm_in ((40 * x1) + l8) 160) (if (M68004 6 l8.toNatClampNeg) = (M68004 10 ((40 * x1) + l8).toNatClampNeg) then (ih 1 (l8 + 1)) else (ih 0 (l8 + 1)))))))
def lp_X8_fell_189 (x1 : Int32) (x2 : Int32) (r12 : Int32) (l4 : Int32) (l5 : Int32) (l6 : Int32) (M68004 : pm_M) : Int32 → Int32 → Option (Int32) := pm_it (fun _ _ => none) (lb_X8_fell_189 x1 x2 r12 l4 l5 l6 M68004) pm_F
def lb_X8_fell_67 (x1 : Int32) (x2 : Int32) (r12 : Int32) (ih : Int32 → Int32 → Int32 → pm_M → Option (Int32 × Int32 × pm_M)) : Int32 → Int32 → Int32 → pm_M → Option (Int32 × Int32 × pm_M) := fun (l4 : Int32) (l5 : Int32) (l6 : Int32) (Ml : pm_M) =>
  (if (pm_shl 1 (Ml 1 (1 : Int32).toNatClampNeg)) ≤ l6 then (some (l4, l5, Ml)) else (pm_b1 (lp_X8_fell_83 x1 x2 r12 l4 l5 l6 0 Ml) (fun (M68002 : pm_M) => (pm_b2 (lp_X8_fell_110 x1 x2 r12 l4 l5 l6 1 0 M68002) (fun (l68003 : Int32) (M68004 : pm_M) => (pm_b1 (lp_X8_fell_189 x1 x2 r12 l4 l5 l6 M68004 l68003 0) (fun (l68005 : Int32) => (if l68005 = 0 then (pm_let (l4 + 0) (fun z68006 : Int32 => (if l68005 = 0 then (ih z68006 l5 (l6 + 1) M68004) else (if 0 ≤ l5 then (ih z68006 l5 (l6 + 1) M68004) else (ih z68006 l6 (l6 + 1) M68004))))) else (pm_let (l4 + 1) (fun z68007 : Int32 => (if l68005 = 0 then (ih z68007 l5 (l6 + 1) M68004) else (if 0 ≤ l5 then (ih z68007 l5 (l6 + 1) M68004) else (ih z68007 l6 (l6 + 1) M68004)))))))))))))
def lp_X8_fell_67 (x1 : Int32) (x2 : Int32) (r12 : Int32) : Int32 → Int32 → Int32 → pm_M → Option (Int32 × Int32 × pm_M) := pm_it (fun _ _ _ _ => none) (lb_X8_fell_67 x1 x2 r12) pm_F
def f_X8_fell (M : pm_M) (x1 : Int32) (x2 : Int32) : Option (Int32 × pm_M) :=
  (pm_b2 (f_X8_isSheet M x1) (fun (r2 : Int32) (M1 : pm_M) => (if r2 = 0 then (pm_b2 (f_X8_finds M1 1) (fun (r4 : Int32) (M3 : pm_M) => (some (r4, M3)))) else (pm_b2 (f_X8_in M1 (x2.toInt64) 0 1) (fun (r6 : Int32) (M5 : pm_M) => (if r6 = 0 then (pm_b2 (f_X8_finds M5 1) (fun (r8 : Int32) (M7 : pm_M) => (some (r8, M7)))) else (pm_chk (pm_in x1 4) (if (M5 8 x1.toNatClampNeg) = 0 then (pm_b2 (f_X8_finds M5 2) (fun (r10 : Int32) (M9 : pm_M) => (some (r10, M9)))) else (pm_chk (pm_in x1 4) (if (M5 9 x1.toNatClampNeg) = (M5 1 (0 : Int32).toNatClampNeg) then (pm_b2 (f_X8_mostInArrears M5) (fun (r12 : Int32) (M11 : pm_M) => (pm_b3 (lp_X8_fell_67 x1 x2 r12 0 (-1) 0 M11) (fun (l13 : Int32) (l14 : Int32) (M15 : pm_M) => (if x2 = 0 then (some (l13, M15)) else (if 0 ≤ l14 then (some (l14, M15)) else (pm_b2 (f_X8_finds M15 2) (fun (r17 : Int32) (M16 : pm_M) => (some (r17, M16)))))))))) else (pm_b2 (f_X8_finds M5 2) (fun (r19 : Int32) (M18 : pm_M) => (some (r19, M18))))))))))))))
set_option maxHeartbeats 4000000 in
set_option maxRecDepth 100000 in
theorem wl_X8_fell_83 {X : pm_X} {V : pm_V} (x1 : Int32) (x2 : Int32) (r12 : Int32) (l4 : Int32) (l5 : Int32) (l6 : Int32)  : ∀ (l7 : Int32) (Ml : pm_M), pm_VF (lp_X8_fell_83 x1 x2 r12 l4 l5 l6 l7 Ml) (fun b => (fun (Ml : pm_M) => pm_J X V mX8_fell 107 (pm_wld V skD Ml) 104 [(0, .ref (V.1 0)), (1, .int x1), (2, .int x2), (3, .int r12), (4, .int l4), (5, .int l5), (6, .int l6)] []) b) (pm_J X V mX8_fell 107 (pm_wld V skD Ml) 83 [(0, .ref (V.1 0)), (1, .int x1), (2, .int x2), (3, .int r12), (4, .int l4), (5, .int l5), (6, .int l6), (7, .int l7)] []) := by
  refine pm_it_ind (P := fun (f : Int32 → pm_M → Option (pm_M)) => ∀ (l7 : Int32) (Ml : pm_M), pm_VF (f l7 Ml) (fun b => (fun (Ml : pm_M) => pm_J X V mX8_fell 107 (pm_wld V skD Ml) 104 [(0, .ref (V.1 0)), (1, .int x1), (2, .int x2), (3, .int r12), (4, .int l4), (5, .int l5), (6, .int l6)] []) b) (pm_J X V mX8_fell 107 (pm_wld V skD Ml) 83 [(0, .ref (V.1 0)), (1, .int x1), (2, .int x2), (3, .int r12), (4, .int l4), (5, .int l5), (6, .int l6), (7, .int l7)] [])) (fun _ _ => vf_none) (fun ih hih l7 Ml => ?_) pm_F
  · unfold lb_X8_fell_83
    refine jv_iload (j := 7) dX8_fell_83 rfl ?_
    refine jv_bipush (v := 6) dX8_fell_85 (by decide) ?_
    refine jw_ic_ge (tgt := 104) dX8_fell_87 rfl (fun c87 => ?_) (fun c87 => ?_)
    · exact vf_end (fun g => jr_sub [0, 1, 2, 3, 4, 5, 6] rfl g)
    refine jv_aloadn (j := 0) dX8_fell_90 rfl ?_
    refine hv_getR dX8_fell_91 fl8_25 at_MO_0 rfl ?_
    refine jv_iload (j := 7) dX8_fell_94 rfl ?_
    refine jv_iconst (v := 0) dX8_fell_96 (by decide) ?_
    refine hv_iastC dX8_fell_97 at_MO_6 (fun _ => ?_)
    refine vf_letM (fun M84002 => ?_)
    refine jv_iinc (j := 7) (v := l7 + 1) (L' := [(7, .int (l7 + 1)), (0, .ref (V.1 0)), (1, .int x1), (2, .int x2), (3, .int r12), (4, .int l4), (5, .int l5), (6, .int l6)]) dX8_fell_98 rfl rfl (Nat.le_of_ble_eq_true rfl) rfl ?_
    refine jv_goto (tgt := 83) dX8_fell_101 rfl ?_
    exact vf_j (fun g => jr_sub [1, 2, 3, 4, 5, 6, 7, 0] rfl g) (hih (l7 + 1) M84002)
set_option maxHeartbeats 4000000 in
set_option maxRecDepth 100000 in
theorem wl_X8_fell_110 {X : pm_X} {V : pm_V} (x1 : Int32) (x2 : Int32) (r12 : Int32) (l4 : Int32) (l5 : Int32) (l6 : Int32)  : ∀ (l7 : Int32) (l8 : Int32) (Ml : pm_M), pm_VF (lp_X8_fell_110 x1 x2 r12 l4 l5 l6 l7 l8 Ml) (fun b => (fun (l7 : Int32) (Ml : pm_M) => pm_J X V mX8_fell 107 (pm_wld V skD Ml) 186 [(0, .ref (V.1 0)), (1, .int x1), (2, .int x2), (3, .int r12), (4, .int l4), (5, .int l5), (6, .int l6), (7, .int l7)] []) b.1 b.2) (pm_J X V mX8_fell 107 (pm_wld V skD Ml) 110 [(0, .ref (V.1 0)), (1, .int x1), (2, .int x2), (3, .int r12), (4, .int l4), (5, .int l5), (6, .int l6), (7, .int l7), (8, .int l8)] []) := by
  refine pm_it_ind (P := fun (f : Int32 → Int32 → pm_M → Option (Int32 × pm_M)) => ∀ (l7 : Int32) (l8 : Int32) (Ml : pm_M), pm_VF (f l7 l8 Ml) (fun b => (fun (l7 : Int32) (Ml : pm_M) => pm_J X V mX8_fell 107 (pm_wld V skD Ml) 186 [(0, .ref (V.1 0)), (1, .int x1), (2, .int x2), (3, .int r12), (4, .int l4), (5, .int l5), (6, .int l6), (7, .int l7)] []) b.1 b.2) (pm_J X V mX8_fell 107 (pm_wld V skD Ml) 110 [(0, .ref (V.1 0)), (1, .int x1), (2, .int x2), (3, .int r12), (4, .int l4), (5, .int l5), (6, .int l6), (7, .int l7), (8, .int l8)] [])) (fun _ _ _ => vf_none) (fun ih hih l7 l8 Ml => ?_) pm_F
  · unfold lb_X8_fell_110
    refine jv_iload (j := 8) dX8_fell_110 rfl ?_
    refine jv_aloadn (j := 0) dX8_fell_112 rfl ?_
    refine hv_getR dX8_fell_113 fl8_7 at_MO_0 rfl ?_
    refine jv_iconst (v := 1) dX8_fell_116 (by decide) ?_
    refine hv_iald dX8_fell_117 at_MO_1 (by decide) ?_
    refine jw_ic_ge (tgt := 186) dX8_fell_118 rfl (fun c118 => ?_) (fun c118 => ?_)
    · exact vf_end (fun g => jr_sub [0, 1, 2, 3, 4, 5, 6, 7] rfl g)
    refine jv_iload (j := 6) dX8_fell_121 rfl ?_
    refine jv_iload (j := 8) dX8_fell_123 rfl ?_
    refine jv_ishr dX8_fell_125 ?_
    refine jv_iconst (v := 1) dX8_fell_126 (by decide) ?_
    refine jv_iand dX8_fell_127 ?_
    refine jv_iconst (v := 1) dX8_fell_128 (by decide) ?_
    refine jw_ic_ne (tgt := 180) dX8_fell_129 rfl (fun c129 => ?_) (fun c129 => ?_)
    · refine jv_aloadn (j := 0) dX8_fell_132 rfl ?_
      refine jv_iload (j := 8) dX8_fell_133 rfl ?_
      refine jv_iloadn (j := 3) dX8_fell_135 rfl ?_
      refine hv_callI (As := [.int l8, .int r12]) dX8_fell_136 lk8_174 kX8_fallsWhere nX8_fallsWhere (Nat.le_of_ble_eq_true rfl) (Nat.le_of_ble_eq_true rfl) at_MO_0 rfl rfl rfl (fun _ _ e l => c_X8_fallsWhere  e l V) ?_
      intro r111003 M111002
      refine jv_istore (L' := [(9, .int r111003), (0, .ref (V.1 0)), (1, .int x1), (2, .int x2), (3, .int r12), (4, .int l4), (5, .int l5), (6, .int l6), (7, .int l7), (8, .int l8)]) dX8_fell_139 (Nat.le_of_ble_eq_true rfl) rfl ?_
      refine jv_aloadn (j := 1) dX8_fell_141 rfl ?_
      refine hv_getR dX8_fell_142 fl8_25 at_MO_0 rfl ?_
      refine jv_iload (j := 0) dX8_fell_145 rfl ?_
      refine jv_dup2 dX8_fell_147 rfl rfl ?_
      refine hv_ialdC dX8_fell_148 at_MO_6 (fun _ => ?_)
      refine jv_aloadn (j := 1) dX8_fell_149 rfl ?_
      refine jv_iload (j := 9) dX8_fell_150 rfl ?_
      refine jv_iload (j := 0) dX8_fell_152 rfl ?_
      refine hv_callI (As := [.int l8, .int r111003]) dX8_fell_154 lk8_160 kX8_fallsOn nX8_fallsOn (Nat.le_of_ble_eq_true rfl) (Nat.le_of_ble_eq_true rfl) at_MO_0 rfl rfl rfl (fun _ _ e l => c_X8_fallsOn  e l V) ?_
      intro r111005 M111004
      refine jv_iadd dX8_fell_157 ?_
      refine hv_iastC dX8_fell_158 at_MO_6 (fun _ => ?_)
      refine vf_letM (fun M111006 => ?_)
      refine jv_iload (j := 8) dX8_fell_159 rfl ?_
      refine jw_if_eq (tgt := 177) dX8_fell_161 rfl (fun c161 => ?_) (fun c161 => ?_)
      · refine jv_iconst (v := 0) dX8_fell_177 (by decide) ?_
        refine jv_istore (L' := [(7, .int 0), (9, .int r111003), (0, .ref (V.1 0)), (1, .int x1), (2, .int x2), (3, .int r12), (4, .int l4), (5, .int l5), (6, .int l6), (8, .int l8)]) dX8_fell_178 (Nat.le_of_ble_eq_true rfl) rfl ?_
        refine jv_iinc (j := 9) (v := l8 + 1) (L' := [(8, .int (l8 + 1)), (7, .int 0), (9, .int r111003), (0, .ref (V.1 0)), (1, .int x1), (2, .int x2), (3, .int r12), (4, .int l4), (5, .int l5), (6, .int l6)]) dX8_fell_180 rfl rfl (Nat.le_of_ble_eq_true rfl) rfl ?_
        refine jv_goto (tgt := 110) dX8_fell_183 rfl ?_
        exact vf_j (fun g => jr_sub [3, 4, 5, 6, 7, 8, 9, 1, 0] rfl g) (hih 0 (l8 + 1) M111006)
      refine jv_aloadn (j := 1) dX8_fell_164 rfl ?_
      refine jv_iload (j := 9) dX8_fell_165 rfl ?_
      refine hv_callI (As := [.int l8]) dX8_fell_167 lk8_157 kX8_isSpent nX8_isSpent (Nat.le_of_ble_eq_true rfl) (Nat.le_of_ble_eq_true rfl) at_MO_0 rfl rfl rfl (fun _ _ e l => c_X8_isSpent  e l V) ?_
      intro r111008 M111007
      refine jw_if_ne (tgt := 177) dX8_fell_170 rfl (fun c170 => ?_) (fun c170 => ?_)
      · refine jv_iconst (v := 1) dX8_fell_173 (by decide) ?_
        refine jv_goto (tgt := 178) dX8_fell_174 rfl ?_
        refine jv_istore (L' := [(7, .int 1), (9, .int r111003), (0, .ref (V.1 0)), (1, .int x1), (2, .int x2), (3, .int r12), (4, .int l4), (5, .int l5), (6, .int l6), (8, .int l8)]) dX8_fell_178 (Nat.le_of_ble_eq_true rfl) rfl ?_
        refine jv_iinc (j := 9) (v := l8 + 1) (L' := [(8, .int (l8 + 1)), (7, .int 1), (9, .int r111003), (0, .ref (V.1 0)), (1, .int x1), (2, .int x2), (3, .int r12), (4, .int l4), (5, .int l5), (6, .int l6)]) dX8_fell_180 rfl rfl (Nat.le_of_ble_eq_true rfl) rfl ?_
        refine jv_goto (tgt := 110) dX8_fell_183 rfl ?_
        exact vf_j (fun g => jr_sub [3, 4, 5, 6, 7, 8, 9, 1, 0] rfl g) (hih 1 (l8 + 1) M111007)
      refine jv_iconst (v := 0) dX8_fell_177 (by decide) ?_
      refine jv_istore (L' := [(7, .int 0), (9, .int r111003), (0, .ref (V.1 0)), (1, .int x1), (2, .int x2), (3, .int r12), (4, .int l4), (5, .int l5), (6, .int l6), (8, .int l8)]) dX8_fell_178 (Nat.le_of_ble_eq_true rfl) rfl ?_
      refine jv_iinc (j := 9) (v := l8 + 1) (L' := [(8, .int (l8 + 1)), (7, .int 0), (9, .int r111003), (0, .ref (V.1 0)), (1, .int x1), (2, .int x2), (3, .int r12), (4, .int l4), (5, .int l5), (6, .int l6)]) dX8_fell_180 rfl rfl (Nat.le_of_ble_eq_true rfl) rfl ?_
      refine jv_goto (tgt := 110) dX8_fell_183 rfl ?_
      exact vf_j (fun g => jr_sub [3, 4, 5, 6, 7, 8, 9, 1, 0] rfl g) (hih 0 (l8 + 1) M111007)
    refine jv_iinc (j := 8) (v := l8 + 1) (L' := [(8, .int (l8 + 1)), (0, .ref (V.1 0)), (1, .int x1), (2, .int x2), (3, .int r12), (4, .int l4), (5, .int l5), (6, .int l6), (7, .int l7)]) dX8_fell_180 rfl rfl (Nat.le_of_ble_eq_true rfl) rfl ?_
    refine jv_goto (tgt := 110) dX8_fell_183 rfl ?_
    exact vf_j (fun g => jr_sub [1, 2, 3, 4, 5, 6, 7, 8, 0] rfl g) (hih l7 (l8 + 1) Ml)
set_option maxHeartbeats 4000000 in
set_option maxRecDepth 100000 in
theorem wl_X8_fell_189 {X : pm_X} {V : pm_V} (x1 : Int32) (x2 : Int32) (r12 : Int32) (l4 : Int32) (l5 : Int32) (l6 : Int32) (M68004 : pm_M)  : ∀ (l7 : Int32) (l8 : Int32), pm_VF (lp_X8_fell_189 x1 x2 r12 l4 l5 l6 M68004 l7 l8) (fun b => (fun (l7 : Int32) => pm_J X V mX8_fell 107 (pm_wld V skD M68004) 240 [(0, .ref (V.1 0)), (1, .int x1), (2, .int x2), (3, .int r12), (4, .int l4), (5, .int l5), (6, .int l6), (7, .int l7)] []) b) (pm_J X V mX8_fell 107 (pm_wld V skD M68004) 189 [(0, .ref (V.1 0)), (1, .int x1), (2, .int x2), (3, .int r12), (4, .int l4), (5, .int l5), (6, .int l6), (7, .int l7), (8, .int l8)] []) := by
  refine pm_it_ind (P := fun (f : Int32 → Int32 → Option (Int32)) => ∀ (l7 : Int32) (l8 : Int32), pm_VF (f l7 l8) (fun b => (fun (l7 : Int32) => pm_J X V mX8_fell 107 (pm_wld V skD M68004) 240 [(0, .ref (V.1 0)), (1, .int x1), (2, .int x2), (3, .int r12), (4, .int l4), (5, .int l5), (6, .int l6), (7, .int l7)] []) b) (pm_J X V mX8_fell 107 (pm_wld V skD M68004) 189 [(0, .ref (V.1 0)), (1, .int x1), (2, .int x2), (3, .int r12), (4, .int l4), (5, .int l5), (6, .int l6), (7, .int l7), (8, .int l8)] [])) (fun _ _ => vf_none) (fun ih hih l7 l8 => ?_) pm_F
  · unfold lb_X8_fell_189
    refine jv_iload (j := 8) dX8_fell_189 rfl ?_
    refine jv_aloadn (j := 0) dX8_fell_191 rfl ?_
    refine hv_getR dX8_fell_192 fl8_7 at_MO_0 rfl ?_
    refine jv_iconst (v := 0) dX8_fell_195 (by decide) ?_
    refine hv_iald dX8_fell_196 at_MO_1 (by decide) ?_
    refine jw_ic_ge (tgt := 240) dX8_fell_197 rfl (fun c197 => ?_) (fun c197 => ?_)
    · exact vf_end (fun g => jr_sub [0, 1, 2, 3, 4, 5, 6, 7] rfl g)
    refine jv_iload (j := 7) dX8_fell_200 rfl ?_
    refine jw_if_eq (tgt := 231) dX8_fell_202 rfl (fun c202 => ?_) (fun c202 => ?_)
    · refine jv_iconst (v := 0) dX8_fell_231 (by decide) ?_
      refine jv_istore (L' := [(7, .int 0), (0, .ref (V.1 0)), (1, .int x1), (2, .int x2), (3, .int r12), (4, .int l4), (5, .int l5), (6, .int l6), (8, .int l8)]) dX8_fell_232 (Nat.le_of_ble_eq_true rfl) rfl ?_
      refine jv_iinc (j := 8) (v := l8 + 1) (L' := [(8, .int (l8 + 1)), (7, .int 0), (0, .ref (V.1 0)), (1, .int x1), (2, .int x2), (3, .int r12), (4, .int l4), (5, .int l5), (6, .int l6)]) dX8_fell_234 rfl rfl (Nat.le_of_ble_eq_true rfl) rfl ?_
      refine jv_goto (tgt := 189) dX8_fell_237 rfl ?_
      exact vf_j (fun g => jr_sub [2, 3, 4, 5, 6, 7, 8, 1, 0] rfl g) (hih 0 (l8 + 1))
    refine jv_aloadn (j := 0) dX8_fell_205 rfl ?_
    refine hv_getR dX8_fell_206 fl8_25 at_MO_0 rfl ?_
    refine jv_iload (j := 8) dX8_fell_209 rfl ?_
    refine hv_ialdC dX8_fell_211 at_MO_6 (fun _ => ?_)
    refine jv_aloadn (j := 0) dX8_fell_212 rfl ?_
    refine hv_getR dX8_fell_213 fl8_37 at_MO_0 rfl ?_
    refine jv_bipush (v := 40) dX8_fell_216 (by decide) ?_
    refine jv_iloadn (j := 1) dX8_fell_218 rfl ?_
    refine jv_imul dX8_fell_219 ?_
    refine jv_iload (j := 8) dX8_fell_220 rfl ?_
    refine jv_iadd dX8_fell_222 ?_
    refine hv_ialdC dX8_fell_223 at_MO_10 (fun _ => ?_)
    refine jw_ic_ne (tgt := 231) dX8_fell_224 rfl (fun c224 => ?_) (fun c224 => ?_)
    · refine jv_iconst (v := 1) dX8_fell_227 (by decide) ?_
      refine jv_goto (tgt := 232) dX8_fell_228 rfl ?_
      refine jv_istore (L' := [(7, .int 1), (0, .ref (V.1 0)), (1, .int x1), (2, .int x2), (3, .int r12), (4, .int l4), (5, .int l5), (6, .int l6), (8, .int l8)]) dX8_fell_232 (Nat.le_of_ble_eq_true rfl) rfl ?_
      refine jv_iinc (j := 8) (v := l8 + 1) (L' := [(8, .int (l8 + 1)), (7, .int 1), (0, .ref (V.1 0)), (1, .int x1), (2, .int x2), (3, .int r12), (4, .int l4), (5, .int l5), (6, .int l6)]) dX8_fell_234 rfl rfl (Nat.le_of_ble_eq_true rfl) rfl ?_
      refine jv_goto (tgt := 189) dX8_fell_237 rfl ?_
      exact vf_j (fun g => jr_sub [2, 3, 4, 5, 6, 7, 8, 1, 0] rfl g) (hih 1 (l8 + 1))
    refine jv_iconst (v := 0) dX8_fell_231 (by decide) ?_
    refine jv_istore (L' := [(7, .int 0), (0, .ref (V.1 0)), (1, .int x1), (2, .int x2), (3, .int r12), (4, .int l4), (5, .int l5), (6, .int l6), (8, .int l8)]) dX8_fell_232 (Nat.le_of_ble_eq_true rfl) rfl ?_
    refine jv_iinc (j := 8) (v := l8 + 1) (L' := [(8, .int (l8 + 1)), (7, .int 0), (0, .ref (V.1 0)), (1, .int x1), (2, .int x2), (3, .int r12), (4, .int l4), (5, .int l5), (6, .int l6)]) dX8_fell_234 rfl rfl (Nat.le_of_ble_eq_true rfl) rfl ?_
    refine jv_goto (tgt := 189) dX8_fell_237 rfl ?_
    exact vf_j (fun g => jr_sub [2, 3, 4, 5, 6, 7, 8, 1, 0] rfl g) (hih 0 (l8 + 1))
set_option maxHeartbeats 4000000 in
set_option maxRecDepth 100000 in
theorem wl_X8_fell_67 {X : pm_X} {V : pm_V} (x1 : Int32) (x2 : Int32) (r12 : Int32)  : ∀ (l4 : Int32) (l5 : Int32) (l6 : Int32) (Ml : pm_M), pm_VF (lp_X8_fell_67 x1 x2 r12 l4 l5 l6 Ml) (fun b => (fun (l4 : Int32) (l5 : Int32) (Ml : pm_M) => pm_J X V mX8_fell 107 (pm_wld V skD Ml) 280 [(0, .ref (V.1 0)), (2, .int x2), (4, .int l4), (5, .int l5)] []) b.1 b.2.1 b.2.2) (pm_J X V mX8_fell 107 (pm_wld V skD Ml) 67 [(0, .ref (V.1 0)), (1, .int x1), (2, .int x2), (3, .int r12), (4, .int l4), (5, .int l5), (6, .int l6)] []) := by
  refine pm_it_ind (P := fun (f : Int32 → Int32 → Int32 → pm_M → Option (Int32 × Int32 × pm_M)) => ∀ (l4 : Int32) (l5 : Int32) (l6 : Int32) (Ml : pm_M), pm_VF (f l4 l5 l6 Ml) (fun b => (fun (l4 : Int32) (l5 : Int32) (Ml : pm_M) => pm_J X V mX8_fell 107 (pm_wld V skD Ml) 280 [(0, .ref (V.1 0)), (2, .int x2), (4, .int l4), (5, .int l5)] []) b.1 b.2.1 b.2.2) (pm_J X V mX8_fell 107 (pm_wld V skD Ml) 67 [(0, .ref (V.1 0)), (1, .int x1), (2, .int x2), (3, .int r12), (4, .int l4), (5, .int l5), (6, .int l6)] [])) (fun _ _ _ _ => vf_none) (fun ih hih l4 l5 l6 Ml => ?_) pm_F
  · unfold lb_X8_fell_67
    refine jv_iload (j := 6) dX8_fell_67 rfl ?_
    refine jv_iconst (v := 1) dX8_fell_69 (by decide) ?_
    refine jv_aloadn (j := 0) dX8_fell_70 rfl ?_
    refine hv_getR dX8_fell_71 fl8_7 at_MO_0 rfl ?_
    refine jv_iconst (v := 1) dX8_fell_74 (by decide) ?_
    refine hv_iald dX8_fell_75 at_MO_1 (by decide) ?_
    refine jv_ishl dX8_fell_76 ?_
    refine jw_ic_ge (tgt := 280) dX8_fell_77 rfl (fun c77 => ?_) (fun c77 => ?_)
    · exact vf_end (fun g => jr_sub [0, 2, 4, 5] rfl g)
    refine jv_iconst (v := 0) dX8_fell_80 (by decide) ?_
    refine jv_istore (L' := [(7, .int 0), (0, .ref (V.1 0)), (1, .int x1), (2, .int x2), (3, .int r12), (4, .int l4), (5, .int l5), (6, .int l6)]) dX8_fell_81 (Nat.le_of_ble_eq_true rfl) rfl ?_
    refine vl_b1 (P := fun (Ml : pm_M) => pm_J X V mX8_fell 107 (pm_wld V skD Ml) 104 [(0, .ref (V.1 0)), (1, .int x1), (2, .int x2), (3, .int r12), (4, .int l4), (5, .int l5), (6, .int l6)] []) (vf_j (fun g => jr_sub [1, 2, 3, 4, 5, 6, 7, 0] rfl g) (wl_X8_fell_83 x1 x2 r12 l4 l5 l6  0 Ml)) ?_
    intro M68002
    refine jv_iconst (v := 1) dX8_fell_104 (by decide) ?_
    refine jv_istore (L' := [(7, .int 1), (0, .ref (V.1 0)), (1, .int x1), (2, .int x2), (3, .int r12), (4, .int l4), (5, .int l5), (6, .int l6)]) dX8_fell_105 (Nat.le_of_ble_eq_true rfl) rfl ?_
    refine jv_iconst (v := 0) dX8_fell_107 (by decide) ?_
    refine jv_istore (L' := [(8, .int 0), (7, .int 1), (0, .ref (V.1 0)), (1, .int x1), (2, .int x2), (3, .int r12), (4, .int l4), (5, .int l5), (6, .int l6)]) dX8_fell_108 (Nat.le_of_ble_eq_true rfl) rfl ?_
    refine vl_b2 (P := fun (l7 : Int32) (Ml : pm_M) => pm_J X V mX8_fell 107 (pm_wld V skD Ml) 186 [(0, .ref (V.1 0)), (1, .int x1), (2, .int x2), (3, .int r12), (4, .int l4), (5, .int l5), (6, .int l6), (7, .int l7)] []) (vf_j (fun g => jr_sub [2, 3, 4, 5, 6, 7, 8, 1, 0] rfl g) (wl_X8_fell_110 x1 x2 r12 l4 l5 l6  1 0 M68002)) ?_
    intro l68003 M68004
    refine jv_iconst (v := 0) dX8_fell_186 (by decide) ?_
    refine jv_istore (L' := [(8, .int 0), (0, .ref (V.1 0)), (1, .int x1), (2, .int x2), (3, .int r12), (4, .int l4), (5, .int l5), (6, .int l6), (7, .int l68003)]) dX8_fell_187 (Nat.le_of_ble_eq_true rfl) rfl ?_
    refine vl_b1 (P := fun (l7 : Int32) => pm_J X V mX8_fell 107 (pm_wld V skD M68004) 240 [(0, .ref (V.1 0)), (1, .int x1), (2, .int x2), (3, .int r12), (4, .int l4), (5, .int l5), (6, .int l6), (7, .int l7)] []) (vf_j (fun g => jr_sub [1, 2, 3, 4, 5, 6, 7, 8, 0] rfl g) (wl_X8_fell_189 x1 x2 r12 l4 l5 l6 M68004  l68003 0)) ?_
    intro l68005
    refine jv_iload (j := 4) dX8_fell_240 rfl ?_
    refine jv_iload (j := 7) dX8_fell_242 rfl ?_
    refine jw_if_eq (tgt := 251) dX8_fell_244 rfl (fun c244 => ?_) (fun c244 => ?_)
    · refine jv_iconst (v := 0) dX8_fell_251 (by decide) ?_
      refine jv_iadd dX8_fell_252 ?_
      refine vf_letS (fun z68006 => ?_)
      refine jv_istore (L' := [(4, .int z68006), (0, .ref (V.1 0)), (1, .int x1), (2, .int x2), (3, .int r12), (5, .int l5), (6, .int l6), (7, .int l68005)]) dX8_fell_253 (Nat.le_of_ble_eq_true rfl) rfl ?_
      refine jv_iload (j := 7) dX8_fell_255 rfl ?_
      refine jw_if_eq (tgt := 270) dX8_fell_257 rfl (fun c257 => ?_) (fun c257 => ?_)
      · refine jv_iload (j := 5) dX8_fell_270 rfl ?_
        refine jv_istore (L' := [(5, .int l5), (4, .int z68006), (0, .ref (V.1 0)), (1, .int x1), (2, .int x2), (3, .int r12), (6, .int l6), (7, .int l68005)]) dX8_fell_272 (Nat.le_of_ble_eq_true rfl) rfl ?_
        refine jv_iinc (j := 6) (v := l6 + 1) (L' := [(6, .int (l6 + 1)), (5, .int l5), (4, .int z68006), (0, .ref (V.1 0)), (1, .int x1), (2, .int x2), (3, .int r12), (7, .int l68005)]) dX8_fell_274 rfl rfl (Nat.le_of_ble_eq_true rfl) rfl ?_
        refine jv_goto (tgt := 67) dX8_fell_277 rfl ?_
        exact vf_j (fun g => jr_sub [3, 4, 5, 6, 2, 1, 0] rfl g) (hih z68006 l5 (l6 + 1) M68004)
      refine jv_iload (j := 5) dX8_fell_260 rfl ?_
      refine jw_if_ge (tgt := 270) dX8_fell_262 rfl (fun c262 => ?_) (fun c262 => ?_)
      · refine jv_iload (j := 5) dX8_fell_270 rfl ?_
        refine jv_istore (L' := [(5, .int l5), (4, .int z68006), (0, .ref (V.1 0)), (1, .int x1), (2, .int x2), (3, .int r12), (6, .int l6), (7, .int l68005)]) dX8_fell_272 (Nat.le_of_ble_eq_true rfl) rfl ?_
        refine jv_iinc (j := 6) (v := l6 + 1) (L' := [(6, .int (l6 + 1)), (5, .int l5), (4, .int z68006), (0, .ref (V.1 0)), (1, .int x1), (2, .int x2), (3, .int r12), (7, .int l68005)]) dX8_fell_274 rfl rfl (Nat.le_of_ble_eq_true rfl) rfl ?_
        refine jv_goto (tgt := 67) dX8_fell_277 rfl ?_
        exact vf_j (fun g => jr_sub [3, 4, 5, 6, 2, 1, 0] rfl g) (hih z68006 l5 (l6 + 1) M68004)
      refine jv_iload (j := 6) dX8_fell_265 rfl ?_
      refine jv_goto (tgt := 272) dX8_fell_267 rfl ?_
      refine jv_istore (L' := [(5, .int l6), (4, .int z68006), (0, .ref (V.1 0)), (1, .int x1), (2, .int x2), (3, .int r12), (6, .int l6), (7, .int l68005)]) dX8_fell_272 (Nat.le_of_ble_eq_true rfl) rfl ?_
      refine jv_iinc (j := 6) (v := l6 + 1) (L' := [(6, .int (l6 + 1)), (5, .int l6), (4, .int z68006), (0, .ref (V.1 0)), (1, .int x1), (2, .int x2), (3, .int r12), (7, .int l68005)]) dX8_fell_274 rfl rfl (Nat.le_of_ble_eq_true rfl) rfl ?_
      refine jv_goto (tgt := 67) dX8_fell_277 rfl ?_
      exact vf_j (fun g => jr_sub [3, 4, 5, 6, 2, 1, 0] rfl g) (hih z68006 l6 (l6 + 1) M68004)
    refine jv_iconst (v := 1) dX8_fell_247 (by decide) ?_
    refine jv_goto (tgt := 252) dX8_fell_248 rfl ?_
    refine jv_iadd dX8_fell_252 ?_
    refine vf_letS (fun z68007 => ?_)
    refine jv_istore (L' := [(4, .int z68007), (0, .ref (V.1 0)), (1, .int x1), (2, .int x2), (3, .int r12), (5, .int l5), (6, .int l6), (7, .int l68005)]) dX8_fell_253 (Nat.le_of_ble_eq_true rfl) rfl ?_
    refine jv_iload (j := 7) dX8_fell_255 rfl ?_
    refine jw_if_eq (tgt := 270) dX8_fell_257 rfl (fun c257 => ?_) (fun c257 => ?_)
    · refine jv_iload (j := 5) dX8_fell_270 rfl ?_
      refine jv_istore (L' := [(5, .int l5), (4, .int z68007), (0, .ref (V.1 0)), (1, .int x1), (2, .int x2), (3, .int r12), (6, .int l6), (7, .int l68005)]) dX8_fell_272 (Nat.le_of_ble_eq_true rfl) rfl ?_
      refine jv_iinc (j := 6) (v := l6 + 1) (L' := [(6, .int (l6 + 1)), (5, .int l5), (4, .int z68007), (0, .ref (V.1 0)), (1, .int x1), (2, .int x2), (3, .int r12), (7, .int l68005)]) dX8_fell_274 rfl rfl (Nat.le_of_ble_eq_true rfl) rfl ?_
      refine jv_goto (tgt := 67) dX8_fell_277 rfl ?_
      exact vf_j (fun g => jr_sub [3, 4, 5, 6, 2, 1, 0] rfl g) (hih z68007 l5 (l6 + 1) M68004)
    refine jv_iload (j := 5) dX8_fell_260 rfl ?_
    refine jw_if_ge (tgt := 270) dX8_fell_262 rfl (fun c262 => ?_) (fun c262 => ?_)
    · refine jv_iload (j := 5) dX8_fell_270 rfl ?_
      refine jv_istore (L' := [(5, .int l5), (4, .int z68007), (0, .ref (V.1 0)), (1, .int x1), (2, .int x2), (3, .int r12), (6, .int l6), (7, .int l68005)]) dX8_fell_272 (Nat.le_of_ble_eq_true rfl) rfl ?_
      refine jv_iinc (j := 6) (v := l6 + 1) (L' := [(6, .int (l6 + 1)), (5, .int l5), (4, .int z68007), (0, .ref (V.1 0)), (1, .int x1), (2, .int x2), (3, .int r12), (7, .int l68005)]) dX8_fell_274 rfl rfl (Nat.le_of_ble_eq_true rfl) rfl ?_
      refine jv_goto (tgt := 67) dX8_fell_277 rfl ?_
      exact vf_j (fun g => jr_sub [3, 4, 5, 6, 2, 1, 0] rfl g) (hih z68007 l5 (l6 + 1) M68004)
    refine jv_iload (j := 6) dX8_fell_265 rfl ?_
    refine jv_goto (tgt := 272) dX8_fell_267 rfl ?_
    refine jv_istore (L' := [(5, .int l6), (4, .int z68007), (0, .ref (V.1 0)), (1, .int x1), (2, .int x2), (3, .int r12), (6, .int l6), (7, .int l68005)]) dX8_fell_272 (Nat.le_of_ble_eq_true rfl) rfl ?_
    refine jv_iinc (j := 6) (v := l6 + 1) (L' := [(6, .int (l6 + 1)), (5, .int l6), (4, .int z68007), (0, .ref (V.1 0)), (1, .int x1), (2, .int x2), (3, .int r12), (7, .int l68005)]) dX8_fell_274 rfl rfl (Nat.le_of_ble_eq_true rfl) rfl ?_
    refine jv_goto (tgt := 67) dX8_fell_277 rfl ?_
    exact vf_j (fun g => jr_sub [3, 4, 5, 6, 2, 1, 0] rfl g) (hih z68007 l6 (l6 + 1) M68004)
set_option maxHeartbeats 4000000 in
set_option maxRecDepth 100000 in
theorem w_X8_fell {X : pm_X} {V : pm_V} (M : pm_M) (x1 : Int32) (x2 : Int32)  : pm_VF (f_X8_fell M x1 x2) (pm_K X V mX8_fell 107 skD) (pm_J X V mX8_fell 107 (pm_wld V skD M) 0 [(0, .ref (V.1 0)), (1, .int x1), (2, .int x2)] []) := by
  unfold f_X8_fell
  refine jv_iloadn (j := 1) dX8_fell_0 rfl ?_
  refine hv_callS (As := [.int x1]) dX8_fell_1 lk8_217 kX8_isSheet nX8_isSheet (Nat.le_of_ble_eq_true rfl) (Nat.le_of_ble_eq_true rfl) rfl (fun _ _ e l => c_X8_isSheet  e l V) ?_
  intro r2 M1
  refine jw_if_eq (tgt := 17) dX8_fell_4 rfl (fun c4 => ?_) (fun c4 => ?_)
  · refine jv_aloadn (j := 0) dX8_fell_17 rfl ?_
    refine jv_iconst (v := 1) dX8_fell_18 (by decide) ?_
    refine hv_callI (As := [.int 1]) dX8_fell_19 lk8_107 kX8_finds nX8_finds (Nat.le_of_ble_eq_true rfl) (Nat.le_of_ble_eq_true rfl) at_MO_0 rfl rfl rfl (fun _ _ e l => c_X8_finds  e l V) ?_
    intro r4 M3
    exact vf_ret dX8_fell_22 rfl
  refine jv_iloadn (j := 2) dX8_fell_7 rfl ?_
  refine jv_i2l dX8_fell_8 ?_
  refine jv_lconst (v := 0) dX8_fell_9 (by decide) ?_
  refine jv_lconst (v := 1) dX8_fell_10 (by decide) ?_
  refine hv_callS (As := [.long (x2.toInt64), .long 0, .long 1]) dX8_fell_11 lk8_44 kX8_in nX8_in (Nat.le_of_ble_eq_true rfl) (Nat.le_of_ble_eq_true rfl) rfl (fun _ _ e l => c_X8_in  e l V) ?_
  intro r6 M5
  refine jw_if_ne (tgt := 23) dX8_fell_14 rfl (fun c14 => ?_) (fun c14 => ?_)
  · refine jv_aloadn (j := 0) dX8_fell_17 rfl ?_
    refine jv_iconst (v := 1) dX8_fell_18 (by decide) ?_
    refine hv_callI (As := [.int 1]) dX8_fell_19 lk8_107 kX8_finds nX8_finds (Nat.le_of_ble_eq_true rfl) (Nat.le_of_ble_eq_true rfl) at_MO_0 rfl rfl rfl (fun _ _ e l => c_X8_finds  e l V) ?_
    intro r8 M7
    exact vf_ret dX8_fell_22 rfl
  refine jv_aloadn (j := 0) dX8_fell_23 rfl ?_
  refine hv_getR dX8_fell_24 fl8_31 at_MO_0 rfl ?_
  refine jv_iloadn (j := 1) dX8_fell_27 rfl ?_
  refine hv_ialdC dX8_fell_28 at_MO_8 (fun _ => ?_)
  refine jw_if_eq (tgt := 47) dX8_fell_29 rfl (fun c29 => ?_) (fun c29 => ?_)
  · refine jv_aloadn (j := 0) dX8_fell_47 rfl ?_
    refine jv_iconst (v := 2) dX8_fell_48 (by decide) ?_
    refine hv_callI (As := [.int 2]) dX8_fell_49 lk8_107 kX8_finds nX8_finds (Nat.le_of_ble_eq_true rfl) (Nat.le_of_ble_eq_true rfl) at_MO_0 rfl rfl rfl (fun _ _ e l => c_X8_finds  e l V) ?_
    intro r10 M9
    exact vf_ret dX8_fell_52 rfl
  refine jv_aloadn (j := 0) dX8_fell_32 rfl ?_
  refine hv_getR dX8_fell_33 fl8_34 at_MO_0 rfl ?_
  refine jv_iloadn (j := 1) dX8_fell_36 rfl ?_
  refine hv_ialdC dX8_fell_37 at_MO_9 (fun _ => ?_)
  refine jv_aloadn (j := 0) dX8_fell_38 rfl ?_
  refine hv_getR dX8_fell_39 fl8_7 at_MO_0 rfl ?_
  refine jv_iconst (v := 0) dX8_fell_42 (by decide) ?_
  refine hv_iald dX8_fell_43 at_MO_1 (by decide) ?_
  refine jw_ic_eq (tgt := 53) dX8_fell_44 rfl (fun c44 => ?_) (fun c44 => ?_)
  · refine jv_aloadn (j := 0) dX8_fell_53 rfl ?_
    refine hv_callI (As := []) dX8_fell_54 lk8_171 kX8_mostInArrears nX8_mostInArrears (Nat.le_of_ble_eq_true rfl) (Nat.le_of_ble_eq_true rfl) at_MO_0 rfl rfl rfl (fun _ _ e l => c_X8_mostInArrears  e l V) ?_
    intro r12 M11
    refine jv_istoren (L' := [(3, .int r12), (0, .ref (V.1 0)), (1, .int x1), (2, .int x2)]) dX8_fell_57 (Nat.le_of_ble_eq_true rfl) rfl ?_
    refine jv_iconst (v := 0) dX8_fell_58 (by decide) ?_
    refine jv_istore (L' := [(4, .int 0), (3, .int r12), (0, .ref (V.1 0)), (1, .int x1), (2, .int x2)]) dX8_fell_59 (Nat.le_of_ble_eq_true rfl) rfl ?_
    refine jv_iconst (v := -1) dX8_fell_61 (by decide) ?_
    refine jv_istore (L' := [(5, .int (-1)), (4, .int 0), (3, .int r12), (0, .ref (V.1 0)), (1, .int x1), (2, .int x2)]) dX8_fell_62 (Nat.le_of_ble_eq_true rfl) rfl ?_
    refine jv_iconst (v := 0) dX8_fell_64 (by decide) ?_
    refine jv_istore (L' := [(6, .int 0), (5, .int (-1)), (4, .int 0), (3, .int r12), (0, .ref (V.1 0)), (1, .int x1), (2, .int x2)]) dX8_fell_65 (Nat.le_of_ble_eq_true rfl) rfl ?_
    refine vl_b3 (P := fun (l4 : Int32) (l5 : Int32) (Ml : pm_M) => pm_J X V mX8_fell 107 (pm_wld V skD Ml) 280 [(0, .ref (V.1 0)), (2, .int x2), (4, .int l4), (5, .int l5)] []) (vf_j (fun g => jr_sub [4, 5, 6, 3, 2, 1, 0] rfl g) (wl_X8_fell_67 x1 x2 r12  0 (-1) 0 M11)) ?_
    intro l13 l14 M15
    refine jv_iloadn (j := 1) dX8_fell_280 rfl ?_
    refine jw_if_ne (tgt := 289) dX8_fell_281 rfl (fun c281 => ?_) (fun c281 => ?_)
    · refine jv_iload (j := 2) dX8_fell_284 rfl ?_
      refine jv_goto (tgt := 304) dX8_fell_286 rfl ?_
      exact vf_ret dX8_fell_304 rfl
    refine jv_iload (j := 3) dX8_fell_289 rfl ?_
    refine jw_if_ge (tgt := 302) dX8_fell_291 rfl (fun c291 => ?_) (fun c291 => ?_)
    · refine jv_iload (j := 3) dX8_fell_302 rfl ?_
      exact vf_ret dX8_fell_304 rfl
    refine jv_aloadn (j := 0) dX8_fell_294 rfl ?_
    refine jv_iconst (v := 2) dX8_fell_295 (by decide) ?_
    refine hv_callI (As := [.int 2]) dX8_fell_296 lk8_107 kX8_finds nX8_finds (Nat.le_of_ble_eq_true rfl) (Nat.le_of_ble_eq_true rfl) at_MO_0 rfl rfl rfl (fun _ _ e l => c_X8_finds  e l V) ?_
    intro r17 M16
    refine jv_goto (tgt := 304) dX8_fell_299 rfl ?_
    exact vf_ret dX8_fell_304 rfl
  refine jv_aloadn (j := 0) dX8_fell_47 rfl ?_
  refine jv_iconst (v := 2) dX8_fell_48 (by decide) ?_
  refine hv_callI (As := [.int 2]) dX8_fell_49 lk8_107 kX8_finds nX8_finds (Nat.le_of_ble_eq_true rfl) (Nat.le_of_ble_eq_true rfl) at_MO_0 rfl rfl rfl (fun _ _ e l => c_X8_finds  e l V) ?_
  intro r19 M18
  exact vf_ret dX8_fell_52 rfl
theorem c_X8_fell {M : pm_M} {x1 : Int32} {x2 : Int32}  {r : Int32} {M' : pm_M} (h : f_X8_fell M x1 x2 = some (r, M')) (l : Launch) (V : pm_V) : pm_Ci l V skD yX8_fell mX8_fell 107 [.ref (V.1 0), .int x1, .int x2] M r M' := pm_metI (by decide) rfl (Nat.le_of_ble_eq_true rfl) h (fun _ => w_X8_fell M x1 x2 )
def f_X8_gains (M : pm_M) (x1 : Int32) (x2 : Int32) (x3 : Int32) : Option (Int32 × pm_M) :=
  (pm_b2 (f_X8_isRoof M x1) (fun (r2 : Int32) (M1 : pm_M) => (if r2 = 0 then (pm_b2 (f_X8_finds M1 1) (fun (r4 : Int32) (M3 : pm_M) => (some (r4, M3)))) else (pm_b2 (f_X8_in M1 (x2.toInt64) 1 20) (fun (r6 : Int32) (M5 : pm_M) => (if r6 = 0 then (pm_b2 (f_X8_finds M5 1) (fun (r8 : Int32) (M7 : pm_M) => (some (r8, M7)))) else (pm_b2 (f_X8_in M5 (x3.toInt64) 0 60) (fun (r10 : Int32) (M9 : pm_M) => (if r10 = 0 then (pm_b2 (f_X8_finds M9 1) (fun (r12 : Int32) (M11 : pm_M) => (some (r12, M11)))) else (pm_b1 (f_X8_keepAside M9) (fun M13 : pm_M => (pm_b1 (f_X8_daysGo M13 x3) (fun M14 : pm_M => (pm_b2 (f_X8_its M14 x1 1) (fun (r16 : Int32) (M15 : pm_M) => (pm_b1 (f_X8_putBack M15) (fun M17 : pm_M => (pm_b2 (f_X8_its M17 x1 0) (fun (r19 : Int32) (M18 : pm_M) => (pm_b2 (f_X8_held M18 (r19 + x2) 0 99) (fun (r21 : Int32) (M20 : pm_M) => (pm_chk (pm_in ((6 + (4 * x1)) + 0) 258) (pm_let (pm_up M20 1 ((6 + (4 * x1)) + 0).toNatClampNeg r21) (fun M22 : pm_M => (pm_b1 (f_X8_daysGo M22 x3) (fun M23 : pm_M => (pm_b2 (f_X8_its M23 x1 1) (fun (r25 : Int32) (M24 : pm_M) => (pm_b1 (f_X8_putBack M24) (fun M26 : pm_M => (some ((r16 - r25), M26))))))))))))))))))))))))))))))))
set_option maxHeartbeats 4000000 in
set_option maxRecDepth 100000 in
theorem w_X8_gains {X : pm_X} {V : pm_V} (M : pm_M) (x1 : Int32) (x2 : Int32) (x3 : Int32)  : pm_VF (f_X8_gains M x1 x2 x3) (pm_K X V mX8_gains 109 skD) (pm_J X V mX8_gains 109 (pm_wld V skD M) 0 [(0, .ref (V.1 0)), (1, .int x1), (2, .int x2), (3, .int x3)] []) := by
  unfold f_X8_gains
  refine jv_aloadn (j := 0) dX8_gains_0 rfl ?_
  refine jv_iloadn (j := 1) dX8_gains_1 rfl ?_
  refine hv_callI (As := [.int x1]) dX8_gains_2 lk8_125 kX8_isRoof nX8_isRoof (Nat.le_of_ble_eq_true rfl) (Nat.le_of_ble_eq_true rfl) at_MO_0 rfl rfl rfl (fun _ _ e l => c_X8_isRoof  e l V) ?_
  intro r2 M1
  refine jw_if_eq (tgt := 32) dX8_gains_5 rfl (fun c5 => ?_) (fun c5 => ?_)
  · refine jv_aloadn (j := 0) dX8_gains_32 rfl ?_
    refine jv_iconst (v := 1) dX8_gains_33 (by decide) ?_
    refine hv_callI (As := [.int 1]) dX8_gains_34 lk8_107 kX8_finds nX8_finds (Nat.le_of_ble_eq_true rfl) (Nat.le_of_ble_eq_true rfl) at_MO_0 rfl rfl rfl (fun _ _ e l => c_X8_finds  e l V) ?_
    intro r4 M3
    exact vf_ret dX8_gains_37 rfl
  refine jv_iloadn (j := 2) dX8_gains_8 rfl ?_
  refine jv_i2l dX8_gains_9 ?_
  refine jv_lconst (v := 1) dX8_gains_10 (by decide) ?_
  refine jv_ldc2 dX8_gains_11 lk8_212 ?_
  refine hv_callS (As := [.long (x2.toInt64), .long 1, .long 20]) dX8_gains_14 lk8_44 kX8_in nX8_in (Nat.le_of_ble_eq_true rfl) (Nat.le_of_ble_eq_true rfl) rfl (fun _ _ e l => c_X8_in  e l V) ?_
  intro r6 M5
  refine jw_if_eq (tgt := 32) dX8_gains_17 rfl (fun c17 => ?_) (fun c17 => ?_)
  · refine jv_aloadn (j := 0) dX8_gains_32 rfl ?_
    refine jv_iconst (v := 1) dX8_gains_33 (by decide) ?_
    refine hv_callI (As := [.int 1]) dX8_gains_34 lk8_107 kX8_finds nX8_finds (Nat.le_of_ble_eq_true rfl) (Nat.le_of_ble_eq_true rfl) at_MO_0 rfl rfl rfl (fun _ _ e l => c_X8_finds  e l V) ?_
    intro r8 M7
    exact vf_ret dX8_gains_37 rfl
  refine jv_iloadn (j := 3) dX8_gains_20 rfl ?_
  refine jv_i2l dX8_gains_21 ?_
  refine jv_lconst (v := 0) dX8_gains_22 (by decide) ?_
  refine jv_ldc2 dX8_gains_23 lk8_181 ?_
  refine hv_callS (As := [.long (x3.toInt64), .long 0, .long 60]) dX8_gains_26 lk8_44 kX8_in nX8_in (Nat.le_of_ble_eq_true rfl) (Nat.le_of_ble_eq_true rfl) rfl (fun _ _ e l => c_X8_in  e l V) ?_
  intro r10 M9
  refine jw_if_ne (tgt := 38) dX8_gains_29 rfl (fun c29 => ?_) (fun c29 => ?_)
  · refine jv_aloadn (j := 0) dX8_gains_32 rfl ?_
    refine jv_iconst (v := 1) dX8_gains_33 (by decide) ?_
    refine hv_callI (As := [.int 1]) dX8_gains_34 lk8_107 kX8_finds nX8_finds (Nat.le_of_ble_eq_true rfl) (Nat.le_of_ble_eq_true rfl) at_MO_0 rfl rfl rfl (fun _ _ e l => c_X8_finds  e l V) ?_
    intro r12 M11
    exact vf_ret dX8_gains_37 rfl
  refine jv_aloadn (j := 0) dX8_gains_38 rfl ?_
  refine hv_callV (As := []) dX8_gains_39 lk8_203 kX8_keepAside nX8_keepAside (Nat.le_of_ble_eq_true rfl) (Nat.le_of_ble_eq_true rfl) at_MO_0 rfl rfl rfl (fun _ e l => c_X8_keepAside  e l V) ?_
  intro M13
  refine jv_aloadn (j := 0) dX8_gains_42 rfl ?_
  refine jv_iloadn (j := 3) dX8_gains_43 rfl ?_
  refine hv_callV (As := [.int x3]) dX8_gains_44 lk8_183 kX8_daysGo nX8_daysGo (Nat.le_of_ble_eq_true rfl) (Nat.le_of_ble_eq_true rfl) at_MO_0 rfl rfl rfl (fun _ e l => c_X8_daysGo  e l V) ?_
  intro M14
  refine jv_aloadn (j := 0) dX8_gains_47 rfl ?_
  refine jv_iloadn (j := 1) dX8_gains_48 rfl ?_
  refine jv_iconst (v := 1) dX8_gains_49 (by decide) ?_
  refine hv_callI (As := [.int x1, .int 1]) dX8_gains_50 lk8_134 kX8_its nX8_its (Nat.le_of_ble_eq_true rfl) (Nat.le_of_ble_eq_true rfl) at_MO_0 rfl rfl rfl (fun _ _ e l => c_X8_its  e l V) ?_
  intro r16 M15
  refine jv_istore (L' := [(4, .int r16), (0, .ref (V.1 0)), (1, .int x1), (2, .int x2), (3, .int x3)]) dX8_gains_53 (Nat.le_of_ble_eq_true rfl) rfl ?_
  refine jv_aloadn (j := 1) dX8_gains_55 rfl ?_
  refine hv_callV (As := []) dX8_gains_56 lk8_206 kX8_putBack nX8_putBack (Nat.le_of_ble_eq_true rfl) (Nat.le_of_ble_eq_true rfl) at_MO_0 rfl rfl rfl (fun _ e l => c_X8_putBack  e l V) ?_
  intro M17
  refine jv_aloadn (j := 1) dX8_gains_59 rfl ?_
  refine hv_getR dX8_gains_60 fl8_7 at_MO_0 rfl ?_
  refine jv_bipush (v := 6) dX8_gains_63 (by decide) ?_
  refine jv_iconst (v := 4) dX8_gains_65 (by decide) ?_
  refine jv_iloadn (j := 2) dX8_gains_66 rfl ?_
  refine jv_imul dX8_gains_67 ?_
  refine jv_iadd dX8_gains_68 ?_
  refine jv_iconst (v := 0) dX8_gains_69 (by decide) ?_
  refine jv_iadd dX8_gains_70 ?_
  refine jv_aloadn (j := 1) dX8_gains_71 rfl ?_
  refine jv_iloadn (j := 2) dX8_gains_72 rfl ?_
  refine jv_iconst (v := 0) dX8_gains_73 (by decide) ?_
  refine hv_callI (As := [.int x1, .int 0]) dX8_gains_74 lk8_134 kX8_its nX8_its (Nat.le_of_ble_eq_true rfl) (Nat.le_of_ble_eq_true rfl) at_MO_0 rfl rfl rfl (fun _ _ e l => c_X8_its  e l V) ?_
  intro r19 M18
  refine jv_iloadn (j := 3) dX8_gains_77 rfl ?_
  refine jv_iadd dX8_gains_78 ?_
  refine jv_iconst (v := 0) dX8_gains_79 (by decide) ?_
  refine jv_bipush (v := 99) dX8_gains_80 (by decide) ?_
  refine hv_callS (As := [.int (r19 + x2), .int 0, .int 99]) dX8_gains_82 lk8_116 kX8_held nX8_held (Nat.le_of_ble_eq_true rfl) (Nat.le_of_ble_eq_true rfl) rfl (fun _ _ e l => c_X8_held  e l V) ?_
  intro r21 M20
  refine hv_iastC dX8_gains_85 at_MO_1 (fun _ => ?_)
  refine vf_letM (fun M22 => ?_)
  refine jv_aloadn (j := 1) dX8_gains_86 rfl ?_
  refine jv_iloadn (j := 4) dX8_gains_87 rfl ?_
  refine hv_callV (As := [.int x3]) dX8_gains_88 lk8_183 kX8_daysGo nX8_daysGo (Nat.le_of_ble_eq_true rfl) (Nat.le_of_ble_eq_true rfl) at_MO_0 rfl rfl rfl (fun _ e l => c_X8_daysGo  e l V) ?_
  intro M23
  refine jv_aloadn (j := 1) dX8_gains_91 rfl ?_
  refine jv_iloadn (j := 2) dX8_gains_92 rfl ?_
  refine jv_iconst (v := 1) dX8_gains_93 (by decide) ?_
  refine hv_callI (As := [.int x1, .int 1]) dX8_gains_94 lk8_134 kX8_its nX8_its (Nat.le_of_ble_eq_true rfl) (Nat.le_of_ble_eq_true rfl) at_MO_0 rfl rfl rfl (fun _ _ e l => c_X8_its  e l V) ?_
  intro r25 M24
  refine jv_istore (L' := [(5, .int r25), (4, .int r16), (0, .ref (V.1 0)), (1, .int x1), (2, .int x2), (3, .int x3)]) dX8_gains_97 (Nat.le_of_ble_eq_true rfl) rfl ?_
  refine jv_aloadn (j := 2) dX8_gains_99 rfl ?_
  refine hv_callV (As := []) dX8_gains_100 lk8_206 kX8_putBack nX8_putBack (Nat.le_of_ble_eq_true rfl) (Nat.le_of_ble_eq_true rfl) at_MO_0 rfl rfl rfl (fun _ e l => c_X8_putBack  e l V) ?_
  intro M26
  refine jv_iload (j := 1) dX8_gains_103 rfl ?_
  refine jv_iload (j := 0) dX8_gains_105 rfl ?_
  refine jv_isub dX8_gains_107 ?_
  exact vf_ret dX8_gains_108 rfl
theorem c_X8_gains {M : pm_M} {x1 : Int32} {x2 : Int32} {x3 : Int32}  {r : Int32} {M' : pm_M} (h : f_X8_gains M x1 x2 x3 = some (r, M')) (l : Launch) (V : pm_V) : pm_Ci l V skD yX8_gains mX8_gains 109 [.ref (V.1 0), .int x1, .int x2, .int x3] M r M' := pm_metI (by decide) rfl (Nat.le_of_ble_eq_true rfl) h (fun _ => w_X8_gains M x1 x2 x3 )
def f_X8_seed (M : pm_M) (x1 : Int32) : Option (Int32 × pm_M) :=
  (pm_let (M 1 (3 : Int32).toNatClampNeg) (fun z1 : Int32 => (pm_let (pm_up M 1 (3 : Int32).toNatClampNeg x1) (fun M2 : pm_M => (some (z1, M2))))))
set_option maxHeartbeats 4000000 in
set_option maxRecDepth 100000 in
theorem w_X8_seed {X : pm_X} {V : pm_V} (M : pm_M) (x1 : Int32)  : pm_VF (f_X8_seed M x1) (pm_K X V mX8_seed 1 skD) (pm_J X V mX8_seed 1 (pm_wld V skD M) 0 [(0, .ref (V.1 0)), (1, .int x1)] []) := by
  unfold f_X8_seed
  refine jv_aloadn (j := 0) dX8_seed_0 rfl ?_
  refine hv_getR dX8_seed_1 fl8_7 at_MO_0 rfl ?_
  refine jv_iconst (v := 3) dX8_seed_4 (by decide) ?_
  refine hv_iald dX8_seed_5 at_MO_1 (by decide) ?_
  refine vf_letS (fun z1 => ?_)
  refine jv_istoren (L' := [(2, .int z1), (0, .ref (V.1 0)), (1, .int x1)]) dX8_seed_6 (Nat.le_of_ble_eq_true rfl) rfl ?_
  refine jv_aloadn (j := 1) dX8_seed_7 rfl ?_
  refine hv_getR dX8_seed_8 fl8_7 at_MO_0 rfl ?_
  refine jv_iconst (v := 3) dX8_seed_11 (by decide) ?_
  refine jv_iloadn (j := 2) dX8_seed_12 rfl ?_
  refine hv_iast dX8_seed_13 at_MO_1 (by decide) ?_
  refine vf_letM (fun M2 => ?_)
  refine jv_iloadn (j := 0) dX8_seed_14 rfl ?_
  exact vf_ret dX8_seed_15 rfl
theorem c_X8_seed {M : pm_M} {x1 : Int32}  {r : Int32} {M' : pm_M} (h : f_X8_seed M x1 = some (r, M')) (l : Launch) (V : pm_V) : pm_Ci l V skD yX8_seed mX8_seed 1 [.ref (V.1 0), .int x1] M r M' := pm_metI (by decide) rfl (Nat.le_of_ble_eq_true rfl) h (fun _ => w_X8_seed M x1 )
def f_X8_ran (M : pm_M) (x1 : Int32) : Option pm_M :=
  (if 40 ≤ (M 0 14) then (some M) else (pm_chk (pm_in (M 0 14) 40) (pm_let (pm_up M 7 (M 0 14).toNatClampNeg x1) (fun M1 : pm_M => (pm_let (pm_up M1 0 14 ((M1 0 14) + 1)) (fun M2 : pm_M => (some M2)))))))
set_option maxHeartbeats 4000000 in
set_option maxRecDepth 100000 in
theorem w_X8_ran {X : pm_X} {V : pm_V} (M : pm_M) (x1 : Int32)  : pm_VF (f_X8_ran M x1) (pm_Kv X V mX8_ran 1 skD) (pm_J X V mX8_ran 1 (pm_wld V skD M) 0 [(0, .ref (V.1 0)), (1, .int x1)] []) := by
  unfold f_X8_ran
  refine jv_aloadn (j := 0) dX8_ran_0 rfl ?_
  refine hv_getI dX8_ran_1 fl8_220 at_MO_0 rfl ?_
  refine jv_bipush (v := 40) dX8_ran_4 (by decide) ?_
  refine jw_ic_ge (tgt := 29) dX8_ran_6 rfl (fun c6 => ?_) (fun c6 => ?_)
  · exact vf_vret dX8_ran_29
  refine jv_aloadn (j := 0) dX8_ran_9 rfl ?_
  refine hv_getR dX8_ran_10 fl8_28 at_MO_0 rfl ?_
  refine jv_aloadn (j := 0) dX8_ran_13 rfl ?_
  refine hv_getI dX8_ran_14 fl8_220 at_MO_0 rfl ?_
  refine jv_iloadn (j := 1) dX8_ran_17 rfl ?_
  refine hv_iastC dX8_ran_18 at_MO_7 (fun _ => ?_)
  refine vf_letM (fun M1 => ?_)
  refine jv_aloadn (j := 0) dX8_ran_19 rfl ?_
  refine jv_dup dX8_ran_20 rfl ?_
  refine hv_getI dX8_ran_21 fl8_220 at_MO_0 rfl ?_
  refine jv_iconst (v := 1) dX8_ran_24 (by decide) ?_
  refine jv_iadd dX8_ran_25 ?_
  refine hv_put dX8_ran_26 fp8_220 at_MO_0 rfl rfl rfl ?_
  refine vf_letM (fun M2 => ?_)
  exact vf_vret dX8_ran_29
theorem c_X8_ran {M : pm_M} {x1 : Int32}  {M' : pm_M} (h : f_X8_ran M x1 = some M') (l : Launch) (V : pm_V) : pm_Cv l V skD yX8_ran mX8_ran 1 [.ref (V.1 0), .int x1] M M' := pm_metV (by decide) rfl (Nat.le_of_ble_eq_true rfl) rfl h (fun _ => w_X8_ran M x1 )
abbrev GT_X8_rainsBy : Type := (pm_M → Int32 → Int32 → Option (Int32 × pm_M))
def rb_X8_rainsBy (r : GT_X8_rainsBy) : pm_M → Int32 → Int32 → Option (Int32 × pm_M) := fun M x1 x2 =>
  (if x1 = 0 then (pm_b1 (f_X8_ran M 10) (fun M1 : pm_M => (some ((x2 + (M1 0 15)), M1)))) else if x1 = 2 then (pm_b1 (f_X8_ran M 30) (fun M2 : pm_M => (pm_b2 (f_X8_above M2 2) (fun (r4 : Int32) (M3 : pm_M) => (pm_b2 (r M3 r4 x2) (fun (r6 : Int32) (M5 : pm_M) => (some ((r6 * 3), M5)))))))) else (pm_b2 (f_X8_above M x1) (fun (r8 : Int32) (M7 : pm_M) => (pm_b2 (r M7 r8 x2) (fun (r10 : Int32) (M9 : pm_M) => (some (r10, M9)))))))
def fG_X8_rainsBy : Nat → GT_X8_rainsBy := pm_it (fun _ _ _ => none) (fun r => rb_X8_rainsBy r)
def GP_X8_rainsBy (n : Nat) (r : GT_X8_rainsBy) : Prop := (∀ (M : pm_M) (x1 : Int32) (x2 : Int32) (x : Int32) (M' : pm_M), r M x1 x2 = some (x, M') → ∀ (l : Launch) (V : pm_V), pm_Ci l V skD yX8_rainsBy mX8_rainsBy (2 + n) [.ref (V.1 0), .int x1, .int x2] M x M')
set_option maxHeartbeats 4000000 in
set_option maxRecDepth 100000 in
theorem w_X8_rainsBy {X : pm_X} {V : pm_V} {n : Nat} {r : GT_X8_rainsBy} (hr : GP_X8_rainsBy n r) (M : pm_M) (x1 : Int32) (x2 : Int32)  : pm_VF (rb_X8_rainsBy r M x1 x2) (pm_K X V mX8_rainsBy (2 + (n + 1)) skD) (pm_J X V mX8_rainsBy (2 + (n + 1)) (pm_wld V skD M) 0 [(0, .ref (V.1 0)), (1, .int x1), (2, .int x2)] []) := by
  unfold rb_X8_rainsBy
  refine jv_iloadn (j := 1) dX8_rainsBy_0 rfl ?_
  refine vf_case (fun c1_0 => ?_) (fun c1_0 => ?_)
  · refine jv_lin (v := 0) (tgt := 28) dX8_rainsBy_1 c1_0 (by decide) rfl rfl ?_
    refine jv_aloadn (j := 0) dX8_rainsBy_28 rfl ?_
    refine jv_bipush (v := 10) dX8_rainsBy_29 (by decide) ?_
    refine hv_callV (As := [.int 10]) dX8_rainsBy_31 lk8_223 kX8_ran nX8_ran (by omega) (Nat.le_of_ble_eq_true rfl) at_MO_0 rfl rfl rfl (fun _ e l => c_X8_ran  e l V) ?_
    intro M1
    refine jv_iloadn (j := 2) dX8_rainsBy_34 rfl ?_
    refine jv_aloadn (j := 0) dX8_rainsBy_35 rfl ?_
    refine hv_getI dX8_rainsBy_36 fl8_226 at_MO_0 rfl ?_
    refine jv_iadd dX8_rainsBy_39 ?_
    exact vf_ret dX8_rainsBy_40 rfl
  refine vf_case (fun c1_1 => ?_) (fun c1_1 => ?_)
  · refine jv_lin (v := 2) (tgt := 41) dX8_rainsBy_1 c1_1 (by decide) rfl rfl ?_
    refine jv_aloadn (j := 0) dX8_rainsBy_41 rfl ?_
    refine jv_bipush (v := 30) dX8_rainsBy_42 (by decide) ?_
    refine hv_callV (As := [.int 30]) dX8_rainsBy_44 lk8_223 kX8_ran nX8_ran (by omega) (Nat.le_of_ble_eq_true rfl) at_MO_0 rfl rfl rfl (fun _ e l => c_X8_ran  e l V) ?_
    intro M2
    refine jv_aloadn (j := 0) dX8_rainsBy_47 rfl ?_
    refine jv_iconst (v := 2) dX8_rainsBy_48 (by decide) ?_
    refine hv_callS (As := [.int 2]) dX8_rainsBy_49 lk8_168 kX8_above nX8_above (by omega) (Nat.le_of_ble_eq_true rfl) rfl (fun _ _ e l => c_X8_above  e l V) ?_
    intro r4 M3
    refine jv_iloadn (j := 2) dX8_rainsBy_52 rfl ?_
    refine hv_callI (As := [.int r4, .int x2]) dX8_rainsBy_53 lk8_229 kX8_rainsBy nX8_rainsBy (by omega) (Nat.le_of_ble_eq_true rfl) at_MO_0 rfl rfl rfl (fun _ _ e l => hr  _ _ _ _ _ e l V) ?_
    intro r6 M5
    refine jv_iconst (v := 3) dX8_rainsBy_56 (by decide) ?_
    refine jv_imul dX8_rainsBy_57 ?_
    exact vf_ret dX8_rainsBy_58 rfl
  refine jw_lout (tgt := 59) [0, 2] dX8_rainsBy_1 rfl rfl rfl (pm_n1 c1_0 (pm_n1 c1_1 pm_n0)) ?_
  refine jv_aloadn (j := 0) dX8_rainsBy_59 rfl ?_
  refine jv_iloadn (j := 1) dX8_rainsBy_60 rfl ?_
  refine hv_callS (As := [.int x1]) dX8_rainsBy_61 lk8_168 kX8_above nX8_above (by omega) (Nat.le_of_ble_eq_true rfl) rfl (fun _ _ e l => c_X8_above  e l V) ?_
  intro r8 M7
  refine jv_iloadn (j := 2) dX8_rainsBy_64 rfl ?_
  refine hv_callI (As := [.int r8, .int x2]) dX8_rainsBy_65 lk8_229 kX8_rainsBy nX8_rainsBy (by omega) (Nat.le_of_ble_eq_true rfl) at_MO_0 rfl rfl rfl (fun _ _ e l => hr  _ _ _ _ _ e l V) ?_
  intro r10 M9
  exact vf_ret dX8_rainsBy_68 rfl
set_option maxHeartbeats 4000000 in
set_option maxRecDepth 100000 in
theorem cG_X8_rainsBy : ∀ n, GP_X8_rainsBy n (fG_X8_rainsBy n)
  | 0 => (fun _ _ _ _ _ h => by cases h)
  | n + 1 => by
    have ih := cG_X8_rainsBy n
    exact (fun M x1 x2 x M' h l V => pm_metI (by decide) rfl (Nat.le_of_ble_eq_true rfl) h (fun _ => w_X8_rainsBy ih M x1 x2 ))
def f_X8_rainsBy : pm_M → Int32 → Int32 → Option (Int32 × pm_M) := (fG_X8_rainsBy pm_D)
theorem c_X8_rainsBy {M : pm_M} {x1 : Int32} {x2 : Int32}  {x : Int32} {M' : pm_M} (h : f_X8_rainsBy M x1 x2 = some (x, M')) (l : Launch) (V : pm_V) : pm_Ci l V skD yX8_rainsBy mX8_rainsBy 102 [.ref (V.1 0), .int x1, .int x2] M x M' := (cG_X8_rainsBy pm_D) _ _ _ _ _ h l V
abbrev GT_X8_wearsBy : Type := (pm_M → Int32 → Int32 → Option (Int32 × pm_M))
def rb_X8_wearsBy (r : GT_X8_wearsBy) : pm_M → Int32 → Int32 → Option (Int32 × pm_M) := fun M x1 x2 =>
  (if x1.toInt < 0 ∨ 4 < x1.toInt then (pm_b2 (f_X8_above M x1) (fun (r2 : Int32) (M1 : pm_M) => (pm_b2 (r M1 r2 x2) (fun (r4 : Int32) (M3 : pm_M) => (some (r4, M3)))))) else if x1 = 0 then (pm_b1 (f_X8_ran M 12) (fun M5 : pm_M => (pm_b2 (f_X8_of M5 (M5 0 15) 1) (fun (r7 : Int32) (M6 : pm_M) => (some ((x2 - r7), M6)))))) else if x1 = 1 then (pm_b1 (f_X8_ran M 20) (fun M8 : pm_M => (pm_b2 (f_X8_above M8 1) (fun (r10 : Int32) (M9 : pm_M) => (pm_b2 (r M9 r10 x2) (fun (r12 : Int32) (M11 : pm_M) => (some ((-r12), M11)))))))) else if x1 = 2 then (pm_b2 (f_X8_above M x1) (fun (r14 : Int32) (M13 : pm_M) => (pm_b2 (r M13 r14 x2) (fun (r16 : Int32) (M15 : pm_M) => (some (r16, M15)))))) else if x1 = 3 then (pm_b2 (f_X8_above M x1) (fun (r18 : Int32) (M17 : pm_M) => (pm_b2 (r M17 r18 x2) (fun (r20 : Int32) (M19 : pm_M) => (some (r20, M19)))))) else if x1 = 4 then (pm_b1 (f_X8_ran M 50) (fun M21 : pm_M => (pm_b2 (f_X8_above M21 4) (fun (r23 : Int32) (M22 : pm_M) => (pm_b2 (r M22 r23 x2) (fun (r25 : Int32) (M24 : pm_M) => (some ((r25 ^^^ (M24 0 15)), M24)))))))) else none)
def fG_X8_wearsBy : Nat → GT_X8_wearsBy := pm_it (fun _ _ _ => none) (fun r => rb_X8_wearsBy r)
def GP_X8_wearsBy (n : Nat) (r : GT_X8_wearsBy) : Prop := (∀ (M : pm_M) (x1 : Int32) (x2 : Int32) (x : Int32) (M' : pm_M), r M x1 x2 = some (x, M') → ∀ (l : Launch) (V : pm_V), pm_Ci l V skD yX8_wearsBy mX8_wearsBy (2 + n) [.ref (V.1 0), .int x1, .int x2] M x M')
set_option maxHeartbeats 4000000 in
set_option maxRecDepth 100000 in
theorem w_X8_wearsBy {X : pm_X} {V : pm_V} {n : Nat} {r : GT_X8_wearsBy} (hr : GP_X8_wearsBy n r) (M : pm_M) (x1 : Int32) (x2 : Int32)  : pm_VF (rb_X8_wearsBy r M x1 x2) (pm_K X V mX8_wearsBy (2 + (n + 1)) skD) (pm_J X V mX8_wearsBy (2 + (n + 1)) (pm_wld V skD M) 0 [(0, .ref (V.1 0)), (1, .int x1), (2, .int x2)] []) := by
  unfold rb_X8_wearsBy
  refine jv_iloadn (j := 1) dX8_wearsBy_0 rfl ?_
  refine vf_case (fun c1 => ?_) (fun _ => ?_)
  · refine jv_tout (tgt := 92) dX8_wearsBy_1 c1 rfl ?_
    refine jv_aloadn (j := 0) dX8_wearsBy_92 rfl ?_
    refine jv_iloadn (j := 1) dX8_wearsBy_93 rfl ?_
    refine hv_callS (As := [.int x1]) dX8_wearsBy_94 lk8_168 kX8_above nX8_above (by omega) (Nat.le_of_ble_eq_true rfl) rfl (fun _ _ e l => c_X8_above  e l V) ?_
    intro r2 M1
    refine jv_iloadn (j := 2) dX8_wearsBy_97 rfl ?_
    refine hv_callI (As := [.int r2, .int x2]) dX8_wearsBy_98 lk8_235 kX8_wearsBy nX8_wearsBy (by omega) (Nat.le_of_ble_eq_true rfl) at_MO_0 rfl rfl rfl (fun _ _ e l => hr  _ _ _ _ _ e l V) ?_
    intro r4 M3
    exact vf_ret dX8_wearsBy_101 rfl
  refine vf_case (fun c1 => ?_) (fun _ => ?_)
  · refine jv_tin (v := 0) (tgt := 36) dX8_wearsBy_1 c1 (by decide) (by decide) rfl rfl ?_
    refine jv_aloadn (j := 0) dX8_wearsBy_36 rfl ?_
    refine jv_bipush (v := 12) dX8_wearsBy_37 (by decide) ?_
    refine hv_callV (As := [.int 12]) dX8_wearsBy_39 lk8_223 kX8_ran nX8_ran (by omega) (Nat.le_of_ble_eq_true rfl) at_MO_0 rfl rfl rfl (fun _ e l => c_X8_ran  e l V) ?_
    intro M5
    refine jv_iloadn (j := 2) dX8_wearsBy_42 rfl ?_
    refine jv_aloadn (j := 0) dX8_wearsBy_43 rfl ?_
    refine jv_aloadn (j := 0) dX8_wearsBy_44 rfl ?_
    refine hv_getI dX8_wearsBy_45 fl8_226 at_MO_0 rfl ?_
    refine jv_iconst (v := 1) dX8_wearsBy_48 (by decide) ?_
    refine hv_callI (As := [.int (M5 0 15), .int 1]) dX8_wearsBy_49 lk8_130 kX8_of nX8_of (by omega) (Nat.le_of_ble_eq_true rfl) at_MO_0 rfl rfl rfl (fun _ _ e l => c_X8_of  e l V) ?_
    intro r7 M6
    refine jv_isub dX8_wearsBy_52 ?_
    exact vf_ret dX8_wearsBy_53 rfl
  refine vf_case (fun c1 => ?_) (fun _ => ?_)
  · refine jv_tin (v := 1) (tgt := 54) dX8_wearsBy_1 c1 (by decide) (by decide) rfl rfl ?_
    refine jv_aloadn (j := 0) dX8_wearsBy_54 rfl ?_
    refine jv_bipush (v := 20) dX8_wearsBy_55 (by decide) ?_
    refine hv_callV (As := [.int 20]) dX8_wearsBy_57 lk8_223 kX8_ran nX8_ran (by omega) (Nat.le_of_ble_eq_true rfl) at_MO_0 rfl rfl rfl (fun _ e l => c_X8_ran  e l V) ?_
    intro M8
    refine jv_aloadn (j := 0) dX8_wearsBy_60 rfl ?_
    refine jv_iconst (v := 1) dX8_wearsBy_61 (by decide) ?_
    refine hv_callS (As := [.int 1]) dX8_wearsBy_62 lk8_168 kX8_above nX8_above (by omega) (Nat.le_of_ble_eq_true rfl) rfl (fun _ _ e l => c_X8_above  e l V) ?_
    intro r10 M9
    refine jv_iloadn (j := 2) dX8_wearsBy_65 rfl ?_
    refine hv_callI (As := [.int r10, .int x2]) dX8_wearsBy_66 lk8_235 kX8_wearsBy nX8_wearsBy (by omega) (Nat.le_of_ble_eq_true rfl) at_MO_0 rfl rfl rfl (fun _ _ e l => hr  _ _ _ _ _ e l V) ?_
    intro r12 M11
    refine jv_ineg dX8_wearsBy_69 ?_
    exact vf_ret dX8_wearsBy_70 rfl
  refine vf_case (fun c1 => ?_) (fun _ => ?_)
  · refine jv_tin (v := 2) (tgt := 92) dX8_wearsBy_1 c1 (by decide) (by decide) rfl rfl ?_
    refine jv_aloadn (j := 0) dX8_wearsBy_92 rfl ?_
    refine jv_iloadn (j := 1) dX8_wearsBy_93 rfl ?_
    refine hv_callS (As := [.int x1]) dX8_wearsBy_94 lk8_168 kX8_above nX8_above (by omega) (Nat.le_of_ble_eq_true rfl) rfl (fun _ _ e l => c_X8_above  e l V) ?_
    intro r14 M13
    refine jv_iloadn (j := 2) dX8_wearsBy_97 rfl ?_
    refine hv_callI (As := [.int r14, .int x2]) dX8_wearsBy_98 lk8_235 kX8_wearsBy nX8_wearsBy (by omega) (Nat.le_of_ble_eq_true rfl) at_MO_0 rfl rfl rfl (fun _ _ e l => hr  _ _ _ _ _ e l V) ?_
    intro r16 M15
    exact vf_ret dX8_wearsBy_101 rfl
  refine vf_case (fun c1 => ?_) (fun _ => ?_)
  · refine jv_tin (v := 3) (tgt := 92) dX8_wearsBy_1 c1 (by decide) (by decide) rfl rfl ?_
    refine jv_aloadn (j := 0) dX8_wearsBy_92 rfl ?_
    refine jv_iloadn (j := 1) dX8_wearsBy_93 rfl ?_
    refine hv_callS (As := [.int x1]) dX8_wearsBy_94 lk8_168 kX8_above nX8_above (by omega) (Nat.le_of_ble_eq_true rfl) rfl (fun _ _ e l => c_X8_above  e l V) ?_
    intro r18 M17
    refine jv_iloadn (j := 2) dX8_wearsBy_97 rfl ?_
    refine hv_callI (As := [.int r18, .int x2]) dX8_wearsBy_98 lk8_235 kX8_wearsBy nX8_wearsBy (by omega) (Nat.le_of_ble_eq_true rfl) at_MO_0 rfl rfl rfl (fun _ _ e l => hr  _ _ _ _ _ e l V) ?_
    intro r20 M19
    exact vf_ret dX8_wearsBy_101 rfl
  refine vf_case (fun c1 => ?_) (fun _ => ?_)
  · refine jv_tin (v := 4) (tgt := 71) dX8_wearsBy_1 c1 (by decide) (by decide) rfl rfl ?_
    refine jv_aloadn (j := 0) dX8_wearsBy_71 rfl ?_
    refine jv_bipush (v := 50) dX8_wearsBy_72 (by decide) ?_
    refine hv_callV (As := [.int 50]) dX8_wearsBy_74 lk8_223 kX8_ran nX8_ran (by omega) (Nat.le_of_ble_eq_true rfl) at_MO_0 rfl rfl rfl (fun _ e l => c_X8_ran  e l V) ?_
    intro M21
    refine jv_aloadn (j := 0) dX8_wearsBy_77 rfl ?_
    refine jv_iconst (v := 4) dX8_wearsBy_78 (by decide) ?_
    refine hv_callS (As := [.int 4]) dX8_wearsBy_79 lk8_168 kX8_above nX8_above (by omega) (Nat.le_of_ble_eq_true rfl) rfl (fun _ _ e l => c_X8_above  e l V) ?_
    intro r23 M22
    refine jv_iloadn (j := 2) dX8_wearsBy_82 rfl ?_
    refine hv_callI (As := [.int r23, .int x2]) dX8_wearsBy_83 lk8_235 kX8_wearsBy nX8_wearsBy (by omega) (Nat.le_of_ble_eq_true rfl) at_MO_0 rfl rfl rfl (fun _ _ e l => hr  _ _ _ _ _ e l V) ?_
    intro r25 M24
    refine jv_aloadn (j := 0) dX8_wearsBy_86 rfl ?_
    refine hv_getI dX8_wearsBy_87 fl8_226 at_MO_0 rfl ?_
    refine jv_ixor dX8_wearsBy_90 ?_
    exact vf_ret dX8_wearsBy_91 rfl
  exact vf_none
set_option maxHeartbeats 4000000 in
set_option maxRecDepth 100000 in
theorem cG_X8_wearsBy : ∀ n, GP_X8_wearsBy n (fG_X8_wearsBy n)
  | 0 => (fun _ _ _ _ _ h => by cases h)
  | n + 1 => by
    have ih := cG_X8_wearsBy n
    exact (fun M x1 x2 x M' h l V => pm_metI (by decide) rfl (Nat.le_of_ble_eq_true rfl) h (fun _ => w_X8_wearsBy ih M x1 x2 ))
def f_X8_wearsBy : pm_M → Int32 → Int32 → Option (Int32 × pm_M) := (fG_X8_wearsBy pm_D)
theorem c_X8_wearsBy {M : pm_M} {x1 : Int32} {x2 : Int32}  {x : Int32} {M' : pm_M} (h : f_X8_wearsBy M x1 x2 = some (x, M')) (l : Launch) (V : pm_V) : pm_Ci l V skD yX8_wearsBy mX8_wearsBy 102 [.ref (V.1 0), .int x1, .int x2] M x M' := (cG_X8_wearsBy pm_D) _ _ _ _ _ h l V
abbrev GT_X8_driftsBy : Type := (pm_M → Int32 → Int32 → Option (Int32 × pm_M))
def rb_X8_driftsBy (r : GT_X8_driftsBy) : pm_M → Int32 → Int32 → Option (Int32 × pm_M) := fun M x1 x2 =>
  (if x1 = 0 then (pm_b1 (f_X8_ran M 11) (fun M1 : pm_M => (pm_b2 (f_X8_of M1 (M1 0 15) 0) (fun (r3 : Int32) (M2 : pm_M) => (pm_b2 (f_X8_rainsBy M2 r3 x2) (fun (r5 : Int32) (M4 : pm_M) => (some ((r5 * 2), M4)))))))) else if x1 = 3 then (pm_b1 (f_X8_ran M 40) (fun M6 : pm_M => (pm_b2 (f_X8_above M6 3) (fun (r8 : Int32) (M7 : pm_M) => (pm_b2 (r M7 r8 x2) (fun (r10 : Int32) (M9 : pm_M) => (pm_b2 (f_X8_of M9 (M9 0 15) 0) (fun (r12 : Int32) (M11 : pm_M) => (pm_b2 (f_X8_wearsBy M11 r12 1) (fun (r14 : Int32) (M13 : pm_M) => (some ((r10 - r14), M13)))))))))))) else if x1 = 6 then (pm_b1 (f_X8_ran M 70) (fun M15 : pm_M => (pm_b2 (f_X8_above M15 6) (fun (r17 : Int32) (M16 : pm_M) => (pm_b2 (r M16 r17 (x2 + 1)) (fun (r19 : Int32) (M18 : pm_M) => (some (r19, M18)))))))) else (pm_b2 (f_X8_above M x1) (fun (r21 : Int32) (M20 : pm_M) => (pm_b2 (r M20 r21 x2) (fun (r23 : Int32) (M22 : pm_M) => (some (r23, M22)))))))
def fG_X8_driftsBy : Nat → GT_X8_driftsBy := pm_it (fun _ _ _ => none) (fun r => rb_X8_driftsBy r)
def GP_X8_driftsBy (n : Nat) (r : GT_X8_driftsBy) : Prop := (∀ (M : pm_M) (x1 : Int32) (x2 : Int32) (x : Int32) (M' : pm_M), r M x1 x2 = some (x, M') → ∀ (l : Launch) (V : pm_V), pm_Ci l V skD yX8_driftsBy mX8_driftsBy (103 + n) [.ref (V.1 0), .int x1, .int x2] M x M')
set_option maxHeartbeats 4000000 in
set_option maxRecDepth 100000 in
theorem w_X8_driftsBy {X : pm_X} {V : pm_V} {n : Nat} {r : GT_X8_driftsBy} (hr : GP_X8_driftsBy n r) (M : pm_M) (x1 : Int32) (x2 : Int32)  : pm_VF (rb_X8_driftsBy r M x1 x2) (pm_K X V mX8_driftsBy (103 + (n + 1)) skD) (pm_J X V mX8_driftsBy (103 + (n + 1)) (pm_wld V skD M) 0 [(0, .ref (V.1 0)), (1, .int x1), (2, .int x2)] []) := by
  unfold rb_X8_driftsBy
  refine jv_iloadn (j := 1) dX8_driftsBy_0 rfl ?_
  refine vf_case (fun c1_0 => ?_) (fun c1_0 => ?_)
  · refine jv_lin (v := 0) (tgt := 36) dX8_driftsBy_1 c1_0 (by decide) rfl rfl ?_
    refine jv_aloadn (j := 0) dX8_driftsBy_36 rfl ?_
    refine jv_bipush (v := 11) dX8_driftsBy_37 (by decide) ?_
    refine hv_callV (As := [.int 11]) dX8_driftsBy_39 lk8_223 kX8_ran nX8_ran (by omega) (Nat.le_of_ble_eq_true rfl) at_MO_0 rfl rfl rfl (fun _ e l => c_X8_ran  e l V) ?_
    intro M1
    refine jv_aloadn (j := 0) dX8_driftsBy_42 rfl ?_
    refine jv_aloadn (j := 0) dX8_driftsBy_43 rfl ?_
    refine jv_aloadn (j := 0) dX8_driftsBy_44 rfl ?_
    refine hv_getI dX8_driftsBy_45 fl8_226 at_MO_0 rfl ?_
    refine jv_iconst (v := 0) dX8_driftsBy_48 (by decide) ?_
    refine hv_callI (As := [.int (M1 0 15), .int 0]) dX8_driftsBy_49 lk8_130 kX8_of nX8_of (by omega) (Nat.le_of_ble_eq_true rfl) at_MO_0 rfl rfl rfl (fun _ _ e l => c_X8_of  e l V) ?_
    intro r3 M2
    refine jv_iloadn (j := 2) dX8_driftsBy_52 rfl ?_
    refine hv_callI (As := [.int r3, .int x2]) dX8_driftsBy_53 lk8_229 kX8_rainsBy nX8_rainsBy (by omega) (Nat.le_of_ble_eq_true rfl) at_MO_0 rfl rfl rfl (fun _ _ e l => c_X8_rainsBy  e l V) ?_
    intro r5 M4
    refine jv_iconst (v := 2) dX8_driftsBy_56 (by decide) ?_
    refine jv_imul dX8_driftsBy_57 ?_
    exact vf_ret dX8_driftsBy_58 rfl
  refine vf_case (fun c1_1 => ?_) (fun c1_1 => ?_)
  · refine jv_lin (v := 3) (tgt := 59) dX8_driftsBy_1 c1_1 (by decide) rfl rfl ?_
    refine jv_aloadn (j := 0) dX8_driftsBy_59 rfl ?_
    refine jv_bipush (v := 40) dX8_driftsBy_60 (by decide) ?_
    refine hv_callV (As := [.int 40]) dX8_driftsBy_62 lk8_223 kX8_ran nX8_ran (by omega) (Nat.le_of_ble_eq_true rfl) at_MO_0 rfl rfl rfl (fun _ e l => c_X8_ran  e l V) ?_
    intro M6
    refine jv_aloadn (j := 0) dX8_driftsBy_65 rfl ?_
    refine jv_iconst (v := 3) dX8_driftsBy_66 (by decide) ?_
    refine hv_callS (As := [.int 3]) dX8_driftsBy_67 lk8_168 kX8_above nX8_above (by omega) (Nat.le_of_ble_eq_true rfl) rfl (fun _ _ e l => c_X8_above  e l V) ?_
    intro r8 M7
    refine jv_iloadn (j := 2) dX8_driftsBy_70 rfl ?_
    refine hv_callI (As := [.int r8, .int x2]) dX8_driftsBy_71 lk8_232 kX8_driftsBy nX8_driftsBy (by omega) (Nat.le_of_ble_eq_true rfl) at_MO_0 rfl rfl rfl (fun _ _ e l => hr  _ _ _ _ _ e l V) ?_
    intro r10 M9
    refine jv_istoren (L' := [(3, .int r10), (0, .ref (V.1 0)), (1, .int x1), (2, .int x2)]) dX8_driftsBy_74 (Nat.le_of_ble_eq_true rfl) rfl ?_
    refine jv_iloadn (j := 0) dX8_driftsBy_75 rfl ?_
    refine jv_aloadn (j := 1) dX8_driftsBy_76 rfl ?_
    refine jv_aloadn (j := 1) dX8_driftsBy_77 rfl ?_
    refine jv_aloadn (j := 1) dX8_driftsBy_78 rfl ?_
    refine hv_getI dX8_driftsBy_79 fl8_226 at_MO_0 rfl ?_
    refine jv_iconst (v := 0) dX8_driftsBy_82 (by decide) ?_
    refine hv_callI (As := [.int (M9 0 15), .int 0]) dX8_driftsBy_83 lk8_130 kX8_of nX8_of (by omega) (Nat.le_of_ble_eq_true rfl) at_MO_0 rfl rfl rfl (fun _ _ e l => c_X8_of  e l V) ?_
    intro r12 M11
    refine jv_iconst (v := 1) dX8_driftsBy_86 (by decide) ?_
    refine hv_callI (As := [.int r12, .int 1]) dX8_driftsBy_87 lk8_235 kX8_wearsBy nX8_wearsBy (by omega) (Nat.le_of_ble_eq_true rfl) at_MO_0 rfl rfl rfl (fun _ _ e l => c_X8_wearsBy  e l V) ?_
    intro r14 M13
    refine jv_isub dX8_driftsBy_90 ?_
    exact vf_ret dX8_driftsBy_91 rfl
  refine vf_case (fun c1_2 => ?_) (fun c1_2 => ?_)
  · refine jv_lin (v := 6) (tgt := 92) dX8_driftsBy_1 c1_2 (by decide) rfl rfl ?_
    refine jv_aloadn (j := 0) dX8_driftsBy_92 rfl ?_
    refine jv_bipush (v := 70) dX8_driftsBy_93 (by decide) ?_
    refine hv_callV (As := [.int 70]) dX8_driftsBy_95 lk8_223 kX8_ran nX8_ran (by omega) (Nat.le_of_ble_eq_true rfl) at_MO_0 rfl rfl rfl (fun _ e l => c_X8_ran  e l V) ?_
    intro M15
    refine jv_aloadn (j := 0) dX8_driftsBy_98 rfl ?_
    refine jv_bipush (v := 6) dX8_driftsBy_99 (by decide) ?_
    refine hv_callS (As := [.int 6]) dX8_driftsBy_101 lk8_168 kX8_above nX8_above (by omega) (Nat.le_of_ble_eq_true rfl) rfl (fun _ _ e l => c_X8_above  e l V) ?_
    intro r17 M16
    refine jv_iloadn (j := 2) dX8_driftsBy_104 rfl ?_
    refine jv_iconst (v := 1) dX8_driftsBy_105 (by decide) ?_
    refine jv_iadd dX8_driftsBy_106 ?_
    refine hv_callI (As := [.int r17, .int (x2 + 1)]) dX8_driftsBy_107 lk8_232 kX8_driftsBy nX8_driftsBy (by omega) (Nat.le_of_ble_eq_true rfl) at_MO_0 rfl rfl rfl (fun _ _ e l => hr  _ _ _ _ _ e l V) ?_
    intro r19 M18
    exact vf_ret dX8_driftsBy_110 rfl
  refine jw_lout (tgt := 111) [0, 3, 6] dX8_driftsBy_1 rfl rfl rfl (pm_n1 c1_0 (pm_n1 c1_1 (pm_n1 c1_2 pm_n0))) ?_
  refine jv_aloadn (j := 0) dX8_driftsBy_111 rfl ?_
  refine jv_iloadn (j := 1) dX8_driftsBy_112 rfl ?_
  refine hv_callS (As := [.int x1]) dX8_driftsBy_113 lk8_168 kX8_above nX8_above (by omega) (Nat.le_of_ble_eq_true rfl) rfl (fun _ _ e l => c_X8_above  e l V) ?_
  intro r21 M20
  refine jv_iloadn (j := 2) dX8_driftsBy_116 rfl ?_
  refine hv_callI (As := [.int r21, .int x2]) dX8_driftsBy_117 lk8_232 kX8_driftsBy nX8_driftsBy (by omega) (Nat.le_of_ble_eq_true rfl) at_MO_0 rfl rfl rfl (fun _ _ e l => hr  _ _ _ _ _ e l V) ?_
  intro r23 M22
  exact vf_ret dX8_driftsBy_120 rfl
set_option maxHeartbeats 4000000 in
set_option maxRecDepth 100000 in
theorem cG_X8_driftsBy : ∀ n, GP_X8_driftsBy n (fG_X8_driftsBy n)
  | 0 => (fun _ _ _ _ _ h => by cases h)
  | n + 1 => by
    have ih := cG_X8_driftsBy n
    exact (fun M x1 x2 x M' h l V => pm_metI (by decide) rfl (Nat.le_of_ble_eq_true rfl) h (fun _ => w_X8_driftsBy ih M x1 x2 ))
def f_X8_driftsBy : pm_M → Int32 → Int32 → Option (Int32 × pm_M) := (fG_X8_driftsBy pm_D)
theorem c_X8_driftsBy {M : pm_M} {x1 : Int32} {x2 : Int32}  {x : Int32} {M' : pm_M} (h : f_X8_driftsBy M x1 x2 = some (x, M')) (l : Launch) (V : pm_V) : pm_Ci l V skD yX8_driftsBy mX8_driftsBy 203 [.ref (V.1 0), .int x1, .int x2] M x M' := (cG_X8_driftsBy pm_D) _ _ _ _ _ h l V
abbrev GT_X8_tellsBy : Type := (pm_M → Int32 → Int32 → Option (Int32 × pm_M))
def rb_X8_tellsBy (r : GT_X8_tellsBy) : pm_M → Int32 → Int32 → Option (Int32 × pm_M) := fun M x1 x2 =>
  (if x1 = 0 then (pm_b1 (f_X8_ran M 13) (fun M1 : pm_M => (pm_b2 (f_X8_of M1 (M1 0 15) 0) (fun (r3 : Int32) (M2 : pm_M) => (pm_b2 (f_X8_driftsBy M2 r3 x2) (fun (r5 : Int32) (M4 : pm_M) => (pm_b2 (f_X8_of M4 (M4 0 15) 0) (fun (r7 : Int32) (M6 : pm_M) => (pm_b2 (f_X8_wearsBy M6 r7 x2) (fun (r9 : Int32) (M8 : pm_M) => (some ((r5 ^^^ r9), M8)))))))))))) else if x1 = 4 then (pm_b1 (f_X8_ran M 51) (fun M10 : pm_M => (pm_b2 (f_X8_of M10 (M10 0 15) 0) (fun (r12 : Int32) (M11 : pm_M) => (pm_b2 (f_X8_driftsBy M11 r12 x2) (fun (r14 : Int32) (M13 : pm_M) => (pm_b2 (f_X8_above M13 4) (fun (r16 : Int32) (M15 : pm_M) => (pm_b2 (r M15 r16 x2) (fun (r18 : Int32) (M17 : pm_M) => (some ((r14 - r18), M17)))))))))))) else if x1 = 5 then (pm_b1 (f_X8_ran M 60) (fun M19 : pm_M => (pm_b2 (f_X8_above M19 5) (fun (r21 : Int32) (M20 : pm_M) => (pm_b2 (r M20 r21 x2) (fun (r23 : Int32) (M22 : pm_M) => (pm_b2 (f_X8_of M22 (M22 0 15) 0) (fun (r25 : Int32) (M24 : pm_M) => (pm_b2 (f_X8_rainsBy M24 r25 2) (fun (r27 : Int32) (M26 : pm_M) => (some ((r23 - r27), M26)))))))))))) else (pm_b2 (f_X8_above M x1) (fun (r29 : Int32) (M28 : pm_M) => (pm_b2 (r M28 r29 x2) (fun (r31 : Int32) (M30 : pm_M) => (some (r31, M30)))))))
def fG_X8_tellsBy : Nat → GT_X8_tellsBy := pm_it (fun _ _ _ => none) (fun r => rb_X8_tellsBy r)
def GP_X8_tellsBy (n : Nat) (r : GT_X8_tellsBy) : Prop := (∀ (M : pm_M) (x1 : Int32) (x2 : Int32) (x : Int32) (M' : pm_M), r M x1 x2 = some (x, M') → ∀ (l : Launch) (V : pm_V), pm_Ci l V skD yX8_tellsBy mX8_tellsBy (204 + n) [.ref (V.1 0), .int x1, .int x2] M x M')
set_option maxHeartbeats 4000000 in
set_option maxRecDepth 100000 in
theorem w_X8_tellsBy {X : pm_X} {V : pm_V} {n : Nat} {r : GT_X8_tellsBy} (hr : GP_X8_tellsBy n r) (M : pm_M) (x1 : Int32) (x2 : Int32)  : pm_VF (rb_X8_tellsBy r M x1 x2) (pm_K X V mX8_tellsBy (204 + (n + 1)) skD) (pm_J X V mX8_tellsBy (204 + (n + 1)) (pm_wld V skD M) 0 [(0, .ref (V.1 0)), (1, .int x1), (2, .int x2)] []) := by
  unfold rb_X8_tellsBy
  refine jv_iconst (v := 0) dX8_tellsBy_0 (by decide) ?_
  refine jv_istoren (L' := [(3, .int 0), (0, .ref (V.1 0)), (1, .int x1), (2, .int x2)]) dX8_tellsBy_1 (Nat.le_of_ble_eq_true rfl) rfl ?_
  refine jv_iloadn (j := 2) dX8_tellsBy_2 rfl ?_
  refine vf_case (fun c3_0 => ?_) (fun c3_0 => ?_)
  · refine jv_lin (v := 0) (tgt := 36) dX8_tellsBy_3 c3_0 (by decide) rfl rfl ?_
    refine jv_aloadn (j := 1) dX8_tellsBy_36 rfl ?_
    refine jv_bipush (v := 13) dX8_tellsBy_37 (by decide) ?_
    refine hv_callV (As := [.int 13]) dX8_tellsBy_39 lk8_223 kX8_ran nX8_ran (by omega) (Nat.le_of_ble_eq_true rfl) at_MO_0 rfl rfl rfl (fun _ e l => c_X8_ran  e l V) ?_
    intro M1
    refine jv_aloadn (j := 1) dX8_tellsBy_42 rfl ?_
    refine jv_aloadn (j := 1) dX8_tellsBy_43 rfl ?_
    refine jv_aloadn (j := 1) dX8_tellsBy_44 rfl ?_
    refine hv_getI dX8_tellsBy_45 fl8_226 at_MO_0 rfl ?_
    refine jv_iconst (v := 0) dX8_tellsBy_48 (by decide) ?_
    refine hv_callI (As := [.int (M1 0 15), .int 0]) dX8_tellsBy_49 lk8_130 kX8_of nX8_of (by omega) (Nat.le_of_ble_eq_true rfl) at_MO_0 rfl rfl rfl (fun _ _ e l => c_X8_of  e l V) ?_
    intro r3 M2
    refine jv_iloadn (j := 3) dX8_tellsBy_52 rfl ?_
    refine hv_callI (As := [.int r3, .int x2]) dX8_tellsBy_53 lk8_232 kX8_driftsBy nX8_driftsBy (by omega) (Nat.le_of_ble_eq_true rfl) at_MO_0 rfl rfl rfl (fun _ _ e l => c_X8_driftsBy  e l V) ?_
    intro r5 M4
    refine jv_istoren (L' := [(3, .int r5), (0, .ref (V.1 0)), (1, .int x1), (2, .int x2)]) dX8_tellsBy_56 (Nat.le_of_ble_eq_true rfl) rfl ?_
    refine jv_iloadn (j := 0) dX8_tellsBy_57 rfl ?_
    refine jv_aloadn (j := 1) dX8_tellsBy_58 rfl ?_
    refine jv_aloadn (j := 1) dX8_tellsBy_59 rfl ?_
    refine jv_aloadn (j := 1) dX8_tellsBy_60 rfl ?_
    refine hv_getI dX8_tellsBy_61 fl8_226 at_MO_0 rfl ?_
    refine jv_iconst (v := 0) dX8_tellsBy_64 (by decide) ?_
    refine hv_callI (As := [.int (M4 0 15), .int 0]) dX8_tellsBy_65 lk8_130 kX8_of nX8_of (by omega) (Nat.le_of_ble_eq_true rfl) at_MO_0 rfl rfl rfl (fun _ _ e l => c_X8_of  e l V) ?_
    intro r7 M6
    refine jv_iloadn (j := 3) dX8_tellsBy_68 rfl ?_
    refine hv_callI (As := [.int r7, .int x2]) dX8_tellsBy_69 lk8_235 kX8_wearsBy nX8_wearsBy (by omega) (Nat.le_of_ble_eq_true rfl) at_MO_0 rfl rfl rfl (fun _ _ e l => c_X8_wearsBy  e l V) ?_
    intro r9 M8
    refine jv_ixor dX8_tellsBy_72 ?_
    exact vf_ret dX8_tellsBy_73 rfl
  refine vf_case (fun c3_1 => ?_) (fun c3_1 => ?_)
  · refine jv_lin (v := 4) (tgt := 74) dX8_tellsBy_3 c3_1 (by decide) rfl rfl ?_
    refine jv_aloadn (j := 1) dX8_tellsBy_74 rfl ?_
    refine jv_bipush (v := 51) dX8_tellsBy_75 (by decide) ?_
    refine hv_callV (As := [.int 51]) dX8_tellsBy_77 lk8_223 kX8_ran nX8_ran (by omega) (Nat.le_of_ble_eq_true rfl) at_MO_0 rfl rfl rfl (fun _ e l => c_X8_ran  e l V) ?_
    intro M10
    refine jv_aloadn (j := 1) dX8_tellsBy_80 rfl ?_
    refine jv_aloadn (j := 1) dX8_tellsBy_81 rfl ?_
    refine jv_aloadn (j := 1) dX8_tellsBy_82 rfl ?_
    refine hv_getI dX8_tellsBy_83 fl8_226 at_MO_0 rfl ?_
    refine jv_iconst (v := 0) dX8_tellsBy_86 (by decide) ?_
    refine hv_callI (As := [.int (M10 0 15), .int 0]) dX8_tellsBy_87 lk8_130 kX8_of nX8_of (by omega) (Nat.le_of_ble_eq_true rfl) at_MO_0 rfl rfl rfl (fun _ _ e l => c_X8_of  e l V) ?_
    intro r12 M11
    refine jv_iloadn (j := 3) dX8_tellsBy_90 rfl ?_
    refine hv_callI (As := [.int r12, .int x2]) dX8_tellsBy_91 lk8_232 kX8_driftsBy nX8_driftsBy (by omega) (Nat.le_of_ble_eq_true rfl) at_MO_0 rfl rfl rfl (fun _ _ e l => c_X8_driftsBy  e l V) ?_
    intro r14 M13
    refine jv_istoren (L' := [(3, .int r14), (0, .ref (V.1 0)), (1, .int x1), (2, .int x2)]) dX8_tellsBy_94 (Nat.le_of_ble_eq_true rfl) rfl ?_
    refine jv_iloadn (j := 0) dX8_tellsBy_95 rfl ?_
    refine jv_aloadn (j := 1) dX8_tellsBy_96 rfl ?_
    refine jv_iconst (v := 4) dX8_tellsBy_97 (by decide) ?_
    refine hv_callS (As := [.int 4]) dX8_tellsBy_98 lk8_168 kX8_above nX8_above (by omega) (Nat.le_of_ble_eq_true rfl) rfl (fun _ _ e l => c_X8_above  e l V) ?_
    intro r16 M15
    refine jv_iloadn (j := 3) dX8_tellsBy_101 rfl ?_
    refine hv_callI (As := [.int r16, .int x2]) dX8_tellsBy_102 lk8_238 kX8_tellsBy nX8_tellsBy (by omega) (Nat.le_of_ble_eq_true rfl) at_MO_0 rfl rfl rfl (fun _ _ e l => hr  _ _ _ _ _ e l V) ?_
    intro r18 M17
    refine jv_isub dX8_tellsBy_105 ?_
    exact vf_ret dX8_tellsBy_106 rfl
  refine vf_case (fun c3_2 => ?_) (fun c3_2 => ?_)
  · refine jv_lin (v := 5) (tgt := 107) dX8_tellsBy_3 c3_2 (by decide) rfl rfl ?_
    refine jv_aloadn (j := 1) dX8_tellsBy_107 rfl ?_
    refine jv_bipush (v := 60) dX8_tellsBy_108 (by decide) ?_
    refine hv_callV (As := [.int 60]) dX8_tellsBy_110 lk8_223 kX8_ran nX8_ran (by omega) (Nat.le_of_ble_eq_true rfl) at_MO_0 rfl rfl rfl (fun _ e l => c_X8_ran  e l V) ?_
    intro M19
    refine jv_aloadn (j := 1) dX8_tellsBy_113 rfl ?_
    refine jv_iconst (v := 5) dX8_tellsBy_114 (by decide) ?_
    refine hv_callS (As := [.int 5]) dX8_tellsBy_115 lk8_168 kX8_above nX8_above (by omega) (Nat.le_of_ble_eq_true rfl) rfl (fun _ _ e l => c_X8_above  e l V) ?_
    intro r21 M20
    refine jv_iloadn (j := 3) dX8_tellsBy_118 rfl ?_
    refine hv_callI (As := [.int r21, .int x2]) dX8_tellsBy_119 lk8_238 kX8_tellsBy nX8_tellsBy (by omega) (Nat.le_of_ble_eq_true rfl) at_MO_0 rfl rfl rfl (fun _ _ e l => hr  _ _ _ _ _ e l V) ?_
    intro r23 M22
    refine jv_istoren (L' := [(3, .int r23), (0, .ref (V.1 0)), (1, .int x1), (2, .int x2)]) dX8_tellsBy_122 (Nat.le_of_ble_eq_true rfl) rfl ?_
    refine jv_iloadn (j := 0) dX8_tellsBy_123 rfl ?_
    refine jv_aloadn (j := 1) dX8_tellsBy_124 rfl ?_
    refine jv_aloadn (j := 1) dX8_tellsBy_125 rfl ?_
    refine jv_aloadn (j := 1) dX8_tellsBy_126 rfl ?_
    refine hv_getI dX8_tellsBy_127 fl8_226 at_MO_0 rfl ?_
    refine jv_iconst (v := 0) dX8_tellsBy_130 (by decide) ?_
    refine hv_callI (As := [.int (M22 0 15), .int 0]) dX8_tellsBy_131 lk8_130 kX8_of nX8_of (by omega) (Nat.le_of_ble_eq_true rfl) at_MO_0 rfl rfl rfl (fun _ _ e l => c_X8_of  e l V) ?_
    intro r25 M24
    refine jv_iconst (v := 2) dX8_tellsBy_134 (by decide) ?_
    refine hv_callI (As := [.int r25, .int 2]) dX8_tellsBy_135 lk8_229 kX8_rainsBy nX8_rainsBy (by omega) (Nat.le_of_ble_eq_true rfl) at_MO_0 rfl rfl rfl (fun _ _ e l => c_X8_rainsBy  e l V) ?_
    intro r27 M26
    refine jv_isub dX8_tellsBy_138 ?_
    exact vf_ret dX8_tellsBy_139 rfl
  refine jw_lout (tgt := 140) [0, 4, 5] dX8_tellsBy_3 rfl rfl rfl (pm_n1 c3_0 (pm_n1 c3_1 (pm_n1 c3_2 pm_n0))) ?_
  refine jv_aloadn (j := 1) dX8_tellsBy_140 rfl ?_
  refine jv_iloadn (j := 2) dX8_tellsBy_141 rfl ?_
  refine hv_callS (As := [.int x1]) dX8_tellsBy_142 lk8_168 kX8_above nX8_above (by omega) (Nat.le_of_ble_eq_true rfl) rfl (fun _ _ e l => c_X8_above  e l V) ?_
  intro r29 M28
  refine jv_iloadn (j := 3) dX8_tellsBy_145 rfl ?_
  refine hv_callI (As := [.int r29, .int x2]) dX8_tellsBy_146 lk8_238 kX8_tellsBy nX8_tellsBy (by omega) (Nat.le_of_ble_eq_true rfl) at_MO_0 rfl rfl rfl (fun _ _ e l => hr  _ _ _ _ _ e l V) ?_
  intro r31 M30
  exact vf_ret dX8_tellsBy_149 rfl
set_option maxHeartbeats 4000000 in
set_option maxRecDepth 100000 in
theorem cG_X8_tellsBy : ∀ n, GP_X8_tellsBy n (fG_X8_tellsBy n)
  | 0 => (fun _ _ _ _ _ h => by cases h)
  | n + 1 => by
    have ih := cG_X8_tellsBy n
    exact (fun M x1 x2 x M' h l V => pm_metI (by decide) rfl (Nat.le_of_ble_eq_true rfl) h (fun _ => w_X8_tellsBy ih M x1 x2 ))
def f_X8_tellsBy : pm_M → Int32 → Int32 → Option (Int32 × pm_M) := (fG_X8_tellsBy pm_D)
theorem c_X8_tellsBy {M : pm_M} {x1 : Int32} {x2 : Int32}  {x : Int32} {M' : pm_M} (h : f_X8_tellsBy M x1 x2 = some (x, M')) (l : Launch) (V : pm_V) : pm_Ci l V skD yX8_tellsBy mX8_tellsBy 304 [.ref (V.1 0), .int x1, .int x2] M x M' := (cG_X8_tellsBy pm_D) _ _ _ _ _ h l V
def f_X8_voice (M : pm_M) (x1 : Int32) (x2 : Int32) (x3 : Int32) : Option (Int32 × pm_M) :=
  (pm_b2 (f_X8_isCloud M x1) (fun (r2 : Int32) (M1 : pm_M) => (if r2 = 0 then (pm_b2 (f_X8_finds M1 1) (fun (r4 : Int32) (M3 : pm_M) => (some (r4, M3)))) else (pm_b2 (f_X8_in M1 (x2.toInt64) 0 3) (fun (r6 : Int32) (M5 : pm_M) => (if r6 = 0 then (pm_b2 (f_X8_finds M5 1) (fun (r8 : Int32) (M7 : pm_M) => (some (r8, M7)))) else (pm_let (pm_up M5 0 15 x1) (fun M9 : pm_M => (pm_let (pm_up M9 0 14 0) (fun M10 : pm_M => (pm_b2 (f_X8_of M10 (M10 0 15) 0) (fun (r12 : Int32) (M11 : pm_M) => (if x2 = 0 then (pm_b2 (f_X8_rainsBy M11 r12 x3) (fun (r14 : Int32) (M13 : pm_M) => (some (r14, M13)))) else (if x2 = 1 then (pm_b2 (f_X8_driftsBy M11 r12 x3) (fun (r16 : Int32) (M15 : pm_M) => (some (r16, M15)))) else (if x2 = 2 then (pm_b2 (f_X8_wearsBy M11 r12 x3) (fun (r18 : Int32) (M17 : pm_M) => (some (r18, M17)))) else (pm_b2 (f_X8_tellsBy M11 r12 x3) (fun (r20 : Int32) (M19 : pm_M) => (some (r20, M19)))))))))))))))))))
set_option maxHeartbeats 4000000 in
set_option maxRecDepth 100000 in
theorem w_X8_voice {X : pm_X} {V : pm_V} (M : pm_M) (x1 : Int32) (x2 : Int32) (x3 : Int32)  : pm_VF (f_X8_voice M x1 x2 x3) (pm_K X V mX8_voice 305 skD) (pm_J X V mX8_voice 305 (pm_wld V skD M) 0 [(0, .ref (V.1 0)), (1, .int x1), (2, .int x2), (3, .int x3)] []) := by
  unfold f_X8_voice
  refine jv_aloadn (j := 0) dX8_voice_0 rfl ?_
  refine jv_iloadn (j := 1) dX8_voice_1 rfl ?_
  refine hv_callI (As := [.int x1]) dX8_voice_2 lk8_152 kX8_isCloud nX8_isCloud (Nat.le_of_ble_eq_true rfl) (Nat.le_of_ble_eq_true rfl) at_MO_0 rfl rfl rfl (fun _ _ e l => c_X8_isCloud  e l V) ?_
  intro r2 M1
  refine jw_if_eq (tgt := 20) dX8_voice_5 rfl (fun c5 => ?_) (fun c5 => ?_)
  · refine jv_aloadn (j := 0) dX8_voice_20 rfl ?_
    refine jv_iconst (v := 1) dX8_voice_21 (by decide) ?_
    refine hv_callI (As := [.int 1]) dX8_voice_22 lk8_107 kX8_finds nX8_finds (Nat.le_of_ble_eq_true rfl) (Nat.le_of_ble_eq_true rfl) at_MO_0 rfl rfl rfl (fun _ _ e l => c_X8_finds  e l V) ?_
    intro r4 M3
    exact vf_ret dX8_voice_25 rfl
  refine jv_iloadn (j := 2) dX8_voice_8 rfl ?_
  refine jv_i2l dX8_voice_9 ?_
  refine jv_lconst (v := 0) dX8_voice_10 (by decide) ?_
  refine jv_ldc2 dX8_voice_11 lk8_241 ?_
  refine hv_callS (As := [.long (x2.toInt64), .long 0, .long 3]) dX8_voice_14 lk8_44 kX8_in nX8_in (Nat.le_of_ble_eq_true rfl) (Nat.le_of_ble_eq_true rfl) rfl (fun _ _ e l => c_X8_in  e l V) ?_
  intro r6 M5
  refine jw_if_ne (tgt := 26) dX8_voice_17 rfl (fun c17 => ?_) (fun c17 => ?_)
  · refine jv_aloadn (j := 0) dX8_voice_20 rfl ?_
    refine jv_iconst (v := 1) dX8_voice_21 (by decide) ?_
    refine hv_callI (As := [.int 1]) dX8_voice_22 lk8_107 kX8_finds nX8_finds (Nat.le_of_ble_eq_true rfl) (Nat.le_of_ble_eq_true rfl) at_MO_0 rfl rfl rfl (fun _ _ e l => c_X8_finds  e l V) ?_
    intro r8 M7
    exact vf_ret dX8_voice_25 rfl
  refine jv_aloadn (j := 0) dX8_voice_26 rfl ?_
  refine jv_iloadn (j := 1) dX8_voice_27 rfl ?_
  refine hv_put dX8_voice_28 fp8_226 at_MO_0 rfl rfl rfl ?_
  refine vf_letM (fun M9 => ?_)
  refine jv_aloadn (j := 0) dX8_voice_31 rfl ?_
  refine jv_iconst (v := 0) dX8_voice_32 (by decide) ?_
  refine hv_put dX8_voice_33 fp8_220 at_MO_0 rfl rfl rfl ?_
  refine vf_letM (fun M10 => ?_)
  refine jv_aloadn (j := 0) dX8_voice_36 rfl ?_
  refine jv_aloadn (j := 0) dX8_voice_37 rfl ?_
  refine hv_getI dX8_voice_38 fl8_226 at_MO_0 rfl ?_
  refine jv_iconst (v := 0) dX8_voice_41 (by decide) ?_
  refine hv_callI (As := [.int (M10 0 15), .int 0]) dX8_voice_42 lk8_130 kX8_of nX8_of (Nat.le_of_ble_eq_true rfl) (Nat.le_of_ble_eq_true rfl) at_MO_0 rfl rfl rfl (fun _ _ e l => c_X8_of  e l V) ?_
  intro r12 M11
  refine jv_istore (L' := [(4, .int r12), (0, .ref (V.1 0)), (1, .int x1), (2, .int x2), (3, .int x3)]) dX8_voice_45 (Nat.le_of_ble_eq_true rfl) rfl ?_
  refine jv_iloadn (j := 3) dX8_voice_47 rfl ?_
  refine jw_if_ne (tgt := 61) dX8_voice_48 rfl (fun c48 => ?_) (fun c48 => ?_)
  · refine jv_aloadn (j := 1) dX8_voice_51 rfl ?_
    refine jv_iload (j := 0) dX8_voice_52 rfl ?_
    refine jv_iloadn (j := 4) dX8_voice_54 rfl ?_
    refine hv_callI (As := [.int r12, .int x3]) dX8_voice_55 lk8_229 kX8_rainsBy nX8_rainsBy (Nat.le_of_ble_eq_true rfl) (Nat.le_of_ble_eq_true rfl) at_MO_0 rfl rfl rfl (fun _ _ e l => c_X8_rainsBy  e l V) ?_
    intro r14 M13
    refine jv_goto (tgt := 98) dX8_voice_58 rfl ?_
    exact vf_ret dX8_voice_98 rfl
  refine jv_iloadn (j := 3) dX8_voice_61 rfl ?_
  refine jv_iconst (v := 1) dX8_voice_62 (by decide) ?_
  refine jw_ic_ne (tgt := 76) dX8_voice_63 rfl (fun c63 => ?_) (fun c63 => ?_)
  · refine jv_aloadn (j := 1) dX8_voice_66 rfl ?_
    refine jv_iload (j := 0) dX8_voice_67 rfl ?_
    refine jv_iloadn (j := 4) dX8_voice_69 rfl ?_
    refine hv_callI (As := [.int r12, .int x3]) dX8_voice_70 lk8_232 kX8_driftsBy nX8_driftsBy (Nat.le_of_ble_eq_true rfl) (Nat.le_of_ble_eq_true rfl) at_MO_0 rfl rfl rfl (fun _ _ e l => c_X8_driftsBy  e l V) ?_
    intro r16 M15
    refine jv_goto (tgt := 98) dX8_voice_73 rfl ?_
    exact vf_ret dX8_voice_98 rfl
  refine jv_iloadn (j := 3) dX8_voice_76 rfl ?_
  refine jv_iconst (v := 2) dX8_voice_77 (by decide) ?_
  refine jw_ic_ne (tgt := 91) dX8_voice_78 rfl (fun c78 => ?_) (fun c78 => ?_)
  · refine jv_aloadn (j := 1) dX8_voice_81 rfl ?_
    refine jv_iload (j := 0) dX8_voice_82 rfl ?_
    refine jv_iloadn (j := 4) dX8_voice_84 rfl ?_
    refine hv_callI (As := [.int r12, .int x3]) dX8_voice_85 lk8_235 kX8_wearsBy nX8_wearsBy (Nat.le_of_ble_eq_true rfl) (Nat.le_of_ble_eq_true rfl) at_MO_0 rfl rfl rfl (fun _ _ e l => c_X8_wearsBy  e l V) ?_
    intro r18 M17
    refine jv_goto (tgt := 98) dX8_voice_88 rfl ?_
    exact vf_ret dX8_voice_98 rfl
  refine jv_aloadn (j := 1) dX8_voice_91 rfl ?_
  refine jv_iload (j := 0) dX8_voice_92 rfl ?_
  refine jv_iloadn (j := 4) dX8_voice_94 rfl ?_
  refine hv_callI (As := [.int r12, .int x3]) dX8_voice_95 lk8_238 kX8_tellsBy nX8_tellsBy (Nat.le_of_ble_eq_true rfl) (Nat.le_of_ble_eq_true rfl) at_MO_0 rfl rfl rfl (fun _ _ e l => c_X8_tellsBy  e l V) ?_
  intro r20 M19
  exact vf_ret dX8_voice_98 rfl
theorem c_X8_voice {M : pm_M} {x1 : Int32} {x2 : Int32} {x3 : Int32}  {r : Int32} {M' : pm_M} (h : f_X8_voice M x1 x2 x3 = some (r, M')) (l : Launch) (V : pm_V) : pm_Ci l V skD yX8_voice mX8_voice 305 [.ref (V.1 0), .int x1, .int x2, .int x3] M r M' := pm_metI (by decide) rfl (Nat.le_of_ble_eq_true rfl) h (fun _ => w_X8_voice M x1 x2 x3 )
def f_X8_trace (M : pm_M) (x1 : Int32) : Option (Int32 × pm_M) :=
  (pm_b2 (f_X8_in M (x1.toInt64) 0 (((M 0 14) - 1).toInt64)) (fun (r2 : Int32) (M1 : pm_M) => (if r2 = 0 then (pm_b2 (f_X8_finds M1 2) (fun (r4 : Int32) (M3 : pm_M) => (some (r4, M3)))) else (pm_chk (pm_in x1 40) (some ((M1 7 x1.toNatClampNeg), M1))))))
set_option maxHeartbeats 4000000 in
set_option maxRecDepth 100000 in
theorem w_X8_trace {X : pm_X} {V : pm_V} (M : pm_M) (x1 : Int32)  : pm_VF (f_X8_trace M x1) (pm_K X V mX8_trace 2 skD) (pm_J X V mX8_trace 2 (pm_wld V skD M) 0 [(0, .ref (V.1 0)), (1, .int x1)] []) := by
  unfold f_X8_trace
  refine jv_iloadn (j := 1) dX8_trace_0 rfl ?_
  refine jv_i2l dX8_trace_1 ?_
  refine jv_lconst (v := 0) dX8_trace_2 (by decide) ?_
  refine jv_aloadn (j := 0) dX8_trace_3 rfl ?_
  refine hv_getI dX8_trace_4 fl8_220 at_MO_0 rfl ?_
  refine jv_iconst (v := 1) dX8_trace_7 (by decide) ?_
  refine jv_isub dX8_trace_8 ?_
  refine jv_i2l dX8_trace_9 ?_
  refine hv_callS (As := [.long (x1.toInt64), .long 0, .long (((M 0 14) - 1).toInt64)]) dX8_trace_10 lk8_44 kX8_in nX8_in (Nat.le_of_ble_eq_true rfl) (Nat.le_of_ble_eq_true rfl) rfl (fun _ _ e l => c_X8_in  e l V) ?_
  intro r2 M1
  refine jw_if_eq (tgt := 25) dX8_trace_13 rfl (fun c13 => ?_) (fun c13 => ?_)
  · refine jv_aloadn (j := 0) dX8_trace_25 rfl ?_
    refine jv_iconst (v := 2) dX8_trace_26 (by decide) ?_
    refine hv_callI (As := [.int 2]) dX8_trace_27 lk8_107 kX8_finds nX8_finds (Nat.le_of_ble_eq_true rfl) (Nat.le_of_ble_eq_true rfl) at_MO_0 rfl rfl rfl (fun _ _ e l => c_X8_finds  e l V) ?_
    intro r4 M3
    exact vf_ret dX8_trace_30 rfl
  refine jv_aloadn (j := 0) dX8_trace_16 rfl ?_
  refine hv_getR dX8_trace_17 fl8_28 at_MO_0 rfl ?_
  refine jv_iloadn (j := 1) dX8_trace_20 rfl ?_
  refine hv_ialdC dX8_trace_21 at_MO_7 (fun _ => ?_)
  refine jv_goto (tgt := 30) dX8_trace_22 rfl ?_
  exact vf_ret dX8_trace_30 rfl
theorem c_X8_trace {M : pm_M} {x1 : Int32}  {r : Int32} {M' : pm_M} (h : f_X8_trace M x1 = some (r, M')) (l : Launch) (V : pm_V) : pm_Ci l V skD yX8_trace mX8_trace 2 [.ref (V.1 0), .int x1] M r M' := pm_metI (by decide) rfl (Nat.le_of_ble_eq_true rfl) h (fun _ => w_X8_trace M x1 )
def lb_X8_sheet_90 (x1 : Int32) (ih : Int32 → pm_M → Option (pm_M)) : Int32 → pm_M → Option (pm_M) := fun (l4 : Int32) (Ml : pm_M) =>
  (if 40 ≤ l4 then (some Ml) else (pm_chk (pm_in ((40 * x1) + l4) 160) (pm_let (pm_up Ml 10 ((40 * x1) + l4).toNatClampNeg 0) (fun M91002 : pm_M => (ih (l4 + 1) M91002)))))
def lp_X8_sheet_90 (x1 : Int32) : Int32 → pm_M → Option (pm_M) := pm_it (fun _ _ => none) (lb_X8_sheet_90 x1) pm_F
def f_X8_sheet (M : pm_M) (x1 : Int32) (x2 : Int32) (x3 : Int32) : Option (Int32 × pm_M) :=
  (pm_b2 (f_X8_isSheet M x1) (fun (r2 : Int32) (M1 : pm_M) => (if r2 = 0 then (pm_b2 (f_X8_finds M1 1) (fun (r4 : Int32) (M3 : pm_M) => (some (r4, M3)))) else (if x2 = 0 then (if x2 = 0 then (if x2 = 0 then (pm_chk (pm_in x1 4) (pm_let (pm_up M1 8 x1.toNatClampNeg x2) (fun M5 : pm_M => (if x2 = 0 then (pm_chk (pm_in x1 4) (pm_let (pm_up M5 9 x1.toNatClampNeg 0) (fun M6 : pm_M => (pm_b1 (lp_X8_sheet_90 x1 0 M6) (fun (M7 : pm_M) => (some (1, M7))))))) else (pm_chk (pm_in x1 4) (pm_let (pm_up M5 9 x1.toNatClampNeg x3) (fun M8 : pm_M => (pm_b1 (lp_X8_sheet_90 x1 0 M8) (fun (M9 : pm_M) => (some (1, M9))))))))))) else (if x3 ≤ 40 then (pm_chk (pm_in x1 4) (pm_let (pm_up M1 8 x1.toNatClampNeg x2) (fun M10 : pm_M => (if x2 = 0 then (pm_chk (pm_in x1 4) (pm_let (pm_up M10 9 x1.toNatClampNeg 0) (fun M11 : pm_M => (pm_b1 (lp_X8_sheet_90 x1 0 M11) (fun (M12 : pm_M) => (some (1, M12))))))) else (pm_chk (pm_in x1 4) (pm_let (pm_up M10 9 x1.toNatClampNeg x3) (fun M13 : pm_M => (pm_b1 (lp_X8_sheet_90 x1 0 M13) (fun (M14 : pm_M) => (some (1, M14))))))))))) else (pm_b2 (f_X8_finds M1 1) (fun (r16 : Int32) (M15 : pm_M) => (some (r16, M15)))))) else (if 0 ≤ x3 then (if x2 = 0 then (pm_chk (pm_in x1 4) (pm_let (pm_up M1 8 x1.toNatClampNeg x2) (fun M17 : pm_M => (if x2 = 0 then (pm_chk (pm_in x1 4) (pm_let (pm_up M17 9 x1.toNatClampNeg 0) (fun M18 : pm_M => (pm_b1 (lp_X8_sheet_90 x1 0 M18) (fun (M19 : pm_M) => (some (1, M19))))))) else (pm_chk (pm_in x1 4) (pm_let (pm_up M17 9 x1.toNatClampNeg x3) (fun M20 : pm_M => (pm_b1 (lp_X8_sheet_90 x1 0 M20) (fun (M21 : pm_M) => (some (1, M21))))))))))) else (if x3 ≤ 40 then (pm_chk (pm_in x1 4) (pm_let (pm_up M1 8 x1.toNatClampNeg x2) (fun M22 : pm_M => (if x2 = 0 then (pm_chk (pm_in x1 4) (pm_let (pm_up M22 9 x1.toNatClampNeg 0) (fun M23 : pm_M => (pm_b1 (lp_X8_sheet_90 x1 0 M23) (fun (M24 : pm_M) => (some (1, M24))))))) else (pm_chk (pm_in x1 4) (pm_let (pm_up M22 9 x1.toNatClampNeg x3) (fun M25 : pm_M => (pm_b1 (lp_X8_sheet_90 x1 0 M25) (fun (M26 : pm_M) => (some (1, M26))))))))))) else (pm_b2 (f_X8_finds M1 1) (fun (r28 : Int32) (M27 : pm_M) => (some (r28, M27)))))) else (pm_b2 (f_X8_finds M1 3) (fun (r30 : Int32) (M29 : pm_M) => (some (r30, M29)))))) else (if x2 = 8 then (if x2 = 0 then (if x2 = 0 then (pm_chk (pm_in x1 4) (pm_let (pm_up M1 8 x1.toNatClampNeg x2) (fun M31 : pm_M => (if x2 = 0 then (pm_chk (pm_in x1 4) (pm_let (pm_up M31 9 x1.toNatClampNeg 0) (fun M32 : pm_M => (pm_b1 (lp_X8_sheet_90 x1 0 M32) (fun (M33 : pm_M) => (some (1, M33))))))) else (pm_chk (pm_in x1 4) (pm_let (pm_up M31 9 x1.toNatClampNeg x3) (fun M34 : pm_M => (pm_b1 (lp_X8_sheet_90 x1 0 M34) (fun (M35 : pm_M) => (some (1, M35))))))))))) else (if x3 ≤ 40 then (pm_chk (pm_in x1 4) (pm_let (pm_up M1 8 x1.toNatClampNeg x2) (fun M36 : pm_M => (if x2 = 0 then (pm_chk (pm_in x1 4) (pm_let (pm_up M36 9 x1.toNatClampNeg 0) (fun M37 : pm_M => (pm_b1 (lp_X8_sheet_90 x1 0 M37) (fun (M38 : pm_M) => (some (1, M38))))))) else (pm_chk (pm_in x1 4) (pm_let (pm_up M36 9 x1.toNatClampNeg x3) (fun M39 : pm_M => (pm_b1 (lp_X8_sheet_90 x1 0 M39) (fun (M40 : pm_M) => (some (1, M40))))))))))) else (pm_b2 (f_X8_finds M1 1) (fun (r42 : Int32) (M41 : pm_M) => (some (r42, M41)))))) else (if 0 ≤ x3 then (if x2 = 0 then (pm_chk (pm_in x1 4) (pm_let (pm_up M1 8 x1.toNatClampNeg x2) (fun M43 : pm_M => (if x2 = 0 then (pm_chk (pm_in x1 4) (pm_let (pm_up M43 9 x1.toNatClampNeg 0) (fun M44 : pm_M => (pm_b1 (lp_X8_sheet_90 x1 0 M44) (fun (M45 : pm_M) => (some (1, M45))))))) else (pm_chk (pm_in x1 4) (pm_let (pm_up M43 9 x1.toNatClampNeg x3) (fun M46 : pm_M => (pm_b1 (lp_X8_sheet_90 x1 0 M46) (fun (M47 : pm_M) => (some (1, M47))))))))))) else (if x3 ≤ 40 then (pm_chk (pm_in x1 4) (pm_let (pm_up M1 8 x1.toNatClampNeg x2) (fun M48 : pm_M => (if x2 = 0 then (pm_chk (pm_in x1 4) (pm_let (pm_up M48 9 x1.toNatClampNeg 0) (fun M49 : pm_M => (pm_b1 (lp_X8_sheet_90 x1 0 M49) (fun (M50 : pm_M) => (some (1, M50))))))) else (pm_chk (pm_in x1 4) (pm_let (pm_up M48 9 x1.toNatClampNeg x3) (fun M51 : pm_M => (pm_b1 (lp_X8_sheet_90 x1 0 M51) (fun (M52 : pm_M) => (some (1, M52))))))))))) else (pm_b2 (f_X8_finds M1 1) (fun (r54 : Int32) (M53 : pm_M) => (some (r54, M53)))))) else (pm_b2 (f_X8_finds M1 3) (fun (r56 : Int32) (M55 : pm_M) => (some (r56, M55)))))) else (if x2 = 16 then (if x2 = 0 then (if x2 = 0 then (pm_chk (pm_in x1 4) (pm_let (pm_up M1 8 x1.toNatClampNeg x2) (fun M57 : pm_M => (if x2 = 0 then (pm_chk (pm_in x1 4) (pm_let (pm_up M57 9 x1.toNatClampNeg 0) (fun M58 : pm_M => (pm_b1 (lp_X8_sheet_90 x1 0 M58) (fun (M59 : pm_M) => (some (1, M59))))))) else (pm_chk (pm_in x1 4) (pm_let (pm_up M57 9 x1.toNatClampNeg x3) (fun M60 : pm_M => (pm_b1 (lp_X8_sheet_90 x1 0 M60) (fun (M61 : pm_M) => (some (1, M61))))))))))) else (if x3 ≤ 40 then (pm_chk (pm_in x1 4) (pm_let (pm_up M1 8 x1.toNatClampNeg x2) (fun M62 : pm_M => (if x2 = 0 then (pm_chk (pm_in x1 4) (pm_let (pm_up M62 9 x1.toNatClampNeg 0) (fun M63 : pm_M => (pm_b1 (lp_X8_sheet_90 x1 0 M63) (fun (M64 : pm_M) => (some (1, M64))))))) else (pm_chk (pm_in x1 4) (pm_let (pm_up M62 9 x1.toNatClampNeg x3) (fun M65 : pm_M => (pm_b1 (lp_X8_sheet_90 x1 0 M65) (fun (M66 : pm_M) => (some (1, M66))))))))))) else (pm_b2 (f_X8_finds M1 1) (fun (r68 : Int32) (M67 : pm_M) => (some (r68, M67)))))) else (if 0 ≤ x3 then (if x2 = 0 then (pm_chk (pm_in x1 4) (pm_let (pm_up M1 8 x1.toNatClampNeg x2) (fun M69 : pm_M => (if x2 = 0 then (pm_chk (pm_in x1 4) (pm_let (pm_up M69 9 x1.toNatClampNeg 0) (fun M70 : pm_M => (pm_b1 (lp_X8_sheet_90 x1 0 M70) (fun (M71 : pm_M) => (some (1, M71))))))) else (pm_chk (pm_in x1 4) (pm_let (pm_up M69 9 x1.toNatClampNeg x3) (fun M72 : pm_M => (pm_b1 (lp_X8_sheet_90 x1 0 M72) (fun (M73 : pm_M) => (some (1, M73))))))))))) else (if x3 ≤ 40 then (pm_chk (pm_in x1 4) (pm_let (pm_up M1 8 x1.toNatClampNeg x2) (fun M74 : pm_M => (if x2 = 0 then (pm_chk (pm_in x1 4) (pm_let (pm_up M74 9 x1.toNatClampNeg 0) (fun M75 : pm_M => (pm_b1 (lp_X8_sheet_90 x1 0 M75) (fun (M76 : pm_M) => (some (1, M76))))))) else (pm_chk (pm_in x1 4) (pm_let (pm_up M74 9 x1.toNatClampNeg x3) (fun M77 : pm_M => (pm_b1 (lp_X8_sheet_90 x1 0 M77) (fun (M78 : pm_M) => (some (1, M78))))))))))) else (pm_b2 (f_X8_finds M1 1) (fun (r80 : Int32) (M79 : pm_M) => (some (r80, M79)))))) else (pm_b2 (f_X8_finds M1 3) (fun (r82 : Int32) (M81 : pm_M) => (some (r82, M81)))))) else (if x2 = 32 then (if x2 = 0 then (if x2 = 0 then (pm_chk (pm_in x1 4) (pm_let (pm_up M1 8 x1.toNatClampNeg x2) (fun M83 : pm_M => (if x2 = 0 then (pm_chk (pm_in x1 4) (pm_let (pm_up M83 9 x1.toNatClampNeg 0) (fun M84 : pm_M => (pm_b1 (lp_X8_sheet_90 x1 0 M84) (fun (M85 : pm_M) => (some (1, M85))))))) else (pm_chk (pm_in x1 4) (pm_let (pm_up M83 9 x1.toNatClampNeg x3) (fun M86 : pm_M => (pm_b1 (lp_X8_sheet_90 x1 0 M86) (fun (M87 : pm_M) => (some (1, M87))))))))))) else (if x3 ≤ 40 then (pm_chk (pm_in x1 4) (pm_let (pm_up M1 8 x1.toNatClampNeg x2) (fun M88 : pm_M => (if x2 = 0 then (pm_chk (pm_in x1 4) (pm_let (pm_up M88 9 x1.toNatClampNeg 0) (fun M89 : pm_M => (pm_b1 (lp_X8_sheet_90 x1 0 M89) (fun (M90 : pm_M) => (some (1, M90))))))) else (pm_chk (pm_in x1 4) (pm_let (pm_up M88 9 x1.toNatClampNeg x3) (fun M91 : pm_M => (pm_b1 (lp_X8_sheet_90 x1 0 M91) (fun (M92 : pm_M) => (some (1, M92))))))))))) else (pm_b2 (f_X8_finds M1 1) (fun (r94 : Int32) (M93 : pm_M) => (some (r94, M93)))))) else (if 0 ≤ x3 then (if x2 = 0 then (pm_chk (pm_in x1 4) (pm_let (pm_up M1 8 x1.toNatClampNeg x2) (fun M95 : pm_M => (if x2 = 0 then (pm_chk (pm_in x1 4) (pm_let (pm_up M95 9 x1.toNatClampNeg 0) (fun M96 : pm_M => (pm_b1 (lp_X8_sheet_90 x1 0 M96) (fun (M97 : pm_M) => (some (1, M97))))))) else (pm_chk (pm_in x1 4) (pm_let (pm_up M95 9 x1.toNatClampNeg x3) (fun M98 : pm_M => (pm_b1 (lp_X8_sheet_90 x1 0 M98) (fun (M99 : pm_M) => (some (1, M99))))))))))) else (if x3 ≤ 40 then (pm_chk (pm_in x1 4) (pm_let (pm_up M1 8 x1.toNatClampNeg x2) (fun M100 : pm_M => (if x2 = 0 then (pm_chk (pm_in x1 4) (pm_let (pm_up M100 9 x1.toNatClampNeg 0) (fun M101 : pm_M => (pm_b1 (lp_X8_sheet_90 x1 0 M101) (fun (M102 : pm_M) => (some (1, M102))))))) else (pm_chk (pm_in x1 4) (pm_let (pm_up M100 9 x1.toNatClampNeg x3) (fun M103 : pm_M => (pm_b1 (lp_X8_sheet_90 x1 0 M103) (fun (M104 : pm_M) => (some (1, M104))))))))))) else (pm_b2 (f_X8_finds M1 1) (fun (r106 : Int32) (M105 : pm_M) => (some (r106, M105)))))) else (pm_b2 (f_X8_finds M1 3) (fun (r108 : Int32) (M107 : pm_M) => (some (r108, M107)))))) else (pm_b2 (f_X8_finds M1 1) (fun (r110 : Int32) (M109 : pm_M) => (some (r110, M109)))))))))))
set_option maxHeartbeats 4000000 in
set_option maxRecDepth 100000 in
theorem wl_X8_sheet_90 {X : pm_X} {V : pm_V} (x1 : Int32)  : ∀ (l4 : Int32) (Ml : pm_M), pm_VF (lp_X8_sheet_90 x1 l4 Ml) (fun b => (fun (Ml : pm_M) => pm_J X V mX8_sheet 3 (pm_wld V skD Ml) 116 [] []) b) (pm_J X V mX8_sheet 3 (pm_wld V skD Ml) 90 [(0, .ref (V.1 0)), (1, .int x1), (4, .int l4)] []) := by
  refine pm_it_ind (P := fun (f : Int32 → pm_M → Option (pm_M)) => ∀ (l4 : Int32) (Ml : pm_M), pm_VF (f l4 Ml) (fun b => (fun (Ml : pm_M) => pm_J X V mX8_sheet 3 (pm_wld V skD Ml) 116 [] []) b) (pm_J X V mX8_sheet 3 (pm_wld V skD Ml) 90 [(0, .ref (V.1 0)), (1, .int x1), (4, .int l4)] [])) (fun _ _ => vf_none) (fun ih hih l4 Ml => ?_) pm_F
  · unfold lb_X8_sheet_90
    refine jv_iload (j := 2) dX8_sheet_90 rfl ?_
    refine jv_bipush (v := 40) dX8_sheet_92 (by decide) ?_
    refine jw_ic_ge (tgt := 116) dX8_sheet_94 rfl (fun c94 => ?_) (fun c94 => ?_)
    · exact vf_end (fun g => jr_sub [] rfl g)
    refine jv_aloadn (j := 0) dX8_sheet_97 rfl ?_
    refine hv_getR dX8_sheet_98 fl8_37 at_MO_0 rfl ?_
    refine jv_bipush (v := 40) dX8_sheet_101 (by decide) ?_
    refine jv_iloadn (j := 1) dX8_sheet_103 rfl ?_
    refine jv_imul dX8_sheet_104 ?_
    refine jv_iload (j := 2) dX8_sheet_105 rfl ?_
    refine jv_iadd dX8_sheet_107 ?_
    refine jv_iconst (v := 0) dX8_sheet_108 (by decide) ?_
    refine hv_iastC dX8_sheet_109 at_MO_10 (fun _ => ?_)
    refine vf_letM (fun M91002 => ?_)
    refine jv_iinc (j := 2) (v := l4 + 1) (L' := [(4, .int (l4 + 1)), (0, .ref (V.1 0)), (1, .int x1)]) dX8_sheet_110 rfl rfl (Nat.le_of_ble_eq_true rfl) rfl ?_
    refine jv_goto (tgt := 90) dX8_sheet_113 rfl ?_
    exact vf_j (fun g => jr_sub [1, 2, 0] rfl g) (hih (l4 + 1) M91002)
set_option maxHeartbeats 4000000 in
set_option maxRecDepth 100000 in
theorem w_X8_sheet {X : pm_X} {V : pm_V} (M : pm_M) (x1 : Int32) (x2 : Int32) (x3 : Int32)  : pm_VF (f_X8_sheet M x1 x2 x3) (pm_K X V mX8_sheet 3 skD) (pm_J X V mX8_sheet 3 (pm_wld V skD M) 0 [(0, .ref (V.1 0)), (1, .int x1), (2, .int x2), (3, .int x3)] []) := by
  unfold f_X8_sheet
  refine jv_iloadn (j := 1) dX8_sheet_0 rfl ?_
  refine hv_callS (As := [.int x1]) dX8_sheet_1 lk8_217 kX8_isSheet nX8_isSheet (Nat.le_of_ble_eq_true rfl) (Nat.le_of_ble_eq_true rfl) rfl (fun _ _ e l => c_X8_isSheet  e l V) ?_
  intro r2 M1
  refine jw_if_eq (tgt := 29) dX8_sheet_4 rfl (fun c4 => ?_) (fun c4 => ?_)
  · refine jv_aloadn (j := 0) dX8_sheet_29 rfl ?_
    refine jv_iconst (v := 1) dX8_sheet_30 (by decide) ?_
    refine hv_callI (As := [.int 1]) dX8_sheet_31 lk8_107 kX8_finds nX8_finds (Nat.le_of_ble_eq_true rfl) (Nat.le_of_ble_eq_true rfl) at_MO_0 rfl rfl rfl (fun _ _ e l => c_X8_finds  e l V) ?_
    intro r4 M3
    exact vf_ret dX8_sheet_34 rfl
  refine jv_iloadn (j := 2) dX8_sheet_7 rfl ?_
  refine jw_if_eq (tgt := 35) dX8_sheet_8 rfl (fun c8 => ?_) (fun c8 => ?_)
  · refine jv_iloadn (j := 2) dX8_sheet_35 rfl ?_
    refine jw_if_eq (tgt := 49) dX8_sheet_36 rfl (fun c36 => ?_) (fun c36 => ?_)
    · refine jv_iloadn (j := 2) dX8_sheet_49 rfl ?_
      refine jw_if_eq (tgt := 65) dX8_sheet_50 rfl (fun c50 => ?_) (fun c50 => ?_)
      · refine jv_aloadn (j := 0) dX8_sheet_65 rfl ?_
        refine hv_getR dX8_sheet_66 fl8_31 at_MO_0 rfl ?_
        refine jv_iloadn (j := 1) dX8_sheet_69 rfl ?_
        refine jv_iloadn (j := 2) dX8_sheet_70 rfl ?_
        refine hv_iastC dX8_sheet_71 at_MO_8 (fun _ => ?_)
        refine vf_letM (fun M5 => ?_)
        refine jv_aloadn (j := 0) dX8_sheet_72 rfl ?_
        refine hv_getR dX8_sheet_73 fl8_34 at_MO_0 rfl ?_
        refine jv_iloadn (j := 1) dX8_sheet_76 rfl ?_
        refine jv_iloadn (j := 2) dX8_sheet_77 rfl ?_
        refine jw_if_ne (tgt := 85) dX8_sheet_78 rfl (fun c78 => ?_) (fun c78 => ?_)
        · refine jv_iconst (v := 0) dX8_sheet_81 (by decide) ?_
          refine jv_goto (tgt := 86) dX8_sheet_82 rfl ?_
          refine hv_iastC dX8_sheet_86 at_MO_9 (fun _ => ?_)
          refine vf_letM (fun M6 => ?_)
          refine jv_iconst (v := 0) dX8_sheet_87 (by decide) ?_
          refine jv_istore (L' := [(4, .int 0), (0, .ref (V.1 0)), (1, .int x1), (2, .int x2), (3, .int x3)]) dX8_sheet_88 (Nat.le_of_ble_eq_true rfl) rfl ?_
          refine vl_b1 (P := fun (Ml : pm_M) => pm_J X V mX8_sheet 3 (pm_wld V skD Ml) 116 [] []) (vf_j (fun g => jr_sub [1, 2, 0] rfl g) (wl_X8_sheet_90 x1  0 M6)) ?_
          intro M7
          refine jv_iconst (v := 1) dX8_sheet_116 (by decide) ?_
          exact vf_ret dX8_sheet_117 rfl
        refine jv_iloadn (j := 3) dX8_sheet_85 rfl ?_
        refine hv_iastC dX8_sheet_86 at_MO_9 (fun _ => ?_)
        refine vf_letM (fun M8 => ?_)
        refine jv_iconst (v := 0) dX8_sheet_87 (by decide) ?_
        refine jv_istore (L' := [(4, .int 0), (0, .ref (V.1 0)), (1, .int x1), (2, .int x2), (3, .int x3)]) dX8_sheet_88 (Nat.le_of_ble_eq_true rfl) rfl ?_
        refine vl_b1 (P := fun (Ml : pm_M) => pm_J X V mX8_sheet 3 (pm_wld V skD Ml) 116 [] []) (vf_j (fun g => jr_sub [1, 2, 0] rfl g) (wl_X8_sheet_90 x1  0 M8)) ?_
        intro M9
        refine jv_iconst (v := 1) dX8_sheet_116 (by decide) ?_
        exact vf_ret dX8_sheet_117 rfl
      refine jv_iloadn (j := 3) dX8_sheet_53 rfl ?_
      refine jv_bipush (v := 40) dX8_sheet_54 (by decide) ?_
      refine jw_ic_le (tgt := 65) dX8_sheet_56 rfl (fun c56 => ?_) (fun c56 => ?_)
      · refine jv_aloadn (j := 0) dX8_sheet_65 rfl ?_
        refine hv_getR dX8_sheet_66 fl8_31 at_MO_0 rfl ?_
        refine jv_iloadn (j := 1) dX8_sheet_69 rfl ?_
        refine jv_iloadn (j := 2) dX8_sheet_70 rfl ?_
        refine hv_iastC dX8_sheet_71 at_MO_8 (fun _ => ?_)
        refine vf_letM (fun M10 => ?_)
        refine jv_aloadn (j := 0) dX8_sheet_72 rfl ?_
        refine hv_getR dX8_sheet_73 fl8_34 at_MO_0 rfl ?_
        refine jv_iloadn (j := 1) dX8_sheet_76 rfl ?_
        refine jv_iloadn (j := 2) dX8_sheet_77 rfl ?_
        refine jw_if_ne (tgt := 85) dX8_sheet_78 rfl (fun c78 => ?_) (fun c78 => ?_)
        · refine jv_iconst (v := 0) dX8_sheet_81 (by decide) ?_
          refine jv_goto (tgt := 86) dX8_sheet_82 rfl ?_
          refine hv_iastC dX8_sheet_86 at_MO_9 (fun _ => ?_)
          refine vf_letM (fun M11 => ?_)
          refine jv_iconst (v := 0) dX8_sheet_87 (by decide) ?_
          refine jv_istore (L' := [(4, .int 0), (0, .ref (V.1 0)), (1, .int x1), (2, .int x2), (3, .int x3)]) dX8_sheet_88 (Nat.le_of_ble_eq_true rfl) rfl ?_
          refine vl_b1 (P := fun (Ml : pm_M) => pm_J X V mX8_sheet 3 (pm_wld V skD Ml) 116 [] []) (vf_j (fun g => jr_sub [1, 2, 0] rfl g) (wl_X8_sheet_90 x1  0 M11)) ?_
          intro M12
          refine jv_iconst (v := 1) dX8_sheet_116 (by decide) ?_
          exact vf_ret dX8_sheet_117 rfl
        refine jv_iloadn (j := 3) dX8_sheet_85 rfl ?_
        refine hv_iastC dX8_sheet_86 at_MO_9 (fun _ => ?_)
        refine vf_letM (fun M13 => ?_)
        refine jv_iconst (v := 0) dX8_sheet_87 (by decide) ?_
        refine jv_istore (L' := [(4, .int 0), (0, .ref (V.1 0)), (1, .int x1), (2, .int x2), (3, .int x3)]) dX8_sheet_88 (Nat.le_of_ble_eq_true rfl) rfl ?_
        refine vl_b1 (P := fun (Ml : pm_M) => pm_J X V mX8_sheet 3 (pm_wld V skD Ml) 116 [] []) (vf_j (fun g => jr_sub [1, 2, 0] rfl g) (wl_X8_sheet_90 x1  0 M13)) ?_
        intro M14
        refine jv_iconst (v := 1) dX8_sheet_116 (by decide) ?_
        exact vf_ret dX8_sheet_117 rfl
      refine jv_aloadn (j := 0) dX8_sheet_59 rfl ?_
      refine jv_iconst (v := 1) dX8_sheet_60 (by decide) ?_
      refine hv_callI (As := [.int 1]) dX8_sheet_61 lk8_107 kX8_finds nX8_finds (Nat.le_of_ble_eq_true rfl) (Nat.le_of_ble_eq_true rfl) at_MO_0 rfl rfl rfl (fun _ _ e l => c_X8_finds  e l V) ?_
      intro r16 M15
      exact vf_ret dX8_sheet_64 rfl
    refine jv_iloadn (j := 3) dX8_sheet_39 rfl ?_
    refine jw_if_ge (tgt := 49) dX8_sheet_40 rfl (fun c40 => ?_) (fun c40 => ?_)
    · refine jv_iloadn (j := 2) dX8_sheet_49 rfl ?_
      refine jw_if_eq (tgt := 65) dX8_sheet_50 rfl (fun c50 => ?_) (fun c50 => ?_)
      · refine jv_aloadn (j := 0) dX8_sheet_65 rfl ?_
        refine hv_getR dX8_sheet_66 fl8_31 at_MO_0 rfl ?_
        refine jv_iloadn (j := 1) dX8_sheet_69 rfl ?_
        refine jv_iloadn (j := 2) dX8_sheet_70 rfl ?_
        refine hv_iastC dX8_sheet_71 at_MO_8 (fun _ => ?_)
        refine vf_letM (fun M17 => ?_)
        refine jv_aloadn (j := 0) dX8_sheet_72 rfl ?_
        refine hv_getR dX8_sheet_73 fl8_34 at_MO_0 rfl ?_
        refine jv_iloadn (j := 1) dX8_sheet_76 rfl ?_
        refine jv_iloadn (j := 2) dX8_sheet_77 rfl ?_
        refine jw_if_ne (tgt := 85) dX8_sheet_78 rfl (fun c78 => ?_) (fun c78 => ?_)
        · refine jv_iconst (v := 0) dX8_sheet_81 (by decide) ?_
          refine jv_goto (tgt := 86) dX8_sheet_82 rfl ?_
          refine hv_iastC dX8_sheet_86 at_MO_9 (fun _ => ?_)
          refine vf_letM (fun M18 => ?_)
          refine jv_iconst (v := 0) dX8_sheet_87 (by decide) ?_
          refine jv_istore (L' := [(4, .int 0), (0, .ref (V.1 0)), (1, .int x1), (2, .int x2), (3, .int x3)]) dX8_sheet_88 (Nat.le_of_ble_eq_true rfl) rfl ?_
          refine vl_b1 (P := fun (Ml : pm_M) => pm_J X V mX8_sheet 3 (pm_wld V skD Ml) 116 [] []) (vf_j (fun g => jr_sub [1, 2, 0] rfl g) (wl_X8_sheet_90 x1  0 M18)) ?_
          intro M19
          refine jv_iconst (v := 1) dX8_sheet_116 (by decide) ?_
          exact vf_ret dX8_sheet_117 rfl
        refine jv_iloadn (j := 3) dX8_sheet_85 rfl ?_
        refine hv_iastC dX8_sheet_86 at_MO_9 (fun _ => ?_)
        refine vf_letM (fun M20 => ?_)
        refine jv_iconst (v := 0) dX8_sheet_87 (by decide) ?_
        refine jv_istore (L' := [(4, .int 0), (0, .ref (V.1 0)), (1, .int x1), (2, .int x2), (3, .int x3)]) dX8_sheet_88 (Nat.le_of_ble_eq_true rfl) rfl ?_
        refine vl_b1 (P := fun (Ml : pm_M) => pm_J X V mX8_sheet 3 (pm_wld V skD Ml) 116 [] []) (vf_j (fun g => jr_sub [1, 2, 0] rfl g) (wl_X8_sheet_90 x1  0 M20)) ?_
        intro M21
        refine jv_iconst (v := 1) dX8_sheet_116 (by decide) ?_
        exact vf_ret dX8_sheet_117 rfl
      refine jv_iloadn (j := 3) dX8_sheet_53 rfl ?_
      refine jv_bipush (v := 40) dX8_sheet_54 (by decide) ?_
      refine jw_ic_le (tgt := 65) dX8_sheet_56 rfl (fun c56 => ?_) (fun c56 => ?_)
      · refine jv_aloadn (j := 0) dX8_sheet_65 rfl ?_
        refine hv_getR dX8_sheet_66 fl8_31 at_MO_0 rfl ?_
        refine jv_iloadn (j := 1) dX8_sheet_69 rfl ?_
        refine jv_iloadn (j := 2) dX8_sheet_70 rfl ?_
        refine hv_iastC dX8_sheet_71 at_MO_8 (fun _ => ?_)
        refine vf_letM (fun M22 => ?_)
        refine jv_aloadn (j := 0) dX8_sheet_72 rfl ?_
        refine hv_getR dX8_sheet_73 fl8_34 at_MO_0 rfl ?_
        refine jv_iloadn (j := 1) dX8_sheet_76 rfl ?_
        refine jv_iloadn (j := 2) dX8_sheet_77 rfl ?_
        refine jw_if_ne (tgt := 85) dX8_sheet_78 rfl (fun c78 => ?_) (fun c78 => ?_)
        · refine jv_iconst (v := 0) dX8_sheet_81 (by decide) ?_
          refine jv_goto (tgt := 86) dX8_sheet_82 rfl ?_
          refine hv_iastC dX8_sheet_86 at_MO_9 (fun _ => ?_)
          refine vf_letM (fun M23 => ?_)
          refine jv_iconst (v := 0) dX8_sheet_87 (by decide) ?_
          refine jv_istore (L' := [(4, .int 0), (0, .ref (V.1 0)), (1, .int x1), (2, .int x2), (3, .int x3)]) dX8_sheet_88 (Nat.le_of_ble_eq_true rfl) rfl ?_
          refine vl_b1 (P := fun (Ml : pm_M) => pm_J X V mX8_sheet 3 (pm_wld V skD Ml) 116 [] []) (vf_j (fun g => jr_sub [1, 2, 0] rfl g) (wl_X8_sheet_90 x1  0 M23)) ?_
          intro M24
          refine jv_iconst (v := 1) dX8_sheet_116 (by decide) ?_
          exact vf_ret dX8_sheet_117 rfl
        refine jv_iloadn (j := 3) dX8_sheet_85 rfl ?_
        refine hv_iastC dX8_sheet_86 at_MO_9 (fun _ => ?_)
        refine vf_letM (fun M25 => ?_)
        refine jv_iconst (v := 0) dX8_sheet_87 (by decide) ?_
        refine jv_istore (L' := [(4, .int 0), (0, .ref (V.1 0)), (1, .int x1), (2, .int x2), (3, .int x3)]) dX8_sheet_88 (Nat.le_of_ble_eq_true rfl) rfl ?_
        refine vl_b1 (P := fun (Ml : pm_M) => pm_J X V mX8_sheet 3 (pm_wld V skD Ml) 116 [] []) (vf_j (fun g => jr_sub [1, 2, 0] rfl g) (wl_X8_sheet_90 x1  0 M25)) ?_
        intro M26
        refine jv_iconst (v := 1) dX8_sheet_116 (by decide) ?_
        exact vf_ret dX8_sheet_117 rfl
      refine jv_aloadn (j := 0) dX8_sheet_59 rfl ?_
      refine jv_iconst (v := 1) dX8_sheet_60 (by decide) ?_
      refine hv_callI (As := [.int 1]) dX8_sheet_61 lk8_107 kX8_finds nX8_finds (Nat.le_of_ble_eq_true rfl) (Nat.le_of_ble_eq_true rfl) at_MO_0 rfl rfl rfl (fun _ _ e l => c_X8_finds  e l V) ?_
      intro r28 M27
      exact vf_ret dX8_sheet_64 rfl
    refine jv_aloadn (j := 0) dX8_sheet_43 rfl ?_
    refine jv_iconst (v := 3) dX8_sheet_44 (by decide) ?_
    refine hv_callI (As := [.int 3]) dX8_sheet_45 lk8_107 kX8_finds nX8_finds (Nat.le_of_ble_eq_true rfl) (Nat.le_of_ble_eq_true rfl) at_MO_0 rfl rfl rfl (fun _ _ e l => c_X8_finds  e l V) ?_
    intro r30 M29
    exact vf_ret dX8_sheet_48 rfl
  refine jv_iloadn (j := 2) dX8_sheet_11 rfl ?_
  refine jv_bipush (v := 8) dX8_sheet_12 (by decide) ?_
  refine jw_ic_eq (tgt := 35) dX8_sheet_14 rfl (fun c14 => ?_) (fun c14 => ?_)
  · refine jv_iloadn (j := 2) dX8_sheet_35 rfl ?_
    refine jw_if_eq (tgt := 49) dX8_sheet_36 rfl (fun c36 => ?_) (fun c36 => ?_)
    · refine jv_iloadn (j := 2) dX8_sheet_49 rfl ?_
      refine jw_if_eq (tgt := 65) dX8_sheet_50 rfl (fun c50 => ?_) (fun c50 => ?_)
      · refine jv_aloadn (j := 0) dX8_sheet_65 rfl ?_
        refine hv_getR dX8_sheet_66 fl8_31 at_MO_0 rfl ?_
        refine jv_iloadn (j := 1) dX8_sheet_69 rfl ?_
        refine jv_iloadn (j := 2) dX8_sheet_70 rfl ?_
        refine hv_iastC dX8_sheet_71 at_MO_8 (fun _ => ?_)
        refine vf_letM (fun M31 => ?_)
        refine jv_aloadn (j := 0) dX8_sheet_72 rfl ?_
        refine hv_getR dX8_sheet_73 fl8_34 at_MO_0 rfl ?_
        refine jv_iloadn (j := 1) dX8_sheet_76 rfl ?_
        refine jv_iloadn (j := 2) dX8_sheet_77 rfl ?_
        refine jw_if_ne (tgt := 85) dX8_sheet_78 rfl (fun c78 => ?_) (fun c78 => ?_)
        · refine jv_iconst (v := 0) dX8_sheet_81 (by decide) ?_
          refine jv_goto (tgt := 86) dX8_sheet_82 rfl ?_
          refine hv_iastC dX8_sheet_86 at_MO_9 (fun _ => ?_)
          refine vf_letM (fun M32 => ?_)
          refine jv_iconst (v := 0) dX8_sheet_87 (by decide) ?_
          refine jv_istore (L' := [(4, .int 0), (0, .ref (V.1 0)), (1, .int x1), (2, .int x2), (3, .int x3)]) dX8_sheet_88 (Nat.le_of_ble_eq_true rfl) rfl ?_
          refine vl_b1 (P := fun (Ml : pm_M) => pm_J X V mX8_sheet 3 (pm_wld V skD Ml) 116 [] []) (vf_j (fun g => jr_sub [1, 2, 0] rfl g) (wl_X8_sheet_90 x1  0 M32)) ?_
          intro M33
          refine jv_iconst (v := 1) dX8_sheet_116 (by decide) ?_
          exact vf_ret dX8_sheet_117 rfl
        refine jv_iloadn (j := 3) dX8_sheet_85 rfl ?_
        refine hv_iastC dX8_sheet_86 at_MO_9 (fun _ => ?_)
        refine vf_letM (fun M34 => ?_)
        refine jv_iconst (v := 0) dX8_sheet_87 (by decide) ?_
        refine jv_istore (L' := [(4, .int 0), (0, .ref (V.1 0)), (1, .int x1), (2, .int x2), (3, .int x3)]) dX8_sheet_88 (Nat.le_of_ble_eq_true rfl) rfl ?_
        refine vl_b1 (P := fun (Ml : pm_M) => pm_J X V mX8_sheet 3 (pm_wld V skD Ml) 116 [] []) (vf_j (fun g => jr_sub [1, 2, 0] rfl g) (wl_X8_sheet_90 x1  0 M34)) ?_
        intro M35
        refine jv_iconst (v := 1) dX8_sheet_116 (by decide) ?_
        exact vf_ret dX8_sheet_117 rfl
      refine jv_iloadn (j := 3) dX8_sheet_53 rfl ?_
      refine jv_bipush (v := 40) dX8_sheet_54 (by decide) ?_
      refine jw_ic_le (tgt := 65) dX8_sheet_56 rfl (fun c56 => ?_) (fun c56 => ?_)
      · refine jv_aloadn (j := 0) dX8_sheet_65 rfl ?_
        refine hv_getR dX8_sheet_66 fl8_31 at_MO_0 rfl ?_
        refine jv_iloadn (j := 1) dX8_sheet_69 rfl ?_
        refine jv_iloadn (j := 2) dX8_sheet_70 rfl ?_
        refine hv_iastC dX8_sheet_71 at_MO_8 (fun _ => ?_)
        refine vf_letM (fun M36 => ?_)
        refine jv_aloadn (j := 0) dX8_sheet_72 rfl ?_
        refine hv_getR dX8_sheet_73 fl8_34 at_MO_0 rfl ?_
        refine jv_iloadn (j := 1) dX8_sheet_76 rfl ?_
        refine jv_iloadn (j := 2) dX8_sheet_77 rfl ?_
        refine jw_if_ne (tgt := 85) dX8_sheet_78 rfl (fun c78 => ?_) (fun c78 => ?_)
        · refine jv_iconst (v := 0) dX8_sheet_81 (by decide) ?_
          refine jv_goto (tgt := 86) dX8_sheet_82 rfl ?_
          refine hv_iastC dX8_sheet_86 at_MO_9 (fun _ => ?_)
          refine vf_letM (fun M37 => ?_)
          refine jv_iconst (v := 0) dX8_sheet_87 (by decide) ?_
          refine jv_istore (L' := [(4, .int 0), (0, .ref (V.1 0)), (1, .int x1), (2, .int x2), (3, .int x3)]) dX8_sheet_88 (Nat.le_of_ble_eq_true rfl) rfl ?_
          refine vl_b1 (P := fun (Ml : pm_M) => pm_J X V mX8_sheet 3 (pm_wld V skD Ml) 116 [] []) (vf_j (fun g => jr_sub [1, 2, 0] rfl g) (wl_X8_sheet_90 x1  0 M37)) ?_
          intro M38
          refine jv_iconst (v := 1) dX8_sheet_116 (by decide) ?_
          exact vf_ret dX8_sheet_117 rfl
        refine jv_iloadn (j := 3) dX8_sheet_85 rfl ?_
        refine hv_iastC dX8_sheet_86 at_MO_9 (fun _ => ?_)
        refine vf_letM (fun M39 => ?_)
        refine jv_iconst (v := 0) dX8_sheet_87 (by decide) ?_
        refine jv_istore (L' := [(4, .int 0), (0, .ref (V.1 0)), (1, .int x1), (2, .int x2), (3, .int x3)]) dX8_sheet_88 (Nat.le_of_ble_eq_true rfl) rfl ?_
        refine vl_b1 (P := fun (Ml : pm_M) => pm_J X V mX8_sheet 3 (pm_wld V skD Ml) 116 [] []) (vf_j (fun g => jr_sub [1, 2, 0] rfl g) (wl_X8_sheet_90 x1  0 M39)) ?_
        intro M40
        refine jv_iconst (v := 1) dX8_sheet_116 (by decide) ?_
        exact vf_ret dX8_sheet_117 rfl
      refine jv_aloadn (j := 0) dX8_sheet_59 rfl ?_
      refine jv_iconst (v := 1) dX8_sheet_60 (by decide) ?_
      refine hv_callI (As := [.int 1]) dX8_sheet_61 lk8_107 kX8_finds nX8_finds (Nat.le_of_ble_eq_true rfl) (Nat.le_of_ble_eq_true rfl) at_MO_0 rfl rfl rfl (fun _ _ e l => c_X8_finds  e l V) ?_
      intro r42 M41
      exact vf_ret dX8_sheet_64 rfl
    refine jv_iloadn (j := 3) dX8_sheet_39 rfl ?_
    refine jw_if_ge (tgt := 49) dX8_sheet_40 rfl (fun c40 => ?_) (fun c40 => ?_)
    · refine jv_iloadn (j := 2) dX8_sheet_49 rfl ?_
      refine jw_if_eq (tgt := 65) dX8_sheet_50 rfl (fun c50 => ?_) (fun c50 => ?_)
      · refine jv_aloadn (j := 0) dX8_sheet_65 rfl ?_
        refine hv_getR dX8_sheet_66 fl8_31 at_MO_0 rfl ?_
        refine jv_iloadn (j := 1) dX8_sheet_69 rfl ?_
        refine jv_iloadn (j := 2) dX8_sheet_70 rfl ?_
        refine hv_iastC dX8_sheet_71 at_MO_8 (fun _ => ?_)
        refine vf_letM (fun M43 => ?_)
        refine jv_aloadn (j := 0) dX8_sheet_72 rfl ?_
        refine hv_getR dX8_sheet_73 fl8_34 at_MO_0 rfl ?_
        refine jv_iloadn (j := 1) dX8_sheet_76 rfl ?_
        refine jv_iloadn (j := 2) dX8_sheet_77 rfl ?_
        refine jw_if_ne (tgt := 85) dX8_sheet_78 rfl (fun c78 => ?_) (fun c78 => ?_)
        · refine jv_iconst (v := 0) dX8_sheet_81 (by decide) ?_
          refine jv_goto (tgt := 86) dX8_sheet_82 rfl ?_
          refine hv_iastC dX8_sheet_86 at_MO_9 (fun _ => ?_)
          refine vf_letM (fun M44 => ?_)
          refine jv_iconst (v := 0) dX8_sheet_87 (by decide) ?_
          refine jv_istore (L' := [(4, .int 0), (0, .ref (V.1 0)), (1, .int x1), (2, .int x2), (3, .int x3)]) dX8_sheet_88 (Nat.le_of_ble_eq_true rfl) rfl ?_
          refine vl_b1 (P := fun (Ml : pm_M) => pm_J X V mX8_sheet 3 (pm_wld V skD Ml) 116 [] []) (vf_j (fun g => jr_sub [1, 2, 0] rfl g) (wl_X8_sheet_90 x1  0 M44)) ?_
          intro M45
          refine jv_iconst (v := 1) dX8_sheet_116 (by decide) ?_
          exact vf_ret dX8_sheet_117 rfl
        refine jv_iloadn (j := 3) dX8_sheet_85 rfl ?_
        refine hv_iastC dX8_sheet_86 at_MO_9 (fun _ => ?_)
        refine vf_letM (fun M46 => ?_)
        refine jv_iconst (v := 0) dX8_sheet_87 (by decide) ?_
        refine jv_istore (L' := [(4, .int 0), (0, .ref (V.1 0)), (1, .int x1), (2, .int x2), (3, .int x3)]) dX8_sheet_88 (Nat.le_of_ble_eq_true rfl) rfl ?_
        refine vl_b1 (P := fun (Ml : pm_M) => pm_J X V mX8_sheet 3 (pm_wld V skD Ml) 116 [] []) (vf_j (fun g => jr_sub [1, 2, 0] rfl g) (wl_X8_sheet_90 x1  0 M46)) ?_
        intro M47
        refine jv_iconst (v := 1) dX8_sheet_116 (by decide) ?_
        exact vf_ret dX8_sheet_117 rfl
      refine jv_iloadn (j := 3) dX8_sheet_53 rfl ?_
      refine jv_bipush (v := 40) dX8_sheet_54 (by decide) ?_
      refine jw_ic_le (tgt := 65) dX8_sheet_56 rfl (fun c56 => ?_) (fun c56 => ?_)
      · refine jv_aloadn (j := 0) dX8_sheet_65 rfl ?_
        refine hv_getR dX8_sheet_66 fl8_31 at_MO_0 rfl ?_
        refine jv_iloadn (j := 1) dX8_sheet_69 rfl ?_
        refine jv_iloadn (j := 2) dX8_sheet_70 rfl ?_
        refine hv_iastC dX8_sheet_71 at_MO_8 (fun _ => ?_)
        refine vf_letM (fun M48 => ?_)
        refine jv_aloadn (j := 0) dX8_sheet_72 rfl ?_
        refine hv_getR dX8_sheet_73 fl8_34 at_MO_0 rfl ?_
        refine jv_iloadn (j := 1) dX8_sheet_76 rfl ?_
        refine jv_iloadn (j := 2) dX8_sheet_77 rfl ?_
        refine jw_if_ne (tgt := 85) dX8_sheet_78 rfl (fun c78 => ?_) (fun c78 => ?_)
        · refine jv_iconst (v := 0) dX8_sheet_81 (by decide) ?_
          refine jv_goto (tgt := 86) dX8_sheet_82 rfl ?_
          refine hv_iastC dX8_sheet_86 at_MO_9 (fun _ => ?_)
          refine vf_letM (fun M49 => ?_)
          refine jv_iconst (v := 0) dX8_sheet_87 (by decide) ?_
          refine jv_istore (L' := [(4, .int 0), (0, .ref (V.1 0)), (1, .int x1), (2, .int x2), (3, .int x3)]) dX8_sheet_88 (Nat.le_of_ble_eq_true rfl) rfl ?_
          refine vl_b1 (P := fun (Ml : pm_M) => pm_J X V mX8_sheet 3 (pm_wld V skD Ml) 116 [] []) (vf_j (fun g => jr_sub [1, 2, 0] rfl g) (wl_X8_sheet_90 x1  0 M49)) ?_
          intro M50
          refine jv_iconst (v := 1) dX8_sheet_116 (by decide) ?_
          exact vf_ret dX8_sheet_117 rfl
        refine jv_iloadn (j := 3) dX8_sheet_85 rfl ?_
        refine hv_iastC dX8_sheet_86 at_MO_9 (fun _ => ?_)
        refine vf_letM (fun M51 => ?_)
        refine jv_iconst (v := 0) dX8_sheet_87 (by decide) ?_
        refine jv_istore (L' := [(4, .int 0), (0, .ref (V.1 0)), (1, .int x1), (2, .int x2), (3, .int x3)]) dX8_sheet_88 (Nat.le_of_ble_eq_true rfl) rfl ?_
        refine vl_b1 (P := fun (Ml : pm_M) => pm_J X V mX8_sheet 3 (pm_wld V skD Ml) 116 [] []) (vf_j (fun g => jr_sub [1, 2, 0] rfl g) (wl_X8_sheet_90 x1  0 M51)) ?_
        intro M52
        refine jv_iconst (v := 1) dX8_sheet_116 (by decide) ?_
        exact vf_ret dX8_sheet_117 rfl
      refine jv_aloadn (j := 0) dX8_sheet_59 rfl ?_
      refine jv_iconst (v := 1) dX8_sheet_60 (by decide) ?_
      refine hv_callI (As := [.int 1]) dX8_sheet_61 lk8_107 kX8_finds nX8_finds (Nat.le_of_ble_eq_true rfl) (Nat.le_of_ble_eq_true rfl) at_MO_0 rfl rfl rfl (fun _ _ e l => c_X8_finds  e l V) ?_
      intro r54 M53
      exact vf_ret dX8_sheet_64 rfl
    refine jv_aloadn (j := 0) dX8_sheet_43 rfl ?_
    refine jv_iconst (v := 3) dX8_sheet_44 (by decide) ?_
    refine hv_callI (As := [.int 3]) dX8_sheet_45 lk8_107 kX8_finds nX8_finds (Nat.le_of_ble_eq_true rfl) (Nat.le_of_ble_eq_true rfl) at_MO_0 rfl rfl rfl (fun _ _ e l => c_X8_finds  e l V) ?_
    intro r56 M55
    exact vf_ret dX8_sheet_48 rfl
  refine jv_iloadn (j := 2) dX8_sheet_17 rfl ?_
  refine jv_bipush (v := 16) dX8_sheet_18 (by decide) ?_
  refine jw_ic_eq (tgt := 35) dX8_sheet_20 rfl (fun c20 => ?_) (fun c20 => ?_)
  · refine jv_iloadn (j := 2) dX8_sheet_35 rfl ?_
    refine jw_if_eq (tgt := 49) dX8_sheet_36 rfl (fun c36 => ?_) (fun c36 => ?_)
    · refine jv_iloadn (j := 2) dX8_sheet_49 rfl ?_
      refine jw_if_eq (tgt := 65) dX8_sheet_50 rfl (fun c50 => ?_) (fun c50 => ?_)
      · refine jv_aloadn (j := 0) dX8_sheet_65 rfl ?_
        refine hv_getR dX8_sheet_66 fl8_31 at_MO_0 rfl ?_
        refine jv_iloadn (j := 1) dX8_sheet_69 rfl ?_
        refine jv_iloadn (j := 2) dX8_sheet_70 rfl ?_
        refine hv_iastC dX8_sheet_71 at_MO_8 (fun _ => ?_)
        refine vf_letM (fun M57 => ?_)
        refine jv_aloadn (j := 0) dX8_sheet_72 rfl ?_
        refine hv_getR dX8_sheet_73 fl8_34 at_MO_0 rfl ?_
        refine jv_iloadn (j := 1) dX8_sheet_76 rfl ?_
        refine jv_iloadn (j := 2) dX8_sheet_77 rfl ?_
        refine jw_if_ne (tgt := 85) dX8_sheet_78 rfl (fun c78 => ?_) (fun c78 => ?_)
        · refine jv_iconst (v := 0) dX8_sheet_81 (by decide) ?_
          refine jv_goto (tgt := 86) dX8_sheet_82 rfl ?_
          refine hv_iastC dX8_sheet_86 at_MO_9 (fun _ => ?_)
          refine vf_letM (fun M58 => ?_)
          refine jv_iconst (v := 0) dX8_sheet_87 (by decide) ?_
          refine jv_istore (L' := [(4, .int 0), (0, .ref (V.1 0)), (1, .int x1), (2, .int x2), (3, .int x3)]) dX8_sheet_88 (Nat.le_of_ble_eq_true rfl) rfl ?_
          refine vl_b1 (P := fun (Ml : pm_M) => pm_J X V mX8_sheet 3 (pm_wld V skD Ml) 116 [] []) (vf_j (fun g => jr_sub [1, 2, 0] rfl g) (wl_X8_sheet_90 x1  0 M58)) ?_
          intro M59
          refine jv_iconst (v := 1) dX8_sheet_116 (by decide) ?_
          exact vf_ret dX8_sheet_117 rfl
        refine jv_iloadn (j := 3) dX8_sheet_85 rfl ?_
        refine hv_iastC dX8_sheet_86 at_MO_9 (fun _ => ?_)
        refine vf_letM (fun M60 => ?_)
        refine jv_iconst (v := 0) dX8_sheet_87 (by decide) ?_
        refine jv_istore (L' := [(4, .int 0), (0, .ref (V.1 0)), (1, .int x1), (2, .int x2), (3, .int x3)]) dX8_sheet_88 (Nat.le_of_ble_eq_true rfl) rfl ?_
        refine vl_b1 (P := fun (Ml : pm_M) => pm_J X V mX8_sheet 3 (pm_wld V skD Ml) 116 [] []) (vf_j (fun g => jr_sub [1, 2, 0] rfl g) (wl_X8_sheet_90 x1  0 M60)) ?_
        intro M61
        refine jv_iconst (v := 1) dX8_sheet_116 (by decide) ?_
        exact vf_ret dX8_sheet_117 rfl
      refine jv_iloadn (j := 3) dX8_sheet_53 rfl ?_
      refine jv_bipush (v := 40) dX8_sheet_54 (by decide) ?_
      refine jw_ic_le (tgt := 65) dX8_sheet_56 rfl (fun c56 => ?_) (fun c56 => ?_)
      · refine jv_aloadn (j := 0) dX8_sheet_65 rfl ?_
        refine hv_getR dX8_sheet_66 fl8_31 at_MO_0 rfl ?_
        refine jv_iloadn (j := 1) dX8_sheet_69 rfl ?_
        refine jv_iloadn (j := 2) dX8_sheet_70 rfl ?_
        refine hv_iastC dX8_sheet_71 at_MO_8 (fun _ => ?_)
        refine vf_letM (fun M62 => ?_)
        refine jv_aloadn (j := 0) dX8_sheet_72 rfl ?_
        refine hv_getR dX8_sheet_73 fl8_34 at_MO_0 rfl ?_
        refine jv_iloadn (j := 1) dX8_sheet_76 rfl ?_
        refine jv_iloadn (j := 2) dX8_sheet_77 rfl ?_
        refine jw_if_ne (tgt := 85) dX8_sheet_78 rfl (fun c78 => ?_) (fun c78 => ?_)
        · refine jv_iconst (v := 0) dX8_sheet_81 (by decide) ?_
          refine jv_goto (tgt := 86) dX8_sheet_82 rfl ?_
          refine hv_iastC dX8_sheet_86 at_MO_9 (fun _ => ?_)
          refine vf_letM (fun M63 => ?_)
          refine jv_iconst (v := 0) dX8_sheet_87 (by decide) ?_
          refine jv_istore (L' := [(4, .int 0), (0, .ref (V.1 0)), (1, .int x1), (2, .int x2), (3, .int x3)]) dX8_sheet_88 (Nat.le_of_ble_eq_true rfl) rfl ?_
          refine vl_b1 (P := fun (Ml : pm_M) => pm_J X V mX8_sheet 3 (pm_wld V skD Ml) 116 [] []) (vf_j (fun g => jr_sub [1, 2, 0] rfl g) (wl_X8_sheet_90 x1  0 M63)) ?_
          intro M64
          refine jv_iconst (v := 1) dX8_sheet_116 (by decide) ?_
          exact vf_ret dX8_sheet_117 rfl
        refine jv_iloadn (j := 3) dX8_sheet_85 rfl ?_
        refine hv_iastC dX8_sheet_86 at_MO_9 (fun _ => ?_)
        refine vf_letM (fun M65 => ?_)
        refine jv_iconst (v := 0) dX8_sheet_87 (by decide) ?_
        refine jv_istore (L' := [(4, .int 0), (0, .ref (V.1 0)), (1, .int x1), (2, .int x2), (3, .int x3)]) dX8_sheet_88 (Nat.le_of_ble_eq_true rfl) rfl ?_
        refine vl_b1 (P := fun (Ml : pm_M) => pm_J X V mX8_sheet 3 (pm_wld V skD Ml) 116 [] []) (vf_j (fun g => jr_sub [1, 2, 0] rfl g) (wl_X8_sheet_90 x1  0 M65)) ?_
        intro M66
        refine jv_iconst (v := 1) dX8_sheet_116 (by decide) ?_
        exact vf_ret dX8_sheet_117 rfl
      refine jv_aloadn (j := 0) dX8_sheet_59 rfl ?_
      refine jv_iconst (v := 1) dX8_sheet_60 (by decide) ?_
      refine hv_callI (As := [.int 1]) dX8_sheet_61 lk8_107 kX8_finds nX8_finds (Nat.le_of_ble_eq_true rfl) (Nat.le_of_ble_eq_true rfl) at_MO_0 rfl rfl rfl (fun _ _ e l => c_X8_finds  e l V) ?_
      intro r68 M67
      exact vf_ret dX8_sheet_64 rfl
    refine jv_iloadn (j := 3) dX8_sheet_39 rfl ?_
    refine jw_if_ge (tgt := 49) dX8_sheet_40 rfl (fun c40 => ?_) (fun c40 => ?_)
    · refine jv_iloadn (j := 2) dX8_sheet_49 rfl ?_
      refine jw_if_eq (tgt := 65) dX8_sheet_50 rfl (fun c50 => ?_) (fun c50 => ?_)
      · refine jv_aloadn (j := 0) dX8_sheet_65 rfl ?_
        refine hv_getR dX8_sheet_66 fl8_31 at_MO_0 rfl ?_
        refine jv_iloadn (j := 1) dX8_sheet_69 rfl ?_
        refine jv_iloadn (j := 2) dX8_sheet_70 rfl ?_
        refine hv_iastC dX8_sheet_71 at_MO_8 (fun _ => ?_)
        refine vf_letM (fun M69 => ?_)
        refine jv_aloadn (j := 0) dX8_sheet_72 rfl ?_
        refine hv_getR dX8_sheet_73 fl8_34 at_MO_0 rfl ?_
        refine jv_iloadn (j := 1) dX8_sheet_76 rfl ?_
        refine jv_iloadn (j := 2) dX8_sheet_77 rfl ?_
        refine jw_if_ne (tgt := 85) dX8_sheet_78 rfl (fun c78 => ?_) (fun c78 => ?_)
        · refine jv_iconst (v := 0) dX8_sheet_81 (by decide) ?_
          refine jv_goto (tgt := 86) dX8_sheet_82 rfl ?_
          refine hv_iastC dX8_sheet_86 at_MO_9 (fun _ => ?_)
          refine vf_letM (fun M70 => ?_)
          refine jv_iconst (v := 0) dX8_sheet_87 (by decide) ?_
          refine jv_istore (L' := [(4, .int 0), (0, .ref (V.1 0)), (1, .int x1), (2, .int x2), (3, .int x3)]) dX8_sheet_88 (Nat.le_of_ble_eq_true rfl) rfl ?_
          refine vl_b1 (P := fun (Ml : pm_M) => pm_J X V mX8_sheet 3 (pm_wld V skD Ml) 116 [] []) (vf_j (fun g => jr_sub [1, 2, 0] rfl g) (wl_X8_sheet_90 x1  0 M70)) ?_
          intro M71
          refine jv_iconst (v := 1) dX8_sheet_116 (by decide) ?_
          exact vf_ret dX8_sheet_117 rfl
        refine jv_iloadn (j := 3) dX8_sheet_85 rfl ?_
        refine hv_iastC dX8_sheet_86 at_MO_9 (fun _ => ?_)
        refine vf_letM (fun M72 => ?_)
        refine jv_iconst (v := 0) dX8_sheet_87 (by decide) ?_
        refine jv_istore (L' := [(4, .int 0), (0, .ref (V.1 0)), (1, .int x1), (2, .int x2), (3, .int x3)]) dX8_sheet_88 (Nat.le_of_ble_eq_true rfl) rfl ?_
        refine vl_b1 (P := fun (Ml : pm_M) => pm_J X V mX8_sheet 3 (pm_wld V skD Ml) 116 [] []) (vf_j (fun g => jr_sub [1, 2, 0] rfl g) (wl_X8_sheet_90 x1  0 M72)) ?_
        intro M73
        refine jv_iconst (v := 1) dX8_sheet_116 (by decide) ?_
        exact vf_ret dX8_sheet_117 rfl
      refine jv_iloadn (j := 3) dX8_sheet_53 rfl ?_
      refine jv_bipush (v := 40) dX8_sheet_54 (by decide) ?_
      refine jw_ic_le (tgt := 65) dX8_sheet_56 rfl (fun c56 => ?_) (fun c56 => ?_)
      · refine jv_aloadn (j := 0) dX8_sheet_65 rfl ?_
        refine hv_getR dX8_sheet_66 fl8_31 at_MO_0 rfl ?_
        refine jv_iloadn (j := 1) dX8_sheet_69 rfl ?_
        refine jv_iloadn (j := 2) dX8_sheet_70 rfl ?_
        refine hv_iastC dX8_sheet_71 at_MO_8 (fun _ => ?_)
        refine vf_letM (fun M74 => ?_)
        refine jv_aloadn (j := 0) dX8_sheet_72 rfl ?_
        refine hv_getR dX8_sheet_73 fl8_34 at_MO_0 rfl ?_
        refine jv_iloadn (j := 1) dX8_sheet_76 rfl ?_
        refine jv_iloadn (j := 2) dX8_sheet_77 rfl ?_
        refine jw_if_ne (tgt := 85) dX8_sheet_78 rfl (fun c78 => ?_) (fun c78 => ?_)
        · refine jv_iconst (v := 0) dX8_sheet_81 (by decide) ?_
          refine jv_goto (tgt := 86) dX8_sheet_82 rfl ?_
          refine hv_iastC dX8_sheet_86 at_MO_9 (fun _ => ?_)
          refine vf_letM (fun M75 => ?_)
          refine jv_iconst (v := 0) dX8_sheet_87 (by decide) ?_
          refine jv_istore (L' := [(4, .int 0), (0, .ref (V.1 0)), (1, .int x1), (2, .int x2), (3, .int x3)]) dX8_sheet_88 (Nat.le_of_ble_eq_true rfl) rfl ?_
          refine vl_b1 (P := fun (Ml : pm_M) => pm_J X V mX8_sheet 3 (pm_wld V skD Ml) 116 [] []) (vf_j (fun g => jr_sub [1, 2, 0] rfl g) (wl_X8_sheet_90 x1  0 M75)) ?_
          intro M76
          refine jv_iconst (v := 1) dX8_sheet_116 (by decide) ?_
          exact vf_ret dX8_sheet_117 rfl
        refine jv_iloadn (j := 3) dX8_sheet_85 rfl ?_
        refine hv_iastC dX8_sheet_86 at_MO_9 (fun _ => ?_)
        refine vf_letM (fun M77 => ?_)
        refine jv_iconst (v := 0) dX8_sheet_87 (by decide) ?_
        refine jv_istore (L' := [(4, .int 0), (0, .ref (V.1 0)), (1, .int x1), (2, .int x2), (3, .int x3)]) dX8_sheet_88 (Nat.le_of_ble_eq_true rfl) rfl ?_
        refine vl_b1 (P := fun (Ml : pm_M) => pm_J X V mX8_sheet 3 (pm_wld V skD Ml) 116 [] []) (vf_j (fun g => jr_sub [1, 2, 0] rfl g) (wl_X8_sheet_90 x1  0 M77)) ?_
        intro M78
        refine jv_iconst (v := 1) dX8_sheet_116 (by decide) ?_
        exact vf_ret dX8_sheet_117 rfl
      refine jv_aloadn (j := 0) dX8_sheet_59 rfl ?_
      refine jv_iconst (v := 1) dX8_sheet_60 (by decide) ?_
      refine hv_callI (As := [.int 1]) dX8_sheet_61 lk8_107 kX8_finds nX8_finds (Nat.le_of_ble_eq_true rfl) (Nat.le_of_ble_eq_true rfl) at_MO_0 rfl rfl rfl (fun _ _ e l => c_X8_finds  e l V) ?_
      intro r80 M79
      exact vf_ret dX8_sheet_64 rfl
    refine jv_aloadn (j := 0) dX8_sheet_43 rfl ?_
    refine jv_iconst (v := 3) dX8_sheet_44 (by decide) ?_
    refine hv_callI (As := [.int 3]) dX8_sheet_45 lk8_107 kX8_finds nX8_finds (Nat.le_of_ble_eq_true rfl) (Nat.le_of_ble_eq_true rfl) at_MO_0 rfl rfl rfl (fun _ _ e l => c_X8_finds  e l V) ?_
    intro r82 M81
    exact vf_ret dX8_sheet_48 rfl
  refine jv_iloadn (j := 2) dX8_sheet_23 rfl ?_
  refine jv_bipush (v := 32) dX8_sheet_24 (by decide) ?_
  refine jw_ic_eq (tgt := 35) dX8_sheet_26 rfl (fun c26 => ?_) (fun c26 => ?_)
  · refine jv_iloadn (j := 2) dX8_sheet_35 rfl ?_
    refine jw_if_eq (tgt := 49) dX8_sheet_36 rfl (fun c36 => ?_) (fun c36 => ?_)
    · refine jv_iloadn (j := 2) dX8_sheet_49 rfl ?_
      refine jw_if_eq (tgt := 65) dX8_sheet_50 rfl (fun c50 => ?_) (fun c50 => ?_)
      · refine jv_aloadn (j := 0) dX8_sheet_65 rfl ?_
        refine hv_getR dX8_sheet_66 fl8_31 at_MO_0 rfl ?_
        refine jv_iloadn (j := 1) dX8_sheet_69 rfl ?_
        refine jv_iloadn (j := 2) dX8_sheet_70 rfl ?_
        refine hv_iastC dX8_sheet_71 at_MO_8 (fun _ => ?_)
        refine vf_letM (fun M83 => ?_)
        refine jv_aloadn (j := 0) dX8_sheet_72 rfl ?_
        refine hv_getR dX8_sheet_73 fl8_34 at_MO_0 rfl ?_
        refine jv_iloadn (j := 1) dX8_sheet_76 rfl ?_
        refine jv_iloadn (j := 2) dX8_sheet_77 rfl ?_
        refine jw_if_ne (tgt := 85) dX8_sheet_78 rfl (fun c78 => ?_) (fun c78 => ?_)
        · refine jv_iconst (v := 0) dX8_sheet_81 (by decide) ?_
          refine jv_goto (tgt := 86) dX8_sheet_82 rfl ?_
          refine hv_iastC dX8_sheet_86 at_MO_9 (fun _ => ?_)
          refine vf_letM (fun M84 => ?_)
          refine jv_iconst (v := 0) dX8_sheet_87 (by decide) ?_
          refine jv_istore (L' := [(4, .int 0), (0, .ref (V.1 0)), (1, .int x1), (2, .int x2), (3, .int x3)]) dX8_sheet_88 (Nat.le_of_ble_eq_true rfl) rfl ?_
          refine vl_b1 (P := fun (Ml : pm_M) => pm_J X V mX8_sheet 3 (pm_wld V skD Ml) 116 [] []) (vf_j (fun g => jr_sub [1, 2, 0] rfl g) (wl_X8_sheet_90 x1  0 M84)) ?_
          intro M85
          refine jv_iconst (v := 1) dX8_sheet_116 (by decide) ?_
          exact vf_ret dX8_sheet_117 rfl
        refine jv_iloadn (j := 3) dX8_sheet_85 rfl ?_
        refine hv_iastC dX8_sheet_86 at_MO_9 (fun _ => ?_)
        refine vf_letM (fun M86 => ?_)
        refine jv_iconst (v := 0) dX8_sheet_87 (by decide) ?_
        refine jv_istore (L' := [(4, .int 0), (0, .ref (V.1 0)), (1, .int x1), (2, .int x2), (3, .int x3)]) dX8_sheet_88 (Nat.le_of_ble_eq_true rfl) rfl ?_
        refine vl_b1 (P := fun (Ml : pm_M) => pm_J X V mX8_sheet 3 (pm_wld V skD Ml) 116 [] []) (vf_j (fun g => jr_sub [1, 2, 0] rfl g) (wl_X8_sheet_90 x1  0 M86)) ?_
        intro M87
        refine jv_iconst (v := 1) dX8_sheet_116 (by decide) ?_
        exact vf_ret dX8_sheet_117 rfl
      refine jv_iloadn (j := 3) dX8_sheet_53 rfl ?_
      refine jv_bipush (v := 40) dX8_sheet_54 (by decide) ?_
      refine jw_ic_le (tgt := 65) dX8_sheet_56 rfl (fun c56 => ?_) (fun c56 => ?_)
      · refine jv_aloadn (j := 0) dX8_sheet_65 rfl ?_
        refine hv_getR dX8_sheet_66 fl8_31 at_MO_0 rfl ?_
        refine jv_iloadn (j := 1) dX8_sheet_69 rfl ?_
        refine jv_iloadn (j := 2) dX8_sheet_70 rfl ?_
        refine hv_iastC dX8_sheet_71 at_MO_8 (fun _ => ?_)
        refine vf_letM (fun M88 => ?_)
        refine jv_aloadn (j := 0) dX8_sheet_72 rfl ?_
        refine hv_getR dX8_sheet_73 fl8_34 at_MO_0 rfl ?_
        refine jv_iloadn (j := 1) dX8_sheet_76 rfl ?_
        refine jv_iloadn (j := 2) dX8_sheet_77 rfl ?_
        refine jw_if_ne (tgt := 85) dX8_sheet_78 rfl (fun c78 => ?_) (fun c78 => ?_)
        · refine jv_iconst (v := 0) dX8_sheet_81 (by decide) ?_
          refine jv_goto (tgt := 86) dX8_sheet_82 rfl ?_
          refine hv_iastC dX8_sheet_86 at_MO_9 (fun _ => ?_)
          refine vf_letM (fun M89 => ?_)
          refine jv_iconst (v := 0) dX8_sheet_87 (by decide) ?_
          refine jv_istore (L' := [(4, .int 0), (0, .ref (V.1 0)), (1, .int x1), (2, .int x2), (3, .int x3)]) dX8_sheet_88 (Nat.le_of_ble_eq_true rfl) rfl ?_
          refine vl_b1 (P := fun (Ml : pm_M) => pm_J X V mX8_sheet 3 (pm_wld V skD Ml) 116 [] []) (vf_j (fun g => jr_sub [1, 2, 0] rfl g) (wl_X8_sheet_90 x1  0 M89)) ?_
          intro M90
          refine jv_iconst (v := 1) dX8_sheet_116 (by decide) ?_
          exact vf_ret dX8_sheet_117 rfl
        refine jv_iloadn (j := 3) dX8_sheet_85 rfl ?_
        refine hv_iastC dX8_sheet_86 at_MO_9 (fun _ => ?_)
        refine vf_letM (fun M91 => ?_)
        refine jv_iconst (v := 0) dX8_sheet_87 (by decide) ?_
        refine jv_istore (L' := [(4, .int 0), (0, .ref (V.1 0)), (1, .int x1), (2, .int x2), (3, .int x3)]) dX8_sheet_88 (Nat.le_of_ble_eq_true rfl) rfl ?_
        refine vl_b1 (P := fun (Ml : pm_M) => pm_J X V mX8_sheet 3 (pm_wld V skD Ml) 116 [] []) (vf_j (fun g => jr_sub [1, 2, 0] rfl g) (wl_X8_sheet_90 x1  0 M91)) ?_
        intro M92
        refine jv_iconst (v := 1) dX8_sheet_116 (by decide) ?_
        exact vf_ret dX8_sheet_117 rfl
      refine jv_aloadn (j := 0) dX8_sheet_59 rfl ?_
      refine jv_iconst (v := 1) dX8_sheet_60 (by decide) ?_
      refine hv_callI (As := [.int 1]) dX8_sheet_61 lk8_107 kX8_finds nX8_finds (Nat.le_of_ble_eq_true rfl) (Nat.le_of_ble_eq_true rfl) at_MO_0 rfl rfl rfl (fun _ _ e l => c_X8_finds  e l V) ?_
      intro r94 M93
      exact vf_ret dX8_sheet_64 rfl
    refine jv_iloadn (j := 3) dX8_sheet_39 rfl ?_
    refine jw_if_ge (tgt := 49) dX8_sheet_40 rfl (fun c40 => ?_) (fun c40 => ?_)
    · refine jv_iloadn (j := 2) dX8_sheet_49 rfl ?_
      refine jw_if_eq (tgt := 65) dX8_sheet_50 rfl (fun c50 => ?_) (fun c50 => ?_)
      · refine jv_aloadn (j := 0) dX8_sheet_65 rfl ?_
        refine hv_getR dX8_sheet_66 fl8_31 at_MO_0 rfl ?_
        refine jv_iloadn (j := 1) dX8_sheet_69 rfl ?_
        refine jv_iloadn (j := 2) dX8_sheet_70 rfl ?_
        refine hv_iastC dX8_sheet_71 at_MO_8 (fun _ => ?_)
        refine vf_letM (fun M95 => ?_)
        refine jv_aloadn (j := 0) dX8_sheet_72 rfl ?_
        refine hv_getR dX8_sheet_73 fl8_34 at_MO_0 rfl ?_
        refine jv_iloadn (j := 1) dX8_sheet_76 rfl ?_
        refine jv_iloadn (j := 2) dX8_sheet_77 rfl ?_
        refine jw_if_ne (tgt := 85) dX8_sheet_78 rfl (fun c78 => ?_) (fun c78 => ?_)
        · refine jv_iconst (v := 0) dX8_sheet_81 (by decide) ?_
          refine jv_goto (tgt := 86) dX8_sheet_82 rfl ?_
          refine hv_iastC dX8_sheet_86 at_MO_9 (fun _ => ?_)
          refine vf_letM (fun M96 => ?_)
          refine jv_iconst (v := 0) dX8_sheet_87 (by decide) ?_
          refine jv_istore (L' := [(4, .int 0), (0, .ref (V.1 0)), (1, .int x1), (2, .int x2), (3, .int x3)]) dX8_sheet_88 (Nat.le_of_ble_eq_true rfl) rfl ?_
          refine vl_b1 (P := fun (Ml : pm_M) => pm_J X V mX8_sheet 3 (pm_wld V skD Ml) 116 [] []) (vf_j (fun g => jr_sub [1, 2, 0] rfl g) (wl_X8_sheet_90 x1  0 M96)) ?_
          intro M97
          refine jv_iconst (v := 1) dX8_sheet_116 (by decide) ?_
          exact vf_ret dX8_sheet_117 rfl
        refine jv_iloadn (j := 3) dX8_sheet_85 rfl ?_
        refine hv_iastC dX8_sheet_86 at_MO_9 (fun _ => ?_)
        refine vf_letM (fun M98 => ?_)
        refine jv_iconst (v := 0) dX8_sheet_87 (by decide) ?_
        refine jv_istore (L' := [(4, .int 0), (0, .ref (V.1 0)), (1, .int x1), (2, .int x2), (3, .int x3)]) dX8_sheet_88 (Nat.le_of_ble_eq_true rfl) rfl ?_
        refine vl_b1 (P := fun (Ml : pm_M) => pm_J X V mX8_sheet 3 (pm_wld V skD Ml) 116 [] []) (vf_j (fun g => jr_sub [1, 2, 0] rfl g) (wl_X8_sheet_90 x1  0 M98)) ?_
        intro M99
        refine jv_iconst (v := 1) dX8_sheet_116 (by decide) ?_
        exact vf_ret dX8_sheet_117 rfl
      refine jv_iloadn (j := 3) dX8_sheet_53 rfl ?_
      refine jv_bipush (v := 40) dX8_sheet_54 (by decide) ?_
      refine jw_ic_le (tgt := 65) dX8_sheet_56 rfl (fun c56 => ?_) (fun c56 => ?_)
      · refine jv_aloadn (j := 0) dX8_sheet_65 rfl ?_
        refine hv_getR dX8_sheet_66 fl8_31 at_MO_0 rfl ?_
        refine jv_iloadn (j := 1) dX8_sheet_69 rfl ?_
        refine jv_iloadn (j := 2) dX8_sheet_70 rfl ?_
        refine hv_iastC dX8_sheet_71 at_MO_8 (fun _ => ?_)
        refine vf_letM (fun M100 => ?_)
        refine jv_aloadn (j := 0) dX8_sheet_72 rfl ?_
        refine hv_getR dX8_sheet_73 fl8_34 at_MO_0 rfl ?_
        refine jv_iloadn (j := 1) dX8_sheet_76 rfl ?_
        refine jv_iloadn (j := 2) dX8_sheet_77 rfl ?_
        refine jw_if_ne (tgt := 85) dX8_sheet_78 rfl (fun c78 => ?_) (fun c78 => ?_)
        · refine jv_iconst (v := 0) dX8_sheet_81 (by decide) ?_
          refine jv_goto (tgt := 86) dX8_sheet_82 rfl ?_
          refine hv_iastC dX8_sheet_86 at_MO_9 (fun _ => ?_)
          refine vf_letM (fun M101 => ?_)
          refine jv_iconst (v := 0) dX8_sheet_87 (by decide) ?_
          refine jv_istore (L' := [(4, .int 0), (0, .ref (V.1 0)), (1, .int x1), (2, .int x2), (3, .int x3)]) dX8_sheet_88 (Nat.le_of_ble_eq_true rfl) rfl ?_
          refine vl_b1 (P := fun (Ml : pm_M) => pm_J X V mX8_sheet 3 (pm_wld V skD Ml) 116 [] []) (vf_j (fun g => jr_sub [1, 2, 0] rfl g) (wl_X8_sheet_90 x1  0 M101)) ?_
          intro M102
          refine jv_iconst (v := 1) dX8_sheet_116 (by decide) ?_
          exact vf_ret dX8_sheet_117 rfl
        refine jv_iloadn (j := 3) dX8_sheet_85 rfl ?_
        refine hv_iastC dX8_sheet_86 at_MO_9 (fun _ => ?_)
        refine vf_letM (fun M103 => ?_)
        refine jv_iconst (v := 0) dX8_sheet_87 (by decide) ?_
        refine jv_istore (L' := [(4, .int 0), (0, .ref (V.1 0)), (1, .int x1), (2, .int x2), (3, .int x3)]) dX8_sheet_88 (Nat.le_of_ble_eq_true rfl) rfl ?_
        refine vl_b1 (P := fun (Ml : pm_M) => pm_J X V mX8_sheet 3 (pm_wld V skD Ml) 116 [] []) (vf_j (fun g => jr_sub [1, 2, 0] rfl g) (wl_X8_sheet_90 x1  0 M103)) ?_
        intro M104
        refine jv_iconst (v := 1) dX8_sheet_116 (by decide) ?_
        exact vf_ret dX8_sheet_117 rfl
      refine jv_aloadn (j := 0) dX8_sheet_59 rfl ?_
      refine jv_iconst (v := 1) dX8_sheet_60 (by decide) ?_
      refine hv_callI (As := [.int 1]) dX8_sheet_61 lk8_107 kX8_finds nX8_finds (Nat.le_of_ble_eq_true rfl) (Nat.le_of_ble_eq_true rfl) at_MO_0 rfl rfl rfl (fun _ _ e l => c_X8_finds  e l V) ?_
      intro r106 M105
      exact vf_ret dX8_sheet_64 rfl
    refine jv_aloadn (j := 0) dX8_sheet_43 rfl ?_
    refine jv_iconst (v := 3) dX8_sheet_44 (by decide) ?_
    refine hv_callI (As := [.int 3]) dX8_sheet_45 lk8_107 kX8_finds nX8_finds (Nat.le_of_ble_eq_true rfl) (Nat.le_of_ble_eq_true rfl) at_MO_0 rfl rfl rfl (fun _ _ e l => c_X8_finds  e l V) ?_
    intro r108 M107
    exact vf_ret dX8_sheet_48 rfl
  refine jv_aloadn (j := 0) dX8_sheet_29 rfl ?_
  refine jv_iconst (v := 1) dX8_sheet_30 (by decide) ?_
  refine hv_callI (As := [.int 1]) dX8_sheet_31 lk8_107 kX8_finds nX8_finds (Nat.le_of_ble_eq_true rfl) (Nat.le_of_ble_eq_true rfl) at_MO_0 rfl rfl rfl (fun _ _ e l => c_X8_finds  e l V) ?_
  intro r110 M109
  exact vf_ret dX8_sheet_34 rfl
theorem c_X8_sheet {M : pm_M} {x1 : Int32} {x2 : Int32} {x3 : Int32}  {r : Int32} {M' : pm_M} (h : f_X8_sheet M x1 x2 x3 = some (r, M')) (l : Launch) (V : pm_V) : pm_Ci l V skD yX8_sheet mX8_sheet 3 [.ref (V.1 0), .int x1, .int x2, .int x3] M r M' := pm_metI (by decide) rfl (Nat.le_of_ble_eq_true rfl) h (fun _ => w_X8_sheet M x1 x2 x3 )
def f_X8_put (M : pm_M) (x1 : Int32) (x2 : Int32) (x3 : Int32) : Option (Int32 × pm_M) :=
  (pm_b2 (f_X8_isSheet M x1) (fun (r2 : Int32) (M1 : pm_M) => (if r2 = 0 then (pm_b2 (f_X8_finds M1 1) (fun (r4 : Int32) (M3 : pm_M) => (some (r4, M3)))) else (pm_chk (pm_in x1 4) (if (M1 8 x1.toNatClampNeg) = 0 then (pm_b2 (f_X8_finds M1 2) (fun (r6 : Int32) (M5 : pm_M) => (some (r6, M5)))) else (pm_chk (pm_in x1 4) (pm_b2 (f_X8_in M1 (x2.toInt64) 0 (((M1 9 x1.toNatClampNeg) - 1).toInt64)) (fun (r8 : Int32) (M7 : pm_M) => (if r8 = 0 then (pm_b2 (f_X8_finds M7 1) (fun (r10 : Int32) (M9 : pm_M) => (some (r10, M9)))) else (pm_chk (pm_in x1 4) (if (M7 8 x1.toNatClampNeg) = 8 then (pm_chk (pm_in ((40 * x1) + x2) 160) (pm_let (pm_up M7 10 ((40 * x1) + x2).toNatClampNeg (x3.toInt8.toInt32)) (fun M11 : pm_M => (some (1, M11))))) else (pm_chk (pm_in x1 4) (if (M7 8 x1.toNatClampNeg) = 16 then (pm_chk (pm_in ((40 * x1) + x2) 160) (pm_let (pm_up M7 10 ((40 * x1) + x2).toNatClampNeg (x3.toInt16.toInt32)) (fun M12 : pm_M => (some (1, M12))))) else (pm_chk (pm_in ((40 * x1) + x2) 160) (pm_let (pm_up M7 10 ((40 * x1) + x2).toNatClampNeg x3) (fun M13 : pm_M => (some (1, M13))))))))))))))))))
set_option maxHeartbeats 4000000 in
set_option maxRecDepth 100000 in
theorem w_X8_put {X : pm_X} {V : pm_V} (M : pm_M) (x1 : Int32) (x2 : Int32) (x3 : Int32)  : pm_VF (f_X8_put M x1 x2 x3) (pm_K X V mX8_put 3 skD) (pm_J X V mX8_put 3 (pm_wld V skD M) 0 [(0, .ref (V.1 0)), (1, .int x1), (2, .int x2), (3, .int x3)] []) := by
  unfold f_X8_put
  refine jv_iloadn (j := 1) dX8_put_0 rfl ?_
  refine hv_callS (As := [.int x1]) dX8_put_1 lk8_217 kX8_isSheet nX8_isSheet (Nat.le_of_ble_eq_true rfl) (Nat.le_of_ble_eq_true rfl) rfl (fun _ _ e l => c_X8_isSheet  e l V) ?_
  intro r2 M1
  refine jw_if_ne (tgt := 13) dX8_put_4 rfl (fun c4 => ?_) (fun c4 => ?_)
  · refine jv_aloadn (j := 0) dX8_put_7 rfl ?_
    refine jv_iconst (v := 1) dX8_put_8 (by decide) ?_
    refine hv_callI (As := [.int 1]) dX8_put_9 lk8_107 kX8_finds nX8_finds (Nat.le_of_ble_eq_true rfl) (Nat.le_of_ble_eq_true rfl) at_MO_0 rfl rfl rfl (fun _ _ e l => c_X8_finds  e l V) ?_
    intro r4 M3
    exact vf_ret dX8_put_12 rfl
  refine jv_aloadn (j := 0) dX8_put_13 rfl ?_
  refine hv_getR dX8_put_14 fl8_31 at_MO_0 rfl ?_
  refine jv_iloadn (j := 1) dX8_put_17 rfl ?_
  refine hv_ialdC dX8_put_18 at_MO_8 (fun _ => ?_)
  refine jw_if_ne (tgt := 28) dX8_put_19 rfl (fun c19 => ?_) (fun c19 => ?_)
  · refine jv_aloadn (j := 0) dX8_put_22 rfl ?_
    refine jv_iconst (v := 2) dX8_put_23 (by decide) ?_
    refine hv_callI (As := [.int 2]) dX8_put_24 lk8_107 kX8_finds nX8_finds (Nat.le_of_ble_eq_true rfl) (Nat.le_of_ble_eq_true rfl) at_MO_0 rfl rfl rfl (fun _ _ e l => c_X8_finds  e l V) ?_
    intro r6 M5
    exact vf_ret dX8_put_27 rfl
  refine jv_iloadn (j := 2) dX8_put_28 rfl ?_
  refine jv_i2l dX8_put_29 ?_
  refine jv_lconst (v := 0) dX8_put_30 (by decide) ?_
  refine jv_aloadn (j := 0) dX8_put_31 rfl ?_
  refine hv_getR dX8_put_32 fl8_34 at_MO_0 rfl ?_
  refine jv_iloadn (j := 1) dX8_put_35 rfl ?_
  refine hv_ialdC dX8_put_36 at_MO_9 (fun _ => ?_)
  refine jv_iconst (v := 1) dX8_put_37 (by decide) ?_
  refine jv_isub dX8_put_38 ?_
  refine jv_i2l dX8_put_39 ?_
  refine hv_callS (As := [.long (x2.toInt64), .long 0, .long (((M1 9 x1.toNatClampNeg) - 1).toInt64)]) dX8_put_40 lk8_44 kX8_in nX8_in (Nat.le_of_ble_eq_true rfl) (Nat.le_of_ble_eq_true rfl) rfl (fun _ _ e l => c_X8_in  e l V) ?_
  intro r8 M7
  refine jw_if_ne (tgt := 52) dX8_put_43 rfl (fun c43 => ?_) (fun c43 => ?_)
  · refine jv_aloadn (j := 0) dX8_put_46 rfl ?_
    refine jv_iconst (v := 1) dX8_put_47 (by decide) ?_
    refine hv_callI (As := [.int 1]) dX8_put_48 lk8_107 kX8_finds nX8_finds (Nat.le_of_ble_eq_true rfl) (Nat.le_of_ble_eq_true rfl) at_MO_0 rfl rfl rfl (fun _ _ e l => c_X8_finds  e l V) ?_
    intro r10 M9
    exact vf_ret dX8_put_51 rfl
  refine jv_aloadn (j := 0) dX8_put_52 rfl ?_
  refine hv_getR dX8_put_53 fl8_37 at_MO_0 rfl ?_
  refine jv_bipush (v := 40) dX8_put_56 (by decide) ?_
  refine jv_iloadn (j := 1) dX8_put_58 rfl ?_
  refine jv_imul dX8_put_59 ?_
  refine jv_iloadn (j := 2) dX8_put_60 rfl ?_
  refine jv_iadd dX8_put_61 ?_
  refine jv_aloadn (j := 0) dX8_put_62 rfl ?_
  refine hv_getR dX8_put_63 fl8_31 at_MO_0 rfl ?_
  refine jv_iloadn (j := 1) dX8_put_66 rfl ?_
  refine hv_ialdC dX8_put_67 at_MO_8 (fun _ => ?_)
  refine jv_bipush (v := 8) dX8_put_68 (by decide) ?_
  refine jw_ic_ne (tgt := 78) dX8_put_70 rfl (fun c70 => ?_) (fun c70 => ?_)
  · refine jv_iloadn (j := 3) dX8_put_73 rfl ?_
    refine jv_i2b dX8_put_74 ?_
    refine jv_goto (tgt := 95) dX8_put_75 rfl ?_
    refine hv_iastC dX8_put_95 at_MO_10 (fun _ => ?_)
    refine vf_letM (fun M11 => ?_)
    refine jv_iconst (v := 1) dX8_put_96 (by decide) ?_
    exact vf_ret dX8_put_97 rfl
  refine jv_aloadn (j := 0) dX8_put_78 rfl ?_
  refine hv_getR dX8_put_79 fl8_31 at_MO_0 rfl ?_
  refine jv_iloadn (j := 1) dX8_put_82 rfl ?_
  refine hv_ialdC dX8_put_83 at_MO_8 (fun _ => ?_)
  refine jv_bipush (v := 16) dX8_put_84 (by decide) ?_
  refine jw_ic_ne (tgt := 94) dX8_put_86 rfl (fun c86 => ?_) (fun c86 => ?_)
  · refine jv_iloadn (j := 3) dX8_put_89 rfl ?_
    refine jv_i2s dX8_put_90 ?_
    refine jv_goto (tgt := 95) dX8_put_91 rfl ?_
    refine hv_iastC dX8_put_95 at_MO_10 (fun _ => ?_)
    refine vf_letM (fun M12 => ?_)
    refine jv_iconst (v := 1) dX8_put_96 (by decide) ?_
    exact vf_ret dX8_put_97 rfl
  refine jv_iloadn (j := 3) dX8_put_94 rfl ?_
  refine hv_iastC dX8_put_95 at_MO_10 (fun _ => ?_)
  refine vf_letM (fun M13 => ?_)
  refine jv_iconst (v := 1) dX8_put_96 (by decide) ?_
  exact vf_ret dX8_put_97 rfl
theorem c_X8_put {M : pm_M} {x1 : Int32} {x2 : Int32} {x3 : Int32}  {r : Int32} {M' : pm_M} (h : f_X8_put M x1 x2 x3 = some (r, M')) (l : Launch) (V : pm_V) : pm_Ci l V skD yX8_put mX8_put 3 [.ref (V.1 0), .int x1, .int x2, .int x3] M r M' := pm_metI (by decide) rfl (Nat.le_of_ble_eq_true rfl) h (fun _ => w_X8_put M x1 x2 x3 )
def lb_X8_move_115 (x1 : Int32) (x2 : Int32) (x3 : Int32) (x4 : Int32) (x5 : Int32) (ih : Int32 → pm_M → Option (pm_M)) : Int32 → pm_M → Option (pm_M) := fun (l6 : Int32) (Ml : pm_M) =>
  (if x5 ≤ l6 then (some Ml) else (pm_chk (pm_in (((40 * x1) + x2) + l6) 160) (pm_chk (pm_in l6 40) (pm_let (pm_up Ml 11 l6.toNatClampNeg (Ml 10 (((40 * x1) + x2) + l6).toNatClampNeg)) (fun M116002 : pm_M => (ih (l6 + 1) M116002))))))
def lp_X8_move_115 (x1 : Int32) (x2 : Int32) (x3 : Int32) (x4 : Int32) (x5 : Int32) : Int32 → pm_M → Option (pm_M) := pm_it (fun _ _ => none) (lb_X8_move_115 x1 x2 x3 x4 x5) pm_F
def lb_X8_move_152 (x3 : Int32) (x4 : Int32) (x5 : Int32) (ih : Int32 → pm_M → Option (pm_M)) : Int32 → pm_M → Option (pm_M) := fun (l6 : Int32) (Ml : pm_M) =>
  (if x5 ≤ l6 then (some Ml) else (pm_chk (pm_in l6 40) (pm_chk (pm_in (((40 * x3) + x4) + l6) 160) (pm_let (pm_up Ml 10 (((40 * x3) + x4) + l6).toNatClampNeg (Ml 11 l6.toNatClampNeg)) (fun M153002 : pm_M => (ih (l6 + 1) M153002))))))
def lp_X8_move_152 (x3 : Int32) (x4 : Int32) (x5 : Int32) : Int32 → pm_M → Option (pm_M) := pm_it (fun _ _ => none) (lb_X8_move_152 x3 x4 x5) pm_F
def f_X8_move (M : pm_M) (x1 : Int32) (x2 : Int32) (x3 : Int32) (x4 : Int32) (x5 : Int32) : Option (Int32 × pm_M) :=
  (pm_b2 (f_X8_isSheet M x1) (fun (r2 : Int32) (M1 : pm_M) => (if r2 = 0 then (pm_b2 (f_X8_finds M1 1) (fun (r4 : Int32) (M3 : pm_M) => (some (r4, M3)))) else (pm_b2 (f_X8_isSheet M1 x3) (fun (r6 : Int32) (M5 : pm_M) => (if r6 = 0 then (pm_b2 (f_X8_finds M5 1) (fun (r8 : Int32) (M7 : pm_M) => (some (r8, M7)))) else (pm_chk (pm_in x1 4) (if (M5 8 x1.toNatClampNeg) = 0 then (pm_b2 (f_X8_finds M5 2) (fun (r10 : Int32) (M9 : pm_M) => (some (r10, M9)))) else (pm_chk (pm_in x3 4) (if (M5 8 x3.toNatClampNeg) = 0 then (pm_b2 (f_X8_finds M5 2) (fun (r12 : Int32) (M11 : pm_M) => (some (r12, M11)))) else (pm_chk (pm_in x1 4) (pm_chk (pm_in x3 4) (if (M5 8 x1.toNatClampNeg) = (M5 8 x3.toNatClampNeg) then (if x5 < 0 then (pm_b2 (f_X8_finds M5 1) (fun (r14 : Int32) (M13 : pm_M) => (some (r14, M13)))) else (if x2 < 0 then (pm_b2 (f_X8_finds M5 1) (fun (r16 : Int32) (M15 : pm_M) => (some (r16, M15)))) else (if x4 < 0 then (pm_b2 (f_X8_finds M5 1) (fun (r18 : Int32) (M17 : pm_M) => (some (r18, M17)))) else (pm_chk (pm_in x1 4) (if ((M5 9 x1.toNatClampNeg) - x2) < x5 then (pm_b2 (f_X8_finds M5 1) (fun (r20 : Int32) (M19 : pm_M) => (some (r20, M19)))) else (pm_chk (pm_in x3 4) (if x5 ≤ ((M5 9 x3.toNatClampNeg) - x4) then (pm_b1 (lp_X8_move_115 x1 x2 x3 x4 x5 0 M5) (fun (M21 : pm_M) => (pm_b1 (lp_X8_move_152 x3 x4 x5 0 M21) (fun (M22 : pm_M) => (some (x5, M22)))))) else (pm_b2 (f_X8_finds M5 1) (fun (r24 : Int32) (M23 : pm_M) => (some (r24, M23))))))))))) else (pm_b2 (f_X8_finds M5 5) (fun (r26 : Int32) (M25 : pm_M) => (some (r26, M25)))))))))))))))))
set_option maxHeartbeats 4000000 in
set_option maxRecDepth 100000 in
theorem wl_X8_move_115 {X : pm_X} {V : pm_V} (x1 : Int32) (x2 : Int32) (x3 : Int32) (x4 : Int32) (x5 : Int32)  : ∀ (l6 : Int32) (Ml : pm_M), pm_VF (lp_X8_move_115 x1 x2 x3 x4 x5 l6 Ml) (fun b => (fun (Ml : pm_M) => pm_J X V mX8_move 3 (pm_wld V skD Ml) 149 [(0, .ref (V.1 0)), (3, .int x3), (4, .int x4), (5, .int x5)] []) b) (pm_J X V mX8_move 3 (pm_wld V skD Ml) 115 [(0, .ref (V.1 0)), (1, .int x1), (2, .int x2), (3, .int x3), (4, .int x4), (5, .int x5), (6, .int l6)] []) := by
  refine pm_it_ind (P := fun (f : Int32 → pm_M → Option (pm_M)) => ∀ (l6 : Int32) (Ml : pm_M), pm_VF (f l6 Ml) (fun b => (fun (Ml : pm_M) => pm_J X V mX8_move 3 (pm_wld V skD Ml) 149 [(0, .ref (V.1 0)), (3, .int x3), (4, .int x4), (5, .int x5)] []) b) (pm_J X V mX8_move 3 (pm_wld V skD Ml) 115 [(0, .ref (V.1 0)), (1, .int x1), (2, .int x2), (3, .int x3), (4, .int x4), (5, .int x5), (6, .int l6)] [])) (fun _ _ => vf_none) (fun ih hih l6 Ml => ?_) pm_F
  · unfold lb_X8_move_115
    refine jv_iload (j := 6) dX8_move_115 rfl ?_
    refine jv_iload (j := 5) dX8_move_117 rfl ?_
    refine jw_ic_ge (tgt := 149) dX8_move_119 rfl (fun c119 => ?_) (fun c119 => ?_)
    · exact vf_end (fun g => jr_sub [0, 3, 4, 5] rfl g)
    refine jv_aloadn (j := 0) dX8_move_122 rfl ?_
    refine hv_getR dX8_move_123 fl8_40 at_MO_0 rfl ?_
    refine jv_iload (j := 6) dX8_move_126 rfl ?_
    refine jv_aloadn (j := 0) dX8_move_128 rfl ?_
    refine hv_getR dX8_move_129 fl8_37 at_MO_0 rfl ?_
    refine jv_bipush (v := 40) dX8_move_132 (by decide) ?_
    refine jv_iloadn (j := 1) dX8_move_134 rfl ?_
    refine jv_imul dX8_move_135 ?_
    refine jv_iloadn (j := 2) dX8_move_136 rfl ?_
    refine jv_iadd dX8_move_137 ?_
    refine jv_iload (j := 6) dX8_move_138 rfl ?_
    refine jv_iadd dX8_move_140 ?_
    refine hv_ialdC dX8_move_141 at_MO_10 (fun _ => ?_)
    refine hv_iastC dX8_move_142 at_MO_11 (fun _ => ?_)
    refine vf_letM (fun M116002 => ?_)
    refine jv_iinc (j := 6) (v := l6 + 1) (L' := [(6, .int (l6 + 1)), (0, .ref (V.1 0)), (1, .int x1), (2, .int x2), (3, .int x3), (4, .int x4), (5, .int x5)]) dX8_move_143 rfl rfl (Nat.le_of_ble_eq_true rfl) rfl ?_
    refine jv_goto (tgt := 115) dX8_move_146 rfl ?_
    exact vf_j (fun g => jr_sub [1, 2, 3, 4, 5, 6, 0] rfl g) (hih (l6 + 1) M116002)
set_option maxHeartbeats 4000000 in
set_option maxRecDepth 100000 in
theorem wl_X8_move_152 {X : pm_X} {V : pm_V} (x3 : Int32) (x4 : Int32) (x5 : Int32)  : ∀ (l6 : Int32) (Ml : pm_M), pm_VF (lp_X8_move_152 x3 x4 x5 l6 Ml) (fun b => (fun (Ml : pm_M) => pm_J X V mX8_move 3 (pm_wld V skD Ml) 187 [(5, .int x5)] []) b) (pm_J X V mX8_move 3 (pm_wld V skD Ml) 152 [(0, .ref (V.1 0)), (3, .int x3), (4, .int x4), (5, .int x5), (6, .int l6)] []) := by
  refine pm_it_ind (P := fun (f : Int32 → pm_M → Option (pm_M)) => ∀ (l6 : Int32) (Ml : pm_M), pm_VF (f l6 Ml) (fun b => (fun (Ml : pm_M) => pm_J X V mX8_move 3 (pm_wld V skD Ml) 187 [(5, .int x5)] []) b) (pm_J X V mX8_move 3 (pm_wld V skD Ml) 152 [(0, .ref (V.1 0)), (3, .int x3), (4, .int x4), (5, .int x5), (6, .int l6)] [])) (fun _ _ => vf_none) (fun ih hih l6 Ml => ?_) pm_F
  · unfold lb_X8_move_152
    refine jv_iload (j := 4) dX8_move_152 rfl ?_
    refine jv_iload (j := 3) dX8_move_154 rfl ?_
    refine jw_ic_ge (tgt := 187) dX8_move_156 rfl (fun c156 => ?_) (fun c156 => ?_)
    · exact vf_end (fun g => jr_sub [3] rfl g)
    refine jv_aloadn (j := 0) dX8_move_159 rfl ?_
    refine hv_getR dX8_move_160 fl8_37 at_MO_0 rfl ?_
    refine jv_bipush (v := 40) dX8_move_163 (by decide) ?_
    refine jv_iloadn (j := 1) dX8_move_165 rfl ?_
    refine jv_imul dX8_move_166 ?_
    refine jv_iload (j := 2) dX8_move_167 rfl ?_
    refine jv_iadd dX8_move_169 ?_
    refine jv_iload (j := 4) dX8_move_170 rfl ?_
    refine jv_iadd dX8_move_172 ?_
    refine jv_aloadn (j := 0) dX8_move_173 rfl ?_
    refine hv_getR dX8_move_174 fl8_40 at_MO_0 rfl ?_
    refine jv_iload (j := 4) dX8_move_177 rfl ?_
    refine hv_ialdC dX8_move_179 at_MO_11 (fun _ => ?_)
    refine hv_iastC dX8_move_180 at_MO_10 (fun _ => ?_)
    refine vf_letM (fun M153002 => ?_)
    refine jv_iinc (j := 4) (v := l6 + 1) (L' := [(6, .int (l6 + 1)), (0, .ref (V.1 0)), (3, .int x3), (4, .int x4), (5, .int x5)]) dX8_move_181 rfl rfl (Nat.le_of_ble_eq_true rfl) rfl ?_
    refine jv_goto (tgt := 152) dX8_move_184 rfl ?_
    exact vf_j (fun g => jr_sub [1, 2, 3, 4, 0] rfl g) (hih (l6 + 1) M153002)
set_option maxHeartbeats 4000000 in
set_option maxRecDepth 100000 in
theorem w_X8_move {X : pm_X} {V : pm_V} (M : pm_M) (x1 : Int32) (x2 : Int32) (x3 : Int32) (x4 : Int32) (x5 : Int32)  : pm_VF (f_X8_move M x1 x2 x3 x4 x5) (pm_K X V mX8_move 3 skD) (pm_J X V mX8_move 3 (pm_wld V skD M) 0 [(0, .ref (V.1 0)), (1, .int x1), (2, .int x2), (3, .int x3), (4, .int x4), (5, .int x5)] []) := by
  unfold f_X8_move
  refine jv_iloadn (j := 1) dX8_move_0 rfl ?_
  refine hv_callS (As := [.int x1]) dX8_move_1 lk8_217 kX8_isSheet nX8_isSheet (Nat.le_of_ble_eq_true rfl) (Nat.le_of_ble_eq_true rfl) rfl (fun _ _ e l => c_X8_isSheet  e l V) ?_
  intro r2 M1
  refine jw_if_eq (tgt := 14) dX8_move_4 rfl (fun c4 => ?_) (fun c4 => ?_)
  · refine jv_aloadn (j := 0) dX8_move_14 rfl ?_
    refine jv_iconst (v := 1) dX8_move_15 (by decide) ?_
    refine hv_callI (As := [.int 1]) dX8_move_16 lk8_107 kX8_finds nX8_finds (Nat.le_of_ble_eq_true rfl) (Nat.le_of_ble_eq_true rfl) at_MO_0 rfl rfl rfl (fun _ _ e l => c_X8_finds  e l V) ?_
    intro r4 M3
    exact vf_ret dX8_move_19 rfl
  refine jv_iloadn (j := 3) dX8_move_7 rfl ?_
  refine hv_callS (As := [.int x3]) dX8_move_8 lk8_217 kX8_isSheet nX8_isSheet (Nat.le_of_ble_eq_true rfl) (Nat.le_of_ble_eq_true rfl) rfl (fun _ _ e l => c_X8_isSheet  e l V) ?_
  intro r6 M5
  refine jw_if_ne (tgt := 20) dX8_move_11 rfl (fun c11 => ?_) (fun c11 => ?_)
  · refine jv_aloadn (j := 0) dX8_move_14 rfl ?_
    refine jv_iconst (v := 1) dX8_move_15 (by decide) ?_
    refine hv_callI (As := [.int 1]) dX8_move_16 lk8_107 kX8_finds nX8_finds (Nat.le_of_ble_eq_true rfl) (Nat.le_of_ble_eq_true rfl) at_MO_0 rfl rfl rfl (fun _ _ e l => c_X8_finds  e l V) ?_
    intro r8 M7
    exact vf_ret dX8_move_19 rfl
  refine jv_aloadn (j := 0) dX8_move_20 rfl ?_
  refine hv_getR dX8_move_21 fl8_31 at_MO_0 rfl ?_
  refine jv_iloadn (j := 1) dX8_move_24 rfl ?_
  refine hv_ialdC dX8_move_25 at_MO_8 (fun _ => ?_)
  refine jw_if_eq (tgt := 38) dX8_move_26 rfl (fun c26 => ?_) (fun c26 => ?_)
  · refine jv_aloadn (j := 0) dX8_move_38 rfl ?_
    refine jv_iconst (v := 2) dX8_move_39 (by decide) ?_
    refine hv_callI (As := [.int 2]) dX8_move_40 lk8_107 kX8_finds nX8_finds (Nat.le_of_ble_eq_true rfl) (Nat.le_of_ble_eq_true rfl) at_MO_0 rfl rfl rfl (fun _ _ e l => c_X8_finds  e l V) ?_
    intro r10 M9
    exact vf_ret dX8_move_43 rfl
  refine jv_aloadn (j := 0) dX8_move_29 rfl ?_
  refine hv_getR dX8_move_30 fl8_31 at_MO_0 rfl ?_
  refine jv_iloadn (j := 3) dX8_move_33 rfl ?_
  refine hv_ialdC dX8_move_34 at_MO_8 (fun _ => ?_)
  refine jw_if_ne (tgt := 44) dX8_move_35 rfl (fun c35 => ?_) (fun c35 => ?_)
  · refine jv_aloadn (j := 0) dX8_move_38 rfl ?_
    refine jv_iconst (v := 2) dX8_move_39 (by decide) ?_
    refine hv_callI (As := [.int 2]) dX8_move_40 lk8_107 kX8_finds nX8_finds (Nat.le_of_ble_eq_true rfl) (Nat.le_of_ble_eq_true rfl) at_MO_0 rfl rfl rfl (fun _ _ e l => c_X8_finds  e l V) ?_
    intro r12 M11
    exact vf_ret dX8_move_43 rfl
  refine jv_aloadn (j := 0) dX8_move_44 rfl ?_
  refine hv_getR dX8_move_45 fl8_31 at_MO_0 rfl ?_
  refine jv_iloadn (j := 1) dX8_move_48 rfl ?_
  refine hv_ialdC dX8_move_49 at_MO_8 (fun _ => ?_)
  refine jv_aloadn (j := 0) dX8_move_50 rfl ?_
  refine hv_getR dX8_move_51 fl8_31 at_MO_0 rfl ?_
  refine jv_iloadn (j := 3) dX8_move_54 rfl ?_
  refine hv_ialdC dX8_move_55 at_MO_8 (fun _ => ?_)
  refine jw_ic_eq (tgt := 65) dX8_move_56 rfl (fun c56 => ?_) (fun c56 => ?_)
  · refine jv_iload (j := 5) dX8_move_65 rfl ?_
    refine jw_if_lt (tgt := 106) dX8_move_67 rfl (fun c67 => ?_) (fun c67 => ?_)
    · refine jv_aloadn (j := 0) dX8_move_106 rfl ?_
      refine jv_iconst (v := 1) dX8_move_107 (by decide) ?_
      refine hv_callI (As := [.int 1]) dX8_move_108 lk8_107 kX8_finds nX8_finds (Nat.le_of_ble_eq_true rfl) (Nat.le_of_ble_eq_true rfl) at_MO_0 rfl rfl rfl (fun _ _ e l => c_X8_finds  e l V) ?_
      intro r14 M13
      exact vf_ret dX8_move_111 rfl
    refine jv_iloadn (j := 2) dX8_move_70 rfl ?_
    refine jw_if_lt (tgt := 106) dX8_move_71 rfl (fun c71 => ?_) (fun c71 => ?_)
    · refine jv_aloadn (j := 0) dX8_move_106 rfl ?_
      refine jv_iconst (v := 1) dX8_move_107 (by decide) ?_
      refine hv_callI (As := [.int 1]) dX8_move_108 lk8_107 kX8_finds nX8_finds (Nat.le_of_ble_eq_true rfl) (Nat.le_of_ble_eq_true rfl) at_MO_0 rfl rfl rfl (fun _ _ e l => c_X8_finds  e l V) ?_
      intro r16 M15
      exact vf_ret dX8_move_111 rfl
    refine jv_iload (j := 4) dX8_move_74 rfl ?_
    refine jw_if_lt (tgt := 106) dX8_move_76 rfl (fun c76 => ?_) (fun c76 => ?_)
    · refine jv_aloadn (j := 0) dX8_move_106 rfl ?_
      refine jv_iconst (v := 1) dX8_move_107 (by decide) ?_
      refine hv_callI (As := [.int 1]) dX8_move_108 lk8_107 kX8_finds nX8_finds (Nat.le_of_ble_eq_true rfl) (Nat.le_of_ble_eq_true rfl) at_MO_0 rfl rfl rfl (fun _ _ e l => c_X8_finds  e l V) ?_
      intro r18 M17
      exact vf_ret dX8_move_111 rfl
    refine jv_iload (j := 5) dX8_move_79 rfl ?_
    refine jv_aloadn (j := 0) dX8_move_81 rfl ?_
    refine hv_getR dX8_move_82 fl8_34 at_MO_0 rfl ?_
    refine jv_iloadn (j := 1) dX8_move_85 rfl ?_
    refine hv_ialdC dX8_move_86 at_MO_9 (fun _ => ?_)
    refine jv_iloadn (j := 2) dX8_move_87 rfl ?_
    refine jv_isub dX8_move_88 ?_
    refine jw_ic_gt (tgt := 106) dX8_move_89 rfl (fun c89 => ?_) (fun c89 => ?_)
    · refine jv_aloadn (j := 0) dX8_move_106 rfl ?_
      refine jv_iconst (v := 1) dX8_move_107 (by decide) ?_
      refine hv_callI (As := [.int 1]) dX8_move_108 lk8_107 kX8_finds nX8_finds (Nat.le_of_ble_eq_true rfl) (Nat.le_of_ble_eq_true rfl) at_MO_0 rfl rfl rfl (fun _ _ e l => c_X8_finds  e l V) ?_
      intro r20 M19
      exact vf_ret dX8_move_111 rfl
    refine jv_iload (j := 5) dX8_move_92 rfl ?_
    refine jv_aloadn (j := 0) dX8_move_94 rfl ?_
    refine hv_getR dX8_move_95 fl8_34 at_MO_0 rfl ?_
    refine jv_iloadn (j := 3) dX8_move_98 rfl ?_
    refine hv_ialdC dX8_move_99 at_MO_9 (fun _ => ?_)
    refine jv_iload (j := 4) dX8_move_100 rfl ?_
    refine jv_isub dX8_move_102 ?_
    refine jw_ic_le (tgt := 112) dX8_move_103 rfl (fun c103 => ?_) (fun c103 => ?_)
    · refine jv_iconst (v := 0) dX8_move_112 (by decide) ?_
      refine jv_istore (L' := [(6, .int 0), (0, .ref (V.1 0)), (1, .int x1), (2, .int x2), (3, .int x3), (4, .int x4), (5, .int x5)]) dX8_move_113 (Nat.le_of_ble_eq_true rfl) rfl ?_
      refine vl_b1 (P := fun (Ml : pm_M) => pm_J X V mX8_move 3 (pm_wld V skD Ml) 149 [(0, .ref (V.1 0)), (3, .int x3), (4, .int x4), (5, .int x5)] []) (vf_j (fun g => jr_sub [1, 2, 3, 4, 5, 6, 0] rfl g) (wl_X8_move_115 x1 x2 x3 x4 x5  0 M5)) ?_
      intro M21
      refine jv_iconst (v := 0) dX8_move_149 (by decide) ?_
      refine jv_istore (L' := [(6, .int 0), (0, .ref (V.1 0)), (3, .int x3), (4, .int x4), (5, .int x5)]) dX8_move_150 (Nat.le_of_ble_eq_true rfl) rfl ?_
      refine vl_b1 (P := fun (Ml : pm_M) => pm_J X V mX8_move 3 (pm_wld V skD Ml) 187 [(5, .int x5)] []) (vf_j (fun g => jr_sub [1, 2, 3, 4, 0] rfl g) (wl_X8_move_152 x3 x4 x5  0 M21)) ?_
      intro M22
      refine jv_iload (j := 0) dX8_move_187 rfl ?_
      exact vf_ret dX8_move_189 rfl
    refine jv_aloadn (j := 0) dX8_move_106 rfl ?_
    refine jv_iconst (v := 1) dX8_move_107 (by decide) ?_
    refine hv_callI (As := [.int 1]) dX8_move_108 lk8_107 kX8_finds nX8_finds (Nat.le_of_ble_eq_true rfl) (Nat.le_of_ble_eq_true rfl) at_MO_0 rfl rfl rfl (fun _ _ e l => c_X8_finds  e l V) ?_
    intro r24 M23
    exact vf_ret dX8_move_111 rfl
  refine jv_aloadn (j := 0) dX8_move_59 rfl ?_
  refine jv_iconst (v := 5) dX8_move_60 (by decide) ?_
  refine hv_callI (As := [.int 5]) dX8_move_61 lk8_107 kX8_finds nX8_finds (Nat.le_of_ble_eq_true rfl) (Nat.le_of_ble_eq_true rfl) at_MO_0 rfl rfl rfl (fun _ _ e l => c_X8_finds  e l V) ?_
  intro r26 M25
  exact vf_ret dX8_move_64 rfl
theorem c_X8_move {M : pm_M} {x1 : Int32} {x2 : Int32} {x3 : Int32} {x4 : Int32} {x5 : Int32}  {r : Int32} {M' : pm_M} (h : f_X8_move M x1 x2 x3 x4 x5 = some (r, M')) (l : Launch) (V : pm_V) : pm_Ci l V skD yX8_move mX8_move 3 [.ref (V.1 0), .int x1, .int x2, .int x3, .int x4, .int x5] M r M' := pm_metI (by decide) rfl (Nat.le_of_ble_eq_true rfl) h (fun _ => w_X8_move M x1 x2 x3 x4 x5 )
def lb_X8_shares_30 (x1 : Int32) (ih : Int32 → pm_M → Option (Int32 × pm_M)) : Int32 → pm_M → Option (Int32 × pm_M) := fun (l2 : Int32) (Ml : pm_M) =>
  (pm_chk (pm_in x1 4) (if (Ml 9 x1.toNatClampNeg) ≤ l2 then (some (l2, Ml)) else (if (Ml 1 (0 : Int32).toNatClampNeg) ≤ l2 then (some (l2, Ml)) else (pm_chk (pm_in ((40 * x1) + l2) 160) (pm_b2 (f_X8_in Ml ((Ml 10 ((40 * x1) + l2).toNatClampNeg).toInt64) 0 99) (fun (r31003 : Int32) (M31002 : pm_M) => (if r31003 = 0 then (some (l2, M31002)) else (pm_chk (pm_in ((40 * x1) + l2) 160) (pm_chk (pm_in ((6 + (4 * l2)) + 0) 258) (pm_let (pm_up M31002 1 ((6 + (4 * l2)) + 0).toNatClampNeg (M31002 10 ((40 * x1) + l2).toNatClampNeg)) (fun M31004 : pm_M => (ih (l2 + 1) M31004))))))))))))
def lp_X8_shares_30 (x1 : Int32) : Int32 → pm_M → Option (Int32 × pm_M) := pm_it (fun _ _ => none) (lb_X8_shares_30 x1) pm_F
def f_X8_shares (M : pm_M) (x1 : Int32) : Option (Int32 × pm_M) :=
  (pm_b2 (f_X8_isSheet M x1) (fun (r2 : Int32) (M1 : pm_M) => (if r2 = 0 then (pm_b2 (f_X8_finds M1 1) (fun (r4 : Int32) (M3 : pm_M) => (some (r4, M3)))) else (pm_chk (pm_in x1 4) (if (M1 8 x1.toNatClampNeg) = 0 then (pm_b2 (f_X8_finds M1 2) (fun (r6 : Int32) (M5 : pm_M) => (some (r6, M5)))) else (pm_b2 (lp_X8_shares_30 x1 0 M1) (fun (l7 : Int32) (M8 : pm_M) => (some (l7, M8)))))))))
set_option maxHeartbeats 4000000 in
set_option maxRecDepth 100000 in
theorem wl_X8_shares_30 {X : pm_X} {V : pm_V} (x1 : Int32)  : ∀ (l2 : Int32) (Ml : pm_M), pm_VF (lp_X8_shares_30 x1 l2 Ml) (fun b => (fun (l2 : Int32) (Ml : pm_M) => pm_J X V mX8_shares 3 (pm_wld V skD Ml) 102 [(2, .int l2)] []) b.1 b.2) (pm_J X V mX8_shares 3 (pm_wld V skD Ml) 30 [(0, .ref (V.1 0)), (1, .int x1), (2, .int l2)] []) := by
  refine pm_it_ind (P := fun (f : Int32 → pm_M → Option (Int32 × pm_M)) => ∀ (l2 : Int32) (Ml : pm_M), pm_VF (f l2 Ml) (fun b => (fun (l2 : Int32) (Ml : pm_M) => pm_J X V mX8_shares 3 (pm_wld V skD Ml) 102 [(2, .int l2)] []) b.1 b.2) (pm_J X V mX8_shares 3 (pm_wld V skD Ml) 30 [(0, .ref (V.1 0)), (1, .int x1), (2, .int l2)] [])) (fun _ _ => vf_none) (fun ih hih l2 Ml => ?_) pm_F
  · unfold lb_X8_shares_30
    refine jv_iloadn (j := 2) dX8_shares_30 rfl ?_
    refine jv_aloadn (j := 0) dX8_shares_31 rfl ?_
    refine hv_getR dX8_shares_32 fl8_34 at_MO_0 rfl ?_
    refine jv_iloadn (j := 1) dX8_shares_35 rfl ?_
    refine hv_ialdC dX8_shares_36 at_MO_9 (fun _ => ?_)
    refine jw_ic_ge (tgt := 102) dX8_shares_37 rfl (fun c37 => ?_) (fun c37 => ?_)
    · exact vf_end (fun g => jr_sub [2] rfl g)
    refine jv_iloadn (j := 2) dX8_shares_40 rfl ?_
    refine jv_aloadn (j := 0) dX8_shares_41 rfl ?_
    refine hv_getR dX8_shares_42 fl8_7 at_MO_0 rfl ?_
    refine jv_iconst (v := 0) dX8_shares_45 (by decide) ?_
    refine hv_iald dX8_shares_46 at_MO_1 (by decide) ?_
    refine jw_ic_ge (tgt := 102) dX8_shares_47 rfl (fun c47 => ?_) (fun c47 => ?_)
    · exact vf_end (fun g => jr_sub [2] rfl g)
    refine jv_aloadn (j := 0) dX8_shares_50 rfl ?_
    refine hv_getR dX8_shares_51 fl8_37 at_MO_0 rfl ?_
    refine jv_bipush (v := 40) dX8_shares_54 (by decide) ?_
    refine jv_iloadn (j := 1) dX8_shares_56 rfl ?_
    refine jv_imul dX8_shares_57 ?_
    refine jv_iloadn (j := 2) dX8_shares_58 rfl ?_
    refine jv_iadd dX8_shares_59 ?_
    refine hv_ialdC dX8_shares_60 at_MO_10 (fun _ => ?_)
    refine jv_i2l dX8_shares_61 ?_
    refine jv_lconst (v := 0) dX8_shares_62 (by decide) ?_
    refine jv_ldc2 dX8_shares_63 lk8_123 ?_
    refine hv_callS (As := [.long ((Ml 10 ((40 * x1) + l2).toNatClampNeg).toInt64), .long 0, .long 99]) dX8_shares_66 lk8_44 kX8_in nX8_in (Nat.le_of_ble_eq_true rfl) (Nat.le_of_ble_eq_true rfl) rfl (fun _ _ e l => c_X8_in  e l V) ?_
    intro r31003 M31002
    refine jw_if_eq (tgt := 102) dX8_shares_69 rfl (fun c69 => ?_) (fun c69 => ?_)
    · exact vf_end (fun g => jr_sub [2] rfl g)
    refine jv_aloadn (j := 0) dX8_shares_72 rfl ?_
    refine hv_getR dX8_shares_73 fl8_7 at_MO_0 rfl ?_
    refine jv_bipush (v := 6) dX8_shares_76 (by decide) ?_
    refine jv_iconst (v := 4) dX8_shares_78 (by decide) ?_
    refine jv_iloadn (j := 2) dX8_shares_79 rfl ?_
    refine jv_imul dX8_shares_80 ?_
    refine jv_iadd dX8_shares_81 ?_
    refine jv_iconst (v := 0) dX8_shares_82 (by decide) ?_
    refine jv_iadd dX8_shares_83 ?_
    refine jv_aloadn (j := 0) dX8_shares_84 rfl ?_
    refine hv_getR dX8_shares_85 fl8_37 at_MO_0 rfl ?_
    refine jv_bipush (v := 40) dX8_shares_88 (by decide) ?_
    refine jv_iloadn (j := 1) dX8_shares_90 rfl ?_
    refine jv_imul dX8_shares_91 ?_
    refine jv_iloadn (j := 2) dX8_shares_92 rfl ?_
    refine jv_iadd dX8_shares_93 ?_
    refine hv_ialdC dX8_shares_94 at_MO_10 (fun _ => ?_)
    refine hv_iastC dX8_shares_95 at_MO_1 (fun _ => ?_)
    refine vf_letM (fun M31004 => ?_)
    refine jv_iinc (j := 2) (v := l2 + 1) (L' := [(2, .int (l2 + 1)), (0, .ref (V.1 0)), (1, .int x1)]) dX8_shares_96 rfl rfl (Nat.le_of_ble_eq_true rfl) rfl ?_
    refine jv_goto (tgt := 30) dX8_shares_99 rfl ?_
    exact vf_j (fun g => jr_sub [1, 2, 0] rfl g) (hih (l2 + 1) M31004)
set_option maxHeartbeats 4000000 in
set_option maxRecDepth 100000 in
theorem w_X8_shares {X : pm_X} {V : pm_V} (M : pm_M) (x1 : Int32)  : pm_VF (f_X8_shares M x1) (pm_K X V mX8_shares 3 skD) (pm_J X V mX8_shares 3 (pm_wld V skD M) 0 [(0, .ref (V.1 0)), (1, .int x1)] []) := by
  unfold f_X8_shares
  refine jv_iloadn (j := 1) dX8_shares_0 rfl ?_
  refine hv_callS (As := [.int x1]) dX8_shares_1 lk8_217 kX8_isSheet nX8_isSheet (Nat.le_of_ble_eq_true rfl) (Nat.le_of_ble_eq_true rfl) rfl (fun _ _ e l => c_X8_isSheet  e l V) ?_
  intro r2 M1
  refine jw_if_ne (tgt := 13) dX8_shares_4 rfl (fun c4 => ?_) (fun c4 => ?_)
  · refine jv_aloadn (j := 0) dX8_shares_7 rfl ?_
    refine jv_iconst (v := 1) dX8_shares_8 (by decide) ?_
    refine hv_callI (As := [.int 1]) dX8_shares_9 lk8_107 kX8_finds nX8_finds (Nat.le_of_ble_eq_true rfl) (Nat.le_of_ble_eq_true rfl) at_MO_0 rfl rfl rfl (fun _ _ e l => c_X8_finds  e l V) ?_
    intro r4 M3
    exact vf_ret dX8_shares_12 rfl
  refine jv_aloadn (j := 0) dX8_shares_13 rfl ?_
  refine hv_getR dX8_shares_14 fl8_31 at_MO_0 rfl ?_
  refine jv_iloadn (j := 1) dX8_shares_17 rfl ?_
  refine hv_ialdC dX8_shares_18 at_MO_8 (fun _ => ?_)
  refine jw_if_ne (tgt := 28) dX8_shares_19 rfl (fun c19 => ?_) (fun c19 => ?_)
  · refine jv_aloadn (j := 0) dX8_shares_22 rfl ?_
    refine jv_iconst (v := 2) dX8_shares_23 (by decide) ?_
    refine hv_callI (As := [.int 2]) dX8_shares_24 lk8_107 kX8_finds nX8_finds (Nat.le_of_ble_eq_true rfl) (Nat.le_of_ble_eq_true rfl) at_MO_0 rfl rfl rfl (fun _ _ e l => c_X8_finds  e l V) ?_
    intro r6 M5
    exact vf_ret dX8_shares_27 rfl
  refine jv_iconst (v := 0) dX8_shares_28 (by decide) ?_
  refine jv_istoren (L' := [(2, .int 0), (0, .ref (V.1 0)), (1, .int x1)]) dX8_shares_29 (Nat.le_of_ble_eq_true rfl) rfl ?_
  refine vl_b2 (P := fun (l2 : Int32) (Ml : pm_M) => pm_J X V mX8_shares 3 (pm_wld V skD Ml) 102 [(2, .int l2)] []) (vf_j (fun g => jr_sub [1, 2, 0] rfl g) (wl_X8_shares_30 x1  0 M1)) ?_
  intro l7 M8
  refine jv_iloadn (j := 0) dX8_shares_102 rfl ?_
  exact vf_ret dX8_shares_103 rfl
theorem c_X8_shares {M : pm_M} {x1 : Int32}  {r : Int32} {M' : pm_M} (h : f_X8_shares M x1 = some (r, M')) (l : Launch) (V : pm_V) : pm_Ci l V skD yX8_shares mX8_shares 3 [.ref (V.1 0), .int x1] M r M' := pm_metI (by decide) rfl (Nat.le_of_ble_eq_true rfl) h (fun _ => w_X8_shares M x1 )
def lb_X8_judge_30 (x1 : Int32) (ih : Int32 → pm_M → Option (Int32 × pm_M)) : Int32 → pm_M → Option (Int32 × pm_M) := fun (l2 : Int32) (Ml : pm_M) =>
  (pm_chk (pm_in x1 4) (if (Ml 9 x1.toNatClampNeg) ≤ l2 then (some (l2, Ml)) else (if (Ml 1 (0 : Int32).toNatClampNeg) ≤ l2 then (some (l2, Ml)) else (pm_chk (pm_in ((40 * x1) + l2) 160) (pm_b2 (f_X8_its Ml l2 1) (fun (r31003 : Int32) (M31002 : pm_M) => (if (Ml 10 ((40 * x1) + l2).toNatClampNeg) = r31003 then (ih (l2 + 1) M31002) else (some (l2, M31002)))))))))
def lp_X8_judge_30 (x1 : Int32) : Int32 → pm_M → Option (Int32 × pm_M) := pm_it (fun _ _ => none) (lb_X8_judge_30 x1) pm_F
def f_X8_judge (M : pm_M) (x1 : Int32) : Option (Int32 × pm_M) :=
  (pm_b2 (f_X8_isSheet M x1) (fun (r2 : Int32) (M1 : pm_M) => (if r2 = 0 then (pm_b2 (f_X8_finds M1 1) (fun (r4 : Int32) (M3 : pm_M) => (some (r4, M3)))) else (pm_chk (pm_in x1 4) (if (M1 8 x1.toNatClampNeg) = 0 then (pm_b2 (f_X8_finds M1 2) (fun (r6 : Int32) (M5 : pm_M) => (some (r6, M5)))) else (pm_b2 (lp_X8_judge_30 x1 0 M1) (fun (l7 : Int32) (M8 : pm_M) => (pm_chk (pm_in x1 4) (if l7 = (M8 9 x1.toNatClampNeg) then (if l7 = (M8 1 (0 : Int32).toNatClampNeg) then (some ((-1), M8)) else (some (l7, M8))) else (some (l7, M8)))))))))))
set_option maxHeartbeats 4000000 in
set_option maxRecDepth 100000 in
theorem wl_X8_judge_30 {X : pm_X} {V : pm_V} (x1 : Int32)  : ∀ (l2 : Int32) (Ml : pm_M), pm_VF (lp_X8_judge_30 x1 l2 Ml) (fun b => (fun (l2 : Int32) (Ml : pm_M) => pm_J X V mX8_judge 3 (pm_wld V skD Ml) 76 [(0, .ref (V.1 0)), (1, .int x1), (2, .int l2)] []) b.1 b.2) (pm_J X V mX8_judge 3 (pm_wld V skD Ml) 30 [(0, .ref (V.1 0)), (1, .int x1), (2, .int l2)] []) := by
  refine pm_it_ind (P := fun (f : Int32 → pm_M → Option (Int32 × pm_M)) => ∀ (l2 : Int32) (Ml : pm_M), pm_VF (f l2 Ml) (fun b => (fun (l2 : Int32) (Ml : pm_M) => pm_J X V mX8_judge 3 (pm_wld V skD Ml) 76 [(0, .ref (V.1 0)), (1, .int x1), (2, .int l2)] []) b.1 b.2) (pm_J X V mX8_judge 3 (pm_wld V skD Ml) 30 [(0, .ref (V.1 0)), (1, .int x1), (2, .int l2)] [])) (fun _ _ => vf_none) (fun ih hih l2 Ml => ?_) pm_F
  · unfold lb_X8_judge_30
    refine jv_iloadn (j := 2) dX8_judge_30 rfl ?_
    refine jv_aloadn (j := 0) dX8_judge_31 rfl ?_
    refine hv_getR dX8_judge_32 fl8_34 at_MO_0 rfl ?_
    refine jv_iloadn (j := 1) dX8_judge_35 rfl ?_
    refine hv_ialdC dX8_judge_36 at_MO_9 (fun _ => ?_)
    refine jw_ic_ge (tgt := 76) dX8_judge_37 rfl (fun c37 => ?_) (fun c37 => ?_)
    · exact vf_end (fun g => jr_sub [0, 1, 2] rfl g)
    refine jv_iloadn (j := 2) dX8_judge_40 rfl ?_
    refine jv_aloadn (j := 0) dX8_judge_41 rfl ?_
    refine hv_getR dX8_judge_42 fl8_7 at_MO_0 rfl ?_
    refine jv_iconst (v := 0) dX8_judge_45 (by decide) ?_
    refine hv_iald dX8_judge_46 at_MO_1 (by decide) ?_
    refine jw_ic_ge (tgt := 76) dX8_judge_47 rfl (fun c47 => ?_) (fun c47 => ?_)
    · exact vf_end (fun g => jr_sub [0, 1, 2] rfl g)
    refine jv_aloadn (j := 0) dX8_judge_50 rfl ?_
    refine hv_getR dX8_judge_51 fl8_37 at_MO_0 rfl ?_
    refine jv_bipush (v := 40) dX8_judge_54 (by decide) ?_
    refine jv_iloadn (j := 1) dX8_judge_56 rfl ?_
    refine jv_imul dX8_judge_57 ?_
    refine jv_iloadn (j := 2) dX8_judge_58 rfl ?_
    refine jv_iadd dX8_judge_59 ?_
    refine hv_ialdC dX8_judge_60 at_MO_10 (fun _ => ?_)
    refine jv_aloadn (j := 0) dX8_judge_61 rfl ?_
    refine jv_iloadn (j := 2) dX8_judge_62 rfl ?_
    refine jv_iconst (v := 1) dX8_judge_63 (by decide) ?_
    refine hv_callI (As := [.int l2, .int 1]) dX8_judge_64 lk8_134 kX8_its nX8_its (Nat.le_of_ble_eq_true rfl) (Nat.le_of_ble_eq_true rfl) at_MO_0 rfl rfl rfl (fun _ _ e l => c_X8_its  e l V) ?_
    intro r31003 M31002
    refine jw_ic_ne (tgt := 76) dX8_judge_67 rfl (fun c67 => ?_) (fun c67 => ?_)
    · refine jv_iinc (j := 2) (v := l2 + 1) (L' := [(2, .int (l2 + 1)), (0, .ref (V.1 0)), (1, .int x1)]) dX8_judge_70 rfl rfl (Nat.le_of_ble_eq_true rfl) rfl ?_
      refine jv_goto (tgt := 30) dX8_judge_73 rfl ?_
      exact vf_j (fun g => jr_sub [1, 2, 0] rfl g) (hih (l2 + 1) M31002)
    exact vf_end (fun g => jr_sub [0, 1, 2] rfl g)
set_option maxHeartbeats 4000000 in
set_option maxRecDepth 100000 in
theorem w_X8_judge {X : pm_X} {V : pm_V} (M : pm_M) (x1 : Int32)  : pm_VF (f_X8_judge M x1) (pm_K X V mX8_judge 3 skD) (pm_J X V mX8_judge 3 (pm_wld V skD M) 0 [(0, .ref (V.1 0)), (1, .int x1)] []) := by
  unfold f_X8_judge
  refine jv_iloadn (j := 1) dX8_judge_0 rfl ?_
  refine hv_callS (As := [.int x1]) dX8_judge_1 lk8_217 kX8_isSheet nX8_isSheet (Nat.le_of_ble_eq_true rfl) (Nat.le_of_ble_eq_true rfl) rfl (fun _ _ e l => c_X8_isSheet  e l V) ?_
  intro r2 M1
  refine jw_if_ne (tgt := 13) dX8_judge_4 rfl (fun c4 => ?_) (fun c4 => ?_)
  · refine jv_aloadn (j := 0) dX8_judge_7 rfl ?_
    refine jv_iconst (v := 1) dX8_judge_8 (by decide) ?_
    refine hv_callI (As := [.int 1]) dX8_judge_9 lk8_107 kX8_finds nX8_finds (Nat.le_of_ble_eq_true rfl) (Nat.le_of_ble_eq_true rfl) at_MO_0 rfl rfl rfl (fun _ _ e l => c_X8_finds  e l V) ?_
    intro r4 M3
    exact vf_ret dX8_judge_12 rfl
  refine jv_aloadn (j := 0) dX8_judge_13 rfl ?_
  refine hv_getR dX8_judge_14 fl8_31 at_MO_0 rfl ?_
  refine jv_iloadn (j := 1) dX8_judge_17 rfl ?_
  refine hv_ialdC dX8_judge_18 at_MO_8 (fun _ => ?_)
  refine jw_if_ne (tgt := 28) dX8_judge_19 rfl (fun c19 => ?_) (fun c19 => ?_)
  · refine jv_aloadn (j := 0) dX8_judge_22 rfl ?_
    refine jv_iconst (v := 2) dX8_judge_23 (by decide) ?_
    refine hv_callI (As := [.int 2]) dX8_judge_24 lk8_107 kX8_finds nX8_finds (Nat.le_of_ble_eq_true rfl) (Nat.le_of_ble_eq_true rfl) at_MO_0 rfl rfl rfl (fun _ _ e l => c_X8_finds  e l V) ?_
    intro r6 M5
    exact vf_ret dX8_judge_27 rfl
  refine jv_iconst (v := 0) dX8_judge_28 (by decide) ?_
  refine jv_istoren (L' := [(2, .int 0), (0, .ref (V.1 0)), (1, .int x1)]) dX8_judge_29 (Nat.le_of_ble_eq_true rfl) rfl ?_
  refine vl_b2 (P := fun (l2 : Int32) (Ml : pm_M) => pm_J X V mX8_judge 3 (pm_wld V skD Ml) 76 [(0, .ref (V.1 0)), (1, .int x1), (2, .int l2)] []) (vf_j (fun g => jr_sub [1, 2, 0] rfl g) (wl_X8_judge_30 x1  0 M1)) ?_
  intro l7 M8
  refine jv_iloadn (j := 2) dX8_judge_76 rfl ?_
  refine jv_aloadn (j := 0) dX8_judge_77 rfl ?_
  refine hv_getR dX8_judge_78 fl8_34 at_MO_0 rfl ?_
  refine jv_iloadn (j := 1) dX8_judge_81 rfl ?_
  refine hv_ialdC dX8_judge_82 at_MO_9 (fun _ => ?_)
  refine jw_ic_ne (tgt := 100) dX8_judge_83 rfl (fun c83 => ?_) (fun c83 => ?_)
  · refine jv_iloadn (j := 2) dX8_judge_86 rfl ?_
    refine jv_aloadn (j := 0) dX8_judge_87 rfl ?_
    refine hv_getR dX8_judge_88 fl8_7 at_MO_0 rfl ?_
    refine jv_iconst (v := 0) dX8_judge_91 (by decide) ?_
    refine hv_iald dX8_judge_92 at_MO_1 (by decide) ?_
    refine jw_ic_ne (tgt := 100) dX8_judge_93 rfl (fun c93 => ?_) (fun c93 => ?_)
    · refine jv_iconst (v := -1) dX8_judge_96 (by decide) ?_
      refine jv_goto (tgt := 101) dX8_judge_97 rfl ?_
      exact vf_ret dX8_judge_101 rfl
    refine jv_iloadn (j := 2) dX8_judge_100 rfl ?_
    exact vf_ret dX8_judge_101 rfl
  refine jv_iloadn (j := 2) dX8_judge_100 rfl ?_
  exact vf_ret dX8_judge_101 rfl
theorem c_X8_judge {M : pm_M} {x1 : Int32}  {r : Int32} {M' : pm_M} (h : f_X8_judge M x1 = some (r, M')) (l : Launch) (V : pm_V) : pm_Ci l V skD yX8_judge mX8_judge 3 [.ref (V.1 0), .int x1] M r M' := pm_metI (by decide) rfl (Nat.le_of_ble_eq_true rfl) h (fun _ => w_X8_judge M x1 )
def lb_X8_image_2  (ih : Int32 → pm_M → Option (pm_M)) : Int32 → pm_M → Option (pm_M) := fun (l1 : Int32) (Ml : pm_M) =>
  (if 258 ≤ l1 then (some Ml) else (pm_chk (pm_in l1 258) (pm_chk (pm_in l1 258) (pm_let (pm_up Ml 2 l1.toNatClampNeg (Ml 1 l1.toNatClampNeg)) (fun M3002 : pm_M => (ih (l1 + 1) M3002))))))
def lp_X8_image_2  : Int32 → pm_M → Option (pm_M) := pm_it (fun _ _ => none) (lb_X8_image_2 ) pm_F
def f_X8_image (M : pm_M) : Option (Int32 × pm_M) :=
  (pm_b1 (lp_X8_image_2  0 M) (fun (M1 : pm_M) => (pm_let (pm_up M1 0 2 ((M1 0 2) + 1)) (fun M2 : pm_M => (some ((M2 0 2), M2))))))
set_option maxHeartbeats 4000000 in
set_option maxRecDepth 100000 in
theorem wl_X8_image_2 {X : pm_X} {V : pm_V}   : ∀ (l1 : Int32) (Ml : pm_M), pm_VF (lp_X8_image_2  l1 Ml) (fun b => (fun (Ml : pm_M) => pm_J X V mX8_image 1 (pm_wld V skD Ml) 27 [(0, .ref (V.1 0))] []) b) (pm_J X V mX8_image 1 (pm_wld V skD Ml) 2 [(0, .ref (V.1 0)), (1, .int l1)] []) := by
  refine pm_it_ind (P := fun (f : Int32 → pm_M → Option (pm_M)) => ∀ (l1 : Int32) (Ml : pm_M), pm_VF (f l1 Ml) (fun b => (fun (Ml : pm_M) => pm_J X V mX8_image 1 (pm_wld V skD Ml) 27 [(0, .ref (V.1 0))] []) b) (pm_J X V mX8_image 1 (pm_wld V skD Ml) 2 [(0, .ref (V.1 0)), (1, .int l1)] [])) (fun _ _ => vf_none) (fun ih hih l1 Ml => ?_) pm_F
  · unfold lb_X8_image_2
    refine jv_iloadn (j := 1) dX8_image_2 rfl ?_
    refine jv_sipush (v := 258) dX8_image_3 (by decide) ?_
    refine jw_ic_ge (tgt := 27) dX8_image_6 rfl (fun c6 => ?_) (fun c6 => ?_)
    · exact vf_end (fun g => jr_sub [0] rfl g)
    refine jv_aloadn (j := 0) dX8_image_9 rfl ?_
    refine hv_getR dX8_image_10 fl8_13 at_MO_0 rfl ?_
    refine jv_iloadn (j := 1) dX8_image_13 rfl ?_
    refine jv_aloadn (j := 0) dX8_image_14 rfl ?_
    refine hv_getR dX8_image_15 fl8_7 at_MO_0 rfl ?_
    refine jv_iloadn (j := 1) dX8_image_18 rfl ?_
    refine hv_ialdC dX8_image_19 at_MO_1 (fun _ => ?_)
    refine hv_iastC dX8_image_20 at_MO_2 (fun _ => ?_)
    refine vf_letM (fun M3002 => ?_)
    refine jv_iinc (j := 1) (v := l1 + 1) (L' := [(1, .int (l1 + 1)), (0, .ref (V.1 0))]) dX8_image_21 rfl rfl (Nat.le_of_ble_eq_true rfl) rfl ?_
    refine jv_goto (tgt := 2) dX8_image_24 rfl ?_
    exact vf_j (fun g => jr_sub [1, 0] rfl g) (hih (l1 + 1) M3002)
set_option maxHeartbeats 4000000 in
set_option maxRecDepth 100000 in
theorem w_X8_image {X : pm_X} {V : pm_V} (M : pm_M)  : pm_VF (f_X8_image M) (pm_K X V mX8_image 1 skD) (pm_J X V mX8_image 1 (pm_wld V skD M) 0 [(0, .ref (V.1 0))] []) := by
  unfold f_X8_image
  refine jv_iconst (v := 0) dX8_image_0 (by decide) ?_
  refine jv_istoren (L' := [(1, .int 0), (0, .ref (V.1 0))]) dX8_image_1 (Nat.le_of_ble_eq_true rfl) rfl ?_
  refine vl_b1 (P := fun (Ml : pm_M) => pm_J X V mX8_image 1 (pm_wld V skD Ml) 27 [(0, .ref (V.1 0))] []) (vf_j (fun g => jr_sub [1, 0] rfl g) (wl_X8_image_2   0 M)) ?_
  intro M1
  refine jv_aloadn (j := 0) dX8_image_27 rfl ?_
  refine jv_dup dX8_image_28 rfl ?_
  refine hv_getI dX8_image_29 fl8_243 at_MO_0 rfl ?_
  refine jv_iconst (v := 1) dX8_image_32 (by decide) ?_
  refine jv_iadd dX8_image_33 ?_
  refine hv_put dX8_image_34 fp8_243 at_MO_0 rfl rfl rfl ?_
  refine vf_letM (fun M2 => ?_)
  refine jv_aloadn (j := 0) dX8_image_37 rfl ?_
  refine hv_getI dX8_image_38 fl8_243 at_MO_0 rfl ?_
  exact vf_ret dX8_image_41 rfl
theorem c_X8_image {M : pm_M}  {r : Int32} {M' : pm_M} (h : f_X8_image M = some (r, M')) (l : Launch) (V : pm_V) : pm_Ci l V skD yX8_image mX8_image 1 [.ref (V.1 0)] M r M' := pm_metI (by decide) rfl (Nat.le_of_ble_eq_true rfl) h (fun _ => w_X8_image M )
def lb_X8_restore_15  (ih : Int32 → pm_M → Option (pm_M)) : Int32 → pm_M → Option (pm_M) := fun (l1 : Int32) (Ml : pm_M) =>
  (if 258 ≤ l1 then (some Ml) else (pm_chk (pm_in l1 258) (pm_chk (pm_in l1 258) (pm_let (pm_up Ml 1 l1.toNatClampNeg (Ml 2 l1.toNatClampNeg)) (fun M16002 : pm_M => (ih (l1 + 1) M16002))))))
def lp_X8_restore_15  : Int32 → pm_M → Option (pm_M) := pm_it (fun _ _ => none) (lb_X8_restore_15 ) pm_F
def f_X8_restore (M : pm_M) : Option (Int32 × pm_M) :=
  (if (M 0 2) = 0 then (pm_b2 (f_X8_finds M 2) (fun (r2 : Int32) (M1 : pm_M) => (some (r2, M1)))) else (pm_b1 (lp_X8_restore_15  0 M) (fun (M3 : pm_M) => (some ((M3 1 (2 : Int32).toNatClampNeg), M3)))))
set_option maxHeartbeats 4000000 in
set_option maxRecDepth 100000 in
theorem wl_X8_restore_15 {X : pm_X} {V : pm_V}   : ∀ (l1 : Int32) (Ml : pm_M), pm_VF (lp_X8_restore_15  l1 Ml) (fun b => (fun (Ml : pm_M) => pm_J X V mX8_restore 2 (pm_wld V skD Ml) 40 [(0, .ref (V.1 0))] []) b) (pm_J X V mX8_restore 2 (pm_wld V skD Ml) 15 [(0, .ref (V.1 0)), (1, .int l1)] []) := by
  refine pm_it_ind (P := fun (f : Int32 → pm_M → Option (pm_M)) => ∀ (l1 : Int32) (Ml : pm_M), pm_VF (f l1 Ml) (fun b => (fun (Ml : pm_M) => pm_J X V mX8_restore 2 (pm_wld V skD Ml) 40 [(0, .ref (V.1 0))] []) b) (pm_J X V mX8_restore 2 (pm_wld V skD Ml) 15 [(0, .ref (V.1 0)), (1, .int l1)] [])) (fun _ _ => vf_none) (fun ih hih l1 Ml => ?_) pm_F
  · unfold lb_X8_restore_15
    refine jv_iloadn (j := 1) dX8_restore_15 rfl ?_
    refine jv_sipush (v := 258) dX8_restore_16 (by decide) ?_
    refine jw_ic_ge (tgt := 40) dX8_restore_19 rfl (fun c19 => ?_) (fun c19 => ?_)
    · exact vf_end (fun g => jr_sub [0] rfl g)
    refine jv_aloadn (j := 0) dX8_restore_22 rfl ?_
    refine hv_getR dX8_restore_23 fl8_7 at_MO_0 rfl ?_
    refine jv_iloadn (j := 1) dX8_restore_26 rfl ?_
    refine jv_aloadn (j := 0) dX8_restore_27 rfl ?_
    refine hv_getR dX8_restore_28 fl8_13 at_MO_0 rfl ?_
    refine jv_iloadn (j := 1) dX8_restore_31 rfl ?_
    refine hv_ialdC dX8_restore_32 at_MO_2 (fun _ => ?_)
    refine hv_iastC dX8_restore_33 at_MO_1 (fun _ => ?_)
    refine vf_letM (fun M16002 => ?_)
    refine jv_iinc (j := 1) (v := l1 + 1) (L' := [(1, .int (l1 + 1)), (0, .ref (V.1 0))]) dX8_restore_34 rfl rfl (Nat.le_of_ble_eq_true rfl) rfl ?_
    refine jv_goto (tgt := 15) dX8_restore_37 rfl ?_
    exact vf_j (fun g => jr_sub [1, 0] rfl g) (hih (l1 + 1) M16002)
set_option maxHeartbeats 4000000 in
set_option maxRecDepth 100000 in
theorem w_X8_restore {X : pm_X} {V : pm_V} (M : pm_M)  : pm_VF (f_X8_restore M) (pm_K X V mX8_restore 2 skD) (pm_J X V mX8_restore 2 (pm_wld V skD M) 0 [(0, .ref (V.1 0))] []) := by
  unfold f_X8_restore
  refine jv_aloadn (j := 0) dX8_restore_0 rfl ?_
  refine hv_getI dX8_restore_1 fl8_243 at_MO_0 rfl ?_
  refine jw_if_ne (tgt := 13) dX8_restore_4 rfl (fun c4 => ?_) (fun c4 => ?_)
  · refine jv_aloadn (j := 0) dX8_restore_7 rfl ?_
    refine jv_iconst (v := 2) dX8_restore_8 (by decide) ?_
    refine hv_callI (As := [.int 2]) dX8_restore_9 lk8_107 kX8_finds nX8_finds (Nat.le_of_ble_eq_true rfl) (Nat.le_of_ble_eq_true rfl) at_MO_0 rfl rfl rfl (fun _ _ e l => c_X8_finds  e l V) ?_
    intro r2 M1
    exact vf_ret dX8_restore_12 rfl
  refine jv_iconst (v := 0) dX8_restore_13 (by decide) ?_
  refine jv_istoren (L' := [(1, .int 0), (0, .ref (V.1 0))]) dX8_restore_14 (Nat.le_of_ble_eq_true rfl) rfl ?_
  refine vl_b1 (P := fun (Ml : pm_M) => pm_J X V mX8_restore 2 (pm_wld V skD Ml) 40 [(0, .ref (V.1 0))] []) (vf_j (fun g => jr_sub [1, 0] rfl g) (wl_X8_restore_15   0 M)) ?_
  intro M3
  refine jv_aloadn (j := 0) dX8_restore_40 rfl ?_
  refine hv_getR dX8_restore_41 fl8_7 at_MO_0 rfl ?_
  refine jv_iconst (v := 2) dX8_restore_44 (by decide) ?_
  refine hv_iald dX8_restore_45 at_MO_1 (by decide) ?_
  exact vf_ret dX8_restore_46 rfl
theorem c_X8_restore {M : pm_M}  {r : Int32} {M' : pm_M} (h : f_X8_restore M = some (r, M')) (l : Launch) (V : pm_V) : pm_Ci l V skD yX8_restore mX8_restore 2 [.ref (V.1 0)] M r M' := pm_metI (by decide) rfl (Nat.le_of_ble_eq_true rfl) h (fun _ => w_X8_restore M )
def f_X8_tell (M : pm_M) (x1 : Int32) : Option (Int32 × pm_M) :=
  (if (M 1 (5 : Int32).toNatClampNeg) = 20 then (pm_b2 (f_X8_finds M 4) (fun (r2 : Int32) (M1 : pm_M) => (some (r2, M1)))) else (pm_chk (pm_in (88 + (M 1 (5 : Int32).toNatClampNeg)) 258) (pm_let (pm_up M 1 (88 + (M 1 (5 : Int32).toNatClampNeg)).toNatClampNeg x1) (fun M3 : pm_M => (pm_let (pm_up M3 1 (5 : Int32).toNatClampNeg ((M3 1 (5 : Int32).toNatClampNeg) + 1)) (fun M4 : pm_M => (some ((M4 1 (5 : Int32).toNatClampNeg), M4))))))))
set_option maxHeartbeats 4000000 in
set_option maxRecDepth 100000 in
theorem w_X8_tell {X : pm_X} {V : pm_V} (M : pm_M) (x1 : Int32)  : pm_VF (f_X8_tell M x1) (pm_K X V mX8_tell 2 skD) (pm_J X V mX8_tell 2 (pm_wld V skD M) 0 [(0, .ref (V.1 0)), (1, .int x1)] []) := by
  unfold f_X8_tell
  refine jv_aloadn (j := 0) dX8_tell_0 rfl ?_
  refine hv_getR dX8_tell_1 fl8_7 at_MO_0 rfl ?_
  refine jv_iconst (v := 5) dX8_tell_4 (by decide) ?_
  refine hv_iald dX8_tell_5 at_MO_1 (by decide) ?_
  refine jv_bipush (v := 20) dX8_tell_6 (by decide) ?_
  refine jw_ic_ne (tgt := 17) dX8_tell_8 rfl (fun c8 => ?_) (fun c8 => ?_)
  · refine jv_aloadn (j := 0) dX8_tell_11 rfl ?_
    refine jv_iconst (v := 4) dX8_tell_12 (by decide) ?_
    refine hv_callI (As := [.int 4]) dX8_tell_13 lk8_107 kX8_finds nX8_finds (Nat.le_of_ble_eq_true rfl) (Nat.le_of_ble_eq_true rfl) at_MO_0 rfl rfl rfl (fun _ _ e l => c_X8_finds  e l V) ?_
    intro r2 M1
    exact vf_ret dX8_tell_16 rfl
  refine jv_aloadn (j := 0) dX8_tell_17 rfl ?_
  refine hv_getR dX8_tell_18 fl8_7 at_MO_0 rfl ?_
  refine jv_bipush (v := 88) dX8_tell_21 (by decide) ?_
  refine jv_aloadn (j := 0) dX8_tell_23 rfl ?_
  refine hv_getR dX8_tell_24 fl8_7 at_MO_0 rfl ?_
  refine jv_iconst (v := 5) dX8_tell_27 (by decide) ?_
  refine hv_iald dX8_tell_28 at_MO_1 (by decide) ?_
  refine jv_iadd dX8_tell_29 ?_
  refine jv_iloadn (j := 1) dX8_tell_30 rfl ?_
  refine hv_iastC dX8_tell_31 at_MO_1 (fun _ => ?_)
  refine vf_letM (fun M3 => ?_)
  refine jv_aloadn (j := 0) dX8_tell_32 rfl ?_
  refine hv_getR dX8_tell_33 fl8_7 at_MO_0 rfl ?_
  refine jv_iconst (v := 5) dX8_tell_36 (by decide) ?_
  refine jv_dup2 dX8_tell_37 rfl rfl ?_
  refine hv_iald dX8_tell_38 at_MO_1 (by decide) ?_
  refine jv_iconst (v := 1) dX8_tell_39 (by decide) ?_
  refine jv_iadd dX8_tell_40 ?_
  refine hv_iast dX8_tell_41 at_MO_1 (by decide) ?_
  refine vf_letM (fun M4 => ?_)
  refine jv_aloadn (j := 0) dX8_tell_42 rfl ?_
  refine hv_getR dX8_tell_43 fl8_7 at_MO_0 rfl ?_
  refine jv_iconst (v := 5) dX8_tell_46 (by decide) ?_
  refine hv_iald dX8_tell_47 at_MO_1 (by decide) ?_
  exact vf_ret dX8_tell_48 rfl
theorem c_X8_tell {M : pm_M} {x1 : Int32}  {r : Int32} {M' : pm_M} (h : f_X8_tell M x1 = some (r, M')) (l : Launch) (V : pm_V) : pm_Ci l V skD yX8_tell mX8_tell 2 [.ref (V.1 0), .int x1] M r M' := pm_metI (by decide) rfl (Nat.le_of_ble_eq_true rfl) h (fun _ => w_X8_tell M x1 )
def lb_X8_check_22 (z1 : Int32) (ih : Int32 → Int32 → pm_M → Option (Int32 × pm_M)) : Int32 → Int32 → pm_M → Option (Int32 × pm_M) := fun (l2 : Int32) (l3 : Int32) (Ml : pm_M) =>
  (if z1 ≤ l3 then (some (l2, Ml)) else (if l2 = 0 then (pm_b1 (f_X8_dayGoes Ml) (fun M23002 : pm_M => (pm_chk (pm_in (88 + l3) 258) (pm_b2 (f_X8_all M23002 2) (fun (r23004 : Int32) (M23003 : pm_M) => (if (M23002 1 (88 + l3).toNatClampNeg) = r23004 then (ih 0 (l3 + 1) M23003) else (pm_let (1 + l3) (fun z23005 : Int32 => (ih z23005 (l3 + 1) M23003))))))))) else (some (l2, Ml))))
def lp_X8_check_22 (z1 : Int32) : Int32 → Int32 → pm_M → Option (Int32 × pm_M) := pm_it (fun _ _ _ => none) (lb_X8_check_22 z1) pm_F
def f_X8_check (M : pm_M) : Option (Int32 × pm_M) :=
  (pm_let (M 1 (5 : Int32).toNatClampNeg) (fun z1 : Int32 => (pm_let (pm_up M 1 (5 : Int32).toNatClampNeg 0) (fun M2 : pm_M => (pm_b1 (f_X8_keepAside M2) (fun M3 : pm_M => (pm_b2 (lp_X8_check_22 z1 0 0 M3) (fun (l4 : Int32) (M5 : pm_M) => (pm_b1 (f_X8_putBack M5) (fun M6 : pm_M => (some (l4, M6))))))))))))
set_option maxHeartbeats 4000000 in
set_option maxRecDepth 100000 in
theorem wl_X8_check_22 {X : pm_X} {V : pm_V} (z1 : Int32)  : ∀ (l2 : Int32) (l3 : Int32) (Ml : pm_M), pm_VF (lp_X8_check_22 z1 l2 l3 Ml) (fun b => (fun (l2 : Int32) (Ml : pm_M) => pm_J X V mX8_check 108 (pm_wld V skD Ml) 66 [(0, .ref (V.1 0)), (2, .int l2)] []) b.1 b.2) (pm_J X V mX8_check 108 (pm_wld V skD Ml) 22 [(0, .ref (V.1 0)), (1, .int z1), (2, .int l2), (3, .int l3)] []) := by
  refine pm_it_ind (P := fun (f : Int32 → Int32 → pm_M → Option (Int32 × pm_M)) => ∀ (l2 : Int32) (l3 : Int32) (Ml : pm_M), pm_VF (f l2 l3 Ml) (fun b => (fun (l2 : Int32) (Ml : pm_M) => pm_J X V mX8_check 108 (pm_wld V skD Ml) 66 [(0, .ref (V.1 0)), (2, .int l2)] []) b.1 b.2) (pm_J X V mX8_check 108 (pm_wld V skD Ml) 22 [(0, .ref (V.1 0)), (1, .int z1), (2, .int l2), (3, .int l3)] [])) (fun _ _ _ => vf_none) (fun ih hih l2 l3 Ml => ?_) pm_F
  · unfold lb_X8_check_22
    refine jv_iloadn (j := 3) dX8_check_22 rfl ?_
    refine jv_iloadn (j := 1) dX8_check_23 rfl ?_
    refine jw_ic_ge (tgt := 66) dX8_check_24 rfl (fun c24 => ?_) (fun c24 => ?_)
    · exact vf_end (fun g => jr_sub [0, 2] rfl g)
    refine jv_iloadn (j := 2) dX8_check_27 rfl ?_
    refine jw_if_ne (tgt := 66) dX8_check_28 rfl (fun c28 => ?_) (fun c28 => ?_)
    · refine jv_aloadn (j := 0) dX8_check_31 rfl ?_
      refine hv_callV (As := []) dX8_check_32 lk8_178 kX8_dayGoes nX8_dayGoes (Nat.le_of_ble_eq_true rfl) (Nat.le_of_ble_eq_true rfl) at_MO_0 rfl rfl rfl (fun _ e l => c_X8_dayGoes  e l V) ?_
      intro M23002
      refine jv_aloadn (j := 0) dX8_check_35 rfl ?_
      refine hv_getR dX8_check_36 fl8_7 at_MO_0 rfl ?_
      refine jv_bipush (v := 88) dX8_check_39 (by decide) ?_
      refine jv_iloadn (j := 3) dX8_check_41 rfl ?_
      refine jv_iadd dX8_check_42 ?_
      refine hv_ialdC dX8_check_43 at_MO_1 (fun _ => ?_)
      refine jv_aloadn (j := 0) dX8_check_44 rfl ?_
      refine jv_iconst (v := 2) dX8_check_45 (by decide) ?_
      refine hv_callI (As := [.int 2]) dX8_check_46 lk8_187 kX8_all nX8_all (Nat.le_of_ble_eq_true rfl) (Nat.le_of_ble_eq_true rfl) at_MO_0 rfl rfl rfl (fun _ _ e l => c_X8_all  e l V) ?_
      intro r23004 M23003
      refine jw_ic_ne (tgt := 56) dX8_check_49 rfl (fun c49 => ?_) (fun c49 => ?_)
      · refine jv_iconst (v := 0) dX8_check_52 (by decide) ?_
        refine jv_goto (tgt := 59) dX8_check_53 rfl ?_
        refine jv_istoren (L' := [(2, .int 0), (0, .ref (V.1 0)), (1, .int z1), (3, .int l3)]) dX8_check_59 (Nat.le_of_ble_eq_true rfl) rfl ?_
        refine jv_iinc (j := 3) (v := l3 + 1) (L' := [(3, .int (l3 + 1)), (2, .int 0), (0, .ref (V.1 0)), (1, .int z1)]) dX8_check_60 rfl rfl (Nat.le_of_ble_eq_true rfl) rfl ?_
        refine jv_goto (tgt := 22) dX8_check_63 rfl ?_
        exact vf_j (fun g => jr_sub [2, 3, 1, 0] rfl g) (hih 0 (l3 + 1) M23003)
      refine jv_iconst (v := 1) dX8_check_56 (by decide) ?_
      refine jv_iloadn (j := 3) dX8_check_57 rfl ?_
      refine jv_iadd dX8_check_58 ?_
      refine vf_letS (fun z23005 => ?_)
      refine jv_istoren (L' := [(2, .int z23005), (0, .ref (V.1 0)), (1, .int z1), (3, .int l3)]) dX8_check_59 (Nat.le_of_ble_eq_true rfl) rfl ?_
      refine jv_iinc (j := 3) (v := l3 + 1) (L' := [(3, .int (l3 + 1)), (2, .int z23005), (0, .ref (V.1 0)), (1, .int z1)]) dX8_check_60 rfl rfl (Nat.le_of_ble_eq_true rfl) rfl ?_
      refine jv_goto (tgt := 22) dX8_check_63 rfl ?_
      exact vf_j (fun g => jr_sub [2, 3, 1, 0] rfl g) (hih z23005 (l3 + 1) M23003)
    exact vf_end (fun g => jr_sub [0, 2] rfl g)
set_option maxHeartbeats 4000000 in
set_option maxRecDepth 100000 in
theorem w_X8_check {X : pm_X} {V : pm_V} (M : pm_M)  : pm_VF (f_X8_check M) (pm_K X V mX8_check 108 skD) (pm_J X V mX8_check 108 (pm_wld V skD M) 0 [(0, .ref (V.1 0))] []) := by
  unfold f_X8_check
  refine jv_aloadn (j := 0) dX8_check_0 rfl ?_
  refine hv_getR dX8_check_1 fl8_7 at_MO_0 rfl ?_
  refine jv_iconst (v := 5) dX8_check_4 (by decide) ?_
  refine hv_iald dX8_check_5 at_MO_1 (by decide) ?_
  refine vf_letS (fun z1 => ?_)
  refine jv_istoren (L' := [(1, .int z1), (0, .ref (V.1 0))]) dX8_check_6 (Nat.le_of_ble_eq_true rfl) rfl ?_
  refine jv_aloadn (j := 1) dX8_check_7 rfl ?_
  refine hv_getR dX8_check_8 fl8_7 at_MO_0 rfl ?_
  refine jv_iconst (v := 5) dX8_check_11 (by decide) ?_
  refine jv_iconst (v := 0) dX8_check_12 (by decide) ?_
  refine hv_iast dX8_check_13 at_MO_1 (by decide) ?_
  refine vf_letM (fun M2 => ?_)
  refine jv_aloadn (j := 1) dX8_check_14 rfl ?_
  refine hv_callV (As := []) dX8_check_15 lk8_203 kX8_keepAside nX8_keepAside (Nat.le_of_ble_eq_true rfl) (Nat.le_of_ble_eq_true rfl) at_MO_0 rfl rfl rfl (fun _ e l => c_X8_keepAside  e l V) ?_
  intro M3
  refine jv_iconst (v := 0) dX8_check_18 (by decide) ?_
  refine jv_istoren (L' := [(2, .int 0), (1, .int z1), (0, .ref (V.1 0))]) dX8_check_19 (Nat.le_of_ble_eq_true rfl) rfl ?_
  refine jv_iconst (v := 0) dX8_check_20 (by decide) ?_
  refine jv_istoren (L' := [(3, .int 0), (2, .int 0), (1, .int z1), (0, .ref (V.1 0))]) dX8_check_21 (Nat.le_of_ble_eq_true rfl) rfl ?_
  refine vl_b2 (P := fun (l2 : Int32) (Ml : pm_M) => pm_J X V mX8_check 108 (pm_wld V skD Ml) 66 [(0, .ref (V.1 0)), (2, .int l2)] []) (vf_j (fun g => jr_sub [3, 2, 1, 0] rfl g) (wl_X8_check_22 z1  0 0 M3)) ?_
  intro l4 M5
  refine jv_aloadn (j := 0) dX8_check_66 rfl ?_
  refine hv_callV (As := []) dX8_check_67 lk8_206 kX8_putBack nX8_putBack (Nat.le_of_ble_eq_true rfl) (Nat.le_of_ble_eq_true rfl) at_MO_0 rfl rfl rfl (fun _ e l => c_X8_putBack  e l V) ?_
  intro M6
  refine jv_iloadn (j := 1) dX8_check_70 rfl ?_
  exact vf_ret dX8_check_71 rfl
theorem c_X8_check {M : pm_M}  {r : Int32} {M' : pm_M} (h : f_X8_check M = some (r, M')) (l : Launch) (V : pm_V) : pm_Ci l V skD yX8_check mX8_check 108 [.ref (V.1 0)] M r M' := pm_metI (by decide) rfl (Nat.le_of_ble_eq_true rfl) h (fun _ => w_X8_check M )
def lb_X8_count_81  (ih : Int32 → Int32 → pm_M → Option (Int32 × pm_M)) : Int32 → Int32 → pm_M → Option (Int32 × pm_M) := fun (l2 : Int32) (l3 : Int32) (Ml : pm_M) =>
  (if (Ml 1 (1 : Int32).toNatClampNeg) ≤ l3 then (some (l2, Ml)) else (pm_b2 (f_X8_isSpent Ml l3) (fun (r82003 : Int32) (M82002 : pm_M) => (if r82003 = 0 then (pm_let (l2 + 0) (fun z82004 : Int32 => (ih z82004 (l3 + 1) M82002))) else (pm_let (l2 + 1) (fun z82005 : Int32 => (ih z82005 (l3 + 1) M82002)))))))
def lp_X8_count_81  : Int32 → Int32 → pm_M → Option (Int32 × pm_M) := pm_it (fun _ _ _ => none) (lb_X8_count_81 ) pm_F
def f_X8_count (M : pm_M) (x1 : Int32) : Option (Int32 × pm_M) :=
  (if x1.toInt < 0 ∨ 10 < x1.toInt then (pm_b2 (f_X8_finds M 1) (fun (r2 : Int32) (M1 : pm_M) => (some (r2, M1)))) else if x1 = 0 then (pm_chk (pm_in x1 258) (some ((M 1 x1.toNatClampNeg), M))) else if x1 = 1 then (pm_chk (pm_in x1 258) (some ((M 1 x1.toNatClampNeg), M))) else if x1 = 2 then (pm_chk (pm_in x1 258) (some ((M 1 x1.toNatClampNeg), M))) else if x1 = 3 then (pm_b2 (f_X8_all M 2) (fun (r4 : Int32) (M3 : pm_M) => (some (r4, M3)))) else if x1 = 4 then (pm_b2 (f_X8_all M 1) (fun (r6 : Int32) (M5 : pm_M) => (some (r6, M5)))) else if x1 = 5 then (pm_b2 (lp_X8_count_81  0 0 M) (fun (l7 : Int32) (M8 : pm_M) => (some (l7, M8)))) else if x1 = 6 then (pm_b2 (f_X8_mostInArrears M) (fun (r10 : Int32) (M9 : pm_M) => (some (r10, M9)))) else if x1 = 7 then (some ((M 1 (4 : Int32).toNatClampNeg), M)) else if x1 = 8 then (some ((M 1 (5 : Int32).toNatClampNeg), M)) else if x1 = 9 then (some ((M 0 14), M)) else if x1 = 10 then (some ((M 1 (3 : Int32).toNatClampNeg), M)) else none)
set_option maxHeartbeats 4000000 in
set_option maxRecDepth 100000 in
theorem wl_X8_count_81 {X : pm_X} {V : pm_V}   : ∀ (l2 : Int32) (l3 : Int32) (Ml : pm_M), pm_VF (lp_X8_count_81  l2 l3 Ml) (fun b => (fun (l2 : Int32) (Ml : pm_M) => pm_J X V mX8_count 4 (pm_wld V skD Ml) 113 [(2, .int l2)] []) b.1 b.2) (pm_J X V mX8_count 4 (pm_wld V skD Ml) 81 [(0, .ref (V.1 0)), (2, .int l2), (3, .int l3)] []) := by
  refine pm_it_ind (P := fun (f : Int32 → Int32 → pm_M → Option (Int32 × pm_M)) => ∀ (l2 : Int32) (l3 : Int32) (Ml : pm_M), pm_VF (f l2 l3 Ml) (fun b => (fun (l2 : Int32) (Ml : pm_M) => pm_J X V mX8_count 4 (pm_wld V skD Ml) 113 [(2, .int l2)] []) b.1 b.2) (pm_J X V mX8_count 4 (pm_wld V skD Ml) 81 [(0, .ref (V.1 0)), (2, .int l2), (3, .int l3)] [])) (fun _ _ _ => vf_none) (fun ih hih l2 l3 Ml => ?_) pm_F
  · unfold lb_X8_count_81
    refine jv_iloadn (j := 2) dX8_count_81 rfl ?_
    refine jv_aloadn (j := 0) dX8_count_82 rfl ?_
    refine hv_getR dX8_count_83 fl8_7 at_MO_0 rfl ?_
    refine jv_iconst (v := 1) dX8_count_86 (by decide) ?_
    refine hv_iald dX8_count_87 at_MO_1 (by decide) ?_
    refine jw_ic_ge (tgt := 113) dX8_count_88 rfl (fun c88 => ?_) (fun c88 => ?_)
    · exact vf_end (fun g => jr_sub [1] rfl g)
    refine jv_iloadn (j := 1) dX8_count_91 rfl ?_
    refine jv_aloadn (j := 0) dX8_count_92 rfl ?_
    refine jv_iloadn (j := 2) dX8_count_93 rfl ?_
    refine hv_callI (As := [.int l3]) dX8_count_94 lk8_157 kX8_isSpent nX8_isSpent (Nat.le_of_ble_eq_true rfl) (Nat.le_of_ble_eq_true rfl) at_MO_0 rfl rfl rfl (fun _ _ e l => c_X8_isSpent  e l V) ?_
    intro r82003 M82002
    refine jw_if_eq (tgt := 104) dX8_count_97 rfl (fun c97 => ?_) (fun c97 => ?_)
    · refine jv_iconst (v := 0) dX8_count_104 (by decide) ?_
      refine jv_iadd dX8_count_105 ?_
      refine vf_letS (fun z82004 => ?_)
      refine jv_istoren (L' := [(2, .int z82004), (0, .ref (V.1 0)), (3, .int l3)]) dX8_count_106 (Nat.le_of_ble_eq_true rfl) rfl ?_
      refine jv_iinc (j := 2) (v := l3 + 1) (L' := [(3, .int (l3 + 1)), (2, .int z82004), (0, .ref (V.1 0))]) dX8_count_107 rfl rfl (Nat.le_of_ble_eq_true rfl) rfl ?_
      refine jv_goto (tgt := 81) dX8_count_110 rfl ?_
      exact vf_j (fun g => jr_sub [2, 1, 0] rfl g) (hih z82004 (l3 + 1) M82002)
    refine jv_iconst (v := 1) dX8_count_100 (by decide) ?_
    refine jv_goto (tgt := 105) dX8_count_101 rfl ?_
    refine jv_iadd dX8_count_105 ?_
    refine vf_letS (fun z82005 => ?_)
    refine jv_istoren (L' := [(2, .int z82005), (0, .ref (V.1 0)), (3, .int l3)]) dX8_count_106 (Nat.le_of_ble_eq_true rfl) rfl ?_
    refine jv_iinc (j := 2) (v := l3 + 1) (L' := [(3, .int (l3 + 1)), (2, .int z82005), (0, .ref (V.1 0))]) dX8_count_107 rfl rfl (Nat.le_of_ble_eq_true rfl) rfl ?_
    refine jv_goto (tgt := 81) dX8_count_110 rfl ?_
    exact vf_j (fun g => jr_sub [2, 1, 0] rfl g) (hih z82005 (l3 + 1) M82002)
set_option maxHeartbeats 4000000 in
set_option maxRecDepth 100000 in
theorem w_X8_count {X : pm_X} {V : pm_V} (M : pm_M) (x1 : Int32)  : pm_VF (f_X8_count M x1) (pm_K X V mX8_count 4 skD) (pm_J X V mX8_count 4 (pm_wld V skD M) 0 [(0, .ref (V.1 0)), (1, .int x1)] []) := by
  unfold f_X8_count
  refine jv_iconst (v := 0) dX8_count_0 (by decide) ?_
  refine jv_istoren (L' := [(2, .int 0), (0, .ref (V.1 0)), (1, .int x1)]) dX8_count_1 (Nat.le_of_ble_eq_true rfl) rfl ?_
  refine jv_iloadn (j := 2) dX8_count_2 rfl ?_
  refine vf_case (fun c3 => ?_) (fun _ => ?_)
  · refine jv_tout (tgt := 146) dX8_count_3 c3 rfl ?_
    refine jv_aloadn (j := 1) dX8_count_146 rfl ?_
    refine jv_iconst (v := 1) dX8_count_147 (by decide) ?_
    refine hv_callI (As := [.int 1]) dX8_count_148 lk8_107 kX8_finds nX8_finds (Nat.le_of_ble_eq_true rfl) (Nat.le_of_ble_eq_true rfl) at_MO_0 rfl rfl rfl (fun _ _ e l => c_X8_finds  e l V) ?_
    intro r2 M1
    exact vf_ret dX8_count_151 rfl
  refine vf_case (fun c3 => ?_) (fun _ => ?_)
  · refine jv_tin (v := 0) (tgt := 60) dX8_count_3 c3 (by decide) (by decide) rfl rfl ?_
    refine jv_aloadn (j := 1) dX8_count_60 rfl ?_
    refine hv_getR dX8_count_61 fl8_7 at_MO_0 rfl ?_
    refine jv_iloadn (j := 2) dX8_count_64 rfl ?_
    refine hv_ialdC dX8_count_65 at_MO_1 (fun _ => ?_)
    exact vf_ret dX8_count_66 rfl
  refine vf_case (fun c3 => ?_) (fun _ => ?_)
  · refine jv_tin (v := 1) (tgt := 60) dX8_count_3 c3 (by decide) (by decide) rfl rfl ?_
    refine jv_aloadn (j := 1) dX8_count_60 rfl ?_
    refine hv_getR dX8_count_61 fl8_7 at_MO_0 rfl ?_
    refine jv_iloadn (j := 2) dX8_count_64 rfl ?_
    refine hv_ialdC dX8_count_65 at_MO_1 (fun _ => ?_)
    exact vf_ret dX8_count_66 rfl
  refine vf_case (fun c3 => ?_) (fun _ => ?_)
  · refine jv_tin (v := 2) (tgt := 60) dX8_count_3 c3 (by decide) (by decide) rfl rfl ?_
    refine jv_aloadn (j := 1) dX8_count_60 rfl ?_
    refine hv_getR dX8_count_61 fl8_7 at_MO_0 rfl ?_
    refine jv_iloadn (j := 2) dX8_count_64 rfl ?_
    refine hv_ialdC dX8_count_65 at_MO_1 (fun _ => ?_)
    exact vf_ret dX8_count_66 rfl
  refine vf_case (fun c3 => ?_) (fun _ => ?_)
  · refine jv_tin (v := 3) (tgt := 67) dX8_count_3 c3 (by decide) (by decide) rfl rfl ?_
    refine jv_aloadn (j := 1) dX8_count_67 rfl ?_
    refine jv_iconst (v := 2) dX8_count_68 (by decide) ?_
    refine hv_callI (As := [.int 2]) dX8_count_69 lk8_187 kX8_all nX8_all (Nat.le_of_ble_eq_true rfl) (Nat.le_of_ble_eq_true rfl) at_MO_0 rfl rfl rfl (fun _ _ e l => c_X8_all  e l V) ?_
    intro r4 M3
    exact vf_ret dX8_count_72 rfl
  refine vf_case (fun c3 => ?_) (fun _ => ?_)
  · refine jv_tin (v := 4) (tgt := 73) dX8_count_3 c3 (by decide) (by decide) rfl rfl ?_
    refine jv_aloadn (j := 1) dX8_count_73 rfl ?_
    refine jv_iconst (v := 1) dX8_count_74 (by decide) ?_
    refine hv_callI (As := [.int 1]) dX8_count_75 lk8_187 kX8_all nX8_all (Nat.le_of_ble_eq_true rfl) (Nat.le_of_ble_eq_true rfl) at_MO_0 rfl rfl rfl (fun _ _ e l => c_X8_all  e l V) ?_
    intro r6 M5
    exact vf_ret dX8_count_78 rfl
  refine vf_case (fun c3 => ?_) (fun _ => ?_)
  · refine jv_tin (v := 5) (tgt := 79) dX8_count_3 c3 (by decide) (by decide) rfl rfl ?_
    refine jv_iconst (v := 0) dX8_count_79 (by decide) ?_
    refine jv_istoren (L' := [(3, .int 0), (2, .int 0), (0, .ref (V.1 0)), (1, .int x1)]) dX8_count_80 (Nat.le_of_ble_eq_true rfl) rfl ?_
    refine vl_b2 (P := fun (l2 : Int32) (Ml : pm_M) => pm_J X V mX8_count 4 (pm_wld V skD Ml) 113 [(2, .int l2)] []) (vf_j (fun g => jr_sub [2, 1, 0] rfl g) (wl_X8_count_81   0 0 M)) ?_
    intro l7 M8
    refine jv_iloadn (j := 0) dX8_count_113 rfl ?_
    exact vf_ret dX8_count_114 rfl
  refine vf_case (fun c3 => ?_) (fun _ => ?_)
  · refine jv_tin (v := 6) (tgt := 115) dX8_count_3 c3 (by decide) (by decide) rfl rfl ?_
    refine jv_aloadn (j := 1) dX8_count_115 rfl ?_
    refine hv_callI (As := []) dX8_count_116 lk8_171 kX8_mostInArrears nX8_mostInArrears (Nat.le_of_ble_eq_true rfl) (Nat.le_of_ble_eq_true rfl) at_MO_0 rfl rfl rfl (fun _ _ e l => c_X8_mostInArrears  e l V) ?_
    intro r10 M9
    exact vf_ret dX8_count_119 rfl
  refine vf_case (fun c3 => ?_) (fun _ => ?_)
  · refine jv_tin (v := 7) (tgt := 120) dX8_count_3 c3 (by decide) (by decide) rfl rfl ?_
    refine jv_aloadn (j := 1) dX8_count_120 rfl ?_
    refine hv_getR dX8_count_121 fl8_7 at_MO_0 rfl ?_
    refine jv_iconst (v := 4) dX8_count_124 (by decide) ?_
    refine hv_iald dX8_count_125 at_MO_1 (by decide) ?_
    exact vf_ret dX8_count_126 rfl
  refine vf_case (fun c3 => ?_) (fun _ => ?_)
  · refine jv_tin (v := 8) (tgt := 127) dX8_count_3 c3 (by decide) (by decide) rfl rfl ?_
    refine jv_aloadn (j := 1) dX8_count_127 rfl ?_
    refine hv_getR dX8_count_128 fl8_7 at_MO_0 rfl ?_
    refine jv_iconst (v := 5) dX8_count_131 (by decide) ?_
    refine hv_iald dX8_count_132 at_MO_1 (by decide) ?_
    exact vf_ret dX8_count_133 rfl
  refine vf_case (fun c3 => ?_) (fun _ => ?_)
  · refine jv_tin (v := 9) (tgt := 134) dX8_count_3 c3 (by decide) (by decide) rfl rfl ?_
    refine jv_aloadn (j := 1) dX8_count_134 rfl ?_
    refine hv_getI dX8_count_135 fl8_220 at_MO_0 rfl ?_
    exact vf_ret dX8_count_138 rfl
  refine vf_case (fun c3 => ?_) (fun _ => ?_)
  · refine jv_tin (v := 10) (tgt := 139) dX8_count_3 c3 (by decide) (by decide) rfl rfl ?_
    refine jv_aloadn (j := 1) dX8_count_139 rfl ?_
    refine hv_getR dX8_count_140 fl8_7 at_MO_0 rfl ?_
    refine jv_iconst (v := 3) dX8_count_143 (by decide) ?_
    refine hv_iald dX8_count_144 at_MO_1 (by decide) ?_
    exact vf_ret dX8_count_145 rfl
  exact vf_none
theorem c_X8_count {M : pm_M} {x1 : Int32}  {r : Int32} {M' : pm_M} (h : f_X8_count M x1 = some (r, M')) (l : Launch) (V : pm_V) : pm_Ci l V skD yX8_count mX8_count 4 [.ref (V.1 0), .int x1] M r M' := pm_metI (by decide) rfl (Nat.le_of_ble_eq_true rfl) h (fun _ => w_X8_count M x1 )
def f_X8_told (M : pm_M) (x1 : Int32) : Option (Int32 × pm_M) :=
  (pm_b2 (f_X8_in M (x1.toInt64) 1 5) (fun (r2 : Int32) (M1 : pm_M) => (if r2 = 0 then (pm_b2 (f_X8_finds M1 1) (fun (r4 : Int32) (M3 : pm_M) => (some (r4, M3)))) else (pm_chk (pm_in x1 6) (some ((M1 3 x1.toNatClampNeg), M1))))))
set_option maxHeartbeats 4000000 in
set_option maxRecDepth 100000 in
theorem w_X8_told {X : pm_X} {V : pm_V} (M : pm_M) (x1 : Int32)  : pm_VF (f_X8_told M x1) (pm_K X V mX8_told 2 skD) (pm_J X V mX8_told 2 (pm_wld V skD M) 0 [(0, .ref (V.1 0)), (1, .int x1)] []) := by
  unfold f_X8_told
  refine jv_iloadn (j := 1) dX8_told_0 rfl ?_
  refine jv_i2l dX8_told_1 ?_
  refine jv_lconst (v := 1) dX8_told_2 (by decide) ?_
  refine jv_ldc2 dX8_told_3 lk8_128 ?_
  refine hv_callS (As := [.long (x1.toInt64), .long 1, .long 5]) dX8_told_6 lk8_44 kX8_in nX8_in (Nat.le_of_ble_eq_true rfl) (Nat.le_of_ble_eq_true rfl) rfl (fun _ _ e l => c_X8_in  e l V) ?_
  intro r2 M1
  refine jw_if_eq (tgt := 21) dX8_told_9 rfl (fun c9 => ?_) (fun c9 => ?_)
  · refine jv_aloadn (j := 0) dX8_told_21 rfl ?_
    refine jv_iconst (v := 1) dX8_told_22 (by decide) ?_
    refine hv_callI (As := [.int 1]) dX8_told_23 lk8_107 kX8_finds nX8_finds (Nat.le_of_ble_eq_true rfl) (Nat.le_of_ble_eq_true rfl) at_MO_0 rfl rfl rfl (fun _ _ e l => c_X8_finds  e l V) ?_
    intro r4 M3
    exact vf_ret dX8_told_26 rfl
  refine jv_aloadn (j := 0) dX8_told_12 rfl ?_
  refine hv_getR dX8_told_13 fl8_16 at_MO_0 rfl ?_
  refine jv_iloadn (j := 1) dX8_told_16 rfl ?_
  refine hv_ialdC dX8_told_17 at_MO_3 (fun _ => ?_)
  refine jv_goto (tgt := 26) dX8_told_18 rfl ?_
  exact vf_ret dX8_told_26 rfl
theorem c_X8_told {M : pm_M} {x1 : Int32}  {r : Int32} {M' : pm_M} (h : f_X8_told M x1 = some (r, M')) (l : Launch) (V : pm_V) : pm_Ci l V skD yX8_told mX8_told 2 [.ref (V.1 0), .int x1] M r M' := pm_metI (by decide) rfl (Nat.le_of_ble_eq_true rfl) h (fun _ => w_X8_told M x1 )
