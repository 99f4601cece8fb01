/-! the law's rows: the script, calls in a world of two parts -/
def pm_sc (X : pm_X) (b L : Nat) (xs : Nat → Int32) : Prop := match X with
  | (_, _, _, _, s, _, _, _, _, _, _, _, A) => va_X b L xs s s.heap ∧ b < s.heap.size ∧ ¬ A b
section PML
variable {X : pm_X} {V V2 : pm_V} {mi : pm_I} {ht : Nat} {ws W1 W2 : va_W} {sk : List pm_Sh} {M M' : pm_M} {pc pc' : Nat} {L L' : List (Nat × Value)} {st stk : List Value} {b n : Nat} {xs : Nat → Int32}
theorem kr_sld {i : Int32} (hX : pm_sc X b n xs) (hd : pm_DC mi.1 pc pc' 1 .iaload) (hin : pm_in i n = true) (k : pm_J X V mi ht ws pc' L (.int (xs i.toNatClampNeg) :: st)) : pm_J X V mi ht ws pc L (.int i :: .ref b :: st) := by
  obtain ⟨p, l, e, R, s, m, args, below, meth, c, Q, ⟨cells, slots⟩, A⟩ := X
  intro ok H locs ls hP hD hS hl
  obtain ⟨hd, rfl⟩ := hd
  exact va_sld ok.1 ok.2.1 hX.1 hX.2.1 hX.2.2 hS (pm_in_iff.mp hin) hd (k ok H locs ls hP hD hS hl)
theorem kr_slen (hX : pm_sc X b n xs) (hd : pm_DC mi.1 pc pc' 1 .arraylength) (k : pm_J X V mi ht ws pc' L (.int (nI n) :: st)) : pm_J X V mi ht ws pc L (.ref b :: st) := by
  obtain ⟨p, l, e, R, s, m, args, below, meth, c, Q, ⟨cells, slots⟩, A⟩ := X
  intro ok H locs ls hP hD hS hl
  obtain ⟨hd, rfl⟩ := hd
  exact va_slen ok.1 ok.2.1 hX.1 hX.2.1 hX.2.2 hS hd (k ok H locs ls hP hD hS hl)
theorem pm_mid {A0 : Nat → Prop} {D : va_G} {cl : List vw_C} {wc w1 : va_W} {H H1 : Heap} (hP : va_P D cl (W1 ++ (wc ++ W2)) H) (hD : va_D A0 (W1 ++ (wc ++ W2))) (hk : ∀ q : Nat, q < H.size → (∀ (k : Nat) (e : va_E), wc[k]? ≠ some (q, e)) → H1[q]? = H[q]?) (hF : ∀ (k : Nat) (q : Nat × va_E), w1[k]? = some q → A0 q.1) (hs : w1.map Prod.fst = wc.map Prod.fst) (hP1 : va_P D cl w1 H1) : va_P D cl (W1 ++ (w1 ++ W2)) H1 ∧ va_D A0 (W1 ++ (w1 ++ W2)) := by
  have hlen : w1.length = wc.length := by have := congrArg List.length hs; simpa using this
  have hfst : ∀ (k : Nat) (q : Nat × va_E), w1[k]? = some q → ∃ q' : Nat × va_E, wc[k]? = some q' ∧ q'.1 = q.1 := by
    intro k q hq
    have h1 : (w1.map Prod.fst)[k]? = some q.1 := by rw [List.getElem?_map, hq]; rfl
    rw [hs, List.getElem?_map] at h1
    cases hw : wc[k]? with
    | none => rw [hw] at h1; cases h1
    | some q' => rw [hw] at h1; exact ⟨q', rfl, Option.some.inj h1⟩
  -- the same addresses stand at the same places
  have hadr : ∀ (k : Nat) (q : Nat × va_E), (W1 ++ (w1 ++ W2))[k]? = some q → ∃ q' : Nat × va_E, (W1 ++ (wc ++ W2))[k]? = some q' ∧ q'.1 = q.1 := by
    intro k q hq
    by_cases h1 : k < W1.length
    · rw [List.getElem?_append_left h1] at hq ⊢
      exact ⟨q, hq, rfl⟩
    · rw [List.getElem?_append_right (by omega)] at hq ⊢
      by_cases h2 : k - W1.length < w1.length
      · rw [List.getElem?_append_left h2] at hq
        rw [List.getElem?_append_left (by omega)]
        exact hfst _ q hq
      · rw [List.getElem?_append_right (by omega)] at hq
        rw [List.getElem?_append_right (by omega)]
        rw [hlen] at hq
        exact ⟨q, hq, rfl⟩
  have out : ∀ (k : Nat) (q : Nat × va_E), (W1 ++ (wc ++ W2))[k]? = some q → (k < W1.length ∨ W1.length + wc.length ≤ k) → H1[q.1]? = H[q.1]? := by
    intro k q hq hk2
    refine hk q.1 ((hP k q hq).lt) (fun k2 e h2 => ?_)
    have h3 : (W1 ++ (wc ++ W2))[W1.length + k2]? = some (q.1, e) := by
      have hl2 := (List.getElem?_eq_some_iff.mp h2).1
      rw [List.getElem?_append_right (by omega), List.getElem?_append_left (by omega)]
      rw [show W1.length + k2 - W1.length = k2 by omega]
      exact h2
    have hl2 := (List.getElem?_eq_some_iff.mp h2).1
    have := hD.1 _ _ _ _ hq h3 rfl
    omega
  refine ⟨fun k q hq => ?_, fun i j x y hx hy hxy => ?_, fun k q hq => ?_⟩
  · by_cases h1 : k < W1.length
    · rw [List.getElem?_append_left h1] at hq
      have h2 : (W1 ++ (wc ++ W2))[k]? = some q := by rw [List.getElem?_append_left h1]; exact hq
      exact (hP k q h2).kept (out k q h2 (Or.inl h1))
    · rw [List.getElem?_append_right (by omega)] at hq
      by_cases h2 : k - W1.length < w1.length
      · rw [List.getElem?_append_left h2] at hq
        exact hP1 _ q hq
      · rw [List.getElem?_append_right (by omega)] at hq
        have h3 : (W1 ++ (wc ++ W2))[k]? = some q := by
          rw [List.getElem?_append_right (by omega), List.getElem?_append_right (by omega), ← hlen]
          exact hq
        exact (hP k q h3).kept (out k q h3 (Or.inr (by omega)))
  · obtain ⟨x', h1, e1⟩ := hadr i x hx
    obtain ⟨y', h2, e2⟩ := hadr j y hy
    exact hD.1 i j x' y' h1 h2 (by rw [e1, e2, hxy])
  · obtain ⟨q', h1, e1⟩ := hadr k q hq
    rw [← e1]
    exact hD.2 k q' h1
theorem pm_wld_fst (M1 : pm_M) : (pm_wld V sk M1).map Prod.fst = (pm_wld V sk M).map Prod.fst := by
  apply List.ext_getElem?
  intro k
  unfold pm_wld
  rw [List.getElem?_map, List.getElem?_map, List.getElem?_mapIdx, List.getElem?_mapIdx]
  cases sk[k]? <;> rfl
theorem pm_sub {A0 : Nat → Prop} {D : va_G} {cl : List vw_C} {wc : va_W} {H : Heap} (hP : va_P D cl (W1 ++ (wc ++ W2)) H) (hD : va_D A0 (W1 ++ (wc ++ W2))) : va_P D cl wc H ∧ va_D A0 wc := by
  have key : ∀ (k : Nat) (q : Nat × va_E), wc[k]? = some q → (W1 ++ (wc ++ W2))[W1.length + k]? = some q := by
    intro k q hq
    have hl := (List.getElem?_eq_some_iff.mp hq).1
    rw [List.getElem?_append_right (by omega), List.getElem?_append_left (by omega), show W1.length + k - W1.length = k by omega]
    exact hq
  refine ⟨fun k q hq => hP _ q (key k q hq), fun i j x y hx hy hxy => ?_, fun k q hq => hD.2 _ q (key k q hq)⟩
  have := hD.1 _ _ _ _ (key i x hx) (key j y hy) hxy
  omega
theorem kr_callI {y : MethodName} {mi' : pm_I} {ht' idx bp ci : Nat} {fs : List (Option Nat)} {q : vw_C} {As : List Value} {r : Int32} (hV : V2.2 = V.2) (hst2 : V2.1 900 = V.1 900 ∧ V2.1 901 = V.1 901 ∧ V2.1 902 = V.1 902) (hd : pm_DC mi.1 pc pc' 3 (.invokevirtual idx)) (hl : Cond.methodLink mi.2.1 idx y ∈ pm_tb) (hy : pm_cv y mi') (hn : pm_np y As.length) (hh : ht' + 1 ≤ ht) (hrest : (st.map fun v => v.category).sum ≤ 8) (hb : sk[bp]? = some (.inr (.inr (ci, fs)))) (hc : pm_cls[ci]? = some q) (hq : q.1 = y.cls) (hst : stk = As.reverse ++ .ref (V2.1 bp) :: st)
    (hM : ∀ l : Launch, pm_Ci l V2 sk y mi' ht' (.ref (V2.1 bp) :: As) M r M') (kk : pm_J X V mi ht (W1 ++ (pm_wld V2 sk M' ++ W2)) pc' L (.int r :: st)) : pm_J X V mi ht (W1 ++ (pm_wld V2 sk M ++ W2)) pc L stk := by
  obtain ⟨p, l, e, R, s, m, args, below, meth, c, Q, ⟨cells, slots⟩, A⟩ := X
  intro ok H locs ls hP hD hS hl0
  obtain ⟨hd, rfl⟩ := hd
  have hts := ok.2.2.2.2.1
  have hK : va_K V2.2.2 pm_cls (pm_tys V2) s := by
    have h1 := ok.2.2.2.2.2.1
    unfold pm_tys at h1 ⊢
    rw [hV]
    exact h1
  have hstat : pm_stat V2 A s s.heap := by
    have h1 := ok.2.2.2.2.2.2.1.1
    unfold pm_stat at h1 ⊢
    rw [hst2.1, hst2.2.1, hst2.2.2]
    exact h1
  obtain ⟨hc0, hR1, hR2⟩ := ok.2.2.2.2.2.2.2
  have hP2 : va_P V2.2.2 pm_cls (W1 ++ (pm_wld V2 sk M ++ W2)) H := by rw [hV]; exact hP
  obtain ⟨hPc, hDc⟩ := pm_sub hP2 hD
  have hAQ := pm_AQ_of hDc
  obtain ⟨y1, y2, y3, y4, y5, y6, y7⟩ := hy
  have hg : GoodIn pm_tb (wsV mi.2.1 idx y.cls y (pm_ws y mi')) := by
    intro w hw
    simp only [wsV, pm_ws, List.cons_append, List.nil_append, List.mem_cons] at hw
    rcases hw with rfl | rfl | rfl | rfl | rfl | hw
    · exact pm_goodw hl
    · exact pm_goodw y1
    · exact pm_goodw y2
    · exact pm_goodw y3
    · exact pm_goodw y4
    · exact pm_goodw hw
  refine va_calli (va_runV (C := y.cls) (As := As) (rest := st) ⟨ok.1, ok.2.1, ok.2.2.1, ok.2.2.2.1, hts⟩ (hM l) (cwV As.length hts hg rfl rfl rfl ⟨rfl, y5, y6, hn⟩ ⟨by show ht' + 1 + 1 ≤ _; omega, by show 8 + (mi'.2.2.1 + 11) + 64 * (ht' + 1) ≤ _; omega⟩) ⟨pm_blind, ?_, fun U hU hW => ⟨rfl, ?_⟩⟩ rfl rfl hl0.1 hst (lv_room hrest) hd ⟨hc0.1, hc0.2⟩) hS (fun q _ h => hAQ q h) hAQ (fun r' u t H1 locs1 h1 hvm hw hB hz1 hk1 hS1 => ?_)
  · have := va_recv hK hPc hc (pm_wld_at hb)
    rw [hq] at this
    exact this
  · exact ⟨by rw [hU]; exact hPc, va_K.moved hW.alike hK, pm_D_self hDc, pm_stat_kept hstat hW.alike (fun a h1 h2 => by rw [hU]; exact hS.2.1 a h1 h2) hAQ, pm_nst_warm hW ok.2.2.2.2.2.2.1.2⟩
  · subst hw
    obtain ⟨b1, b2, b3, b4, b5⟩ := hB
    rw [h1] at b1
    obtain ⟨hP3, hD3⟩ := pm_mid (w1 := pm_wld V2 sk M') hP2 hD (fun q h1 h2 => hk1 q h1 (fun ⟨k, hk, e⟩ => by
      subst e
      exact h2 k _ (pm_wld_at (List.getElem?_eq_getElem hk)))) (fun k q hq => hAQ _ (b3.2 k q hq)) (pm_wld_fst M') b1
    rw [hV] at hP3
    exact kk ok H1 locs1 ls hP3 hD3 hS1 hl0
end PML
theorem pm_inS {i L d : Nat} (hL : L ≤ 3072) (h : i + 6 ≤ L) (hd : d < 6) (z : Int32) (hz : z = nI d) : pm_in (nI i + z) L = true := by
  rw [hz, nI_add]
  exact pm_in_iff.mpr (vp_in_nI (by omega) (by omega))
