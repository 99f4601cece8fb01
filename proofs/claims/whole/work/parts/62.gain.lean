/-! check -/
theorem ck_loop {N : Nat} (hN : N ≤ 20) {Cw Dw : Nat → Int32} (hw : ∀ i, i < N → Cw i = Dw (88 + i)) : ∀ (d i B : Nat) (C D : pm_M) (σ : sg), i + d = N → B + d + 1 < 2 ^ 19 → DVs 31 B C D σ → (∀ i, i < N → C 27 i = Cw i) → (∀ k, 86 ≤ k → D 1 k = Dw k) → ∀ n m : Nat, ∃ (r : Int32) (C' D' : pm_M) (τ : sg), ((pm_it (fun _ _ => none) (lb_X7_check_29 (nI N)) (n + d + 1) (nI i) C = some (Sum.inr (r, C')) ∧ pm_it (fun _ _ _ => none) (lb_X8_check_22 (nI N)) (m + d + 1) 0 (nI i) D = some (r, D')) ∨ (pm_it (fun _ _ => none) (lb_X7_check_29 (nI N)) (n + d + 1) (nI i) C = some (Sum.inl C') ∧ pm_it (fun _ _ _ => none) (lb_X8_check_22 (nI N)) (m + d + 1) 0 (nI i) D = some (0, D'))) ∧ VC C' 31 τ ∧ (∀ q, (q < 31 ∨ 31 + 30 ≤ q) → C' q = C q) ∧ FDm D D' := by
  intro d
  induction d with
  | zero =>
    intro i B C D σ hi hB h hC hD n m
    refine ⟨0, C, D, σ, Or.inr ⟨?_, ?_⟩, h.2.1, fun _ _ => rfl, FDm.refl D⟩
    · show lb_X7_check_29 (nI N) _ (nI i) C = _
      rw [lb_X7_check_29.eq_1, if_pos (yle (by omega) (by omega) (by omega))]
    · show lb_X8_check_22 (nI N) _ 0 (nI i) D = _
      rw [lb_X8_check_22.eq_1, if_pos (yle (by omega) (by omega) (by omega))]
  | succ d ih =>
    intro i B C D σ hi hB h hC hD n m
    obtain ⟨C1, D1, τ, a1, a2, a3, a4, a5, a6, -⟩ := day1_eq (by omega) h
    obtain ⟨r, s1, s2⟩ := sum_eqp (w := 2) a3.1 a3.2.1 a3.2.2 (by decide)
    have eW : C1 (1 + 26) i = Cw i := by rw [a5 (1 + 26) (by omega)]; exact hC i (by omega)
    have dW : D1 1 (88 + i) = Dw (88 + i) := by rw [a6.2.2 _ (by omega)]; exact hD _ (by omega)
    have e88 : (88 : Int32) + nI i = nI (88 + i) := nI_add 88 i
    have k1 : ∀ ih, lb_X7_check_29 (nI N) ih (nI i) C = (if r = Cw i then ih (nI (i + 1)) C1 else some (Sum.inr (1 + nI i, C1))) := fun ih => by
      rw [lb_X7_check_29.eq_1, if_neg (nle (a := N) (b := i) (by omega) (by omega) (by omega)), a1, b1_s, show f_X3_sum (31 + 1) C1 (31 + 1 + 3) = some (r, C1) from s1, b2_s, chk_t (in_nI (n := i) (by omega) (by decide)), nI_clamp (n := i) (by omega), eW, nI_p1]
    have k2 : ∀ ih, lb_X8_check_22 (nI N) ih 0 (nI i) D = (if r = Cw i then ih 0 (nI (i + 1)) D1 else ih (1 + nI i) (nI (i + 1)) D1) := fun ih => by
      rw [lb_X8_check_22.eq_1, if_neg (nle (a := N) (b := i) (by omega) (by omega) (by omega)), if_pos rfl, a2, b1_s, e88, chk_t (in_nI (n := 88 + i) (by omega) (by decide)), show f_X8_all D1 2 = some (r, D1) from s2, b2_s, nI_clamp (n := 88 + i) (by omega), dW, ← hw i (by omega), let_s, nI_p1]
      by_cases e : r = Cw i
      · rw [if_pos e, if_pos e.symm]
      · rw [if_neg e, if_neg (fun q => e q.symm)]
    by_cases e : r = Cw i
    · obtain ⟨r', C', D', υ, e1, e2, e3, e4⟩ := ih (i + 1) (B + 1) C1 D1 τ (by omega) (by omega) a3 (fun j hj => by rw [a5 27 (by omega)]; exact hC j hj) (fun k hk => by rw [a6.2.2 _ hk]; exact hD k hk) n m
      have q1 : pm_it (fun _ _ => none) (lb_X7_check_29 (nI N)) (n + (d + 1) + 1) (nI i) C = pm_it (fun _ _ => none) (lb_X7_check_29 (nI N)) (n + d + 1) (nI (i + 1)) C1 := by
        refine Eq.trans (show _ = lb_X7_check_29 (nI N) (pm_it (fun _ _ => none) (lb_X7_check_29 (nI N)) (n + d + 1)) (nI i) C from rfl) ?_
        rw [k1, if_pos e]
      have q2 : pm_it (fun _ _ _ => none) (lb_X8_check_22 (nI N)) (m + (d + 1) + 1) 0 (nI i) D = pm_it (fun _ _ _ => none) (lb_X8_check_22 (nI N)) (m + d + 1) 0 (nI (i + 1)) D1 := by
        refine Eq.trans (show _ = lb_X8_check_22 (nI N) (pm_it (fun _ _ _ => none) (lb_X8_check_22 (nI N)) (m + d + 1)) 0 (nI i) D from rfl) ?_
        rw [k2, if_pos e]
      rw [q1, q2]
      exact ⟨r', C', D', υ, e1, e2, fun q hq => (e3 q hq).trans (a5 q hq), a6.trans e4⟩
    · refine ⟨1 + nI i, C1, D1, τ, Or.inl ⟨?_, ?_⟩, a3.2.1, a5, a6⟩
      · refine Eq.trans (show _ = lb_X7_check_29 (nI N) (pm_it (fun _ _ => none) (lb_X7_check_29 (nI N)) (n + d + 1)) (nI i) C from rfl) ?_
        rw [k1, if_neg e]
      · refine Eq.trans (show _ = lb_X8_check_22 (nI N) (pm_it (fun _ _ _ => none) (lb_X8_check_22 (nI N)) (m + d + 1)) 0 (nI i) D from rfl) ?_
        rw [k2, if_neg e]
        show lb_X8_check_22 (nI N) (pm_it (fun _ _ _ => none) (lb_X8_check_22 (nI N)) (m + d)) (1 + nI i) (nI (i + 1)) D1 = _
        have e1i : (1 : Int32) + nI i = nI (1 + i) := nI_add 1 i
        rw [lb_X8_check_22.eq_1, e1i, if_neg (show ¬ nI (1 + i) = 0 from nne (b := 0) (by omega) (by decide) (by omega))]
        split <;> rfl
theorem e_check {C D : pm_M} (h : RR C D)  : ∃ (r : Int32) (C' D' : pm_M), f_X7_check C  = some (r, C') ∧ f_X8_check D  = some (r, D') ∧ RR C' D' := by
  obtain ⟨⟨σ, h1, h2, h3⟩, h4⟩ := id h
  have hN : (sW σ).length ≤ 20 := h1.2.2.2.2.2.2.2.2.2.2.2
  have eC : C 1 8 = nI (sW σ).length := h2.2.2.2.2.2.1
  have eD : D 1 5 = nI (sW σ).length := h3.2.2.2.2.2.1
  have wc : ∀ i, i < (sW σ).length → C 27 i = D 1 (88 + i) := fun i hi => (h2.2.2.2.2.2.2.2.2.2.2.1 i hi).trans (h3.2.2.2.2.2.2.2.2.2.2.1 i hi).symm
  have w1 : WF 9999 (σ.1, σ.2.1, σ.2.2.1, σ.2.2.2.1, σ.2.2.2.2.1, σ.2.2.2.2.2.1, ([] : List Int32)) := by
    obtain ⟨b1, b2, b3, b4, b5, b6, b7, b8, b9, b10, b11, b12⟩ := h1
    exact ⟨b1, b2, b3, b4, b5, b6, b7, b8, b9, b10, b11, Nat.zero_le _⟩
  have v1 := VC.wz h2
  have m1 : VM (pm_up D 1 5 0 1) (σ.1, σ.2.1, σ.2.2.1, σ.2.2.2.1, σ.2.2.2.2.1, σ.2.2.2.2.2.1, ([] : List Int32)) := by rw [pm_up_s]; exact VM.wz h3 h1
  have hh : RR (pm_up C 1 8 0) (pm_up D 1 5 0) := h.now w1 v1 m1 (fun q hq => pm_up_o q (by omega)) (fun q hq => pm_up_o q hq)
  obtain ⟨C1, D1, a1, a2, a3, a4, a5, a6⟩ := th_in hh w1 v1 m1
  obtain ⟨r, C2, D2, τ, e1, e3, e4, e5⟩ := ck_loop (N := (sW σ).length) hN (Cw := C 27) (Dw := D 1) wc (sW σ).length 0 9999 C1 D1 _ (by omega) (by omega) a3 (fun i hi => by rw [a4 27 (by omega), pm_up_o 27 (by decide)]) (fun k hk => by rw [a5 1 (by decide), up_i (by omega)]) (99999 - (sW σ).length) (99999 - (sW σ).length)
  rw [pm_F_s _ (by omega)] at e1
  obtain ⟨D3, f1, f2, -⟩ := th_out hh a5 a6 (fun q hq => (e4 q hq).trans (a4 q hq)) e3 e5
  have tn5 : (5 : Int32).toNatClampNeg = 5 := rfl
  unfold f_X7_check f_X8_check
  rw [tn5, eC, eD, let_s, let_s, let_s, let_s, a1, b1_s, a2, b1_s]
  rcases e1 with ⟨g1, g2⟩ | ⟨g1, g2⟩
  · rw [show lp_X7_check_29 (nI (sW σ).length) 0 C1 = some (Sum.inr (r, C2)) from g1, s1_r, show lp_X8_check_22 (nI (sW σ).length) 0 0 D1 = some (r, D2) from g2, b2_s, f1, b1_s]
    exact ⟨_, _, _, rfl, rfl, f2⟩
  · rw [show lp_X7_check_29 (nI (sW σ).length) 0 C1 = some (Sum.inl C2) from g1, s1_l, show lp_X8_check_22 (nI (sW σ).length) 0 0 D1 = some (0, D2) from g2, b2_s, f1, b1_s]
    exact ⟨_, _, _, rfl, rfl, f2⟩
/-! gains -/
def sgv (σ : sg) (a v : Nat) : sg := (σ.1, f2 σ.2.1 0 a (min 99 (sr σ 0 a + v)), σ.2.2.1, σ.2.2.2.1, σ.2.2.2.2.1, σ.2.2.2.2.2.1, σ.2.2.2.2.2.2)
theorem sgv_0 {σ : sg} {a : Nat} (h : sr σ 0 a ≤ 99) : sgv σ a 0 = σ := by
  have e : f2 σ.2.1 0 a (min 99 (sr σ 0 a + 0)) = σ.2.1 := by
    funext w r
    by_cases k : w = 0 ∧ r = a
    · obtain ⟨rfl, rfl⟩ := k
      rw [f2_s, Nat.add_zero, Nat.min_eq_right h]
    · rw [f2_n k]
  unfold sgv
  rw [e]
theorem ab_eq {C D1 : pm_M} {σ : sg} (h1 : WF 9999 σ) (h2 : VC C 1 σ) (lk : LK C 31) {a v L : Nat} (ha : a < sR σ) (hv : v ≤ 20) (hL : L ≤ 60) (hD : VM (D1 1) (sgv σ a v)) : ∃ (r : Int32) (C' D2 : pm_M) (τ : sg), f_X7_arrearsBehind C (nI L) (nI a) (nI v) = some (r, C') ∧ f_X8_daysGo D1 (nI L) = some D2 ∧ f_X8_its D2 (nI a) 1 = some (r, D2) ∧ VC C' 31 τ ∧ (∀ q, (q < 31 ∨ 31 + 30 ≤ q) → C' q = C q) ∧ FDm D1 D2 := by
  have h6 : sR σ ≤ 6 := h1.1
  have bs : sr σ 0 a ≤ 99 := h1.2.2.2.2.1 0 a (by decide)
  obtain ⟨C1, a1, a2, a3⟩ := x5_copyFrom (p := 31) (a1 := 1) (by omega) h1 h2 lk
  have c0 : C1 (31 + 2 + 0) a = nI (sr σ 0 a) := a3.2.2.2.2.2.2.1 0 a (by decide) (by omega)
  have vr := VC.rf (p := 31) 0 a (min 99 (sr σ 0 a + v)) a3 (by decide)
  have wr : WF 9999 (sgv σ a v) := wf_rf h1 (w := 0) (r := a) (v := min 99 (sr σ 0 a + v)) ha (by decide) (Nat.min_le_left _ _)
  obtain ⟨C2, D2, τ, e1, e2, e3, e4, e5, e6⟩ := days_eq (p := 31) (L := L) (B := 9999) (by omega) (by decide) (show DVs 31 9999 (pm_up C1 (31 + 2 + 0) a (nI (min 99 (sr σ 0 a + v)))) D1 (sgv σ a v) from ⟨wr, vr, hD⟩)
  have hR : sR τ = sR σ := e4.1
  have k1 : C2 (31 + 1 + 2) a = nI (sr τ 1 a) := e3.2.1.2.2.2.2.2.2.1 1 a (by decide) (by omega)
  have k2 : D2 1 (6 + 4 * a + 1) = nI (sr τ 1 a) := e3.2.2.2.2.2.2.2.2.1 a 1 (by omega) (by decide)
  refine ⟨nI (sr τ 1 a), C2, D2, τ, ?_, e2, ?_, e3.2.1, fun q hq => (e5 q hq).trans ((pm_up_o q (by omega)).trans (a2 q hq)), e6⟩
  · unfold f_X7_arrearsBehind
    have hm : pm_min 99 (nI (sr σ 0 a + v)) = nI (min 99 (sr σ 0 a + v)) := nI_min (a := 99) (by decide) (by omega)
    rw [a1, b1_s, chk_t (in_nI (n := a) (by omega) (by decide)), chk_t (in_nI (n := a) (by omega) (by decide)), let_s, nI_clamp (n := a) (by omega), show 31 + 1 + 1 = 31 + 2 + 0 from rfl, c0, nI_add, hm, e1, b1_s, chk_t (in_nI (n := a) (by omega) (by decide)), k1]
  · rw [x8_its (w := 1) (z := 1) rfl (by omega) (by decide), k2]
theorem e_gains {C D : pm_M} (h : RR C D) (x1 : Int32) (x2 : Int32) (x3 : Int32) : ∃ (r : Int32) (C' D' : pm_M), f_X7_gains C x1 x2 x3 = some (r, C') ∧ f_X8_gains D x1 x2 x3 = some (r, D') ∧ RR C' D' := by
  obtain ⟨⟨σ, h1, h2, h3⟩, h4⟩ := id h
  have h6 : sR σ ≤ 6 := h1.1
  unfold f_X7_gains f_X8_gains
  rw [x3_has (n := sR σ) h2.1 (by omega), x8_isRoof (n := sR σ) h3.1 (by omega), b2_s, b2_s, if_bi, if_bi]
  by_cases hr : 0 ≤ x1.toInt ∧ x1.toInt ≤ (sR σ : Int) - 1
  · obtain ⟨a, -, ha, rfl⟩ := vx (lo := 0) (hi := sR σ - 1) (by omega) (x := x1) (by omega)
    rw [if_pos hr, if_pos hr, x7_within, x8_in, b2_s, b2_s, if_bi, if_bi, i64, li1, li20, ll1, ll20]
    have ha6 : a < sR σ := by have := hr.2; rw [nI_toInt (by omega)] at this; omega
    have bs : sr σ 0 a ≤ 99 := h1.2.2.2.2.1 0 a (by decide)
    by_cases hv : 1 ≤ x2.toInt ∧ x2.toInt ≤ 20
    · obtain ⟨v, -, hv2, rfl⟩ := vx (lo := 1) (hi := 20) (by decide) hv
      rw [if_pos hv, if_pos hv, x7_within, x8_in, b2_s, b2_s, if_bi, if_bi, i64, li0, li60, ll0, ll60]
      by_cases hn : 0 ≤ x3.toInt ∧ x3.toInt ≤ 60
      · obtain ⟨L, -, hL, rfl⟩ := vx (lo := 0) (hi := 60) (by decide) hn
        obtain ⟨D1, b1, b2, b3⟩ := x8_keepAside D
        have D11 : D1 1 = D 1 := b2 1 (by decide)
        obtain ⟨r1, C1, D2, τ, e1, e2, e3, e4, e5, e6⟩ := ab_eq (D1 := D1) (L := L) h1 h2 h4.1 ha6 (v := 0) (by omega) hL (by rw [sgv_0 bs, D11]; exact h3)
        obtain ⟨D3, f1, f2, f3, f4⟩ := th_out h b2 b3 e5 e4 e6
        have h2' : VC C1 1 σ := h2.congr (fun q _ _ _ _ => e5 q (by omega))
        have d0 : D3 1 (6 + 4 * a + 0) = nI (sr σ 0 a) := by rw [f3]; exact h3.2.2.2.2.2.2.1 a 0 ha6 (by decide)
        have m4 : VM (pm_up D3 1 (6 + 4 * a + 0) (nI (min 99 (sr σ 0 a + v))) 1) (sgv σ a v) := by
          rw [pm_up_s, f3]; exact VM.rf 0 a (min 99 (sr σ 0 a + v)) h3 h1 ha6 (by decide)
        obtain ⟨r2, C2, D5, υ, g1, g2, g3, g4, g5, g6⟩ := ab_eq (D1 := pm_up D3 1 (6 + 4 * a + 0) (nI (min 99 (sr σ 0 a + v)))) (L := L) h1 h2' e4.lk ha6 (v := v) hv2 hL m4
        have fd3 : FDm D1 D3 := ⟨fun k p q r s => (f4 k q).trans (e6.1 k p q r s), fun j hj => by rw [f4 0 (by decide)]; exact e6.2.1 j hj, fun k hk => by rw [f3, D11]⟩
        obtain ⟨D6, k1, k2, -⟩ := th_out h b2 b3 (fun q hq => (g5 q hq).trans (e5 q hq)) g4 ((fd3.trans (FDm.up1 (by omega))).trans g6)
        have hh : f_X8_held D3 (nI (sr σ 0 a + v)) 0 99 = some (nI (min 99 (sr σ 0 a + v)), D3) := held_nI (by omega) (by decide) _ rfl
        rw [if_pos hn, if_pos hn, show f_X7_arrearsBehind C (nI L) (nI a) 0 = some (r1, C1) from e1, b2_s, g1, b2_s, b1, b1_s, e2, b1_s, e3, b2_s, f1, b1_s, x8_its (w := 0) (z := 0) rfl (by omega) (by decide), b2_s, d0, nI_add, hh, b2_s, ix6 a 0 0 rfl, chk_t (in_nI (n := 6 + 4 * a + 0) (by omega) (by decide)), let_s, nI_clamp (n := 6 + 4 * a + 0) (by omega), g2, b1_s, g3, b2_s, k1, b1_s]
        exact ⟨_, _, _, rfl, rfl, k2⟩
      · rw [if_neg hn, if_neg hn, x7_e1, x8_e1, b2_s, b2_s]
        exact ⟨_, _, _, rfl, rfl, h.err 1⟩
    · rw [if_neg hv, if_neg hv, x7_e1, x8_e1, b2_s, b2_s]
      exact ⟨_, _, _, rfl, rfl, h.err 1⟩
  · rw [if_neg hr, if_neg hr, x7_e1, x8_e1, b2_s, b2_s]
    exact ⟨_, _, _, rfl, rfl, h.err 1⟩
