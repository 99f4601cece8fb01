theorem VC.lk {C : pm_M} {p : Nat} {σ : sg} (h : VC C p σ) : LK C p := by
  obtain ⟨-, -, -, -, -, -, -, -, -, -, -, h12⟩ := h
  have a := h12 0 (by decide)
  have b := h12 1 (by decide)
  exact ⟨a.1, a.2.1, b.1, b.2.1⟩
theorem VM.congr {g g' : Nat → Int32} {σ : sg} {B : Nat} (hw : WF B σ) (h : VM g σ) (e : ∀ k, k < 258 → g' k = g k) : VM g' σ := by
  obtain ⟨h1, h2, h3, h4, h5, h6, h7, h8, h9, h10, h11, h12, h13⟩ := h
  have t1 : (sP σ).length ≤ 50 := hw.2.2.2.2.2.2.2.2.2.2.1
  have t2 : (sW σ).length ≤ 20 := hw.2.2.2.2.2.2.2.2.2.2.2
  have t4 : ∀ u, (sT σ u).length ≤ 50 := hw.2.2.2.2.2.2.2.2.2.1
  have t3 : sC σ ≤ 5 := hw.2.1
  have t5 : sR σ ≤ 6 := hw.1
  exact ⟨by rw [e _ (by omega)]; exact h1, by rw [e _ (by omega)]; exact h2, by rw [e _ (by omega)]; exact h3, by rw [e _ (by omega)]; exact h4, by rw [e _ (by omega)]; exact h5, by rw [e _ (by omega)]; exact h6, fun r w hr hw => by rw [e _ (by omega)]; exact h7 r w hr hw, fun a b ha hb => by rw [e _ (by omega)]; exact h8 a b ha hb, fun c w hc hw => by rw [e _ (by omega)]; exact h9 c w hc hw, fun u hu => by rw [e _ (by omega)]; exact h10 u hu, fun i hi => by rw [e _ (by omega)]; exact h11 i hi, fun u i hu hi => by have := t4 u; rw [e _ (by omega)]; exact h12 u i hu hi, fun i hi => by rw [e _ (by omega)]; exact h13 i hi⟩
theorem im_loop : ∀ (d i : Nat) (D : pm_M), i + d = 258 → ∀ n : Nat, ∃ D' : pm_M, pm_it (fun _ _ => none) (lb_X8_image_2) (n + d + 1) (nI i) D = some D' ∧ (∀ q, q ≠ 2 → D' q = D q) ∧ (∀ k, i ≤ k → k < 258 → D' 2 k = D 1 k) ∧ (∀ k, k < i → D' 2 k = D 2 k) := by
  intro d
  induction d with
  | zero =>
    intro i D hi n
    refine ⟨D, ?_, fun q _ => rfl, fun k a b => by omega, fun k _ => rfl⟩
    show lb_X8_image_2 _ (nI i) D = _
    rw [lb_X8_image_2.eq_1, if_pos (show 258 ≤ nI i from yle (a := 258) (by decide) (by omega) (by omega))]
  | succ d ih =>
    intro i D hi n
    obtain ⟨D', e1, e2, e3, e4⟩ := ih (i + 1) (pm_up D 2 i (D 1 i)) (by omega) n
    refine ⟨D', ?_, fun q hq => (e2 q hq).trans (pm_up_o q hq), fun k q b => ?_, fun k hk => ?_⟩
    · show lb_X8_image_2 (pm_it (fun _ _ => none) (lb_X8_image_2) (n + d + 1)) (nI i) D = _
      rw [lb_X8_image_2.eq_1, if_neg (show ¬ 258 ≤ nI i from nle (a := 258) (by decide) (by omega) (by omega)), chk_t (in_nI (n := i) (N := 258) (by omega) (by decide)), chk_t (in_nI (n := i) (N := 258) (by omega) (by decide)), let_s, nI_clamp (n := i) (by omega), nI_p1]
      exact e1
    · by_cases c : k = i
      · subst c; rw [e4 k (by omega), up_s]
      · rw [e3 k (by omega) b, up_k (by decide)]
    · rw [e4 k (by omega), up_i (by omega)]
theorem re_loop : ∀ (d i : Nat) (D : pm_M), i + d = 258 → ∀ n : Nat, ∃ D' : pm_M, pm_it (fun _ _ => none) (lb_X8_restore_15) (n + d + 1) (nI i) D = some D' ∧ (∀ q, q ≠ 1 → D' q = D q) ∧ (∀ k, i ≤ k → k < 258 → D' 1 k = D 2 k) ∧ (∀ k, k < i → D' 1 k = D 1 k) := by
  intro d
  induction d with
  | zero =>
    intro i D hi n
    refine ⟨D, ?_, fun q _ => rfl, fun k a b => by omega, fun k _ => rfl⟩
    show lb_X8_restore_15 _ (nI i) D = _
    rw [lb_X8_restore_15.eq_1, if_pos (show 258 ≤ nI i from yle (a := 258) (by decide) (by omega) (by omega))]
  | succ d ih =>
    intro i D hi n
    obtain ⟨D', e1, e2, e3, e4⟩ := ih (i + 1) (pm_up D 1 i (D 2 i)) (by omega) n
    refine ⟨D', ?_, fun q hq => (e2 q hq).trans (pm_up_o q hq), fun k q b => ?_, fun k hk => ?_⟩
    · show lb_X8_restore_15 (pm_it (fun _ _ => none) (lb_X8_restore_15) (n + d + 1)) (nI i) D = _
      rw [lb_X8_restore_15.eq_1, if_neg (show ¬ 258 ≤ nI i from nle (a := 258) (by decide) (by omega) (by omega)), chk_t (in_nI (n := i) (N := 258) (by omega) (by decide)), chk_t (in_nI (n := i) (N := 258) (by omega) (by decide)), let_s, nI_clamp (n := i) (by omega), nI_p1]
      exact e1
    · by_cases c : k = i
      · subst c; rw [e4 k (by omega), up_s]
      · rw [e3 k (by omega) b, up_k (by decide)]
    · rw [e4 k (by omega), up_i (by omega)]
theorem e_image {C D : pm_M} (h : RR C D)  : ∃ (r : Int32) (C' D' : pm_M), f_X7_image C  = some (r, C') ∧ f_X8_image D  = some (r, D') ∧ RR C' D' := by
  obtain ⟨⟨σ, h1, h2, h3⟩, h4, h5, h6, h8, h9, h10⟩ := id h
  obtain ⟨C1, a1, a2, a3⟩ := x5_copyFrom (p := 61) (a1 := 1) (by omega) h1 h2 h5
  obtain ⟨D1, b1, b2, b3, -⟩ := im_loop 258 0 D rfl 99741
  unfold f_X7_image f_X8_image
  rw [a1, b1_s, let_s, show lp_X8_image_2 0 D = some D1 from b1, b1_s, let_s, up_s, up_s, a2 0 (by omega), b2 0 (by decide), h6.1]
  have eC : ∀ q : Nat, q ≠ 0 → ∀ x, pm_up C1 0 3 x q = C1 q := fun q hq x => pm_up_o q hq
  have eD : ∀ q : Nat, q ≠ 0 → ∀ x, pm_up D1 0 2 x q = D1 q := fun q hq x => pm_up_o q hq
  refine ⟨_, _, _, rfl, rfl, ⟨σ, h1, h2.congr (fun q u v _ _ => ?_), ?_⟩, h4.congr (fun q hq => ?_), ?_, ⟨?_, Or.inr ⟨σ, h1, a3.congr (fun q u v _ _ => eC q (by omega) _), ?_⟩⟩, h8.congr (fun q u v => ?_) ?_ ?_ ?_, h9.congr ?_ ?_ ?_ ?_, h10.congr ?_ ?_⟩
  · rw [eC q (by omega), a2 q (by omega)]
  · rw [eD 1 (by decide), b2 1 (by decide)]; exact h3
  · rw [eC q (by omega), a2 q (by omega)]
  · exact a3.lk.congr (fun q hq => eC q (by omega) _)
  · rw [up_s, up_s]
  · rw [eD 2 (by decide)]; exact h3.congr h1 (fun k hk => b3 k (Nat.zero_le _) hk)
  · rw [eC q (by omega), a2 q (by omega)]
  · rw [eD 8 (by decide), b2 8 (by decide)]
  · rw [eD 9 (by decide), b2 9 (by decide)]
  · rw [eD 10 (by decide), b2 10 (by decide)]
  · rw [eC 94 (by omega), a2 94 (by omega)]
  · rw [eC 95 (by omega), a2 95 (by omega)]
  · rw [up_i (by decide), b2 0 (by decide)]
  · rw [eD 7 (by decide), b2 7 (by decide)]
  · rw [eC 105 (by omega), a2 105 (by omega)]
  · rw [eD 3 (by decide), b2 3 (by decide)]
theorem e_restore {C D : pm_M} (h : RR C D)  : ∃ (r : Int32) (C' D' : pm_M), f_X7_restore C  = some (r, C') ∧ f_X8_restore D  = some (r, D') ∧ RR C' D' := by
  obtain ⟨⟨σ, h1, h2, h3⟩, h4, h5, ⟨k1, k2⟩, h8, h9, h10⟩ := id h
  unfold f_X7_restore f_X8_restore
  rw [k1]
  by_cases c : D 0 2 = 0
  · rw [if_pos c, if_pos c, x7_e2, x8_e2, b2_s, b2_s]
    exact ⟨_, _, _, rfl, rfl, h.err 2⟩
  · rw [if_neg c, if_neg c]
    rcases k2 with k2 | ⟨τ, g1, g2, g3⟩
    · exact absurd (k1.symm.trans k2) c
    obtain ⟨C1, a1, a2, a3⟩ := x5_copyFrom (p := 1) (a1 := 61) (by omega) g1 g2 h2.lk
    obtain ⟨D1, b1, b2, b3, -⟩ := re_loop 258 0 D rfl 99741
    have hv : VM (D1 1) τ := g3.congr g1 (fun k hk => b3 k (Nat.zero_le _) hk)
    rw [a1, b1_s, show lp_X8_restore_15 0 D = some D1 from b1, b1_s, tn_2, show C1 1 3 = D1 1 2 from a3.2.2.1.trans hv.2.2.1.symm]
    exact ⟨_, _, _, rfl, rfl, h.now g1 a3 hv (fun q hq => a2 q (by omega)) b2⟩
