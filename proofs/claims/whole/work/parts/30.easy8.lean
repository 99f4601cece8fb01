theorem spent_loop {C D : pm_M} {σ : sg} (h1 : WF 9999 σ) (h2 : VC C 1 σ) (h3 : VM (D 1) σ) : ∀ (d i : Nat) (acc : Int32), i + d = sC σ → ∀ n m : Nat, ∃ r : Int32, pm_it (fun _ _ _ => none) (lb_X0_spentMany_4 (1 + 13)) (n + d + 1) acc (nI i) C = some (r, C) ∧ pm_it (fun _ _ _ => none) (lb_X8_count_81) (m + d + 1) acc (nI i) D = some (r, D) := by
  have hR : sC σ ≤ 5 := h1.2.1
  have eC : C (1 + 13) 0 = nI (sC σ) := h2.2.1
  have eD : D 1 1 = nI (sC σ) := h3.2.1
  intro d
  induction d with
  | zero =>
    intro i acc hi n m
    refine ⟨acc, ?_, ?_⟩
    · show lb_X0_spentMany_4 (1 + 13) _ acc (nI i) C = _
      rw [lb_X0_spentMany_4.eq_1, eC, if_pos (yle (by omega) (by omega) (by omega))]
    · show lb_X8_count_81 _ acc (nI i) D = _
      rw [lb_X8_count_81.eq_1, tn_1, eD, if_pos (yle (by omega) (by omega) (by omega))]
  | succ d ih =>
    intro i acc hi n m
    by_cases c : lasts (sc σ 0 i) (sc σ 1 i) ≤ sc σ 3 i
    · obtain ⟨r, e1, e2⟩ := ih (i + 1) (acc + 1) (by omega) n m
      refine ⟨r, ?_, ?_⟩
      · show lb_X0_spentMany_4 (1 + 13) (pm_it (fun _ _ _ => none) (lb_X0_spentMany_4 (1 + 13)) (n + d + 1)) acc (nI i) C = _
        rw [lb_X0_spentMany_4.eq_1, eC, if_neg (nle (a := sC σ) (b := i) (by omega) (by omega) (by omega)), x0_isSpent 9999 h1 h2 (by omega), b2_s, if_bi, if_pos c, let_s, nI_p1]
        exact e1
      · show lb_X8_count_81 (pm_it (fun _ _ _ => none) (lb_X8_count_81) (m + d + 1)) acc (nI i) D = _
        rw [lb_X8_count_81.eq_1, tn_1, eD, if_neg (nle (a := sC σ) (b := i) (by omega) (by omega) (by omega)), x8_isSpent 9999 h1 h3 (by omega), b2_s, if_bi, if_pos c, let_s, nI_p1]
        exact e2
    · obtain ⟨r, e1, e2⟩ := ih (i + 1) (acc + 0) (by omega) n m
      refine ⟨r, ?_, ?_⟩
      · show lb_X0_spentMany_4 (1 + 13) (pm_it (fun _ _ _ => none) (lb_X0_spentMany_4 (1 + 13)) (n + d + 1)) acc (nI i) C = _
        rw [lb_X0_spentMany_4.eq_1, eC, if_neg (nle (a := sC σ) (b := i) (by omega) (by omega) (by omega)), x0_isSpent 9999 h1 h2 (by omega), b2_s, if_bi, if_neg c, let_s, nI_p1]
        exact e1
      · show lb_X8_count_81 (pm_it (fun _ _ _ => none) (lb_X8_count_81) (m + d + 1)) acc (nI i) D = _
        rw [lb_X8_count_81.eq_1, tn_1, eD, if_neg (nle (a := sC σ) (b := i) (by omega) (by omega) (by omega)), x8_isSpent 9999 h1 h3 (by omega), b2_s, if_bi, if_neg c, let_s, nI_p1]
        exact e2
set_option maxHeartbeats 4000000 in
theorem e_count {C D : pm_M} (h : RR C D) (x1 : Int32) : ∃ (r : Int32) (C' D' : pm_M), f_X7_count C x1 = some (r, C') ∧ f_X8_count D x1 = some (r, D') ∧ RR C' D' := by
  obtain ⟨⟨σ, h1, h2, h3⟩, h4⟩ := id h
  have hR : sC σ ≤ 5 := h1.2.1
  by_cases hv : 0 ≤ x1.toInt ∧ x1.toInt ≤ 10
  · obtain ⟨k, -, hk, rfl⟩ := vx (lo := 0) (hi := 10) (by decide) hv
    have hk' : k = 0 ∨ k = 1 ∨ k = 2 ∨ k = 3 ∨ k = 4 ∨ k = 5 ∨ k = 6 ∨ k = 7 ∨ k = 8 ∨ k = 9 ∨ k = 10 := by omega
    rcases hk' with rfl | rfl | rfl | rfl | rfl | rfl | rfl | rfl | rfl | rfl | rfl
    · have e : C (1 + 1) 0 = D 1 0 := h2.1.trans h3.1.symm
      exact ⟨D 1 0, C, D, by rw [← e]; rfl, rfl, h⟩
    · have e : C (1 + 13) 0 = D 1 1 := h2.2.1.trans h3.2.1.symm
      exact ⟨D 1 1, C, D, by rw [← e]; rfl, rfl, h⟩
    · have e : C 1 3 = D 1 2 := h2.2.2.1.trans h3.2.2.1.symm
      exact ⟨D 1 2, C, D, by rw [← e]; rfl, rfl, h⟩
    · obtain ⟨r, e1, e2⟩ := sum_eq h1 h2 h3 (w := 2) (by decide)
      have e1 : f_X3_sum (1 + 1) C (1 + 1 + 3) = some (r, C) := e1
      have e2 : f_X8_all D 2 = some (r, D) := e2
      refine ⟨r, C, D, ?_, ?_, h⟩
      · show (pm_b2 (f_X3_sum (1 + 1) C (1 + 1 + 3)) (fun (r4 : Int32) (M3 : pm_M) => (some (r4, M3)))) = _
        rw [e1, b2_s]
      · show (pm_b2 (f_X8_all D 2) (fun (r4 : Int32) (M3 : pm_M) => (some (r4, M3)))) = _
        rw [e2, b2_s]
    · obtain ⟨r, e1, e2⟩ := sum_eq h1 h2 h3 (w := 1) (by decide)
      have e1 : f_X3_sum (1 + 1) C (1 + 1 + 2) = some (r, C) := e1
      have e2 : f_X8_all D 1 = some (r, D) := e2
      refine ⟨r, C, D, ?_, ?_, h⟩
      · show (pm_b2 (f_X3_sum (1 + 1) C (1 + 1 + 2)) (fun (r4 : Int32) (M3 : pm_M) => (some (r4, M3)))) = _
        rw [e1, b2_s]
      · show (pm_b2 (f_X8_all D 1) (fun (r4 : Int32) (M3 : pm_M) => (some (r4, M3)))) = _
        rw [e2, b2_s]
    · obtain ⟨r, e1, e2⟩ := spent_loop h1 h2 h3 (sC σ) 0 0 (by omega) (99999 - sC σ) (99999 - sC σ)
      have ef : 99999 - sC σ + sC σ + 1 = pm_F := by unfold pm_F; omega
      rw [ef] at e1 e2
      refine ⟨r, C, D, ?_, ?_, h⟩
      · show (pm_b2 (f_X0_spentMany (1 + 13) C) (fun (r8 : Int32) (M7 : pm_M) => (some (r8, M7)))) = _
        unfold f_X0_spentMany
        rw [show lp_X0_spentMany_4 (1 + 13) 0 0 C = some (r, C) from e1, b2_s, b2_s]
      · show (pm_b2 (lp_X8_count_81 0 0 D) (fun (l7 : Int32) (M8 : pm_M) => (some (l7, M8)))) = _
        rw [show lp_X8_count_81 0 0 D = some (r, D) from e2, b2_s]
    · obtain ⟨r, e1, e2, -⟩ := most_eq h1 h2 h3
      refine ⟨r, C, D, ?_, ?_, h⟩
      · show (pm_b2 (f_X3_mostInArrears (1 + 1) C) (fun (r4 : Int32) (M3 : pm_M) => (some (r4, M3)))) = _
        rw [e1, b2_s]
      · show (pm_b2 (f_X8_mostInArrears D) (fun (r4 : Int32) (M3 : pm_M) => (some (r4, M3)))) = _
        rw [e2, b2_s]
    · have e : C 1 6 = D 1 4 := h2.2.2.2.2.1.trans h3.2.2.2.2.1.symm
      exact ⟨D 1 4, C, D, by rw [← e]; rfl, rfl, h⟩
    · have e : C 1 8 = D 1 5 := h2.2.2.2.2.2.1.trans h3.2.2.2.2.2.1.symm
      exact ⟨D 1 5, C, D, by rw [← e]; rfl, rfl, h⟩
    · obtain ⟨n, t1, t2, t3, t4⟩ := h.2.2.2.2.2.1
      exact ⟨D 0 14, C, D, by rw [t3, ← t2]; rfl, rfl, h⟩
    · have e : C 1 4 = D 1 3 := h2.2.2.2.1.trans h3.2.2.2.1.symm
      exact ⟨D 1 3, C, D, by rw [← e]; rfl, rfl, h⟩
  · unfold f_X7_count f_X8_count
    rw [if_pos (by omega), if_pos (by omega), x7_e1, x8_e1, b2_s, b2_s]
    exact ⟨_, _, _, rfl, rfl, h.err 1⟩
