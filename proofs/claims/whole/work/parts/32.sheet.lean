theorem lay_loop (p : Nat) : ∀ (d i : Nat) (C : pm_M), i + d = 40 → ∀ n : Nat, ∃ C' : pm_M, pm_it (fun _ _ => none) (lb_X4_lay_12 p) (n + d + 1) (nI i) C = some C' ∧ (∀ q, q ≠ p + 1 → C' q = C q) ∧ (∀ k, i ≤ k → k < 40 → C' (p + 1) k = 0) ∧ (∀ k, k < i → C' (p + 1) k = C (p + 1) k) := by
  intro d
  induction d with
  | zero =>
    intro i C hi n
    refine ⟨C, ?_, fun q _ => rfl, fun k a b => by omega, fun k _ => rfl⟩
    show lb_X4_lay_12 p _ (nI i) C = _
    rw [lb_X4_lay_12.eq_1, if_pos (show 40 ≤ nI i from yle (a := 40) (by decide) (by omega) (by omega))]
  | succ d ih =>
    intro i C hi n
    obtain ⟨C', e1, e2, e3, e4⟩ := ih (i + 1) (pm_up C (p + 1) i 0) (by omega) n
    refine ⟨C', ?_, fun q hq => (e2 q hq).trans (pm_up_o q hq), fun k a b => ?_, fun k hk => ?_⟩
    · show lb_X4_lay_12 p (pm_it (fun _ _ => none) (lb_X4_lay_12 p) (n + d + 1)) (nI i) C = _
      rw [lb_X4_lay_12.eq_1, if_neg (show ¬ 40 ≤ nI i from nle (a := 40) (by decide) (by omega) (by omega)), chk_t (in_nI (n := i) (by omega) (by decide)), let_s, nI_clamp (n := i) (by omega), nI_p1]
      exact e1
    · by_cases c : k = i
      · subst c; rw [e4 k (by omega), up_s]
      · exact e3 k (by omega) b
    · rw [e4 k (by omega), up_i (by omega)]
theorem sh0_loop {j : Nat} (hj : j < 4) : ∀ (d i : Nat) (D : pm_M), i + d = 40 → ∀ n : Nat, ∃ D' : pm_M, pm_it (fun _ _ => none) (lb_X8_sheet_90 (nI j)) (n + d + 1) (nI i) D = some D' ∧ (∀ q, q ≠ 10 → D' q = D q) ∧ (∀ k, i ≤ k → k < 40 → D' 10 (40 * j + k) = 0) ∧ (∀ k, (k < 40 * j + i ∨ 40 * j + 40 ≤ k) → D' 10 k = D 10 k) := by
  intro d
  induction d with
  | zero =>
    intro i D hi n
    refine ⟨D, ?_, fun q _ => rfl, fun k a b => by omega, fun k _ => rfl⟩
    show lb_X8_sheet_90 (nI j) _ (nI i) D = _
    rw [lb_X8_sheet_90.eq_1, if_pos (show 40 ≤ nI i from yle (a := 40) (by decide) (by omega) (by omega))]
  | succ d ih =>
    intro i D hi n
    obtain ⟨D', e1, e2, e3, e4⟩ := ih (i + 1) (pm_up D 10 (40 * j + i) 0) (by omega) n
    refine ⟨D', ?_, fun q hq => (e2 q hq).trans (pm_up_o q hq), fun k a b => ?_, fun k hk => ?_⟩
    · show lb_X8_sheet_90 (nI j) (pm_it (fun _ _ => none) (lb_X8_sheet_90 (nI j)) (n + d + 1)) (nI i) D = _
      rw [lb_X8_sheet_90.eq_1, if_neg (show ¬ 40 ≤ nI i from nle (a := 40) (by decide) (by omega) (by omega)), ix40, chk_t (in_nI (n := 40 * j + i) (by omega) (by decide)), let_s, nI_clamp (n := 40 * j + i) (by omega), nI_p1]
      exact e1
    · by_cases c : k = i
      · subst c; rw [e4 _ (by omega), up_s]
      · exact e3 k (by omega) b
    · rw [e4 k (by omega), up_i (by omega)]
theorem lay_eq {C D : pm_M} (h : RR C D) {j b n : Nat} (hj : j < 4) (hb : b = 0 ∨ b = 8 ∨ b = 16 ∨ b = 32) (hn : n ≤ 40) (h0 : b = 0 → n = 0) : ∃ C' D' : pm_M, f_X4_lay (97 + 2 * j) C (nI b) (nI n) = some C' ∧ lp_X8_sheet_90 (nI j) 0 (pm_up (pm_up D 8 j (nI b)) 9 j (nI n)) = some D' ∧ RR C' D' := by
  obtain ⟨C', e1, e2, e3, e4⟩ := lay_loop (97 + 2 * j) 40 0 (pm_up (pm_up C (97 + 2 * j) 0 (nI b)) (97 + 2 * j) 1 (nI n)) rfl 99959
  obtain ⟨D', g1, g2, g3, g4⟩ := sh0_loop hj 40 0 (pm_up (pm_up D 8 j (nI b)) 9 j (nI n)) rfl 99959
  refine ⟨C', D', ?_, g1, ?_⟩
  · unfold f_X4_lay
    rw [let_s, let_s, show lp_X4_lay_12 (97 + 2 * j) 0 (pm_up (pm_up C (97 + 2 * j) 0 (nI b)) (97 + 2 * j) 1 (nI n)) = some C' from e1, b1_s]
  · refine h.shs (fun j' hj' => ?_) (fun q hq => ?_) (fun q a8 a9 a10 => ?_)
    · by_cases e : j' = j
      · subst e
        refine ⟨b, n, hb, hn, h0, ?_, ?_, ?_, ?_, fun i hi => ?_⟩
        · rw [e2 _ (by omega), up_i (by decide), up_s]
        · rw [g2 _ (by decide), up_k (by decide), up_s]
        · rw [e2 _ (by omega), up_s]
        · rw [g2 _ (by decide), up_s]
        · rw [show 98 + 2 * j' = 97 + 2 * j' + 1 by omega, e3 i (Nat.zero_le _) hi, g3 i (Nat.zero_le _) hi]
      · obtain ⟨b', n', a1, a2, a3, a4, a5, a6, a7, a8⟩ := h.2.2.2.2.1 j' hj'
        refine ⟨b', n', a1, a2, a3, ?_, ?_, ?_, ?_, fun i hi => ?_⟩
        · rw [e2 _ (by omega), up_k (by omega), up_k (by omega)]; exact a4
        · rw [g2 _ (by decide), up_k (by decide), up_i (by omega)]; exact a5
        · rw [e2 _ (by omega), up_k (by omega), up_k (by omega)]; exact a6
        · rw [g2 _ (by decide), up_i (by omega), up_k (by decide)]; exact a7
        · rw [e2 _ (by omega), up_k (by omega), up_k (by omega), g4 _ (by omega), up_k (by decide), up_k (by decide)]; exact a8 i hi
    · exact (e2 q (by omega)).trans ((pm_up_o q (by omega)).trans (pm_up_o q (by omega)))
    · exact (g2 q a10).trans ((pm_up_o q a9).trans (pm_up_o q a8))
set_option maxHeartbeats 4000000 in
theorem e_sheet {C D : pm_M} (h : RR C D) (x1 : Int32) (x2 : Int32) (x3 : Int32) : ∃ (r : Int32) (C' D' : pm_M), f_X7_sheet C x1 x2 x3 = some (r, C') ∧ f_X8_sheet D x1 x2 x3 = some (r, D') ∧ RR C' D' := by
  unfold f_X7_sheet f_X8_sheet
  rw [x7_isSheet, x8_isSheet, b2_s, b2_s, if_bi, if_bi]
  by_cases hc : 0 ≤ x1.toInt ∧ x1.toInt ≤ 3
  · obtain ⟨j, -, hj, rfl⟩ := vx (lo := 0) (hi := 3) (by decide) hc
    rw [if_pos hc, if_pos hc]
    have key : ∀ b : Nat, (b = 8 ∨ b = 16 ∨ b = 32) → ∃ (r : Int32) (C' D' : pm_M), (if 0 ≤ x3 then (if x3 ≤ 40 then pm_chk (pm_in (nI j) 4) (pm_b1 (f_X4_lay (97 + 2 * (nI j).toNatClampNeg) C (nI b) x3) (fun M : pm_M => some ((1 : Int32), M))) else pm_b2 (f_X7_error C 1) (fun (r : Int32) (M : pm_M) => some (r, M))) else pm_b2 (f_X7_error C 3) (fun (r : Int32) (M : pm_M) => some (r, M))) = some (r, C') ∧ (if 0 ≤ x3 then (if x3 ≤ 40 then pm_chk (pm_in (nI j) 4) (pm_let (pm_up D 8 (nI j).toNatClampNeg (nI b)) (fun M5 : pm_M => pm_chk (pm_in (nI j) 4) (pm_let (pm_up M5 9 (nI j).toNatClampNeg x3) (fun M6 : pm_M => pm_b1 (lp_X8_sheet_90 (nI j) 0 M6) (fun (M7 : pm_M) => some ((1 : Int32), M7)))))) else pm_b2 (f_X8_finds D 1) (fun (r : Int32) (M : pm_M) => some (r, M))) else pm_b2 (f_X8_finds D 3) (fun (r : Int32) (M : pm_M) => some (r, M))) = some (r, D') ∧ RR C' D' := by
      intro b hb
      by_cases c1 : 0 ≤ x3
      · have c1' := Int32.le_iff_toInt_le.mp c1
        rw [li0] at c1'
        rw [if_pos c1, if_pos c1]
        by_cases c2 : x3 ≤ 40
        · have c2' := Int32.le_iff_toInt_le.mp c2
          rw [li40] at c2'
          obtain ⟨n, -, hn, rfl⟩ := vx (lo := 0) (hi := 40) (by decide) ⟨c1', c2'⟩
          obtain ⟨C', D', e1, e2, e3⟩ := lay_eq h (j := j) (b := b) (n := n) (by omega) (Or.inr hb) hn (by omega)
          rw [if_pos c2, if_pos c2, chk_t (in_nI (n := j) (by omega) (by decide)), chk_t (in_nI (n := j) (by omega) (by decide)), let_s, chk_t (in_nI (n := j) (by omega) (by decide)), let_s, nI_clamp (n := j) (by omega), e1, e2, b1_s, b1_s]
          exact ⟨_, _, _, rfl, rfl, e3⟩
        · rw [if_neg c2, if_neg c2, x7_e1, x8_e1, b2_s, b2_s]
          exact ⟨_, _, _, rfl, rfl, h.err 1⟩
      · rw [if_neg c1, if_neg c1, x7_e3, x8_e3, b2_s, b2_s]
        exact ⟨_, _, _, rfl, rfl, h.err 3⟩
    by_cases z0 : x2 = 0
    · simp only [if_pos z0]
      obtain ⟨C', D', e1, e2, e3⟩ := lay_eq h (j := j) (b := 0) (n := 0) (by omega) (Or.inl rfl) (by omega) (by omega)
      have e1 : f_X4_lay (97 + 2 * j) C 0 0 = some C' := e1
      have e2 : lp_X8_sheet_90 (nI j) 0 (pm_up (pm_up D 8 j 0) 9 j 0) = some D' := e2
      rw [z0, chk_t (in_nI (n := j) (by omega) (by decide)), chk_t (in_nI (n := j) (by omega) (by decide)), let_s, chk_t (in_nI (n := j) (by omega) (by decide)), let_s, nI_clamp (n := j) (by omega), e1, e2, b1_s, b1_s]
      exact ⟨_, _, _, rfl, rfl, e3⟩
    · by_cases z8 : x2 = 8
      · simp only [if_neg z0, if_pos z8]
        rw [z8]; exact key 8 (by omega)
      · by_cases z16 : x2 = 16
        · simp only [if_neg z0, if_neg z8, if_pos z16]
          rw [z16]; exact key 16 (by omega)
        · by_cases z32 : x2 = 32
          · simp only [if_neg z0, if_neg z8, if_neg z16, if_pos z32]
            rw [z32]; exact key 32 (by omega)
          · simp only [if_neg z0, if_neg z8, if_neg z16, if_neg z32]
            rw [x7_e1, x8_e1, b2_s, b2_s]
            exact ⟨_, _, _, rfl, rfl, h.err 1⟩
  · rw [if_neg hc, if_neg hc, x7_e1, x8_e1, b2_s, b2_s]
    exact ⟨_, _, _, rfl, rfl, h.err 1⟩
