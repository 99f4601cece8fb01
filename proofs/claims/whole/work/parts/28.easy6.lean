set_option maxHeartbeats 2000000 in
theorem shares_loop {j : Nat} (hj : j < 4) : ∀ (d i : Nat) (C D : pm_M), RR C D → i + d = 40 → ∀ n m : Nat, ∃ (r : Int32) (C' D' : pm_M), pm_it (fun _ _ => none) (lb_X7_shares_35 (nI j)) (n + d + 1) (nI i) C = some (r, C') ∧ pm_it (fun _ _ => none) (lb_X8_shares_30 (nI j)) (m + d + 1) (nI i) D = some (r, D') ∧ RR C' D' := by
  intro d
  induction d with
  | zero =>
    intro i C D h hi n m
    obtain ⟨b, s, g1, g2, g3, g4, g5, g6, g7, g8⟩ := h.2.2.2.2.1 j hj
    refine ⟨nI i, C, D, ?_, ?_, h⟩
    · show lb_X7_shares_35 (nI j) _ (nI i) C = _
      unfold lb_X7_shares_35
      rw [nI_clamp (n := j) (by omega), g6, if_pos (yle (by omega) (by omega) (by omega))]
    · show lb_X8_shares_30 (nI j) _ (nI i) D = _
      unfold lb_X8_shares_30
      rw [chk_t (in_nI (n := j) hj (by decide)), nI_clamp (n := j) (by omega), g7, if_pos (yle (by omega) (by omega) (by omega))]
  | succ d ih =>
    intro i C D h hi n m
    obtain ⟨b, s, g1, g2, g3, g4, g5, g6, g7, g8⟩ := h.2.2.2.2.1 j hj
    obtain ⟨⟨σ, h1, h2, h3⟩, h4⟩ := id h
    have hR : sR σ ≤ 6 := h1.1
    have eC : C (1 + 1) 0 = nI (sR σ) := h2.1
    have eD : D 1 0 = nI (sR σ) := h3.1
    show ∃ (r : Int32) (C' D' : pm_M), lb_X7_shares_35 (nI j) (pm_it (fun _ _ => none) (lb_X7_shares_35 (nI j)) (n + d + 1)) (nI i) C = some (r, C') ∧ lb_X8_shares_30 (nI j) (pm_it (fun _ _ => none) (lb_X8_shares_30 (nI j)) (m + d + 1)) (nI i) D = some (r, D') ∧ RR C' D'
    rw [lb_X7_shares_35.eq_1, lb_X8_shares_30.eq_1]
    rw [chk_t (in_nI (n := j) hj (by decide)), nI_clamp (n := j) (by omega), g6, g7, tn_0, eC, eD]
    by_cases c1 : s ≤ i
    · rw [if_pos (yle (by omega) (by omega) c1), if_pos (yle (by omega) (by omega) c1)]
      exact ⟨_, _, _, rfl, rfl, h⟩
    · rw [if_neg (nle (a := s) (b := i) (by omega) (by omega) (by omega)), if_neg (nle (a := s) (b := i) (by omega) (by omega) (by omega))]
      by_cases c2 : sR σ ≤ i
      · rw [if_pos (yle (by omega) (by omega) c2), if_pos (yle (by omega) (by omega) c2)]
        exact ⟨_, _, _, rfl, rfl, h⟩
      · rw [if_neg (nle (a := sR σ) (b := i) (by omega) (by omega) (by omega)), if_neg (nle (a := sR σ) (b := i) (by omega) (by omega) (by omega))]
        have ex : C (97 + 2 * j + 1) i = D 10 (40 * j + i) := by rw [show 97 + 2 * j + 1 = 98 + 2 * j by omega]; exact g8 i (by omega)
        rw [chk_t (in_nI (n := i) (by omega) (by decide)), nI_clamp (n := i) (by omega), ex, ix40, chk_t (in_nI (n := 40 * j + i) (by omega) (by decide)), nI_clamp (n := 40 * j + i) (by omega), x7_within, x8_in, b2_s, b2_s, if_bi, if_bi, i64, li0, li99, ll0, ll99]
        by_cases hv : 0 ≤ (D 10 (40 * j + i)).toInt ∧ (D 10 (40 * j + i)).toInt ≤ 99
        · rw [if_pos hv, if_pos hv]
          obtain ⟨v, -, hv2, ev⟩ := vx (lo := 0) (hi := 99) (by decide) hv
          rw [ex, ev, ix6 i 0 0 rfl, chk_t (in_nI (n := i) (by omega) (by decide)), chk_t (in_nI (n := i) (by omega) (by decide)), let_s, chk_t (in_nI (n := 40 * j + i) (by omega) (by decide)), chk_t (in_nI (n := 6 + 4 * i + 0) (by omega) (by decide)), let_s, nI_clamp (n := 6 + 4 * i + 0) (by omega), nI_p1]
          refine ih (i + 1) _ _ (h.now (wf_rf h1 (r := i) (by omega) (by decide : 0 < 4) (show v ≤ 99 by omega)) ?_ ?_ (fun q hq => pm_up_o q (by omega)) (fun q hq => pm_up_o q hq)) (by omega) n m
          · exact h2.rf 0 i v (by decide)
          · rw [pm_up_s]; exact h3.rf 0 i v h1 (by omega) (by decide)
        · rw [if_neg hv, if_neg hv]
          exact ⟨_, _, _, rfl, rfl, h⟩
set_option maxHeartbeats 2000000 in
theorem e_shares {C D : pm_M} (h : RR C D) (x1 : Int32) : ∃ (r : Int32) (C' D' : pm_M), f_X7_shares C x1 = some (r, C') ∧ f_X8_shares D x1 = some (r, D') ∧ RR C' D' := by
  unfold f_X7_shares f_X8_shares
  rw [x7_isSheet, x8_isSheet, b2_s, b2_s, if_bi, if_bi]
  by_cases hc : 0 ≤ x1.toInt ∧ x1.toInt ≤ 3
  · obtain ⟨j, -, hj, rfl⟩ := vx (lo := 0) (hi := 3) (by decide) hc
    obtain ⟨b, n, g1, g2, g3, g4, g5, g6, g7, g8⟩ := h.2.2.2.2.1 j (by omega)
    rw [if_pos hc, if_pos hc, chk_t (in_nI (n := j) (by omega) (by decide)), chk_t (in_nI (n := j) (by omega) (by decide)), nI_clamp (n := j) (by omega), x4_isMissing g4 (by omega), b2_s, if_bi, g5]
    by_cases hb : b = 0
    · rw [if_pos hb, if_pos (show nI b = 0 by rw [hb]; rfl), x7_e2, x8_e2, b2_s, b2_s]
      exact ⟨_, _, _, rfl, rfl, h.err 2⟩
    · rw [if_neg hb, if_neg (show ¬ nI b = 0 from nne (b := 0) (by omega) (by decide) hb)]
      obtain ⟨r, C', D', e1, e2, e3⟩ := shares_loop (j := j) (by omega) 40 0 C D h rfl 99959 99959
      rw [show lp_X7_shares_35 (nI j) 0 C = some (r, C') from e1, show lp_X8_shares_30 (nI j) 0 D = some (r, D') from e2, b2_s, b2_s]
      exact ⟨_, _, _, rfl, rfl, e3⟩
  · rw [if_neg hc, if_neg hc, x7_e1, x8_e1, b2_s, b2_s]
    exact ⟨_, _, _, rfl, rfl, h.err 1⟩
set_option maxHeartbeats 2000000 in
theorem judge_loop {C D : pm_M} {σ : sg} {j s : Nat} (hj : j < 4) (h1 : WF 9999 σ) (h2 : VC C 1 σ) (h3 : VM (D 1) σ) (hs : s ≤ 40) (g7 : D 9 j = nI s) (g8 : ∀ i, i < 40 → C (98 + 2 * j) i = D 10 (40 * j + i)) (z : Nat) (hz : z = min s (sR σ)) :
    ∀ (d i : Nat), i + d = z → ∀ n m : Nat, (pm_it (fun _ => none) (lb_X7_judge_54 (nI j) (nI z) C) (n + d + 1) (nI i) = some (Sum.inl ()) ∧ pm_it (fun _ _ => none) (lb_X8_judge_30 (nI j)) (m + d + 1) (nI i) D = some (nI z, D)) ∨ (∃ k, k < z ∧ pm_it (fun _ => none) (lb_X7_judge_54 (nI j) (nI z) C) (n + d + 1) (nI i) = some (Sum.inr (nI k, C)) ∧ pm_it (fun _ _ => none) (lb_X8_judge_30 (nI j)) (m + d + 1) (nI i) D = some (nI k, D)) := by
  have hR : sR σ ≤ 6 := h1.1
  have eD : D 1 0 = nI (sR σ) := h3.1
  intro d
  induction d with
  | zero =>
    intro i hi n m
    have e : i = z := by omega
    subst e
    left
    constructor
    · show lb_X7_judge_54 (nI j) (nI i) C _ (nI i) = _
      rw [lb_X7_judge_54.eq_1]
      rw [if_pos (yle (by omega) (by omega) (Nat.le_refl i))]
    · show lb_X8_judge_30 (nI j) _ (nI i) D = _
      rw [lb_X8_judge_30.eq_1]
      rw [chk_t (in_nI (n := j) hj (by decide)), nI_clamp (n := j) (by omega), g7, tn_0, eD]
      by_cases c : s ≤ i
      · rw [if_pos (yle (by omega) (by omega) c)]
      · rw [if_neg (nle (by omega) (by omega) (by omega)), if_pos (yle (by omega) (by omega) (by omega))]
  | succ d ih =>
    intro i hi n m
    have q1 : pm_it (fun _ => none) (lb_X7_judge_54 (nI j) (nI z) C) (n + (d + 1) + 1) (nI i) = (if D 10 (40 * j + i) = D 1 (6 + 4 * i + 1) then pm_it (fun _ => none) (lb_X7_judge_54 (nI j) (nI z) C) (n + d + 1) (nI (i + 1)) else some (Sum.inr (nI i, C))) := by
      show lb_X7_judge_54 (nI j) (nI z) C (pm_it (fun _ => none) (lb_X7_judge_54 (nI j) (nI z) C) (n + d + 1)) (nI i) = _
      rw [lb_X7_judge_54.eq_1]
      rw [if_neg (nle (by omega) (by omega) (by omega)), chk_t (in_nI (n := i) (by omega) (by decide)), chk_t (in_nI (n := i) (by omega) (by decide)), nI_clamp (n := i) (by omega), nI_clamp (n := j) (by omega), show 97 + 2 * j + 1 = 98 + 2 * j by omega, g8 i (by omega), show C (1 + 1 + 2) i = D 1 (6 + 4 * i + 1) from rf_eq h2 h3 (w := 1) (by decide) (by omega) (by omega), nI_p1]
    have q2 : pm_it (fun _ _ => none) (lb_X8_judge_30 (nI j)) (m + (d + 1) + 1) (nI i) D = (if D 10 (40 * j + i) = D 1 (6 + 4 * i + 1) then pm_it (fun _ _ => none) (lb_X8_judge_30 (nI j)) (m + d + 1) (nI (i + 1)) D else some (nI i, D)) := by
      show lb_X8_judge_30 (nI j) (pm_it (fun _ _ => none) (lb_X8_judge_30 (nI j)) (m + d + 1)) (nI i) D = _
      rw [lb_X8_judge_30.eq_1]
      rw [chk_t (in_nI (n := j) hj (by decide)), nI_clamp (n := j) (by omega), g7, tn_0, eD, if_neg (nle (by omega) (by omega) (by omega)), if_neg (nle (by omega) (by omega) (by omega)), ix40, chk_t (in_nI (n := 40 * j + i) (by omega) (by decide)), nI_clamp (n := 40 * j + i) (by omega), x8_its (w := 1) (z := 1) rfl (by omega) (by decide), b2_s, nI_p1]
    rw [q1, q2]
    by_cases c : D 10 (40 * j + i) = D 1 (6 + 4 * i + 1)
    · rw [if_pos c, if_pos c]; exact ih (i + 1) (by omega) n m
    · rw [if_neg c, if_neg c]; exact Or.inr ⟨i, by omega, rfl, rfl⟩
theorem nI_min {a b : Nat} (ha : a < 2 ^ 31) (hb : b < 2 ^ 31) : pm_min (nI a) (nI b) = nI (min a b) := by
  unfold pm_min
  by_cases c : b < a
  · rw [if_pos (ylt hb ha c), Nat.min_eq_right (by omega)]
  · rw [if_neg (nlt hb ha (by omega)), Nat.min_eq_left (by omega)]
theorem s1_l {R A : Type} (x : R) (f : R → Option A) : pm_s1 (some (Sum.inl x)) f = f x := rfl
theorem s1_r {R A : Type} (x : A) (f : R → Option A) : pm_s1 (some (Sum.inr x)) f = some x := rfl
set_option maxHeartbeats 2000000 in
theorem e_judge {C D : pm_M} (h : RR C D) (x1 : Int32) : ∃ (r : Int32) (C' D' : pm_M), f_X7_judge C x1 = some (r, C') ∧ f_X8_judge D x1 = some (r, D') ∧ RR C' D' := by
  unfold f_X7_judge f_X8_judge
  rw [x7_isSheet, x8_isSheet, b2_s, b2_s, if_bi, if_bi]
  by_cases hc : 0 ≤ x1.toInt ∧ x1.toInt ≤ 3
  · obtain ⟨j, -, hj, rfl⟩ := vx (lo := 0) (hi := 3) (by decide) hc
    obtain ⟨b, s, g1, g2, g3, g4, g5, g6, g7, g8⟩ := h.2.2.2.2.1 j (by omega)
    obtain ⟨⟨σ, h1, h2, h3⟩, h4⟩ := id h
    have hR : sR σ ≤ 6 := h1.1
    have eC : C (1 + 1) 0 = nI (sR σ) := h2.1
    have eD : D 1 0 = nI (sR σ) := h3.1
    rw [if_pos hc, if_pos hc, chk_t (in_nI (n := j) (by omega) (by decide)), chk_t (in_nI (n := j) (by omega) (by decide)), nI_clamp (n := j) (by omega), x4_isMissing g4 (by omega), b2_s, if_bi, g5]
    by_cases hb : b = 0
    · rw [if_pos hb, if_pos (show nI b = 0 by rw [hb]; rfl), x7_e2, x8_e2, b2_s, b2_s]
      exact ⟨_, _, _, rfl, rfl, h.err 2⟩
    · rw [if_neg hb, if_neg (show ¬ nI b = 0 from nne (b := 0) (by omega) (by decide) hb), g6, eC, nI_min (by omega) (by omega), let_s]
      generalize hz : min s (sR σ) = z
      have hzl : z ≤ 6 := by omega
      rcases judge_loop (j := j) (by omega) h1 h2 h3 g2 g7 g8 z hz.symm z 0 (by omega) (99999 - z) (99999 - z) with ⟨e1, e2⟩ | ⟨k, hk, e1, e2⟩
      · have ef : 99999 - z + z + 1 = pm_F := by unfold pm_F; omega
        rw [ef] at e1 e2
        rw [show lp_X7_judge_54 (nI j) (nI z) C 0 = some (Sum.inl ()) from e1, show lp_X8_judge_30 (nI j) 0 D = some (nI z, D) from e2, s1_l, b2_s, chk_t (in_nI (n := j) (by omega) (by decide)), g7, tn_0, eD]
        by_cases c : s = sR σ
        · rw [if_pos (by rw [c]), if_pos (by rw [← hz, c, Nat.min_self]), if_pos (by rw [← hz, c, Nat.min_self])]
          exact ⟨_, _, _, rfl, rfl, h⟩
        · rw [if_neg (nne (by omega) (by omega) c)]
          refine ⟨_, _, _, rfl, ?_, h⟩
          by_cases c2 : z = s
          · rw [if_pos (by rw [c2]), if_neg (nne (by omega) (by omega) (by omega))]
          · rw [if_neg (nne (by omega) (by omega) c2)]
      · have ef : 99999 - z + z + 1 = pm_F := by unfold pm_F; omega
        rw [ef] at e1 e2
        rw [show lp_X7_judge_54 (nI j) (nI z) C 0 = some (Sum.inr (nI k, C)) from e1, show lp_X8_judge_30 (nI j) 0 D = some (nI k, D) from e2, s1_r, b2_s, chk_t (in_nI (n := j) (by omega) (by decide)), g7, tn_0, eD, if_neg (nne (by omega) (by omega) (by omega))]
        exact ⟨_, _, _, rfl, rfl, h⟩
  · rw [if_neg hc, if_neg hc, x7_e1, x8_e1, b2_s, b2_s]
    exact ⟨_, _, _, rfl, rfl, h.err 1⟩
