set_option maxHeartbeats 4000000 in
theorem e_move {C D : pm_M} (h : RR C D) (x1 : Int32) (x2 : Int32) (x3 : Int32) (x4 : Int32) (x5 : Int32) : ∃ (r : Int32) (C' D' : pm_M), f_X7_move C x1 x2 x3 x4 x5 = some (r, C') ∧ f_X8_move D x1 x2 x3 x4 x5 = some (r, D') ∧ RR C' D' := by
  unfold f_X7_move f_X8_move
  rw [x7_isSheet, x8_isSheet, b2_s, b2_s, if_bi, if_bi]
  by_cases hc : 0 ≤ x1.toInt ∧ x1.toInt ≤ 3
  · obtain ⟨j, -, hj, rfl⟩ := vx (lo := 0) (hi := 3) (by decide) hc
    rw [if_pos hc, if_pos hc, x7_isSheet, x8_isSheet, b2_s, b2_s, if_bi, if_bi]
    by_cases hd : 0 ≤ x3.toInt ∧ x3.toInt ≤ 3
    · obtain ⟨l, -, hl, rfl⟩ := vx (lo := 0) (hi := 3) (by decide) hd
      obtain ⟨b, n, g1, g2, g3, g4, g5, g6, g7, g8⟩ := h.2.2.2.2.1 j (by omega)
      obtain ⟨b', n', k1, k2, k3, k4, k5, k6, k7, k8⟩ := h.2.2.2.2.1 l (by omega)
      rw [if_pos hd, if_pos hd, chk_t (in_nI (n := j) (by omega) (by decide)), chk_t (in_nI (n := l) (by omega) (by decide)), chk_t (in_nI (n := j) (by omega) (by decide)), nI_clamp (n := j) (by omega), nI_clamp (n := l) (by omega), x4_isMissing g4 (by omega), b2_s, if_bi, g5]
      by_cases hb : b = 0
      · rw [if_pos hb, if_pos (show nI b = 0 by rw [hb]; rfl), x7_e2, x8_e2, b2_s, b2_s]
        exact ⟨_, _, _, rfl, rfl, h.err 2⟩
      · rw [if_neg hb, if_neg (show ¬ nI b = 0 from nne (b := 0) (by omega) (by decide) hb), x4_isMissing k4 (by omega), b2_s, if_bi, chk_t (in_nI (n := l) (by omega) (by decide)), k5]
        by_cases hb' : b' = 0
        · rw [if_pos hb', if_pos (show nI b' = 0 by rw [hb']; rfl), x7_e2, x8_e2, b2_s, b2_s]
          exact ⟨_, _, _, rfl, rfl, h.err 2⟩
        · rw [if_neg hb', if_neg (show ¬ nI b' = 0 from nne (b := 0) (by omega) (by decide) hb'), chk_t (in_nI (n := j) (by omega) (by decide)), chk_t (in_nI (n := l) (by omega) (by decide)), g4, k4]
          by_cases hbb : nI b = nI b'
          · rw [if_pos hbb, if_pos hbb, x4_holds g6 g2, b2_s, if_bi, x4_holds k6 k2, b2_s, if_bi, chk_t (in_nI (n := j) (by omega) (by decide)), chk_t (in_nI (n := l) (by omega) (by decide)), g7, k7, x8_chain g2 k2]
            by_cases p1 : 0 ≤ x2.toInt ∧ 0 ≤ x5.toInt ∧ x2.toInt + x5.toInt ≤ (n : Int)
            · rw [if_pos p1]
              by_cases p3 : 0 ≤ x4.toInt ∧ 0 ≤ x5.toInt ∧ x4.toInt + x5.toInt ≤ (n' : Int)
              · rw [if_pos p3, if_pos ⟨p1, p3⟩]
                obtain ⟨a, -, ha, rfl⟩ := vx (lo := 0) (hi := 40) (by decide) (x := x2) (by omega)
                obtain ⟨c, -, hc4, rfl⟩ := vx (lo := 0) (hi := 40) (by decide) (x := x4) (by omega)
                obtain ⟨L, -, hL, rfl⟩ := vx (lo := 0) (hi := 40) (by decide) (x := x5) (by omega)
                have q1 : a + L ≤ n := by have := p1.2.2; rw [nI_toInt (by omega), nI_toInt (by omega)] at this; omega
                have q3 : c + L ≤ n' := by have := p3.2.2; rw [nI_toInt (by omega), nI_toInt (by omega)] at this; omega
                have hcin : pm_cin (nI a) (nI c) (nI L) 40 40 = true := by
                  simp only [pm_cin, Bool.and_eq_true, decide_eq_true_eq, nI_clamp (n := a) (by omega), nI_clamp (n := c) (by omega), nI_clamp (n := L) (by omega), nI_toInt (n := a) (by omega), nI_toInt (n := c) (by omega), nI_toInt (n := L) (by omega)]
                  omega
                obtain ⟨D1, e1, e2, e3, e4⟩ := mv1_loop (j := j) (a := a) (L := L) (by omega) (by omega) (nI l) (nI c) L 0 D (by omega) (99999 - L)
                obtain ⟨D2, f1, f2, f3, f4⟩ := mv2_loop (j := l) (a := c) (L := L) (by omega) (by omega) L 0 D1 (by omega) (99999 - L)
                rw [pm_F_s _ (by omega)] at e1 f1
                rw [chk_t hcin, let_s, nI_clamp (n := a) (by omega), nI_clamp (n := c) (by omega), nI_clamp (n := L) (by omega), show lp_X8_move_115 (nI j) (nI a) (nI l) (nI c) (nI L) 0 D = some D1 from e1, b1_s, show lp_X8_move_152 (nI l) (nI c) (nI L) 0 D1 = some D2 from f1, b1_s]
                have hD : ∀ q, q ≠ 10 → q ≠ 11 → D2 q = D q := fun q a10 a11 => (f2 q a10).trans (e2 q a11)
                have hC : ∀ q, q ≠ 97 + 2 * l + 1 → pm_cpy C (97 + 2 * j + 1) a (97 + 2 * l + 1) c L q = C q := fun q hq => by funext k; simp [pm_cpy, hq]
                have hs : SH (pm_cpy C (97 + 2 * j + 1) a (97 + 2 * l + 1) c L) D2 := by
                  intro j' hj'
                  obtain ⟨b2, n2, a1, a2, a3, a4, a5, a6, a7, a8⟩ := h.2.2.2.2.1 j' hj'
                  refine ⟨b2, n2, a1, a2, a3, by rw [hC _ (by omega)]; exact a4, by rw [hD _ (by decide) (by decide)]; exact a5, by rw [hC _ (by omega)]; exact a6, by rw [hD _ (by decide) (by decide)]; exact a7, fun i hi => ?_⟩
                  by_cases e : j' = l
                  · subst e
                    by_cases r : c ≤ i ∧ i < c + L
                    · have t : pm_cpy C (97 + 2 * j + 1) a (97 + 2 * j' + 1) c L (98 + 2 * j') i = C (97 + 2 * j + 1) (a + (i - c)) := by
                        rw [show 98 + 2 * j' = 97 + 2 * j' + 1 by omega]; simp [pm_cpy, r]
                      have u := f3 (i - c) (Nat.zero_le _) (by omega)
                      rw [show 40 * j' + c + (i - c) = 40 * j' + i by omega, e3 (i - c) (Nat.zero_le _) (by omega), show 40 * j + a + (i - c) = 40 * j + (a + (i - c)) by omega] at u
                      rw [t, u, show 97 + 2 * j + 1 = 98 + 2 * j by omega]
                      exact g8 (a + (i - c)) (by omega)
                    · have t : pm_cpy C (97 + 2 * j + 1) a (97 + 2 * j' + 1) c L (98 + 2 * j') i = C (98 + 2 * j') i := by
                        rw [show 98 + 2 * j' = 97 + 2 * j' + 1 by omega]; simp [pm_cpy, r]
                      rw [t, f4 _ (by omega), e2 10 (by decide)]
                      exact a8 i hi
                  · rw [hC _ (by omega), f4 _ (by omega), e2 10 (by decide)]; exact a8 i hi
                refine ⟨_, _, _, rfl, rfl, ?_⟩
                obtain ⟨⟨σ, h1, h2, h3⟩, h4, h5, h6, h8, h9, h10⟩ := h
                exact ⟨⟨σ, h1, h2.congr (fun q u v _ _ => hC q (by omega)), by rw [hD 1 (by decide) (by decide)]; exact h3⟩, h4.congr (fun q hq => hC q (by omega)), h5.congr (fun q hq => hC q (by omega)), h6.congr (hC 0 (by omega)) (fun q u v => hC q (by omega)) (by rw [hD 0 (by decide) (by decide)]) (hD 2 (by decide) (by decide)), hs, h9.congr (hC 94 (by omega)) (hC 95 (by omega)) (by rw [hD 0 (by decide) (by decide)]) (hD 7 (by decide) (by decide)), h10.congr (hC 105 (by omega)) (hD 3 (by decide) (by decide))⟩
              · rw [if_neg p3, if_neg (fun q => p3 q.2), x7_e1, x8_e1, b2_s, b2_s]
                exact ⟨_, _, _, rfl, rfl, h.err 1⟩
            · rw [if_neg p1, if_neg (fun q => p1 q.1), x7_e1, x8_e1, b2_s, b2_s]
              exact ⟨_, _, _, rfl, rfl, h.err 1⟩
          · rw [if_neg hbb, if_neg hbb, x7_e5, x8_e5, b2_s, b2_s]
            exact ⟨_, _, _, rfl, rfl, h.err 5⟩
    · rw [if_neg hd, if_neg hd, x7_e1, x8_e1, b2_s, b2_s]
      exact ⟨_, _, _, rfl, rfl, h.err 1⟩
  · rw [if_neg hc, if_neg hc, x7_e1, x8_e1, b2_s, b2_s]
    exact ⟨_, _, _, rfl, rfl, h.err 1⟩
