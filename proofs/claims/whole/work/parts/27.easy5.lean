theorem isOf_loop (p : Nat) (M : pm_M) {k w : Nat} (hk : k ≤ 6) (hw : w ≤ 6) (n : Nat) : ∃ e : Int32, pm_it (fun _ _ => none) (lb_X0_isOf_10 p (nI w) M) (n + 8) (nI k) 0 = some e ∧ (e = nI w ↔ (w = 0 ∨ w = k ∨ (4 ≤ k ∧ w + 3 = k))) := by
  have hk' : k = 0 ∨ k = 1 ∨ k = 2 ∨ k = 3 ∨ k = 4 ∨ k = 5 ∨ k = 6 := by omega
  have hw' : w = 0 ∨ w = 1 ∨ w = 2 ∨ w = 3 ∨ w = 4 ∨ w = 5 ∨ w = 6 := by omega
  rcases hk' with rfl | rfl | rfl | rfl | rfl | rfl | rfl <;> rcases hw' with rfl | rfl | rfl | rfl | rfl | rfl | rfl <;> exact ⟨_, rfl, by decide⟩
theorem x0_isOf {M : pm_M} {p a k w : Nat} (ha : a < 5) (hk : k ≤ 6) (hw : w ≤ 6) (e : M (p + 1) a = nI k) : f_X0_isOf p M (nI a) (nI w) = some (bi (w = 0 ∨ w = k ∨ (4 ≤ k ∧ w + 3 = k)), M) := by
  unfold f_X0_isOf
  rw [chk_t (in_nI ha (by decide)), let_s, nI_clamp (by omega), e]
  obtain ⟨v, e1, e2⟩ := isOf_loop p M hk hw 99992
  rw [show lp_X0_isOf_10 p (nI w) M (nI k) 0 = some v from e1, b1_s]
  by_cases c : w = 0 ∨ w = k ∨ (4 ≤ k ∧ w + 3 = k)
  · rw [if_pos (e2.mpr c), bi_t c]
  · rw [if_neg (fun q => c (e2.mp q)), bi_f c]
set_option maxHeartbeats 2000000 in
theorem e_as {C D : pm_M} (h : RR C D) (x1 : Int32) (x2 : Int32) : ∃ (r : Int32) (C' D' : pm_M), f_X7_as C x1 x2 = some (r, C') ∧ f_X8_as D x1 x2 = some (r, D') ∧ RR C' D' := by
  obtain ⟨⟨σ, h1, h2, h3⟩, h4⟩ := id h
  have hR : sC σ ≤ 5 := h1.2.1
  unfold f_X7_as f_X8_as
  rw [x0_has (p := 1 + 13) (n := sC σ) h2.2.1 (by omega), x8_isCloud (n := sC σ) h3.2.1 (by omega), b2_s, b2_s, if_bi, if_bi]
  by_cases hc : 0 ≤ x1.toInt ∧ x1.toInt ≤ (sC σ : Int) - 1
  · rw [if_pos hc, if_pos hc, x7_within, x8_in, b2_s, b2_s, if_bi, if_bi, i64, li0, li6, ll0, ll6]
    obtain ⟨a, -, ha, rfl⟩ := vx (lo := 0) (hi := 4) (by decide) (x := x1) (by omega)
    have haR : a < sC σ := by have := hc.2; rw [nI_toInt (by omega)] at this; omega
    by_cases hv : 0 ≤ x2.toInt ∧ x2.toInt ≤ 6
    · obtain ⟨w, -, hw, rfl⟩ := vx (lo := 0) (hi := 6) (by decide) hv
      have eC : C (1 + 13 + 1) a = nI (sc σ 0 a) := h2.2.2.2.2.2.2.2.2.1 0 a (by decide) haR
      have eD : D 1 (66 + 4 * a + 0) = nI (sc σ 0 a) := h3.2.2.2.2.2.2.2.2.1 a 0 haR (by decide)
      have hk : sc σ 0 a ≤ 6 := h1.2.2.2.2.2.2.2.2.1 0 a haR (by decide)
      have em : C (1 + 13 + 2) a = D 1 (66 + 4 * a + 1) := cf_eq h2 h3 (w := 1) (by decide) haR
      rw [if_pos hv, if_pos hv, x0_isOf (by omega) hk hw eC, b2_s, if_bi, x8_of (w := 0) (z := 0) rfl (by omega) (by decide), b2_s, eD, x8_of (w := 1) (z := 1) rfl (by omega) (by decide), b2_s, chk_t (in_nI (n := a) (by omega) (by decide)), nI_clamp (n := a) (by omega), em]
      unfold f_X8_above
      by_cases w0 : w = 0
      · subst w0
        rw [if_pos (Or.inl rfl), if_pos (show nI 0 = 0 from rfl)]
        exact ⟨_, _, _, rfl, rfl, h⟩
      · rw [if_neg (show ¬ nI w = 0 from nne (b := 0) (by omega) (by decide) w0)]
        by_cases wk : w = sc σ 0 a
        · rw [if_pos (Or.inr (Or.inl wk)), if_pos (show nI w = nI (sc σ 0 a) by rw [wk])]
          exact ⟨_, _, _, rfl, rfl, h⟩
        · rw [if_neg (show ¬ nI w = nI (sc σ 0 a) from nne (by omega) (by omega) wk)]
          by_cases k4 : 4 ≤ sc σ 0 a
          · rw [if_pos (show 4 ≤ nI (sc σ 0 a) from yle (a := 4) (by decide) (by omega) k4), show nI (sc σ 0 a) - 3 = nI (sc σ 0 a - 3) from pk_sub (b := 3) (by omega), b2_s, x8_of (w := 1) (z := 1) rfl (by omega) (by decide), b2_s]
            by_cases w3 : w + 3 = sc σ 0 a
            · rw [if_pos (Or.inr (Or.inr ⟨k4, w3⟩)), if_pos (show nI w = nI (sc σ 0 a - 3) by rw [← w3]; rfl)]
              exact ⟨_, _, _, rfl, rfl, h⟩
            · rw [if_neg (by omega), if_neg (show ¬ nI w = nI (sc σ 0 a - 3) from nne (by omega) (by omega) (by omega)), x7_e5, x8_e5, b2_s, b2_s]
              exact ⟨_, _, _, rfl, rfl, h.err 5⟩
          · rw [if_neg (show ¬ 4 ≤ nI (sc σ 0 a) from nle (a := 4) (by decide) (by omega) (by omega)), b2_s, if_neg (by omega), if_neg (show ¬ nI w = 0 from nne (b := 0) (by omega) (by decide) w0), x7_e5, x8_e5, b2_s, b2_s]
            exact ⟨_, _, _, rfl, rfl, h.err 5⟩
    · rw [if_neg hv, if_neg hv, x7_e1, x8_e1, b2_s, b2_s]
      exact ⟨_, _, _, rfl, rfl, h.err 1⟩
  · rw [if_neg hc, if_neg hc, x7_e1, x8_e1, b2_s, b2_s]
    exact ⟨_, _, _, rfl, rfl, h.err 1⟩
/-- new sheets, all else as it was -/
theorem RR.shs {C D C' D' : pm_M} (h : RR C D) (hs : SH C' D') (eC : ∀ q, (q < 97 ∨ 105 ≤ q) → C' q = C q) (eD : ∀ q, q ≠ 8 → q ≠ 9 → q ≠ 10 → D' q = D q) : RR C' D' := by
  obtain ⟨⟨σ, h1, h2, h3⟩, h4, h5, h6, h8, h9, h10⟩ := h
  exact ⟨⟨σ, h1, h2.congr (fun q a b _ _ => eC q (by omega)), by rw [eD 1 (by decide) (by decide) (by decide)]; exact h3⟩, h4.congr (fun q hq => eC q (by omega)), h5.congr (fun q hq => eC q (by omega)), h6.congr (eC 0 (by decide)) (fun q a b => eC q (by omega)) (by rw [eD 0 (by decide) (by decide) (by decide)]) (eD 2 (by decide) (by decide) (by decide)), hs, h9.congr (eC 94 (by decide)) (eC 95 (by decide)) (by rw [eD 0 (by decide) (by decide) (by decide)]) (eD 7 (by decide) (by decide) (by decide)), h10.congr (eC 105 (by decide)) (eD 3 (by decide) (by decide) (by decide))⟩
theorem SH.num {C D : pm_M} (h : SH C D) {j i : Nat} (hj : j < 4) (hi : i < 40) (v : Int32) : SH (pm_up C (97 + 2 * j + 1) i v) (pm_up D 10 (40 * j + i) v) := by
  intro j' hj'
  obtain ⟨b, n, g1, g2, g3, g4, g5, g6, g7, g8⟩ := h j' hj'
  refine ⟨b, n, g1, g2, g3, by rw [up_k (by omega)]; exact g4, by rw [up_k (by decide)]; exact g5, by rw [up_k (by omega)]; exact g6, by rw [up_k (by decide)]; exact g7, fun i' hi' => ?_⟩
  by_cases e : j' = j
  · subst e
    by_cases e2 : i' = i
    · subst e2; rw [show 98 + 2 * j' = 97 + 2 * j' + 1 by omega, up_s, up_s]
    · rw [show 98 + 2 * j' = 97 + 2 * j' + 1 by omega, up_i e2, up_i (by omega), show 97 + 2 * j' + 1 = 98 + 2 * j' by omega]; exact g8 i' hi'
  · rw [up_k (by omega), up_i (by omega)]; exact g8 i' hi'
theorem x7_isSheet {M : pm_M} {x : Int32} : f_X7_isSheet M x = some (bi (0 ≤ x.toInt ∧ x.toInt ≤ 3), M) := by
  unfold f_X7_isSheet
  rw [x7_within, b2_s, chk_bi, li0, li3]
theorem x8_isSheet {M : pm_M} {x : Int32} : f_X8_isSheet M x = some (bi (0 ≤ x.toInt ∧ x.toInt ≤ 3), M) := by
  unfold f_X8_isSheet
  rw [x8_in, b2_s, chk_bi, i64, ll0, ll3]
theorem ix40 (j i : Nat) : (40 * nI j) + nI i = nI (40 * j + i) := by
  show (nI 40 * nI j) + nI i = _; rw [pk_mul, nI_add]
theorem x4_isMissing {M : pm_M} {p b : Nat} (e : M p 0 = nI b) (hb : b < 2 ^ 31) : f_X4_isMissing p M = some (bi (b = 0), M) := by
  unfold f_X4_isMissing
  rw [e]
  by_cases c : b = 0
  · rw [if_pos (show nI b = 0 by rw [c]; rfl), bi_t c]
  · rw [if_neg (show ¬ nI b = 0 from nne (b := 0) hb (by decide) c), bi_f c]
set_option maxHeartbeats 2000000 in
theorem e_put {C D : pm_M} (h : RR C D) (x1 : Int32) (x2 : Int32) (x3 : Int32) : ∃ (r : Int32) (C' D' : pm_M), f_X7_put C x1 x2 x3 = some (r, C') ∧ f_X8_put D x1 x2 x3 = some (r, D') ∧ RR C' D' := by
  unfold f_X7_put f_X8_put
  rw [x7_isSheet, x8_isSheet, b2_s, b2_s, if_bi, if_bi]
  by_cases hc : 0 ≤ x1.toInt ∧ x1.toInt ≤ 3
  · obtain ⟨j, -, hj, rfl⟩ := vx (lo := 0) (hi := 3) (by decide) hc
    obtain ⟨b, n, g1, g2, g3, g4, g5, g6, g7, g8⟩ := h.2.2.2.2.1 j (by omega)
    rw [if_pos hc, if_pos hc, chk_t (in_nI (n := j) (by omega) (by decide)), chk_t (in_nI (n := j) (by omega) (by decide)), nI_clamp (n := j) (by omega), x4_isMissing g4 (by omega), b2_s, if_bi, g5]
    by_cases hb : b = 0
    · rw [if_pos hb, if_pos (show nI b = 0 by rw [hb]; rfl), x7_e2, x8_e2, b2_s, b2_s]
      exact ⟨_, _, _, rfl, rfl, h.err 2⟩
    · rw [if_neg hb, if_neg (show ¬ nI b = 0 from nne (b := 0) (by omega) (by decide) hb), chk_t (in_nI (n := j) (by omega) (by decide)), g7, x8_in, b2_s, if_bi, i64, i64, ll0, m1_toInt (by omega), g6]
      by_cases hv : 0 ≤ x2.toInt ∧ x2.toInt ≤ (n : Int) - 1
      · obtain ⟨i, -, hi, rfl⟩ := vx (lo := 0) (hi := 39) (by decide) (x := x2) (by omega)
        have hin : i < n := by have := hv.2; rw [nI_toInt (by omega)] at this; omega
        rw [if_pos hv, if_neg (show ¬ nI i < 0 from nlt (b := 0) (by omega) (by decide) (by omega)), if_pos (ylt (by omega) (by omega) hin), chk_t (in_nI (n := j) (by omega) (by decide)), chk_t (in_nI (n := j) (by omega) (by decide)), ix40, chk_t (in_nI (n := 40 * j + i) (by omega) (by decide)), chk_t (in_nI (n := 40 * j + i) (by omega) (by decide)), chk_t (in_nI (n := 40 * j + i) (by omega) (by decide)), nI_clamp (n := 40 * j + i) (by omega), g5]
        unfold f_X4_cutToBits
        rw [g4]
        have fin : ∀ v : Int32, RR (pm_up C (97 + 2 * j + 1) i v) (pm_up D 10 (40 * j + i) v) := fun v => h.shs (h.2.2.2.2.1.num (by omega) (by omega) v) (fun q hq => pm_up_o q (by omega)) (fun q h8 h9 h10 => pm_up_o q h10)
        by_cases b8 : nI b = 8
        · rw [if_pos b8, if_pos b8, b2_s, chk_t (in_nI (n := i) (by omega) (by decide)), let_s, let_s, nI_clamp (n := i) (by omega)]
          exact ⟨_, _, _, rfl, rfl, fin _⟩
        · rw [if_neg b8, if_neg b8]
          by_cases b16 : nI b = 16
          · rw [if_pos b16, if_pos b16, b2_s, chk_t (in_nI (n := i) (by omega) (by decide)), let_s, let_s, nI_clamp (n := i) (by omega)]
            exact ⟨_, _, _, rfl, rfl, fin _⟩
          · rw [if_neg b16, if_neg b16, b2_s, chk_t (in_nI (n := i) (by omega) (by decide)), let_s, let_s, nI_clamp (n := i) (by omega)]
            exact ⟨_, _, _, rfl, rfl, fin _⟩
      · rw [if_neg hv, x8_e1, b2_s]
        by_cases hz : x2 < 0
        · rw [if_pos hz, x7_e1, b2_s]
          exact ⟨_, _, _, rfl, rfl, h.err 1⟩
        · have hz' : ¬ x2.toInt < 0 := fun q => hz (Int32.lt_iff_toInt_lt.mpr (by rw [li0]; exact q))
          have hn : ¬ x2 < nI n := fun q => by
            have := Int32.lt_iff_toInt_lt.mp q
            rw [nI_toInt (by omega)] at this; omega
          rw [if_neg hz, if_neg hn, x7_e1, b2_s]
          exact ⟨_, _, _, rfl, rfl, h.err 1⟩
  · rw [if_neg hc, if_neg hc, x7_e1, x8_e1, b2_s, b2_s]
    exact ⟨_, _, _, rfl, rfl, h.err 1⟩
