/-! ### sums, the most in arrears, the spent -/
theorem sum_loop {C D : pm_M} {σ : sg} (h1 : WF 9999 σ) (h2 : VC C 1 σ) (h3 : VM (D 1) σ) {w : Nat} (hw : w < 4) : ∀ (d i : Nat) (acc : Int32), i + d = sR σ → ∀ n m : Nat, ∃ r : Int32, pm_it (fun _ _ => none) (lb_X3_sum_4 (1 + 1) (1 + 2 + w) C) (n + d + 1) acc (nI i) = some r ∧ pm_it (fun _ _ _ => none) (lb_X8_all_4 (nI w)) (m + d + 1) acc (nI i) D = some (r, D) := by
  have hR : sR σ ≤ 6 := h1.1
  have eC : C (1 + 1) 0 = nI (sR σ) := h2.1
  have eD : D 1 0 = nI (sR σ) := h3.1
  intro d
  induction d with
  | zero =>
    intro i acc hi n m
    refine ⟨acc, ?_, ?_⟩
    · show lb_X3_sum_4 (1 + 1) (1 + 2 + w) C _ acc (nI i) = _
      rw [lb_X3_sum_4.eq_1, eC, if_pos (yle (by omega) (by omega) (by omega))]
    · show lb_X8_all_4 (nI w) _ acc (nI i) D = _
      rw [lb_X8_all_4.eq_1, tn_0, eD, if_pos (yle (by omega) (by omega) (by omega))]
  | succ d ih =>
    intro i acc hi n m
    obtain ⟨r, e1, e2⟩ := ih (i + 1) (acc + D 1 (6 + 4 * i + w)) (by omega) n m
    refine ⟨r, ?_, ?_⟩
    · show lb_X3_sum_4 (1 + 1) (1 + 2 + w) C (pm_it (fun _ _ => none) (lb_X3_sum_4 (1 + 1) (1 + 2 + w) C) (n + d + 1)) acc (nI i) = _
      rw [lb_X3_sum_4.eq_1, eC, if_neg (nle (a := sR σ) (b := i) (by omega) (by omega) (by omega)), chk_t (in_nI (n := i) (by omega) (by decide)), let_s, nI_clamp (n := i) (by omega), rf_eq h2 h3 hw (by omega) (by omega), nI_p1]
      exact e1
    · show lb_X8_all_4 (nI w) (pm_it (fun _ _ _ => none) (lb_X8_all_4 (nI w)) (m + d + 1)) acc (nI i) D = _
      rw [lb_X8_all_4.eq_1, tn_0, eD, if_neg (nle (a := sR σ) (b := i) (by omega) (by omega) (by omega)), x8_its (w := w) rfl (by omega) hw, b2_s, let_s, nI_p1]
      exact e2
theorem sum_eq {C D : pm_M} {σ : sg} (h1 : WF 9999 σ) (h2 : VC C 1 σ) (h3 : VM (D 1) σ) {w : Nat} (hw : w < 4) : ∃ r : Int32, f_X3_sum (1 + 1) C (1 + 2 + w) = some (r, C) ∧ f_X8_all D (nI w) = some (r, D) := by
  have hR : sR σ ≤ 6 := h1.1
  obtain ⟨r, e1, e2⟩ := sum_loop h1 h2 h3 hw (sR σ) 0 0 (by omega) (99999 - sR σ) (99999 - sR σ)
  have ef : 99999 - sR σ + sR σ + 1 = pm_F := by unfold pm_F; omega
  rw [ef] at e1 e2
  unfold f_X3_sum f_X8_all
  rw [show lp_X3_sum_4 (1 + 1) (1 + 2 + w) C 0 0 = some r from e1, show lp_X8_all_4 (nI w) 0 0 D = some (r, D) from e2, b1_s, b2_s]
  exact ⟨_, rfl, rfl⟩
theorem most_loop {C D : pm_M} {σ : sg} (h1 : WF 9999 σ) (h2 : VC C 1 σ) (h3 : VM (D 1) σ) : ∀ (d i b : Nat), i + d = sR σ → b < sR σ → ∀ n m : Nat, ∃ r : Nat, r < sR σ ∧ pm_it (fun _ _ => none) (lb_X3_mostInArrears_15 (1 + 1) C) (n + d + 1) (nI b) (nI i) = some (nI r) ∧ pm_it (fun _ _ _ => none) (lb_X8_mostInArrears_17) (m + d + 1) (nI b) (nI i) D = some (nI r, D) := by
  have hR : sR σ ≤ 6 := h1.1
  have eC : C (1 + 1) 0 = nI (sR σ) := h2.1
  have eD : D 1 0 = nI (sR σ) := h3.1
  intro d
  induction d with
  | zero =>
    intro i b hi hb n m
    refine ⟨b, hb, ?_, ?_⟩
    · show lb_X3_mostInArrears_15 (1 + 1) C _ (nI b) (nI i) = _
      rw [lb_X3_mostInArrears_15.eq_1, eC, if_pos (yle (by omega) (by omega) (by omega))]
    · show lb_X8_mostInArrears_17 _ (nI b) (nI i) D = _
      rw [lb_X8_mostInArrears_17.eq_1, tn_0, eD, if_pos (yle (by omega) (by omega) (by omega))]
  | succ d ih =>
    intro i b hi hb n m
    have q1 : pm_it (fun _ _ => none) (lb_X3_mostInArrears_15 (1 + 1) C) (n + (d + 1) + 1) (nI b) (nI i) = pm_it (fun _ _ => none) (lb_X3_mostInArrears_15 (1 + 1) C) (n + d + 1) (if D 1 (6 + 4 * i + 1) ≤ D 1 (6 + 4 * b + 1) then nI b else nI i) (nI (i + 1)) := by
      show lb_X3_mostInArrears_15 (1 + 1) C (pm_it (fun _ _ => none) (lb_X3_mostInArrears_15 (1 + 1) C) (n + d + 1)) (nI b) (nI i) = _
      rw [lb_X3_mostInArrears_15.eq_1, eC, if_neg (nle (a := sR σ) (b := i) (by omega) (by omega) (by omega)), chk_t (in_nI (n := i) (by omega) (by decide)), chk_t (in_nI (n := b) (by omega) (by decide)), nI_clamp (n := i) (by omega), nI_clamp (n := b) (by omega), show C (1 + 1 + 2) i = D 1 (6 + 4 * i + 1) from rf_eq h2 h3 (w := 1) (by decide) (by omega) (by omega), show C (1 + 1 + 2) b = D 1 (6 + 4 * b + 1) from rf_eq h2 h3 (w := 1) (by decide) (by omega) (by omega), nI_p1]
      split <;> rfl
    have q2 : pm_it (fun _ _ _ => none) (lb_X8_mostInArrears_17) (m + (d + 1) + 1) (nI b) (nI i) D = pm_it (fun _ _ _ => none) (lb_X8_mostInArrears_17) (m + d + 1) (if D 1 (6 + 4 * i + 1) ≤ D 1 (6 + 4 * b + 1) then nI b else nI i) (nI (i + 1)) D := by
      show lb_X8_mostInArrears_17 (pm_it (fun _ _ _ => none) (lb_X8_mostInArrears_17) (m + d + 1)) (nI b) (nI i) D = _
      rw [lb_X8_mostInArrears_17.eq_1, tn_0, eD, if_neg (nle (a := sR σ) (b := i) (by omega) (by omega) (by omega)), x8_its (w := 1) (z := 1) rfl (by omega) (by decide), b2_s, x8_its (w := 1) (z := 1) rfl (by omega) (by decide), b2_s, nI_p1]
      split <;> rfl
    rw [q1, q2]
    by_cases c : D 1 (6 + 4 * i + 1) ≤ D 1 (6 + 4 * b + 1)
    · rw [if_pos c]; exact ih (i + 1) b (by omega) hb n m
    · rw [if_neg c]; exact ih (i + 1) i (by omega) (by omega) n m
theorem most_eq {C D : pm_M} {σ : sg} (h1 : WF 9999 σ) (h2 : VC C 1 σ) (h3 : VM (D 1) σ) : ∃ r : Int32, f_X3_mostInArrears (1 + 1) C = some (r, C) ∧ f_X8_mostInArrears D = some (r, D) ∧ (0 < sR σ → ∃ a, a < sR σ ∧ r = nI a) := by
  have hR : sR σ ≤ 6 := h1.1
  have eC : C (1 + 1) 0 = nI (sR σ) := h2.1
  have eD : D 1 0 = nI (sR σ) := h3.1
  unfold f_X3_mostInArrears f_X8_mostInArrears
  rw [tn_0, eC, eD]
  by_cases c : sR σ = 0
  · rw [if_pos (show nI (sR σ) = 0 by rw [c]; rfl), if_pos (show nI (sR σ) ≤ 0 by rw [c]; decide)]
    have e1 : lp_X3_mostInArrears_15 (1 + 1) C (-1) 1 = some (-1) := by
      show lb_X3_mostInArrears_15 (1 + 1) C (pm_it (fun _ _ => none) (lb_X3_mostInArrears_15 (1 + 1) C) 99999) (-1) 1 = _
      rw [lb_X3_mostInArrears_15.eq_1, eC, c, if_pos (by decide)]
    have e2 : lp_X8_mostInArrears_17 (-1) 1 D = some (-1, D) := by
      show lb_X8_mostInArrears_17 (pm_it (fun _ _ _ => none) (lb_X8_mostInArrears_17) 99999) (-1) 1 D = _
      rw [lb_X8_mostInArrears_17.eq_1, tn_0, eD, c, if_pos (by decide)]
    rw [e1, e2, b1_s, b2_s]
    exact ⟨_, rfl, rfl, fun q => by omega⟩
  · rw [if_neg (show ¬ nI (sR σ) = 0 from nne (b := 0) (by omega) (by decide) c), if_neg (show ¬ nI (sR σ) ≤ 0 from nle (b := 0) (by omega) (by decide) (by omega))]
    obtain ⟨r, hr, e1, e2⟩ := most_loop h1 h2 h3 (sR σ - 1) 1 0 (by omega) (by omega) (99999 - (sR σ - 1)) (99999 - (sR σ - 1))
    have ef : 99999 - (sR σ - 1) + (sR σ - 1) + 1 = pm_F := by unfold pm_F; omega
    rw [ef] at e1 e2
    rw [show lp_X3_mostInArrears_15 (1 + 1) C 0 1 = some (nI r) from e1, show lp_X8_mostInArrears_17 0 1 D = some (nI r, D) from e2, b1_s, b2_s]
    exact ⟨_, rfl, rfl, fun _ => ⟨r, hr, rfl⟩⟩
/-- a cloud's lasting -/
def lasts (k m : Nat) : Nat := if k = 1 then 20 + m else if k = 2 then 15 else if k = 4 then 2 * (20 + m) else if k = 5 then 15 else 20
theorem x0_lasting {C : pm_M} {p c k m : Nat} (hc : c < 5) (hk : k ≤ 6) (e0 : C (p + 1) c = nI k) (e1 : C (p + 2) c = nI m) : f_X0_lasting p C (nI c) = some (nI (lasts k m), C) := by
  unfold f_X0_lasting
  rw [chk_t (in_nI (n := c) hc (by decide)), let_s, nI_clamp (n := c) (by omega), e0, e1, chk_t (in_nI (n := c) hc (by decide)), chk_t (in_nI (n := c) hc (by decide))]
  have e20 : (20 : Int32) + nI m = nI (20 + m) := nI_add 20 m
  have e40 : (2 : Int32) * nI (20 + m) = nI (2 * (20 + m)) := pk_mul 2 _
  rw [e20, e40]
  have hk' : k = 0 ∨ k = 1 ∨ k = 2 ∨ k = 3 ∨ k = 4 ∨ k = 5 ∨ k = 6 := by omega
  rcases hk' with rfl | rfl | rfl | rfl | rfl | rfl | rfl <;> rfl
theorem x8_lasts {D : pm_M} {c k m : Nat} (hc : c < 5) (hk : k ≤ 6) (e0 : D 1 (66 + 4 * c + 0) = nI k) (e1 : D 1 (66 + 4 * c + 1) = nI m) : f_X8_lasts D (nI c) = some (nI (lasts k m), D) := by
  unfold f_X8_lasts
  rw [x8_of (w := 0) (z := 0) rfl hc (by decide), b2_s, e0, x8_of (w := 1) (z := 1) rfl hc (by decide), b2_s, e1, b2_s]
  have e20 : (20 : Int32) + nI m = nI (20 + m) := nI_add 20 m
  have e40 : (2 : Int32) * nI (20 + m) = nI (2 * (20 + m)) := pk_mul 2 _
  rw [e20, e40]
  have hk' : k = 0 ∨ k = 1 ∨ k = 2 ∨ k = 3 ∨ k = 4 ∨ k = 5 ∨ k = 6 := by omega
  rcases hk' with rfl | rfl | rfl | rfl | rfl | rfl | rfl <;> rfl
theorem lasts_b {k m : Nat} (hm : m ≤ 9) : 15 ≤ lasts k m ∧ lasts k m ≤ 58 := by
  unfold lasts
  split
  · omega
  · split
    · omega
    · split
      · omega
      · split <;> omega
theorem x0_isSpent {C : pm_M} {p : Nat} {σ : sg} (B : Nat) (h1 : WF B σ) (h2 : VC C p σ) {c : Nat} (hc : c < sC σ) : f_X0_isSpent (p + 13) C (nI c) = some (bi (lasts (sc σ 0 c) (sc σ 1 c) ≤ sc σ 3 c), C) := by
  have h5 : sC σ ≤ 5 := h1.2.1
  have b0 : sc σ 0 c ≤ 6 := h1.2.2.2.2.2.2.2.2.1 0 c hc (by decide)
  have b1 : sc σ 1 c ≤ 9 := h1.2.2.2.2.2.2.2.2.1 1 c hc (by decide)
  have b3 : sc σ 3 c ≤ 99 := h1.2.2.2.2.2.2.2.2.1 3 c hc (by decide)
  have bl := @lasts_b (sc σ 0 c) (sc σ 1 c) b1
  have hv : ∀ w, w < 4 → C (p + 14 + w) c = nI (sc σ w c) := fun w hw => h2.2.2.2.2.2.2.2.2.1 w c hw hc
  unfold f_X0_isSpent
  rw [chk_t (in_nI (n := c) (by omega) (by decide)), x0_lasting (k := sc σ 0 c) (m := sc σ 1 c) (by omega) b0 (hv 0 (by decide)) (hv 1 (by decide)), b2_s, nI_clamp (n := c) (by omega), show p + 13 + 4 = p + 14 + 3 by omega, hv 3 (by decide)]
  by_cases e : lasts (sc σ 0 c) (sc σ 1 c) ≤ sc σ 3 c
  · rw [if_neg (nlt (by omega) (by omega) e), bi_t e]
  · rw [if_pos (ylt (by omega) (by omega) (by omega)), bi_f e]
theorem x8_isSpent {D : pm_M} {σ : sg} (B : Nat) (h1 : WF B σ) (h3 : VM (D 1) σ) {c : Nat} (hc : c < sC σ) : f_X8_isSpent D (nI c) = some (bi (lasts (sc σ 0 c) (sc σ 1 c) ≤ sc σ 3 c), D) := by
  have h5 : sC σ ≤ 5 := h1.2.1
  have b0 : sc σ 0 c ≤ 6 := h1.2.2.2.2.2.2.2.2.1 0 c hc (by decide)
  have b1 : sc σ 1 c ≤ 9 := h1.2.2.2.2.2.2.2.2.1 1 c hc (by decide)
  have b3 : sc σ 3 c ≤ 99 := h1.2.2.2.2.2.2.2.2.1 3 c hc (by decide)
  have bl := @lasts_b (sc σ 0 c) (sc σ 1 c) b1
  have hv : ∀ w, w < 4 → D 1 (66 + 4 * c + w) = nI (sc σ w c) := fun w hw => h3.2.2.2.2.2.2.2.2.1 c w hc hw
  unfold f_X8_isSpent
  rw [x8_of (w := 3) (z := 3) rfl (by omega) (by decide), b2_s, x8_lasts (k := sc σ 0 c) (m := sc σ 1 c) (by omega) b0 (hv 0 (by decide)) (hv 1 (by decide)), b2_s, hv 3 (by decide)]
  by_cases e : lasts (sc σ 0 c) (sc σ 1 c) ≤ sc σ 3 c
  · rw [if_neg (nlt (by omega) (by omega) e), bi_t e]
  · rw [if_pos (ylt (by omega) (by omega) (by omega)), bi_f e]
