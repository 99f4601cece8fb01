/-! ### the clouds' table alone; class at p (Clouds), reference at 1 -/
def CL (p nC : Nat) (C D : pm_M) (s : Nat → Nat → Nat) : Prop := nC ≤ 5 ∧ C p 0 = nI nC ∧ D 1 1 = nI nC ∧ (∀ w c, w < 4 → c < nC → C (p + 1 + w) c = nI (s w c)) ∧ (∀ w c, w < 4 → c < nC → D 1 (66 + 4 * c + w) = nI (s w c)) ∧ ∀ c, c < nC → s 0 c ≤ 6 ∧ s 1 c ≤ 9 ∧ s 3 c ≤ 99
theorem max_sub {a b : Nat} (ha : a < 2 ^ 30) (hb : b < 2 ^ 30) : pm_max 0 (nI a - nI b) = nI (a - b) := by
  unfold pm_max
  by_cases c : b < a
  · rw [sub_nI (by omega), if_pos (show 0 < nI (a - b) from ylt (a := 0) (by decide) (by omega) (by omega))]
  · have e : a - b = 0 := by omega
    have n : ¬ 0 < nI a - nI b := fun q => by
      have := Int32.lt_iff_toInt_lt.mp q
      rw [pk_sub_toInt ha hb, li0] at this; omega
    rw [if_neg n, e]; rfl
theorem held_sub {M : pm_M} {a b : Nat} (ha : a ≤ 99) (hb : b < 2 ^ 30) : f_X8_held M (nI a - nI b) 0 99 = some (nI (a - b), M) := by
  unfold f_X8_held
  by_cases c : b ≤ a
  · rw [sub_nI c, if_pos (show 0 ≤ nI (a - b) from yle (a := 0) (by decide) (by omega) (Nat.zero_le _)), if_pos (show nI (a - b) ≤ 99 from yle (b := 99) (by omega) (by decide) (by omega))]
  · have e : a - b = 0 := by omega
    have n : ¬ 0 ≤ nI a - nI b := fun q => by
      have := Int32.le_iff_toInt_le.mp q
      rw [pk_sub_toInt (by omega) hb, li0] at this; omega
    rw [if_neg n, e]; rfl
def left (s : Nat → Nat → Nat) (c : Nat) : Nat := lasts (s 0 c) (s 1 c) - s 3 c
theorem x0_daysLeft {p nC : Nat} {C D : pm_M} {s : Nat → Nat → Nat} (h : CL p nC C D s) {c : Nat} (hc : c < nC) : f_X0_daysLeft p C (nI c) = some (nI (left s c), C) := by
  obtain ⟨w1, w2, w3, w4, w5, w6⟩ := h
  obtain ⟨k0, k1, k3⟩ := w6 c hc
  have bl := @lasts_b (s 0 c) (s 1 c) k1
  unfold f_X0_daysLeft
  rw [x0_lasting (k := s 0 c) (m := s 1 c) (by omega) k0 (w4 0 c (by decide) hc) (w4 1 c (by decide) hc), b2_s, chk_t (in_nI (n := c) (by omega) (by decide)), nI_clamp (n := c) (by omega), show p + 4 = p + 1 + 3 by omega, w4 3 c (by decide) hc, max_sub (by omega) (by omega)]
  rfl
theorem x8_daysLeft {p nC : Nat} {C D : pm_M} {s : Nat → Nat → Nat} (h : CL p nC C D s) {c : Nat} (hc : c < nC) : f_X8_daysLeft D (nI c) = some (nI (left s c), D) := by
  obtain ⟨w1, w2, w3, w4, w5, w6⟩ := h
  obtain ⟨k0, k1, k3⟩ := w6 c hc
  have bl := @lasts_b (s 0 c) (s 1 c) k1
  unfold f_X8_daysLeft
  rw [x8_lasts (k := s 0 c) (m := s 1 c) (by omega) k0 (w5 0 c (by decide) hc) (w5 1 c (by decide) hc), b2_s, x8_of (w := 3) (z := 3) rfl (by omega) (by decide), b2_s, w5 3 c (by decide) hc, held_sub (by omega) (by omega), b2_s]
  rfl
theorem weak_loop {p nC : Nat} {C D : pm_M} {s : Nat → Nat → Nat} (h : CL p nC C D s) : ∀ (d i b : Nat), i + d = nC → b < nC → ∀ n m : Nat, ∃ r : Nat, r < nC ∧ pm_it (fun _ _ _ => none) (lb_X0_weakest_4 p) (n + d + 1) (nI b) (nI i) C = some (nI r, C) ∧ pm_it (fun _ _ _ => none) (lb_X8_fewestLeft_4) (m + d + 1) (nI b) (nI i) D = some (nI r, D) := by
  have hR : nC ≤ 5 := h.1
  have eC := h.2.1
  have eD := h.2.2.1
  intro d
  induction d with
  | zero =>
    intro i b hi hb n m
    refine ⟨b, hb, ?_, ?_⟩
    · show lb_X0_weakest_4 p _ (nI b) (nI i) C = _
      rw [lb_X0_weakest_4.eq_1, eC, if_pos (yle (by omega) (by omega) (by omega))]
    · show lb_X8_fewestLeft_4 _ (nI b) (nI i) D = _
      rw [lb_X8_fewestLeft_4.eq_1, tn_1, eD, if_pos (yle (by omega) (by omega) (by omega))]
  | succ d ih =>
    intro i b hi hb n m
    have q1 : pm_it (fun _ _ _ => none) (lb_X0_weakest_4 p) (n + (d + 1) + 1) (nI b) (nI i) C = pm_it (fun _ _ _ => none) (lb_X0_weakest_4 p) (n + d + 1) (if nI (left s b) ≤ nI (left s i) then nI b else nI i) (nI (i + 1)) C := by
      show lb_X0_weakest_4 p (pm_it (fun _ _ _ => none) (lb_X0_weakest_4 p) (n + d + 1)) (nI b) (nI i) C = _
      rw [lb_X0_weakest_4.eq_1, eC, if_neg (nle (a := nC) (b := i) (by omega) (by omega) (by omega)), x0_daysLeft h (c := i) (by omega), b2_s, x0_daysLeft h (c := b) hb, b2_s, nI_p1]
      split <;> rfl
    have q2 : pm_it (fun _ _ _ => none) (lb_X8_fewestLeft_4) (m + (d + 1) + 1) (nI b) (nI i) D = pm_it (fun _ _ _ => none) (lb_X8_fewestLeft_4) (m + d + 1) (if nI (left s b) ≤ nI (left s i) then nI b else nI i) (nI (i + 1)) D := by
      show lb_X8_fewestLeft_4 (pm_it (fun _ _ _ => none) (lb_X8_fewestLeft_4) (m + d + 1)) (nI b) (nI i) D = _
      rw [lb_X8_fewestLeft_4.eq_1, tn_1, eD, if_neg (nle (a := nC) (b := i) (by omega) (by omega) (by omega)), x8_daysLeft h (c := i) (by omega), b2_s, x8_daysLeft h (c := b) hb, b2_s, nI_p1]
      split <;> rfl
    rw [q1, q2]
    by_cases c : nI (left s b) ≤ nI (left s i)
    · rw [if_pos c]; exact ih (i + 1) b (by omega) hb n m
    · rw [if_neg c]; exact ih (i + 1) i (by omega) (by omega) n m
theorem weak_eq {p nC : Nat} {C D : pm_M} {s : Nat → Nat → Nat} (h : CL p nC C D s) (h0 : 0 < nC) : ∃ r : Nat, r < nC ∧ f_X0_weakest p C = some (nI r, C) ∧ f_X8_fewestLeft D = some (nI r, D) := by
  have hR : nC ≤ 5 := h.1
  obtain ⟨r, hr, e1, e2⟩ := weak_loop h (nC - 1) 1 0 (by omega) h0 (99999 - (nC - 1)) (99999 - (nC - 1))
  rw [pm_F_s _ (by omega)] at e1 e2
  unfold f_X0_weakest f_X8_fewestLeft
  rw [show lp_X0_weakest_4 p 0 1 C = some (nI r, C) from e1, show lp_X8_fewestLeft_4 0 1 D = some (nI r, D) from e2, b2_s, b2_s]
  exact ⟨r, hr, rfl, rfl⟩
