theorem x0_copyFrom {p a1 : Nat} (hp : a1 + 5 ≤ p ∨ p + 5 ≤ a1) (C : pm_M) : ∃ C' : pm_M, f_X0_copyFrom p C a1 = some C' ∧ (∀ q, (q < p ∨ p + 5 ≤ q) → C' q = C q) ∧ C' p 0 = C a1 0 ∧ (∀ w r, w < 4 → r < 5 → C' (p + 1 + w) r = C (a1 + 1 + w) r) := by
  unfold f_X0_copyFrom
  rw [let_s, let_s, let_s, let_s, let_s, tn_0, tn_5]
  refine ⟨_, rfl, fun q hq => ?_, ?_, fun w r hw hr => ?_⟩
  · rw [cpy_o (by omega), cpy_o (by omega), cpy_o (by omega), cpy_o (by omega), pm_up_o q (by omega)]
  · rw [cpy_o (by omega), cpy_o (by omega), cpy_o (by omega), cpy_o (by omega), up_s]
  · have hw' : w = 0 ∨ w = 1 ∨ w = 2 ∨ w = 3 := by omega
    rcases hw' with rfl | rfl | rfl | rfl
    · rw [cpy_o (by omega), cpy_o (by omega), cpy_o (by omega), show p + 1 + 0 = p + 1 by omega, cpy_s hr, pm_up_o _ (by omega)]
    · rw [cpy_o (by omega), cpy_o (by omega), show p + 1 + 1 = p + 2 by omega, cpy_s hr, cpy_o (by omega), pm_up_o _ (by omega)]
    · rw [cpy_o (by omega), show p + 1 + 2 = p + 3 by omega, cpy_s hr, cpy_o (by omega), cpy_o (by omega), pm_up_o _ (by omega)]
    · rw [show p + 1 + 3 = p + 4 by omega, cpy_s hr, cpy_o (by omega), cpy_o (by omega), cpy_o (by omega), pm_up_o _ (by omega)]
theorem tn_50 : (50 : Int32).toNatClampNeg = 50 := rfl
theorem tn_20 : (20 : Int32).toNatClampNeg = 20 := rfl
theorem take_eq (q a : Nat) (M : pm_M) (x : Int32) : f_X1_take q M a x = some (pm_up (pm_cpy M a 0 (q + 1) 0 50) q 3 x) := by
  unfold f_X1_take
  rw [let_s, let_s, tn_0, tn_50]
theorem cp5_loop {p a1 : Nat} (C : pm_M) : lp_X5_copyFrom_24 p a1 0 C = some (pm_up (pm_cpy (pm_up (pm_cpy C (a1 + 19 + 1) 0 (p + 19 + 1) 0 50) (p + 19) 3 (C (a1 + 19) 3)) (a1 + 22 + 1) 0 (p + 22 + 1) 0 50) (p + 22) 3 (pm_up (pm_cpy C (a1 + 19 + 1) 0 (p + 19 + 1) 0 50) (p + 19) 3 (C (a1 + 19) 3) (a1 + 22) 3)) := by
  show lb_X5_copyFrom_24 p a1 (pm_it (fun _ _ => none) (lb_X5_copyFrom_24 p a1) (99997 + 1 + 1)) (nI 0) C = _
  rw [lb_X5_copyFrom_24.eq_1, if_neg (show ¬ 2 ≤ nI 0 by decide), chk_t (in_nI (n := 0) (by omega) (by decide)), nI_clamp (n := 0) (by omega), take_eq, b1_s, nI_p1]
  show lb_X5_copyFrom_24 p a1 (pm_it (fun _ _ => none) (lb_X5_copyFrom_24 p a1) (99997 + 1)) (nI 1) _ = _
  rw [lb_X5_copyFrom_24.eq_1, if_neg (show ¬ 2 ≤ nI 1 by decide), chk_t (in_nI (n := 1) (by omega) (by decide)), nI_clamp (n := 1) (by omega), take_eq, b1_s, nI_p1]
  show lb_X5_copyFrom_24 p a1 (pm_it (fun _ _ => none) (lb_X5_copyFrom_24 p a1) 99997) (nI 2) _ = _
  rw [lb_X5_copyFrom_24.eq_1, if_pos (show 2 ≤ nI 2 by decide)]
set_option maxHeartbeats 4000000 in
theorem x5_copyFrom {p a1 : Nat} (hp : a1 + 30 ≤ p ∨ p + 30 ≤ a1) {C : pm_M} {B : Nat} {σ : sg} (h1 : WF B σ) (h2 : VC C a1 σ) (lk : LK C p) : ∃ C' : pm_M, f_X5_copyFrom p C a1 = some C' ∧ (∀ q, (q < p ∨ p + 30 ≤ q) → C' q = C q) ∧ VC C' p σ := by
  obtain ⟨C1, a2, a3, a4, a5, a6⟩ := x3_copyFrom (p := p + 1) (a1 := a1 + 1) (by omega) C
  obtain ⟨C2, b2, b3, b4, b5⟩ := x0_copyFrom (p := p + 13) (a1 := a1 + 13) (by omega) C1
  unfold f_X5_copyFrom
  rw [a2, b1_s, b2, b1_s, cp5_loop, b1_s]
  generalize hM : pm_up (pm_cpy (pm_up (pm_cpy C2 (a1 + 19 + 1) 0 (p + 19 + 1) 0 50) (p + 19) 3 (C2 (a1 + 19) 3)) (a1 + 22 + 1) 0 (p + 22 + 1) 0 50) (p + 22) 3 (pm_up (pm_cpy C2 (a1 + 19 + 1) 0 (p + 19 + 1) 0 50) (p + 19) 3 (C2 (a1 + 19) 3) (a1 + 22) 3) = C3
  have c3 : ∀ q, q ≠ p + 19 → q ≠ p + 20 → q ≠ p + 22 → q ≠ p + 23 → C3 q = C2 q := fun q x1 x2 x3 x4 => by rw [← hM, pm_up_o q x3, cpy_o (by omega), pm_up_o q x1, cpy_o (by omega)]
  have cs : ∀ q, (q < p ∨ p + 30 ≤ q) → C3 q = C q := fun q hq => by rw [c3 q (by omega) (by omega) (by omega) (by omega), b3 q (by omega), a3 q (by omega)]
  have L19 : C3 (p + 19) 3 = C (a1 + 19) 3 := by rw [← hM, up_k (by omega), cpy_o (by omega), up_s, b3 _ (by omega), a3 _ (by omega)]
  have L22 : C3 (p + 22) 3 = C (a1 + 22) 3 := by rw [← hM, up_s, up_k (by omega), cpy_o (by omega), b3 _ (by omega), a3 _ (by omega)]
  have L20 : ∀ i, i < 50 → C3 (p + 20) i = C (a1 + 20) i := fun i hi => by rw [← hM, up_k (by omega), cpy_o (by omega), up_k (by omega), show p + 19 + 1 = p + 20 by omega, cpy_s hi, b3 _ (by omega), a3 _ (by omega)]
  have L23 : ∀ i, i < 50 → C3 (p + 23) i = C (a1 + 23) i := fun i hi => by rw [← hM, up_k (by omega), show p + 22 + 1 = p + 23 by omega, cpy_s hi, up_k (by omega), cpy_o (by omega), b3 _ (by omega), a3 _ (by omega)]
  have K19 : ∀ k, k < 2 → C3 (p + 19) k = C (p + 19) k := fun k hk => by rw [← hM, up_k (by omega), cpy_o (by omega), up_i (by omega), cpy_o (by omega), b3 _ (by omega), a3 _ (by omega)]
  have K22 : ∀ k, k < 2 → C3 (p + 22) k = C (p + 22) k := fun k hk => by rw [← hM, up_i (by omega), cpy_o (by omega), up_k (by omega), cpy_o (by omega), b3 _ (by omega), a3 _ (by omega)]
  rw [let_s, let_s, let_s, let_s, let_s, let_s, tn_0, tn_50, tn_20]
  obtain ⟨h21, h22, h23, h24, h25, h26, h27, h28, h29, h2a, h2b, h2c⟩ := h2
  have t1 : (sP σ).length ≤ 50 := h1.2.2.2.2.2.2.2.2.2.2.1
  have t2 : (sW σ).length ≤ 20 := h1.2.2.2.2.2.2.2.2.2.2.2
  have t3 : sC σ ≤ 5 := h1.2.1
  refine ⟨_, rfl, fun q hq => ?_, ?_, ?_, ?_, ?_, ?_, ?_, fun w r hw hr => ?_, fun a b ha hb => ?_, fun w c hw hc => ?_, fun i hi => ?_, fun i hi => ?_, fun u hu => ?_⟩
  · rw [pm_up_o q (by omega), cpy_o (by omega), pm_up_o q (by omega), cpy_o (by omega), pm_up_o q (by omega), pm_up_o q (by omega)]; exact cs q hq
  · rw [up_k (by omega), cpy_o (by omega), up_k (by omega), cpy_o (by omega), up_k (by omega), up_k (by omega), c3 _ (by omega) (by omega) (by omega) (by omega), b3 _ (by omega), a4]; exact h21
  · rw [up_k (by omega), cpy_o (by omega), up_k (by omega), cpy_o (by omega), up_k (by omega), up_k (by omega), c3 _ (by omega) (by omega) (by omega) (by omega), b4, a3 _ (by omega)]; exact h22
  · rw [up_i (by omega), cpy_o (by omega), up_i (by omega), cpy_o (by omega), up_i (by omega), up_s, cs _ (by omega)]; exact h23
  · rw [up_i (by omega), cpy_o (by omega), up_i (by omega), cpy_o (by omega), up_s, up_k (by omega), cs _ (by omega)]; exact h24
  · rw [up_i (by omega), cpy_o (by omega), up_s, cpy_o (by omega), up_k (by omega), up_k (by omega), cs _ (by omega)]; exact h25
  · rw [up_s, cpy_o (by omega), up_k (by omega), cpy_o (by omega), up_k (by omega), up_k (by omega), cs _ (by omega)]; exact h26
  · rw [up_k (by omega), cpy_o (by omega), up_k (by omega), cpy_o (by omega), up_k (by omega), up_k (by omega), c3 _ (by omega) (by omega) (by omega) (by omega), b3 _ (by omega), show p + 2 + w = p + 1 + 1 + w by omega, a5 w r hw hr, show a1 + 1 + 1 + w = a1 + 2 + w by omega]; exact h27 w r hw hr
  · rw [up_k (by omega), cpy_o (by omega), up_k (by omega), cpy_o (by omega), up_k (by omega), up_k (by omega), c3 _ (by omega) (by omega) (by omega) (by omega), b3 _ (by omega), show p + 7 + a = p + 1 + 6 + a by omega, a6 a b ha hb, show a1 + 1 + 6 + a = a1 + 7 + a by omega]; exact h28 a b ha hb
  · rw [up_k (by omega), cpy_o (by omega), up_k (by omega), cpy_o (by omega), up_k (by omega), up_k (by omega), c3 _ (by omega) (by omega) (by omega) (by omega), show p + 14 + w = p + 13 + 1 + w by omega, b5 w c hw (by omega), show a1 + 13 + 1 + w = a1 + 14 + w by omega, a3 _ (by omega)]; exact h29 w c hw hc
  · rw [up_k (by omega), cpy_o (by omega), up_k (by omega), cpy_s (by omega), up_k (by omega), up_k (by omega), cs _ (by omega)]; exact h2a i hi
  · rw [up_k (by omega), cpy_s (by omega), up_k (by omega), cpy_o (by omega), up_k (by omega), up_k (by omega), cs _ (by omega)]; exact h2b i hi
  · obtain ⟨g1, g2, cd, g3, g4, g5, g6⟩ := h2c u hu
    have hu' : u = 0 ∨ u = 1 := by omega
    have fr : ∀ q, q ≠ p → q ≠ p + 25 → q ≠ p + 26 → (pm_up (pm_cpy (pm_up (pm_cpy (pm_up (pm_up C3 p 3 (C3 a1 3)) p 4 (pm_up C3 p 3 (C3 a1 3) a1 4)) (a1 + 25) 0 (p + 25) 0 50) p 6 (pm_cpy (pm_up (pm_up C3 p 3 (C3 a1 3)) p 4 (pm_up C3 p 3 (C3 a1 3) a1 4)) (a1 + 25) 0 (p + 25) 0 50 a1 6)) (a1 + 26) 0 (p + 26) 0 20) p 8 (pm_cpy (pm_up (pm_cpy (pm_up (pm_up C3 p 3 (C3 a1 3)) p 4 (pm_up C3 p 3 (C3 a1 3) a1 4)) (a1 + 25) 0 (p + 25) 0 50) p 6 (pm_cpy (pm_up (pm_up C3 p 3 (C3 a1 3)) p 4 (pm_up C3 p 3 (C3 a1 3) a1 4)) (a1 + 25) 0 (p + 25) 0 50 a1 6)) (a1 + 26) 0 (p + 26) 0 20 a1 8)) q = C3 q := fun q x1 x2 x3 => by rw [pm_up_o q x1, cpy_o x3, pm_up_o q x1, cpy_o x2, pm_up_o q x1, pm_up_o q x1]
    refine ⟨?_, ?_, cd, g3, g4, ?_, fun i hi => ?_⟩
    · rw [fr _ (by omega) (by omega) (by omega)]
      rcases hu' with rfl | rfl
      · rw [show p + 19 + 3 * 0 = p + 19 by omega, K19 0 (by omega)]; exact lk.1
      · rw [show p + 19 + 3 * 1 = p + 22 by omega, K22 0 (by omega)]; exact lk.2.2.1
    · rw [fr _ (by omega) (by omega) (by omega)]
      rcases hu' with rfl | rfl
      · rw [show p + 19 + 3 * 0 = p + 19 by omega, K19 1 (by omega)]; exact lk.2.1
      · rw [show p + 19 + 3 * 1 = p + 22 by omega, K22 1 (by omega)]; exact lk.2.2.2
    · rw [fr _ (by omega) (by omega) (by omega)]
      rcases hu' with rfl | rfl
      · rw [show p + 19 + 3 * 0 = p + 19 by omega, L19]; exact g5
      · rw [show p + 19 + 3 * 1 = p + 22 by omega, L22]; exact g5
    · rw [fr _ (by omega) (by omega) (by omega)]
      rcases hu' with rfl | rfl
      · rw [show p + 19 + 3 * 0 + 1 = p + 20 by omega, L20 i (by omega)]; exact g6 i hi
      · rw [show p + 19 + 3 * 1 + 1 = p + 23 by omega, L23 i (by omega)]; exact g6 i hi
