/-! ### copies of the roofs; the reference's aside -/
theorem cpy_s {M : pm_M} {k0 k1 n j : Nat} (h : j < n) : pm_cpy M k0 0 k1 0 n k1 j = M k0 j := by simp [pm_cpy, h]
theorem cpy_o {M : pm_M} {k0 k1 n q : Nat} (h : q ≠ k1) : pm_cpy M k0 0 k1 0 n q = M q := by funext j; simp [pm_cpy, h]
theorem tn_6 : (6 : Int32).toNatClampNeg = 6 := rfl
theorem cp3_loop {p a1 : Nat} (hp : a1 + 12 ≤ p ∨ p + 12 ≤ a1) : ∀ (d i : Nat) (C : pm_M), i + d = 6 → ∀ n : Nat, ∃ C' : pm_M, pm_it (fun _ _ => none) (lb_X3_copyFrom_70 p a1) (n + d + 1) (nI i) C = some C' ∧ (∀ q, (q < p + 6 + i ∨ p + 12 ≤ q) → C' q = C q) ∧ (∀ a b, i ≤ a → a < 6 → b < 6 → C' (p + 6 + a) b = C (a1 + 6 + a) b) := by
  intro d
  induction d with
  | zero =>
    intro i C hi n
    refine ⟨C, ?_, fun q _ => rfl, fun a b h1 h2 => by omega⟩
    show lb_X3_copyFrom_70 p a1 _ (nI i) C = _
    rw [lb_X3_copyFrom_70.eq_1, if_pos (show 6 ≤ nI i from yle (a := 6) (by decide) (by omega) (by omega))]
  | succ d ih =>
    intro i C hi n
    obtain ⟨C', e1, e2, e3⟩ := ih (i + 1) (pm_cpy C (a1 + 6 + i) 0 (p + 6 + i) 0 6) (by omega) n
    refine ⟨C', ?_, fun q hq => (e2 q (by omega)).trans (cpy_o (by omega)), fun a b h1 h2 h3 => ?_⟩
    · show lb_X3_copyFrom_70 p a1 (pm_it (fun _ _ => none) (lb_X3_copyFrom_70 p a1) (n + d + 1)) (nI i) C = _
      rw [lb_X3_copyFrom_70.eq_1, if_neg (show ¬ 6 ≤ nI i from nle (a := 6) (by decide) (by omega) (by omega)), chk_t (in_nI (n := i) (by omega) (by decide)), let_s, nI_clamp (n := i) (by omega), tn_0, tn_6, nI_p1]
      exact e1
    · by_cases c : a = i
      · subst c; rw [e2 _ (by omega), cpy_s h3]
      · rw [e3 a b (by omega) h2 h3, cpy_o (by omega)]
theorem x3_copyFrom {p a1 : Nat} (hp : a1 + 12 ≤ p ∨ p + 12 ≤ a1) (C : pm_M) : ∃ C' : pm_M, f_X3_copyFrom p C a1 = some C' ∧ (∀ q, (q < p ∨ p + 12 ≤ q) → C' q = C q) ∧ C' p 0 = C a1 0 ∧ (∀ w r, w < 4 → r < 6 → C' (p + 1 + w) r = C (a1 + 1 + w) r) ∧ (∀ a b, a < 6 → b < 6 → C' (p + 6 + a) b = C (a1 + 6 + a) b) := by
  unfold f_X3_copyFrom
  rw [let_s, let_s, let_s, let_s, let_s, tn_0, tn_6]
  obtain ⟨C', e1, e2, e3⟩ := cp3_loop hp 6 0 (pm_cpy (pm_cpy (pm_cpy (pm_cpy (pm_up C p 0 (C a1 0)) (a1 + 1) 0 (p + 1) 0 6) (a1 + 2) 0 (p + 2) 0 6) (a1 + 3) 0 (p + 3) 0 6) (a1 + 4) 0 (p + 4) 0 6) rfl 99993
  refine ⟨C', by rw [show lp_X3_copyFrom_70 p a1 0 _ = some C' from e1, b1_s], fun q hq => ?_, ?_, fun w r hw hr => ?_, fun a b ha hb => ?_⟩
  · rw [e2 q (by omega), cpy_o (by omega), cpy_o (by omega), cpy_o (by omega), cpy_o (by omega), pm_up_o q (by omega)]
  · rw [e2 p (by omega), cpy_o (by omega), cpy_o (by omega), cpy_o (by omega), cpy_o (by omega), up_s]
  · have hw' : w = 0 ∨ w = 1 ∨ w = 2 ∨ w = 3 := by omega
    rcases hw' with rfl | rfl | rfl | rfl
    · rw [e2 _ (by omega), cpy_o (by omega), cpy_o (by omega), cpy_o (by omega), show p + 1 + 0 = p + 1 by omega, cpy_s hr, pm_up_o _ (by omega)]
    · rw [e2 _ (by omega), cpy_o (by omega), cpy_o (by omega), show p + 1 + 1 = p + 2 by omega, cpy_s hr, cpy_o (by omega), pm_up_o _ (by omega)]
    · rw [e2 _ (by omega), cpy_o (by omega), show p + 1 + 2 = p + 3 by omega, cpy_s hr, cpy_o (by omega), cpy_o (by omega), pm_up_o _ (by omega)]
    · rw [e2 _ (by omega), show p + 1 + 3 = p + 4 by omega, cpy_s hr, cpy_o (by omega), cpy_o (by omega), cpy_o (by omega), pm_up_o _ (by omega)]
  · rw [e3 a b (Nat.zero_le _) ha hb, cpy_o (by omega), cpy_o (by omega), cpy_o (by omega), cpy_o (by omega), pm_up_o _ (by omega)]
theorem ka_loop : ∀ (d i : Nat) (D : pm_M), i + d = 86 → ∀ n : Nat, ∃ D' : pm_M, pm_it (fun _ _ => none) (lb_X8_keepAside_2) (n + d + 1) (nI i) D = some D' ∧ (∀ q, q ≠ 4 → D' q = D q) ∧ (∀ k, i ≤ k → k < 86 → D' 4 k = D 1 k) ∧ (∀ k, k < i → D' 4 k = D 4 k) := by
  intro d
  induction d with
  | zero =>
    intro i D hi n
    refine ⟨D, ?_, fun q _ => rfl, fun k a b => by omega, fun k _ => rfl⟩
    show lb_X8_keepAside_2 _ (nI i) D = _
    rw [lb_X8_keepAside_2.eq_1, if_pos (show 86 ≤ nI i from yle (a := 86) (by decide) (by omega) (by omega))]
  | succ d ih =>
    intro i D hi n
    obtain ⟨D', e1, e2, e3, e4⟩ := ih (i + 1) (pm_up D 4 i (D 1 i)) (by omega) n
    refine ⟨D', ?_, fun q hq => (e2 q hq).trans (pm_up_o q hq), fun k q b => ?_, fun k hk => ?_⟩
    · show lb_X8_keepAside_2 (pm_it (fun _ _ => none) (lb_X8_keepAside_2) (n + d + 1)) (nI i) D = _
      rw [lb_X8_keepAside_2.eq_1, if_neg (show ¬ 86 ≤ nI i from nle (a := 86) (by decide) (by omega) (by omega)), chk_t (in_nI (n := i) (N := 258) (by omega) (by decide)), chk_t (in_nI (n := i) (N := 86) (by omega) (by decide)), let_s, nI_clamp (n := i) (by omega), nI_p1]
      exact e1
    · by_cases c : k = i
      · subst c; rw [e4 k (by omega), up_s]
      · rw [e3 k (by omega) b, up_k (by decide)]
    · rw [e4 k (by omega), up_i (by omega)]
theorem pb_loop : ∀ (d i : Nat) (D : pm_M), i + d = 86 → ∀ n : Nat, ∃ D' : pm_M, pm_it (fun _ _ => none) (lb_X8_putBack_2) (n + d + 1) (nI i) D = some D' ∧ (∀ q, q ≠ 1 → D' q = D q) ∧ (∀ k, i ≤ k → k < 86 → D' 1 k = D 4 k) ∧ (∀ k, (k < i ∨ 86 ≤ k) → D' 1 k = D 1 k) := by
  intro d
  induction d with
  | zero =>
    intro i D hi n
    refine ⟨D, ?_, fun q _ => rfl, fun k a b => by omega, fun k _ => rfl⟩
    show lb_X8_putBack_2 _ (nI i) D = _
    rw [lb_X8_putBack_2.eq_1, if_pos (show 86 ≤ nI i from yle (a := 86) (by decide) (by omega) (by omega))]
  | succ d ih =>
    intro i D hi n
    obtain ⟨D', e1, e2, e3, e4⟩ := ih (i + 1) (pm_up D 1 i (D 4 i)) (by omega) n
    refine ⟨D', ?_, fun q hq => (e2 q hq).trans (pm_up_o q hq), fun k q b => ?_, fun k hk => ?_⟩
    · show lb_X8_putBack_2 (pm_it (fun _ _ => none) (lb_X8_putBack_2) (n + d + 1)) (nI i) D = _
      rw [lb_X8_putBack_2.eq_1, if_neg (show ¬ 86 ≤ nI i from nle (a := 86) (by decide) (by omega) (by omega)), chk_t (in_nI (n := i) (N := 86) (by omega) (by decide)), chk_t (in_nI (n := i) (N := 258) (by omega) (by decide)), let_s, nI_clamp (n := i) (by omega), nI_p1]
      exact e1
    · by_cases c : k = i
      · subst c; rw [e4 k (by omega), up_s]
      · rw [e3 k (by omega) b, up_k (by decide)]
    · rw [e4 k (by omega), up_i (by omega)]
theorem x8_keepAside (D : pm_M) : ∃ D' : pm_M, f_X8_keepAside D = some D' ∧ (∀ q, q ≠ 4 → D' q = D q) ∧ (∀ k, k < 86 → D' 4 k = D 1 k) := by
  obtain ⟨D', e1, e2, e3, -⟩ := ka_loop 86 0 D rfl 99913
  unfold f_X8_keepAside
  exact ⟨D', by rw [show lp_X8_keepAside_2 0 D = some D' from e1, b1_s], e2, fun k hk => e3 k (Nat.zero_le _) hk⟩
theorem x8_putBack (D : pm_M) : ∃ D' : pm_M, f_X8_putBack D = some D' ∧ (∀ q, q ≠ 1 → D' q = D q) ∧ (∀ k, k < 86 → D' 1 k = D 4 k) ∧ (∀ k, 86 ≤ k → D' 1 k = D 1 k) := by
  obtain ⟨D', e1, e2, e3, e4⟩ := pb_loop 86 0 D rfl 99913
  unfold f_X8_putBack
  exact ⟨D', by rw [show lp_X8_putBack_2 0 D = some D' from e1, b1_s], e2, fun k hk => e3 k (Nat.zero_le _) hk, fun k hk => e4 k (Or.inr hk)⟩
/-- what thinks (31 .. 60 of the class, 4 .. 6 of the reference) leaves the rest as it was -/
theorem RR.th {C D C' D' : pm_M} (h : RR C D) (eC : ∀ q, (q < 31 ∨ 61 ≤ q) → C' q = C q) (lk : LK C' 31) (eD : ∀ q, q ≠ 4 → q ≠ 5 → q ≠ 6 → D' q = D q) : RR C' D' := by
  obtain ⟨⟨σ, h1, h2, h3⟩, h4, h5, h6, h8, h9, h10⟩ := h
  exact ⟨⟨σ, h1, h2.congr (fun q u v _ _ => eC q (by omega)), by rw [eD 1 (by decide) (by decide) (by decide)]; exact h3⟩, lk, h5.congr (fun q hq => eC q (by omega)), h6.congr (eC 0 (by omega)) (fun q u v => eC q (by omega)) (by rw [eD 0 (by decide) (by decide) (by decide)]) (eD 2 (by decide) (by decide) (by decide)), h8.congr (fun q u v => eC q (by omega)) (eD 8 (by decide) (by decide) (by decide)) (eD 9 (by decide) (by decide) (by decide)) (eD 10 (by decide) (by decide) (by decide)), h9.congr (eC 94 (by omega)) (eC 95 (by omega)) (by rw [eD 0 (by decide) (by decide) (by decide)]) (eD 7 (by decide) (by decide) (by decide)), h10.congr (eC 105 (by omega)) (eD 3 (by decide) (by decide) (by decide))⟩
theorem e_clears {C D : pm_M} (h : RR C D)  : ∃ (r : Int32) (C' D' : pm_M), f_X7_clears C  = some (r, C') ∧ f_X8_clears D  = some (r, D') ∧ RR C' D' := by
  obtain ⟨⟨σ, h1, h2, h3⟩, h4⟩ := id h
  obtain ⟨C1, a1, a2, a3, a4, a5⟩ := x3_copyFrom (p := 31 + 1) (a1 := 1 + 1) (by omega) C
  obtain ⟨D1, b1, b2, b3⟩ := x8_keepAside D
  have w := VC.ow h1 h2 h3
  have w' : OW (31 + 1) (sR σ) C1 D1 (so σ) := by
    obtain ⟨w1, w2, w3, w4, w5, w6, w7⟩ := w
    exact ⟨w1, a3.trans w2, by rw [b2 1 (by decide)]; exact w3, fun a b ha hb => (a5 a b ha hb).trans (w4 a b ha hb), fun a b ha hb => by rw [b2 1 (by decide)]; exact w5 a b ha hb, w6, w7⟩
  obtain ⟨r, C2, D2, e1, e2, o, -, g1, g2, g3, g4⟩ := clear_eq w'
  obtain ⟨D3, f1, f2, f3, f4⟩ := x8_putBack D2
  unfold f_X7_clears f_X8_clears
  rw [a1, b1_s, e1, b2_s, b1, b1_s, e2, b2_s, f1, b1_s]
  refine ⟨_, _, _, rfl, rfl, h.th (fun q hq => (g1 q (by omega)).trans (a2 q (by omega))) (h.2.1.congr (fun q hq => (g1 q (by omega)).trans (a2 q (by omega)))) (fun q q4 q5 q6 => ?_)⟩
  by_cases e : q = 1
  · subst e
    funext k
    by_cases hk : k < 86
    · rw [f3 k hk, g2 4 (by decide), b3 k hk]
    · rw [f4 k (by omega), g3 k (by omega), b2 1 (by decide)]
  · rw [f2 q e, g2 q e, b2 q q4]
