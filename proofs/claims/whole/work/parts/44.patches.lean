theorem CL.wear {p nC : Nat} {C D : pm_M} {s : Nat → Nat → Nat} (h : CL p nC C D s) {c v : Nat} (hc : c < nC) (hv : v ≤ 99) : CL p nC (pm_up C (p + 4) c (nI v)) (pm_up D 1 (66 + 4 * c + 3) (nI v)) (f2 s 3 c v) := by
  obtain ⟨w1, w2, w3, w4, w5, w6⟩ := h
  refine ⟨w1, by rw [up_k (by omega)]; exact w2, by rw [up_i (by omega)]; exact w3, fun w c' hw hc' => ?_, fun w c' hw hc' => ?_, fun c' hc' => ?_⟩
  · by_cases e : w = 3 ∧ c' = c
    · obtain ⟨rfl, rfl⟩ := e; rw [f2_s, show p + 1 + 3 = p + 4 by omega, up_s]
    · rw [f2_n e]
      by_cases e2 : w = 3
      · subst e2; rw [show p + 1 + 3 = p + 4 by omega, up_i (by omega), show p + 4 = p + 1 + 3 by omega]; exact w4 3 c' hw hc'
      · rw [up_k (by omega)]; exact w4 w c' hw hc'
  · by_cases e : w = 3 ∧ c' = c
    · obtain ⟨rfl, rfl⟩ := e; rw [f2_s, up_s]
    · rw [f2_n e, up_i (by omega)]; exact w5 w c' hw hc'
  · obtain ⟨k0, k1, k3⟩ := w6 c' hc'
    refine ⟨by rw [f2_n (by omega)]; exact k0, by rw [f2_n (by omega)]; exact k1, ?_⟩
    by_cases e : c' = c
    · subst e; rw [f2_s]; exact hv
    · rw [f2_n (by omega)]; exact k3
set_option maxHeartbeats 2000000 in
theorem pa_loop {nC L : Nat} (h0 : 0 < nC) (hL : L ≤ 20) : ∀ (d i : Nat) (C D : pm_M) (s : Nat → Nat → Nat), CL (31 + 13) nC C D s → i + d = L → ∀ n m : Nat, ∃ (C' D' : pm_M) (s' : Nat → Nat → Nat), pm_it (fun _ _ => none) (lb_X7_patches_56 (nI L)) (n + d + 1) (nI i) C = some C' ∧ pm_it (fun _ _ => none) (lb_X8_patches_39 (nI L)) (m + d + 1) (nI i) D = some D' ∧ CL (31 + 13) nC C' D' s' ∧ (∀ q, q ≠ 48 → C' q = C q) ∧ (∀ q, q ≠ 1 → D' q = D q) ∧ (∀ k, 86 ≤ k → D' 1 k = D 1 k) := by
  intro d
  induction d with
  | zero =>
    intro i C D s h hi n m
    refine ⟨C, D, s, ?_, ?_, h, fun _ _ => rfl, fun _ _ => rfl, fun _ _ => rfl⟩
    · show lb_X7_patches_56 (nI L) _ (nI i) C = _
      rw [lb_X7_patches_56.eq_1, if_pos (yle (by omega) (by omega) (by omega))]
    · show lb_X8_patches_39 (nI L) _ (nI i) D = _
      rw [lb_X8_patches_39.eq_1, if_pos (yle (by omega) (by omega) (by omega))]
  | succ d ih =>
    intro i C D s h hi n m
    have hR : nC ≤ 5 := h.1
    obtain ⟨r, hr, f1, f2'⟩ := weak_eq h h0
    have k3 := (h.2.2.2.2.2 r hr).2.2
    have t := h.wear hr (v := s 3 r - 5) (by omega)
    obtain ⟨C', D', s', e1, e2, e3, g1, g2, g3⟩ := ih (i + 1) _ _ _ t (by omega) n m
    refine ⟨C', D', s', ?_, ?_, e3, fun q hq => (g1 q hq).trans (pm_up_o q hq), fun q hq => (g2 q hq).trans (pm_up_o q hq), fun k hk => by rw [g3 k hk, up_i (by omega)]⟩
    · show lb_X7_patches_56 (nI L) (pm_it (fun _ _ => none) (lb_X7_patches_56 (nI L)) (n + d + 1)) (nI i) C = _
      rw [lb_X7_patches_56.eq_1, if_neg (nle (a := L) (b := i) (by omega) (by omega) (by omega)), f1, b2_s, chk_t (in_nI (n := r) (by omega) (by decide)), chk_t (in_nI (n := r) (by omega) (by decide)), let_s, nI_clamp (n := r) (by omega), show C (31 + 13 + 4) r = nI (s 3 r) from h.2.2.2.1 3 r (by decide) hr, show pm_max 0 (nI (s 3 r) - 5) = nI (s 3 r - 5) from max_sub (b := 5) (by omega) (by decide), nI_p1]
      exact e1
    · show lb_X8_patches_39 (nI L) (pm_it (fun _ _ => none) (lb_X8_patches_39 (nI L)) (m + d + 1)) (nI i) D = _
      rw [lb_X8_patches_39.eq_1, if_neg (nle (a := L) (b := i) (by omega) (by omega) (by omega)), f2', b2_s, x8_of (w := 3) (z := 3) rfl (by omega) (by decide), b2_s, h.2.2.2.2.1 3 r (by decide) hr, show f_X8_held D (nI (s 3 r) - 5) 0 99 = some (nI (s 3 r - 5), D) from held_sub (b := 5) (by omega) (by decide), b2_s, ix66 r 3 3 rfl, chk_t (in_nI (n := 66 + 4 * r + 3) (by omega) (by decide)), let_s, nI_clamp (n := 66 + 4 * r + 3) (by omega), nI_p1]
      exact e2
set_option maxHeartbeats 2000000 in
theorem e_patches {C D : pm_M} (h : RR C D) (x1 : Int32) : ∃ (r : Int32) (C' D' : pm_M), f_X7_patches C x1 = some (r, C') ∧ f_X8_patches D x1 = some (r, D') ∧ RR C' D' := by
  obtain ⟨⟨σ, h1, h2, h3⟩, h4⟩ := id h
  have hC : sC σ ≤ 5 := h1.2.1
  have eC : C (1 + 13) 0 = nI (sC σ) := h2.2.1
  have eD : D 1 1 = nI (sC σ) := h3.2.1
  unfold f_X7_patches f_X8_patches
  rw [x7_within, x8_in, b2_s, b2_s, if_bi, if_bi, i64, li0, li20, ll0, ll20, tn_1, eC, eD]
  by_cases hv : 0 ≤ x1.toInt ∧ x1.toInt ≤ 20
  · obtain ⟨L, -, hL, rfl⟩ := vx (lo := 0) (hi := 20) (by decide) hv
    rw [if_pos hv, if_pos hv]
    by_cases c0 : sC σ = 0
    · rw [if_pos (show nI (sC σ) = 0 by rw [c0]; rfl), if_pos (show nI (sC σ) = 0 by rw [c0]; rfl), x7_e2, x8_e2, b2_s, b2_s]
      exact ⟨_, _, _, rfl, rfl, h.err 2⟩
    · rw [if_neg (show ¬ nI (sC σ) = 0 from nne (b := 0) (by omega) (by decide) c0), if_neg (show ¬ nI (sC σ) = 0 from nne (b := 0) (by omega) (by decide) c0)]
      obtain ⟨C1, a1, a2, a3, a4⟩ := x0_copyFrom (p := 31 + 13) (a1 := 1 + 13) (by omega) C
      obtain ⟨D1, b1, b2, b3⟩ := x8_keepAside D
      have w : CL (31 + 13) (sC σ) C1 D1 (sc σ) := by
        refine ⟨hC, a3.trans eC, by rw [b2 1 (by decide)]; exact eD, fun w c hw hc => ?_, fun w c hw hc => ?_, fun c hc => ⟨h1.2.2.2.2.2.2.2.2.1 0 c hc (by decide), h1.2.2.2.2.2.2.2.2.1 1 c hc (by decide), h1.2.2.2.2.2.2.2.2.1 3 c hc (by decide)⟩⟩
        · rw [a4 w c hw (by omega), show 1 + 13 + 1 + w = 1 + 14 + w by omega]; exact h2.2.2.2.2.2.2.2.2.1 w c hw hc
        · rw [b2 1 (by decide)]; exact h3.2.2.2.2.2.2.2.2.1 c w hc hw
      obtain ⟨C2, D2, s', e1, e2, e3, g1, g2, g3⟩ := pa_loop (nC := sC σ) (L := L) (by omega) hL L 0 C1 D1 _ w (by omega) (99999 - L) (99999 - L)
      rw [pm_F_s _ (by omega)] at e1 e2
      obtain ⟨r, hr, q1, q2⟩ := weak_eq e3 (by omega)
      obtain ⟨D3, f1, f2', f3, f4⟩ := x8_putBack D2
      rw [a1, b1_s, show lp_X7_patches_56 (nI L) 0 C1 = some C2 from e1, b1_s, q1, b2_s, x0_daysLeft e3 hr, b2_s, b1, b1_s, show lp_X8_patches_39 (nI L) 0 D1 = some D2 from e2, b1_s, q2, b2_s, x8_daysLeft e3 hr, b2_s, f1, b1_s]
      refine ⟨_, _, _, rfl, rfl, h.th (fun q hq => (g1 q (by omega)).trans (a2 q (by omega))) (h.2.1.congr (fun q hq => (g1 q (by omega)).trans (a2 q (by omega)))) (fun q q4 q5 q6 => ?_)⟩
      by_cases e : q = 1
      · subst e
        funext k
        by_cases hk : k < 86
        · rw [f3 k hk, g2 4 (by decide), b3 k hk]
        · rw [f4 k (by omega), g3 k (by omega), b2 1 (by decide)]
      · rw [f2' q e, g2 q e, b2 q q4]
  · rw [if_neg hv, if_neg hv, x7_e1, x8_e1, b2_s, b2_s]
    exact ⟨_, _, _, rfl, rfl, h.err 1⟩
