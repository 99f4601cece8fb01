set_option maxHeartbeats 2000000 in
theorem fe_out {B w j : Nat} {σ : sg} {C : pm_M} {x2 r12 : Int32} (hB : B < 2 ^ 20) (hw : WF B σ) (h : VC C 1 σ) (ha : aimed 1 σ w (sC σ) C) (hr2 : 0 < sC σ → w < sR σ ∧ r12 = nI w) (hj : j < 4) {D0 : pm_M} (hg : ∀ r, r < 6 → C (97 + 2 * j + 1) r = D0 10 (40 * j + r)) : ∀ (d i : Nat) (x y : Int32) (D : pm_M), i + d = 2 ^ sC σ → VM (D 1) σ → FDm D0 D → D 1 = D0 1 → ∀ n m : Nat, ∃ (x' y' : Int32) (D' : pm_M), pm_it (fun _ _ _ _ => none) (lb_X7_fell_75 x2 (nI j)) (n + d + 1) x y (nI i) C = some (x', y', C) ∧ pm_it (fun _ _ _ _ => none) (lb_X8_fell_67 (nI j) x2 r12) (m + d + 1) x y (nI i) D = some (x', y', D') ∧ FDm D0 D' ∧ D' 1 = D0 1 := by
  have h5 : sC σ ≤ 5 := hw.2.1
  have h6 : sR σ ≤ 6 := hw.1
  have p5 : 2 ^ sC σ ≤ 2 ^ 5 := Nat.pow_le_pow_right (by decide) h5
  have sh : pm_shl 1 (nI (sC σ)) = nI (2 ^ sC σ) := shl_bit _ (by omega)
  intro d
  induction d with
  | zero =>
    intro i x y D hi hD hF h1 n m
    refine ⟨x, y, D, ?_, ?_, hF, h1⟩
    · show lb_X7_fell_75 x2 (nI j) _ x y (nI i) C = _
      rw [lb_X7_fell_75.eq_1, h.2.1, sh, if_pos (yle (by omega) (by omega) (by omega))]
    · show lb_X8_fell_67 (nI j) x2 r12 _ x y (nI i) D = _
      rw [lb_X8_fell_67.eq_1, tn_1, hD.2.1, sh, if_pos (yle (by omega) (by omega) (by omega))]
  | succ d ih =>
    intro i x y D hi hD hF h1 n m
    obtain ⟨w1, w0⟩ := x5_wouldGive (a2 := 97 + 2 * j + 1) (s := i) hB hw h ha (fun q => (hr2 q).1) (by omega)
    obtain ⟨D1, z1, z2, z3⟩ := zr_all (pl := 6) (lb := lb_X8_fell_83 (nI j) x2 r12 x y (nI i)) (fun _ _ _ => rfl) D
    have hD1 : VM (D1 1) σ := by rw [z2 1 (by decide)]; exact hD
    obtain ⟨z, D2, e1, e2, e3, e4, e5, e6⟩ := fe_110 (x1 := nI j) (x2 := x2) (l4 := x) (l5 := y) hB hw h hr2 (s := i) (by omega) (sC σ) 0 1 D1 (by omega) hD1 z3 (fun _ => rfl) (fun q => absurd (fun c hc => absurd hc (Nat.not_lt_zero c)) q) (99999 - sC σ)
    rw [pm_F_s _ (by omega)] at e1
    have F1 : FDm D0 D1 := hF.trans ⟨fun k _ _ _ e => z2 k e, fun j _ => by rw [z2 0 (by decide)], fun k _ => by rw [z2 1 (by decide)]⟩
    have F2 : FDm D0 D2 := F1.trans e5
    have h21 : D2 1 = D0 1 := e6.trans ((z2 1 (by decide)).trans h1)
    have hz : z = 1 ∨ z = 0 := by
      by_cases q : ∀ c, c < sC σ → i / 2 ^ c % 2 = 1 → ¬ spent σ c
      · exact Or.inl (e3 q)
      · exact Or.inr (e4 q)
    obtain ⟨z', g1, g2, g3⟩ := fe_189 (x2 := x2) (r12 := r12) (l4 := x) (l5 := y) (l6 := nI i) (j := j) (nR := sR σ) hj h6 (D := D2) (by rw [e6]; exact hD1.1) (C (97 + 2 * j + 1)) (fun r hr => by rw [F2.1 10 (by decide) (by decide) (by decide) (by decide)]; exact (hg r hr).symm) e2 (sR σ) 0 z (by omega) hz (99999 - sR σ)
    rw [pm_F_s _ (by omega)] at g1
    have D2V : VM (D2 1) σ := by rw [e6]; exact hD1
    have red : ∀ ih, lb_X8_fell_67 (nI j) x2 r12 ih x y (nI i) D = (if z' = 0 then ih x y (nI (i + 1)) D2 else (if 0 ≤ y then ih (x + 1) y (nI (i + 1)) D2 else ih (x + 1) (nI i) (nI (i + 1)) D2)) := fun ih => by
      rw [lb_X8_fell_67.eq_1, tn_1, hD.2.1, sh, if_neg (nle (a := 2 ^ sC σ) (b := i) (by omega) (by omega) (by omega)), show lp_X8_fell_83 (nI j) x2 r12 x y (nI i) 0 D = some D1 from z1, b1_s, show lp_X8_fell_110 (nI j) x2 r12 x y (nI i) 1 0 D1 = some (z, D2) from e1, b2_s, show lp_X8_fell_189 (nI j) x2 r12 x y (nI i) D2 z 0 = some z' from g1, b1_s, let_s, let_s, nI_p1, show x + 0 = x from Int32.add_zero x]
      by_cases k : z' = 0
      · rw [if_pos k, if_pos k, if_pos k]
      · rw [if_neg k, if_neg k, if_neg k]
    have cl : (97 + 2 * (nI j).toNatClampNeg) + 1 = 97 + 2 * j + 1 := by rw [nI_clamp (by omega)]
    have redC : ∀ (v : Int32) ih, f_X5_wouldGive 1 C (nI i) (97 + 2 * j + 1) = some (v, C) → lb_X7_fell_75 x2 (nI j) ih x y (nI i) C = (if v = 0 then ih x y (nI (i + 1)) C else (if 0 ≤ y then ih (x + 1) y (nI (i + 1)) C else ih (x + 1) (nI i) (nI (i + 1)) C)) := fun v ih e => by
      rw [lb_X7_fell_75.eq_1, h.2.1, sh, if_neg (nle (a := 2 ^ sC σ) (b := i) (by omega) (by omega) (by omega)), cl, e, b2_s, nI_p1]
    have fin : ∀ x' y', (∀ ih, lb_X7_fell_75 x2 (nI j) ih x y (nI i) C = ih x' y' (nI (i + 1)) C) → (∀ ih, lb_X8_fell_67 (nI j) x2 r12 ih x y (nI i) D = ih x' y' (nI (i + 1)) D2) → ∃ (x' y' : Int32) (D' : pm_M), pm_it (fun _ _ _ _ => none) (lb_X7_fell_75 x2 (nI j)) (n + (d + 1) + 1) x y (nI i) C = some (x', y', C) ∧ pm_it (fun _ _ _ _ => none) (lb_X8_fell_67 (nI j) x2 r12) (m + (d + 1) + 1) x y (nI i) D = some (x', y', D') ∧ FDm D0 D' ∧ D' 1 = D0 1 := by
      intro x' y' f1 f2
      obtain ⟨x'', y'', D', k1, k2, k3, k4⟩ := ih (i + 1) x' y' D2 (by omega) D2V F2 h21 n m
      exact ⟨x'', y'', D', Eq.trans (f1 _) k1, Eq.trans (f2 _) k2, k3, k4⟩
    have iffg : good σ w i (C (97 + 2 * j + 1)) ↔ (z = 1 ∧ ∀ r, 0 ≤ r → r < sR σ → nI (Sm σ w i r (sC σ)) = C (97 + 2 * j + 1) r) := by
      constructor
      · exact fun q => ⟨e3 q.1, fun r _ hr => q.2 r hr⟩
      · intro q
        refine ⟨?_, fun r hr => q.2 r (Nat.zero_le _) hr⟩
        by_cases k : ∀ c, c < sC σ → i / 2 ^ c % 2 = 1 → ¬ spent σ c
        · exact k
        · have := e4 k
          rw [q.1] at this; exact absurd this (by decide)
    by_cases gd : good σ w i (C (97 + 2 * j + 1))
    · have zz := g2 (iffg.mp gd)
      have n0 : ¬ z' = 0 := by rw [zz]; decide
      by_cases y0 : 0 ≤ y
      · exact fin (x + 1) y (fun ih => by rw [redC 1 ih (w1 gd), if_neg (by decide), if_pos y0]) (fun ih => by rw [red, if_neg n0, if_pos y0])
      · exact fin (x + 1) (nI i) (fun ih => by rw [redC 1 ih (w1 gd), if_neg (by decide), if_neg y0]) (fun ih => by rw [red, if_neg n0, if_neg y0])
    · have zz := g3 (fun q => gd (iffg.mpr q))
      exact fin x y (fun ih => by rw [redC 0 ih (w0 gd), if_pos rfl]) (fun ih => by rw [red, if_pos zz])
theorem e_fell {C D : pm_M} (h : RR C D) (x1 : Int32) (x2 : Int32) : ∃ (r : Int32) (C' D' : pm_M), f_X7_fell C x1 x2 = some (r, C') ∧ f_X8_fell D x1 x2 = some (r, D') ∧ RR C' D' := by
  obtain ⟨⟨σ, h1, h2, h3⟩, h4⟩ := id h
  have h5 : sC σ ≤ 5 := h1.2.1
  have h6 : sR σ ≤ 6 := h1.1
  have p5 : 2 ^ sC σ ≤ 2 ^ 5 := Nat.pow_le_pow_right (by decide) h5
  unfold f_X7_fell f_X8_fell
  rw [x7_isSheet, x8_isSheet, b2_s, b2_s, if_bi, if_bi]
  by_cases hc : 0 ≤ x1.toInt ∧ x1.toInt ≤ 3
  · obtain ⟨j, -, hj, rfl⟩ := vx (lo := 0) (hi := 3) (by decide) hc
    rw [if_pos hc, if_pos hc, x7_within, x8_in, b2_s, b2_s, if_bi, if_bi, i64, li0, li1, ll0, ll1]
    by_cases hv : 0 ≤ x2.toInt ∧ x2.toInt ≤ 1
    · obtain ⟨b, n, g1, g2, g3, g4, g5, g6, g7, g8⟩ := h.2.2.2.2.1 j (by omega)
      rw [if_pos hv, if_pos hv, chk_t (in_nI (n := j) (by omega) (by decide)), chk_t (in_nI (n := j) (by omega) (by decide)), nI_clamp (n := j) (by omega), x4_isMissing g4 (by omega), b2_s, if_bi, g5]
      by_cases hb : b = 0
      · rw [if_pos hb, if_pos (show nI b = 0 by rw [hb]; rfl), x7_e2, x8_e2, b2_s, b2_s]
        exact ⟨_, _, _, rfl, rfl, h.err 2⟩
      · rw [if_neg hb, if_neg (show ¬ nI b = 0 from nne (b := 0) (by omega) (by decide) hb), chk_t (in_nI (n := j) (by omega) (by decide)), g6, g7, tn_0, show C (1 + 1) 0 = nI (sR σ) from h2.1, h3.1]
        by_cases e : n = sR σ
        · rw [if_pos (show nI n = nI (sR σ) by rw [e]), if_pos (show nI n = nI (sR σ) by rw [e])]
          obtain ⟨r2, m1, m2, m3⟩ := most_eqp h1 h2 h3
          obtain ⟨w, hw⟩ : ∃ w, 0 < sR σ → w < sR σ ∧ r2 = nI w := by
            by_cases c : 0 < sR σ
            · obtain ⟨a, ha, hb⟩ := m3 c; exact ⟨a, fun _ => ⟨ha, hb⟩⟩
            · exact ⟨0, fun q => absurd q c⟩
          obtain ⟨C1, a1, a2, a3, a4⟩ := x5_aim (p := 1) (B := 9999) (by decide) h1 h2 m1 hw
          obtain ⟨x', y', D', k1, k2, k3, k4⟩ := fe_out (x2 := x2) (r12 := r2) (B := 9999) (by decide) h1 a2 a3 (fun q => hw (h1.2.2.1 q)) (show j < 4 by omega) (D0 := D) (fun r hr => by
            rw [a4 _ (by omega) (by omega) (by omega) (by omega), show 97 + 2 * j + 1 = 98 + 2 * j by omega]; exact g8 r (by omega)) (2 ^ sC σ) 0 0 (-1) D (by omega) h3 (FDm.refl D) rfl (99999 - 2 ^ sC σ) (99999 - 2 ^ sC σ)
          rw [pm_F_s _ (by omega)] at k1 k2
          have hR : RR C1 D' := h.gen h1 a2 (by rw [k4]; exact h3) (h4.1.congr (fun q hq => a4 q (by omega) (by omega) (by omega) (by omega))) (fun q a b => a4 q (by omega) (by omega) (by omega) (by omega)) (k3.2.1 2 (by omega)) (k3.2.1 14 (by omega)) (fun q a b _ d e => k3.1 q a b d e)
          rw [a1, b1_s, show lp_X7_fell_75 x2 (nI j) 0 (-1) 0 C1 = some (x', y', C1) from k1, b3_s, m2, b2_s, show lp_X8_fell_67 (nI j) x2 r2 0 (-1) 0 D = some (x', y', D') from k2, b3_s]
          by_cases z : x2 = 0
          · rw [if_pos z, if_pos z]; exact ⟨_, _, _, rfl, rfl, hR⟩
          · rw [if_neg z, if_neg z]
            by_cases y0 : 0 ≤ y'
            · rw [if_pos y0, if_pos y0]; exact ⟨_, _, _, rfl, rfl, hR⟩
            · rw [if_neg y0, if_neg y0, x7_e2, x8_e2, b2_s, b2_s]
              exact ⟨_, _, _, rfl, rfl, hR.err 2⟩
        · rw [if_neg (show ¬ nI n = nI (sR σ) from nne (by omega) (by omega) e), if_neg (show ¬ nI n = nI (sR σ) from nne (by omega) (by omega) e), x7_e2, x8_e2, b2_s, b2_s]
          exact ⟨_, _, _, rfl, rfl, h.err 2⟩
    · rw [if_neg hv, if_neg hv, x7_e1, x8_e1, b2_s, b2_s]
      exact ⟨_, _, _, rfl, rfl, h.err 1⟩
  · rw [if_neg hc, if_neg hc, x7_e1, x8_e1, b2_s, b2_s]
    exact ⟨_, _, _, rfl, rfl, h.err 1⟩
