theorem pm_F_s (z : Nat) (h : z ≤ 99999) : 99999 - z + z + 1 = pm_F := by unfold pm_F; omega
set_option maxHeartbeats 2000000 in
theorem tr_in {C D : pm_M} {σ : sg} (h1 : WF 9999 σ) (h2 : VC C 1 σ) (h3 : VM (D 1) σ) {a : Nat} (ha : a < sR σ) : ∀ (d i : Nat) (acc : Int32), i + d = sR σ → ∀ n m : Nat, ∃ r : Int32, pm_it (fun _ _ => none) (lb_X3_tradingPairs_14 (1 + 1) (nI a) C) (n + d + 1) acc (nI i) = some r ∧ pm_it (fun _ _ _ => none) (lb_X8_trades_16 (nI a)) (m + d + 1) acc (nI i) D = some (r, D) := by
  have hR : sR σ ≤ 6 := h1.1
  have eC : C (1 + 1) 0 = nI (sR σ) := h2.1
  have eD : D 1 0 = nI (sR σ) := h3.1
  intro d
  induction d with
  | zero =>
    intro i acc hi n m
    refine ⟨acc, ?_, ?_⟩
    · show lb_X3_tradingPairs_14 (1 + 1) (nI a) C _ acc (nI i) = _
      rw [lb_X3_tradingPairs_14.eq_1, eC, if_pos (yle (by omega) (by omega) (by omega))]
    · show lb_X8_trades_16 (nI a) _ acc (nI i) D = _
      rw [lb_X8_trades_16.eq_1, tn_0, eD, if_pos (yle (by omega) (by omega) (by omega))]
  | succ d ih =>
    intro i acc hi n m
    obtain ⟨r, e1, e2⟩ := ih (i + 1) (if D 1 (6 + 4 * a + 3) ≤ D 1 (6 + 4 * i + 3) then acc else if D 1 (6 + 4 * i + 0) ≤ D 1 (6 + 4 * a + 0) then acc else acc + 1) (by omega) n m
    refine ⟨r, ?_, ?_⟩
    · show lb_X3_tradingPairs_14 (1 + 1) (nI a) C (pm_it (fun _ _ => none) (lb_X3_tradingPairs_14 (1 + 1) (nI a) C) (n + d + 1)) acc (nI i) = _
      rw [lb_X3_tradingPairs_14.eq_1, eC, if_neg (nle (a := sR σ) (b := i) (by omega) (by omega) (by omega)), chk_t (in_nI (n := a) (by omega) (by decide)), chk_t (in_nI (n := i) (by omega) (by decide)), chk_t (in_nI (n := a) (by omega) (by decide)), chk_t (in_nI (n := i) (by omega) (by decide)), nI_clamp (n := i) (by omega), nI_clamp (n := a) (by omega), show C (1 + 1 + 4) a = D 1 (6 + 4 * a + 3) from rf_eq h2 h3 (w := 3) (by decide) (by omega) (by omega), show C (1 + 1 + 4) i = D 1 (6 + 4 * i + 3) from rf_eq h2 h3 (w := 3) (by decide) (by omega) (by omega), show C (1 + 1 + 1) i = D 1 (6 + 4 * i + 0) from rf_eq h2 h3 (w := 0) (by decide) (by omega) (by omega), show C (1 + 1 + 1) a = D 1 (6 + 4 * a + 0) from rf_eq h2 h3 (w := 0) (by decide) (by omega) (by omega), nI_p1, ← e1]
      split
      · rfl
      · split <;> rfl
    · show lb_X8_trades_16 (nI a) (pm_it (fun _ _ _ => none) (lb_X8_trades_16 (nI a)) (m + d + 1)) acc (nI i) D = _
      rw [lb_X8_trades_16.eq_1, tn_0, eD, if_neg (nle (a := sR σ) (b := i) (by omega) (by omega) (by omega)), x8_its (r := a) (w := 3) (z := 3) rfl (by omega) (by decide), b2_s, x8_its (r := i) (w := 3) (z := 3) rfl (by omega) (by decide), b2_s, x8_its (r := a) (w := 0) (z := 0) rfl (by omega) (by decide), b2_s, x8_its (r := i) (w := 0) (z := 0) rfl (by omega) (by decide), b2_s, nI_p1, let_s, let_s, Int32.add_zero, ← e2]
      split
      · rfl
      · split <;> rfl
set_option maxHeartbeats 2000000 in
theorem tr_out {C D : pm_M} {σ : sg} (h1 : WF 9999 σ) (h2 : VC C 1 σ) (h3 : VM (D 1) σ) : ∀ (d i : Nat) (acc : Int32), i + d = sR σ → ∀ n m : Nat, ∃ r : Int32, pm_it (fun _ _ => none) (lb_X3_tradingPairs_4 (1 + 1) C) (n + d + 1) acc (nI i) = some r ∧ pm_it (fun _ _ _ => none) (lb_X8_trades_4) (m + d + 1) acc (nI i) D = some (r, D) := by
  have hR : sR σ ≤ 6 := h1.1
  have eC : C (1 + 1) 0 = nI (sR σ) := h2.1
  have eD : D 1 0 = nI (sR σ) := h3.1
  intro d
  induction d with
  | zero =>
    intro i acc hi n m
    refine ⟨acc, ?_, ?_⟩
    · show lb_X3_tradingPairs_4 (1 + 1) C _ acc (nI i) = _
      rw [lb_X3_tradingPairs_4.eq_1, eC, if_pos (yle (by omega) (by omega) (by omega))]
    · show lb_X8_trades_4 _ acc (nI i) D = _
      rw [lb_X8_trades_4.eq_1, tn_0, eD, if_pos (yle (by omega) (by omega) (by omega))]
  | succ d ih =>
    intro i acc hi n m
    obtain ⟨s, f1, f2⟩ := tr_in h1 h2 h3 (a := i) (by omega) (sR σ) 0 acc (by omega) (99999 - sR σ) (99999 - sR σ)
    rw [pm_F_s _ (by omega)] at f1 f2
    obtain ⟨r, e1, e2⟩ := ih (i + 1) s (by omega) n m
    refine ⟨r, ?_, ?_⟩
    · show lb_X3_tradingPairs_4 (1 + 1) C (pm_it (fun _ _ => none) (lb_X3_tradingPairs_4 (1 + 1) C) (n + d + 1)) acc (nI i) = _
      rw [lb_X3_tradingPairs_4.eq_1, eC, if_neg (nle (a := sR σ) (b := i) (by omega) (by omega) (by omega)), show lp_X3_tradingPairs_14 (1 + 1) (nI i) C acc 0 = some s from f1, b1_s, nI_p1]
      exact e1
    · show lb_X8_trades_4 (pm_it (fun _ _ _ => none) (lb_X8_trades_4) (m + d + 1)) acc (nI i) D = _
      rw [lb_X8_trades_4.eq_1, tn_0, eD, if_neg (nle (a := sR σ) (b := i) (by omega) (by omega) (by omega)), show lp_X8_trades_16 (nI i) acc 0 D = some (s, D) from f2, b2_s, nI_p1]
      exact e2
theorem e_trades {C D : pm_M} (h : RR C D)  : ∃ (r : Int32) (C' D' : pm_M), f_X7_trades C  = some (r, C') ∧ f_X8_trades D  = some (r, D') ∧ RR C' D' := by
  obtain ⟨⟨σ, h1, h2, h3⟩, h4⟩ := id h
  have hR : sR σ ≤ 6 := h1.1
  obtain ⟨s, f1, f2⟩ := tr_out h1 h2 h3 (sR σ) 0 0 (by omega) (99999 - sR σ) (99999 - sR σ)
  rw [pm_F_s _ (by omega)] at f1 f2
  unfold f_X7_trades f_X8_trades f_X3_tradingPairs
  rw [show lp_X3_tradingPairs_4 (1 + 1) C 0 0 = some s from f1, show lp_X8_trades_4 0 0 D = some (s, D) from f2, b1_s, b2_s, b2_s]
  exact ⟨_, _, _, rfl, rfl, h⟩
set_option maxHeartbeats 2000000 in
theorem ov_loop {C D : pm_M} {σ : sg} (h1 : WF 9999 σ) (h2 : VC C 1 σ) (h3 : VM (D 1) σ) (x1 x2 : Int32) : ∀ (d i : Nat) (acc : Int32), i + d = sC σ → ∀ n m : Nat, ∃ r : Int32, pm_it (fun _ _ => none) (lb_X0_setOver_4 (1 + 13) x1 C) (n + d + 1) acc (nI i) = some r ∧ pm_it (fun _ _ _ => none) (lb_X8_ofRoof_34 x1 x2) (m + d + 1) acc (nI i) D = some (r, D) := by
  have hR : sC σ ≤ 5 := h1.2.1
  have eC : C (1 + 13) 0 = nI (sC σ) := h2.2.1
  have eD : D 1 1 = nI (sC σ) := h3.2.1
  intro d
  induction d with
  | zero =>
    intro i acc hi n m
    refine ⟨acc, ?_, ?_⟩
    · show lb_X0_setOver_4 (1 + 13) x1 C _ acc (nI i) = _
      rw [lb_X0_setOver_4.eq_1, eC, if_pos (yle (by omega) (by omega) (by omega))]
    · show lb_X8_ofRoof_34 x1 x2 _ acc (nI i) D = _
      rw [lb_X8_ofRoof_34.eq_1, tn_1, eD, if_pos (yle (by omega) (by omega) (by omega))]
  | succ d ih =>
    intro i acc hi n m
    obtain ⟨r, e1, e2⟩ := ih (i + 1) (if D 1 (66 + 4 * i + 2) = x1 then acc ||| pm_shl 1 (nI i) else acc) (by omega) n m
    refine ⟨r, ?_, ?_⟩
    · show lb_X0_setOver_4 (1 + 13) x1 C (pm_it (fun _ _ => none) (lb_X0_setOver_4 (1 + 13) x1 C) (n + d + 1)) acc (nI i) = _
      rw [lb_X0_setOver_4.eq_1, eC, if_neg (nle (a := sC σ) (b := i) (by omega) (by omega) (by omega)), chk_t (in_nI (n := i) (by omega) (by decide)), nI_clamp (n := i) (by omega), show C (1 + 13 + 3) i = D 1 (66 + 4 * i + 2) from cf_eq h2 h3 (w := 2) (by decide) (by omega), nI_p1, let_s, ← e1]
      split <;> rfl
    · show lb_X8_ofRoof_34 x1 x2 (pm_it (fun _ _ _ => none) (lb_X8_ofRoof_34 x1 x2) (m + d + 1)) acc (nI i) D = _
      rw [lb_X8_ofRoof_34.eq_1, tn_1, eD, if_neg (nle (a := sC σ) (b := i) (by omega) (by omega) (by omega)), x8_of (w := 2) (z := 2) rfl (by omega) (by decide), b2_s, nI_p1, let_s, let_s, Int32.or_zero, ← e2]
      split <;> rfl
set_option maxHeartbeats 2000000 in
theorem ow_loop {C D : pm_M} {σ : sg} (h1 : WF 9999 σ) (h2 : VC C 1 σ) (h3 : VM (D 1) σ) {a : Nat} (ha : a < 6) (x2 l9 : Int32) : ∀ (d i : Nat) (acc : Int32), i + d = sR σ → ∀ n m : Nat, ∃ r : Int32, pm_it (fun _ _ => none) (lb_X3_sum_4 (1 + 1) (1 + 1 + 6 + a) C) (n + d + 1) acc (nI i) = some r ∧ pm_it (fun _ _ => none) (lb_X8_ofRoof_76 (nI a) x2 l9 D) (m + d + 1) acc (nI i) = some r := by
  have hR : sR σ ≤ 6 := h1.1
  have eC : C (1 + 1) 0 = nI (sR σ) := h2.1
  have eD : D 1 0 = nI (sR σ) := h3.1
  intro d
  induction d with
  | zero =>
    intro i acc hi n m
    refine ⟨acc, ?_, ?_⟩
    · show lb_X3_sum_4 (1 + 1) (1 + 1 + 6 + a) C _ acc (nI i) = _
      rw [lb_X3_sum_4.eq_1, eC, if_pos (yle (by omega) (by omega) (by omega))]
    · show lb_X8_ofRoof_76 (nI a) x2 l9 D _ acc (nI i) = _
      rw [lb_X8_ofRoof_76.eq_1, tn_0, eD, if_pos (yle (by omega) (by omega) (by omega))]
  | succ d ih =>
    intro i acc hi n m
    obtain ⟨r, e1, e2⟩ := ih (i + 1) (acc + D 1 (30 + 6 * a + i)) (by omega) n m
    refine ⟨r, ?_, ?_⟩
    · show lb_X3_sum_4 (1 + 1) (1 + 1 + 6 + a) C (pm_it (fun _ _ => none) (lb_X3_sum_4 (1 + 1) (1 + 1 + 6 + a) C) (n + d + 1)) acc (nI i) = _
      rw [lb_X3_sum_4.eq_1, eC, if_neg (nle (a := sR σ) (b := i) (by omega) (by omega) (by omega)), chk_t (in_nI (n := i) (by omega) (by decide)), let_s, nI_clamp (n := i) (by omega), ow_eq h2 h3 ha (by omega), nI_p1]
      exact e1
    · show lb_X8_ofRoof_76 (nI a) x2 l9 D (pm_it (fun _ _ => none) (lb_X8_ofRoof_76 (nI a) x2 l9 D) (m + d + 1)) acc (nI i) = _
      rw [lb_X8_ofRoof_76.eq_1, tn_0, eD, if_neg (nle (a := sR σ) (b := i) (by omega) (by omega) (by omega)), ix30, chk_t (in_nI (n := 30 + 6 * a + i) (by omega) (by decide)), let_s, nI_clamp (n := 30 + 6 * a + i) (by omega), nI_p1]
      exact e2
set_option maxHeartbeats 4000000 in
theorem e_ofRoof {C D : pm_M} (h : RR C D) (x1 : Int32) (x2 : Int32) : ∃ (r : Int32) (C' D' : pm_M), f_X7_ofRoof C x1 x2 = some (r, C') ∧ f_X8_ofRoof D x1 x2 = some (r, D') ∧ RR C' D' := by
  obtain ⟨⟨σ, h1, h2, h3⟩, h4⟩ := id h
  have hR : sR σ ≤ 6 := h1.1
  have hC : sC σ ≤ 5 := h1.2.1
  unfold f_X7_ofRoof f_X8_ofRoof
  rw [x3_has (n := sR σ) h2.1 (by omega), x8_isRoof (n := sR σ) h3.1 (by omega), b2_s, b2_s, if_bi, if_bi]
  by_cases hc : 0 ≤ x1.toInt ∧ x1.toInt ≤ (sR σ : Int) - 1
  · rw [if_pos hc, if_pos hc, x8_in, b2_s, if_bi, i64, ll0, ll5]
    obtain ⟨a, -, ha, rfl⟩ := vx (lo := 0) (hi := 5) (by decide) (x := x1) (by omega)
    have haR : a < sR σ := by have := hc.2; rw [nI_toInt (by omega)] at this; omega
    by_cases hv : 0 ≤ x2.toInt ∧ x2.toInt ≤ 5
    · rw [if_neg (by omega), if_pos hv]
      obtain ⟨r9, p1, p2⟩ := ov_loop h1 h2 h3 (nI a) x2 (sC σ) 0 0 (by omega) (99999 - sC σ) (99999 - sC σ)
      rw [pm_F_s _ (by omega)] at p1 p2
      obtain ⟨r11, w1, w2⟩ := ow_loop h1 h2 h3 (a := a) (by omega) x2 r9 (sR σ) 0 0 (by omega) (99999 - sR σ) (99999 - sR σ)
      rw [pm_F_s _ (by omega)] at w1 w2
      rw [show lp_X8_ofRoof_34 (nI a) x2 0 0 D = some (r9, D) from p2, b2_s, show lp_X8_ofRoof_76 (nI a) x2 r9 D 0 0 = some r11 from w2, b1_s]
      obtain ⟨w, -, hw, rfl⟩ := vx (lo := 0) (hi := 5) (by decide) hv
      have hw' : w < 4 ∨ w = 4 ∨ w = 5 := by omega
      rcases hw' with hw' | rfl | rfl
      · rw [if_neg (show ¬ 4 ≤ nI w from nle (a := 4) (by decide) (by omega) hw'), x8_its (w := w) rfl (by omega) hw', b2_s]
        refine ⟨D 1 (6 + 4 * a + w), C, D, ?_, rfl, h⟩
        rw [← rf_eq h2 h3 hw' haR (by omega)]
        rw [chk_t (in_nI (n := a) (by omega) (by decide)), chk_t (in_nI (n := a) (by omega) (by decide)), chk_t (in_nI (n := a) (by omega) (by decide)), chk_t (in_nI (n := a) (by omega) (by decide)), nI_clamp (n := a) (by omega)]
        have hw4 : w = 0 ∨ w = 1 ∨ w = 2 ∨ w = 3 := by omega
        rcases hw4 with rfl | rfl | rfl | rfl <;> rfl
      · rw [if_pos (show 4 ≤ nI 4 by decide), if_pos (show nI 4 = 4 from rfl)]
        refine ⟨r9, C, D, ?_, rfl, h⟩
        show (pm_b2 (f_X0_setOver (1 + 13) C (nI a)) (fun (r8 : Int32) (M7 : pm_M) => (some (r8, M7)))) = _
        unfold f_X0_setOver
        rw [show lp_X0_setOver_4 (1 + 13) (nI a) C 0 0 = some r9 from p1, b1_s, b2_s]
      · rw [if_pos (show 4 ≤ nI 5 by decide), if_neg (show ¬ nI 5 = 4 by decide)]
        refine ⟨r11, C, D, ?_, rfl, h⟩
        show (pm_b2 (f_X3_owedToAll (1 + 1) C (nI a)) (fun (r10 : Int32) (M9 : pm_M) => (some (r10, M9)))) = _
        unfold f_X3_owedToAll f_X3_sum
        rw [chk_t (in_nI (n := a) (by omega) (by decide)), nI_clamp (n := a) (by omega), show lp_X3_sum_4 (1 + 1) (1 + 1 + 6 + a) C 0 0 = some r11 from w1, b1_s, b2_s, b2_s]
    · rw [if_pos (by omega), if_neg hv, x7_e1, x8_e1, b2_s, b2_s]
      exact ⟨_, _, _, rfl, rfl, h.err 1⟩
  · rw [if_neg hc, if_neg hc, x7_e1, x8_e1, b2_s, b2_s]
    exact ⟨_, _, _, rfl, rfl, h.err 1⟩
