theorem nlt {a b : Nat} (ha : a < 2 ^ 31) (hb : b < 2 ^ 31) (h : b ≤ a) : ¬ nI a < nI b := fun q => by have := (nI_ltI ha hb).mp q; omega
theorem nle {a b : Nat} (ha : a < 2 ^ 31) (hb : b < 2 ^ 31) (h : b < a) : ¬ nI a ≤ nI b := fun q => by have := (nI_leI ha hb).mp q; omega
theorem ylt {a b : Nat} (ha : a < 2 ^ 31) (hb : b < 2 ^ 31) (h : a < b) : nI a < nI b := (nI_ltI ha hb).mpr h
theorem yle {a b : Nat} (ha : a < 2 ^ 31) (hb : b < 2 ^ 31) (h : a ≤ b) : nI a ≤ nI b := (nI_leI ha hb).mpr h
theorem nne {a b : Nat} (ha : a < 2 ^ 31) (hb : b < 2 ^ 31) (h : a ≠ b) : ¬ nI a = nI b := fun q => h (by have := congrArg Int32.toInt q; rw [nI_toInt ha, nI_toInt hb] at this; omega)
set_option maxHeartbeats 2000000 in
theorem e_sell {C D : pm_M} (h : RR C D) (x1 : Int32) (x2 : Int32) (x3 : Int32) : ∃ (r : Int32) (C' D' : pm_M), f_X7_sell C x1 x2 x3 = some (r, C') ∧ f_X8_sell D x1 x2 x3 = some (r, D') ∧ RR C' D' := by
  obtain ⟨⟨σ, h1, h2, h3⟩, h4⟩ := id h
  have hR : sR σ ≤ 6 := h1.1
  unfold f_X7_sell f_X8_sell
  rw [x3_areTwo (n := sR σ) h2.1 (by omega), x8_areTwo (n := sR σ) h3.1 (by omega), b2_s, b2_s, if_bi, if_bi]
  by_cases hc : (0 ≤ x1.toInt ∧ x1.toInt ≤ (sR σ : Int) - 1) ∧ (0 ≤ x2.toInt ∧ x2.toInt ≤ (sR σ : Int) - 1) ∧ ¬ x1 = x2
  · rw [if_pos hc, if_pos hc, x7_within, x8_in, b2_s, b2_s, if_bi, if_bi, i64, li1, li99, ll1, ll99]
    obtain ⟨a, -, ha, rfl⟩ := vx (lo := 0) (hi := 5) (by decide) (x := x1) (by omega)
    obtain ⟨b, -, hb, rfl⟩ := vx (lo := 0) (hi := 5) (by decide) (x := x2) (by omega)
    have haR : a < sR σ := by have := hc.1.2; rw [nI_toInt (by omega)] at this; omega
    have hbR : b < sR σ := by have := hc.2.1.2; rw [nI_toInt (by omega)] at this; omega
    have hab : a ≠ b := fun e => hc.2.2 (by rw [e])
    by_cases hv : 1 ≤ x3.toInt ∧ x3.toInt ≤ 99
    · obtain ⟨v, hv1, hv2, rfl⟩ := vx (lo := 1) (hi := 99) (by decide) hv
      have eC : ∀ r, r < 6 → C (1 + 1 + 1) r = nI (sr σ 0 r) := fun r hr => h2.2.2.2.2.2.2.1 0 r (by decide) hr
      have eD : ∀ r, r < sR σ → D 1 (6 + 4 * r + 0) = nI (sr σ 0 r) := fun r hr => h3.2.2.2.2.2.2.1 r 0 hr (by decide)
      have hb0 : ∀ r, sr σ 0 r ≤ 99 := fun r => h1.2.2.2.2.1 0 r (by decide)
      have hba := hb0 a
      have hbb := hb0 b
      rw [if_pos hv, if_pos hv, chk_t (in_nI (n := a) (by omega) (by decide)), nI_clamp (n := a) (by omega), x8_its (w := 0) (z := 0) rfl (by omega) (by decide), b2_s, eC a (by omega), eD a haR]
      by_cases hlt : sr σ 0 a < v
      · rw [if_pos (ylt (by omega) (by omega) hlt), if_pos (ylt (by omega) (by omega) hlt), x7_e3, x8_e3, b2_s, b2_s]
        exact ⟨_, _, _, rfl, rfl, h.err 3⟩
      · rw [if_neg (nlt (by omega) (by omega) (by omega)), if_neg (nlt (by omega) (by omega) (by omega)), chk_t (in_nI (n := b) (by omega) (by decide)), nI_clamp (n := b) (by omega), x8_its (w := 0) (z := 0) rfl (by omega) (by decide), b2_s, eC b (by omega), eD b hbR, nI_add]
        by_cases h9 : sr σ 0 b + v ≤ 99
        · rw [if_pos (show nI (sr σ 0 b + v) ≤ 99 from yle (b := 99) (by omega) (by decide) h9), if_pos (show nI (sr σ 0 b + v) ≤ 99 from yle (b := 99) (by omega) (by decide) h9)]
          rw [chk_t (in_nI (n := a) (by omega) (by decide)), chk_t (in_nI (n := a) (by omega) (by decide)), let_s, chk_t (in_nI (n := b) (by omega) (by decide)), chk_t (in_nI (n := b) (by omega) (by decide)), let_s, chk_t (in_nI (n := a) (by omega) (by decide))]
          rw [ix6 a 0 0 rfl, ix6 b 0 0 rfl, let_s, chk_t (in_nI (n := 6 + 4 * a + 0) (by omega) (by decide)), chk_t (in_nI (n := 6 + 4 * a + 0) (by omega) (by decide)), let_s, let_s, chk_t (in_nI (n := 6 + 4 * b + 0) (by omega) (by decide)), chk_t (in_nI (n := 6 + 4 * b + 0) (by omega) (by decide)), let_s, x8_its (w := 0) (z := 0) rfl (by omega) (by decide), b2_s]
          rw [nI_clamp (n := 6 + 4 * a + 0) (by omega), nI_clamp (n := 6 + 4 * b + 0) (by omega)]
          rw [up_i (i' := a) (i := b) (by omega), up_s, up_i (i' := b) (i := a) (by omega), up_i (i' := 6 + 4 * a + 0) (i := 6 + 4 * b + 0) (by omega), up_s, up_i (i' := 6 + 4 * b + 0) (i := 6 + 4 * a + 0) (by omega), eC b (by omega), eD b hbR, eD a haR, nI_add, sub_nI (by omega)]
          have w1 : WF 9999 (σ.1, f2 σ.2.1 0 a (sr σ 0 a - v), σ.2.2) := wf_rf h1 haR (by decide) (show sr σ 0 a - v ≤ 99 by omega)
          refine ⟨_, _, _, rfl, rfl, h.now (wf_rf w1 hbR (by decide : 0 < 4) (show sr σ 0 b + v ≤ 99 by omega)) ?_ ?_ (fun q hq => (pm_up_o q (by omega)).trans (pm_up_o q (by omega))) (fun q hq => (pm_up_o q hq).trans (pm_up_o q hq))⟩
          · exact (h2.rf 0 a _ (by decide)).rf 0 b _ (by decide)
          · rw [pm_up_s, pm_up_s]; exact (h3.rf 0 a _ h1 haR (by decide)).rf 0 b _ w1 hbR (by decide)
        · rw [if_neg (show ¬ nI (sr σ 0 b + v) ≤ 99 from nle (b := 99) (by omega) (by decide) (by omega)), if_neg (show ¬ nI (sr σ 0 b + v) ≤ 99 from nle (b := 99) (by omega) (by decide) (by omega)), x7_e3, x8_e3, b2_s, b2_s]
          exact ⟨_, _, _, rfl, rfl, h.err 3⟩
    · rw [if_neg hv, if_neg hv, x7_e1, x8_e1, b2_s, b2_s]
      exact ⟨_, _, _, rfl, rfl, h.err 1⟩
  · rw [if_neg hc, if_neg hc, x7_e1, x8_e1, b2_s, b2_s]
    exact ⟨_, _, _, rfl, rfl, h.err 1⟩
set_option maxHeartbeats 2000000 in
theorem chg {C D : pm_M} (h : RR C D) {σ : sg} (h1 : WF 9999 σ) (h2 : VC C 1 σ) (h3 : VM (D 1) σ) {w a N : Nat} (hw : w < 4) (haR : a < sR σ) (x3 z most : Int32) (m64 : Int64) (hz : z = nI w) (hm : most.toInt = N) (hm4 : m64.toInt = N) (hN : rf_most w = N) (hN2 : N < 2 ^ 30) :
    ∃ (r : Int32) (C' D' : pm_M), (pm_b2 (f_X7_replace C 6 (1 + 2 + w) (nI a) x3 most) (fun (r8 : Int32) (M7 : pm_M) => (some (r8, M7)))) = some (r, C') ∧
    (pm_b2 (f_X8_in D (x3.toInt64) 0 m64) (fun (r10 : Int32) (M9 : pm_M) => (if r10 = 0 then (pm_b2 (f_X8_finds M9 1) (fun (r12 : Int32) (M11 : pm_M) => (some (r12, M11)))) else (pm_let ((6 + (4 * nI a)) + z) (fun z13 : Int32 => (pm_chk (pm_in z13 258) (pm_let (M9 1 z13.toNatClampNeg) (fun z14 : Int32 => (pm_chk (pm_in z13 258) (pm_let (pm_up M9 1 z13.toNatClampNeg x3) (fun M15 : pm_M => (some (z14, M15))))))))))))) = some (r, D') ∧ RR C' D' := by
  have hR : sR σ ≤ 6 := h1.1
  rw [x8_in, b2_s, if_bi, i64, hm4, ll0, x7_replace (by omega) (by decide), hm]
  by_cases hv : 0 ≤ x3.toInt ∧ x3.toInt ≤ (N : Int)
  · obtain ⟨v, -, hv2, rfl⟩ := vx (lo := 0) (hi := N) (by omega) hv
    rw [if_pos hv, if_pos hv, b2_s, ix6 a w z hz, let_s, chk_t (in_nI (by omega) (by decide)), let_s, chk_t (in_nI (by omega) (by decide)), let_s, nI_clamp (n := 6 + 4 * a + w) (by omega), rf_eq h2 h3 hw haR (by omega)]
    refine ⟨_, _, _, rfl, rfl, h.now (wf_rf h1 haR hw (by rw [hN]; exact hv2)) ?_ ?_ (fun q hq => pm_up_o q (by omega)) (fun q hq => pm_up_o q hq)⟩
    · exact h2.rf w a v hw
    · rw [pm_up_s]; exact h3.rf w a v h1 haR hw
  · rw [if_neg hv, if_neg hv, x8_e1, b2_s, b2_s]
    exact ⟨_, _, _, rfl, rfl, h.err 1⟩
set_option maxHeartbeats 2000000 in
theorem e_change {C D : pm_M} (h : RR C D) (x1 : Int32) (x2 : Int32) (x3 : Int32) : ∃ (r : Int32) (C' D' : pm_M), f_X7_change C x1 x2 x3 = some (r, C') ∧ f_X8_change D x1 x2 x3 = some (r, D') ∧ RR C' D' := by
  obtain ⟨⟨σ, h1, h2, h3⟩, h4⟩ := id h
  have hR : sR σ ≤ 6 := h1.1
  unfold f_X7_change f_X8_change
  rw [x3_has (n := sR σ) h2.1 (by omega), x8_isRoof (n := sR σ) h3.1 (by omega), b2_s, b2_s, if_bi, if_bi]
  by_cases hc : 0 ≤ x1.toInt ∧ x1.toInt ≤ (sR σ : Int) - 1
  · rw [if_pos hc, if_pos hc, x8_in, b2_s, if_bi, i64, ll0, ll2]
    obtain ⟨a, -, ha, rfl⟩ := vx (lo := 0) (hi := 5) (by decide) (x := x1) (by omega)
    have haR : a < sR σ := by have := hc.2; rw [nI_toInt (by omega)] at this; omega
    by_cases hv : 0 ≤ x2.toInt ∧ x2.toInt ≤ 2
    · rw [if_neg (by omega), if_pos hv]
      obtain ⟨w, -, hw, rfl⟩ := vx (lo := 0) (hi := 2) (by decide) hv
      have : w = 0 ∨ w = 1 ∨ w = 2 := by omega
      rcases this with rfl | rfl | rfl
      · rw [if_pos (show nI 0 = 0 from rfl), if_neg (show ¬ nI 0 = 1 by decide)]
        simp only [if_neg (show ¬ 2 ≤ nI 0 by decide)]
        exact chg h h1 h2 h3 (w := 0) (by decide) haR x3 (nI 0) 99 99 rfl (N := 99) rfl rfl rfl (by decide)
      · rw [if_neg (show ¬ nI 1 = 0 by decide), if_pos (show nI 1 = 1 from rfl), if_pos (show nI 1 = 1 from rfl)]
        simp only [if_neg (show ¬ 2 ≤ nI 1 by decide)]
        exact chg h h1 h2 h3 (w := 1) (by decide) haR x3 (nI 1) 9999 9999 rfl (N := 9999) rfl rfl rfl (by decide)
      · rw [if_neg (show ¬ nI 2 = 0 by decide), if_neg (show ¬ nI 2 = 1 by decide), if_pos (show nI 2 = 2 from rfl), if_neg (show ¬ nI 2 = 1 by decide)]
        simp only [if_pos (show 2 ≤ nI 2 by decide)]
        exact chg h h1 h2 h3 (w := 3) (by decide) haR x3 3 99 99 rfl (N := 99) rfl rfl rfl (by decide)
    · rw [if_pos (by omega), if_neg hv, x7_e1, x8_e1, b2_s, b2_s]
      exact ⟨_, _, _, rfl, rfl, h.err 1⟩
  · rw [if_neg hc, if_neg hc, x7_e1, x8_e1, b2_s, b2_s]
    exact ⟨_, _, _, rfl, rfl, h.err 1⟩
set_option maxHeartbeats 2000000 in
theorem e_trace {C D : pm_M} (h : RR C D) (x1 : Int32) : ∃ (r : Int32) (C' D' : pm_M), f_X7_trace C x1 = some (r, C') ∧ f_X8_trace D x1 = some (r, D') ∧ RR C' D' := by
  obtain ⟨n, t1, t2, t3, t4⟩ := h.2.2.2.2.2.1
  unfold f_X7_trace f_X8_trace
  rw [t2, t3, x8_in, b2_s, if_bi, i64, i64, ll0, m1_toInt (by omega)]
  by_cases hc : 0 ≤ x1.toInt ∧ x1.toInt ≤ (n : Int) - 1
  · obtain ⟨a, -, ha, rfl⟩ := vx (lo := 0) (hi := 39) (by decide) (x := x1) (by omega)
    have han : a < n := by have := hc.2; rw [nI_toInt (by omega)] at this; omega
    rw [if_pos hc, if_neg (show ¬ nI a < 0 from nlt (b := 0) (by omega) (by decide) (by omega)), if_pos (ylt (by omega) (by omega) han), chk_t (in_nI (by omega) (by decide)), chk_t (in_nI (by omega) (by decide)), nI_clamp (by omega)]
    refine ⟨_, _, _, rfl, ?_, h⟩
    rw [t4 a han]
  · rw [if_neg hc, x8_e2, b2_s]
    by_cases hz : x1 < 0
    · rw [if_pos hz, x7_e2, b2_s]
      exact ⟨_, _, _, rfl, rfl, h.err 2⟩
    · have hz' : ¬ x1.toInt < 0 := fun q => hz (Int32.lt_iff_toInt_lt.mpr (by rw [li0]; exact q))
      have hn : ¬ x1 < nI n := fun q => by
        have := Int32.lt_iff_toInt_lt.mp q
        rw [nI_toInt (by omega)] at this; omega
      rw [if_neg hz, if_neg hn, x7_e2, b2_s]
      exact ⟨_, _, _, rfl, rfl, h.err 2⟩
set_option maxHeartbeats 2000000 in
theorem e_tell {C D : pm_M} (h : RR C D) (x1 : Int32) : ∃ (r : Int32) (C' D' : pm_M), f_X7_tell C x1 = some (r, C') ∧ f_X8_tell D x1 = some (r, D') ∧ RR C' D' := by
  obtain ⟨⟨σ, h1, h2, h3⟩, h4⟩ := id h
  have eC : C 1 8 = nI (sW σ).length := h2.2.2.2.2.2.1
  have eD : D 1 5 = nI (sW σ).length := h3.2.2.2.2.2.1
  have hl : (sW σ).length ≤ 20 := h1.2.2.2.2.2.2.2.2.2.2.2
  unfold f_X7_tell f_X8_tell
  rw [tn_5, eC, eD]
  by_cases hc : (sW σ).length < 20
  · rw [if_pos (show nI (sW σ).length < 20 from ylt (b := 20) (by omega) (by decide) hc), if_neg (show ¬ nI (sW σ).length = 20 from nne (b := 20) (by omega) (by decide) (by omega)), chk_t (in_nI hc (by decide)), let_s, let_s, nI_clamp (by omega), up_k (M := C) (k := 1 + 26) (k' := 1) (i' := 8) (by decide), eC]
    rw [show (88 : Int32) + nI (sW σ).length = nI (88 + (sW σ).length) from nI_add 88 _, chk_t (in_nI (by omega) (by decide)), let_s, let_s, nI_clamp (by omega), up_i (M := D) (k := 1) (i := 88 + (sW σ).length) (k' := 1) (i' := 5) (by omega), eD, up_s, up_s, show nI (sW σ).length + 1 = nI ((sW σ).length + 1) from nI_add _ 1]
    have w1 : WF 9999 (σ.1, σ.2.1, σ.2.2.1, σ.2.2.2.1, σ.2.2.2.2.1, σ.2.2.2.2.2.1, σ.2.2.2.2.2.2 ++ [x1]) := by
      obtain ⟨b1, b2, b3, b4, b5, b6, b7, b8, b9, b10, b11, b12⟩ := h1
      refine ⟨b1, b2, b3, b4, b5, b6, b7, b8, b9, b10, b11, ?_⟩
      show (sW σ ++ [x1]).length ≤ 20
      rw [List.length_append, List.length_singleton]; omega
    refine ⟨_, _, _, rfl, rfl, h.now w1 (h2.wp x1) ?_ (fun q hq => (pm_up_o q (by omega)).trans (pm_up_o q (by omega))) (fun q hq => (pm_up_o q hq).trans (pm_up_o q hq))⟩
    rw [pm_up_s, pm_up_s]; exact h3.wp x1 h1 hc
  · have e : (sW σ).length = 20 := by omega
    rw [if_neg (show ¬ nI (sW σ).length < 20 from nlt (b := 20) (by omega) (by decide) (by omega)), if_pos (show nI (sW σ).length = 20 by rw [e]; rfl), x7_e4, x8_e4, b2_s, b2_s]
    exact ⟨_, _, _, rfl, rfl, h.err 4⟩
