theorem e_ofCloud {C D : pm_M} (h : RR C D) (x1 : Int32) (x2 : Int32) : ∃ (r : Int32) (C' D' : pm_M), f_X7_ofCloud C x1 x2 = some (r, C') ∧ f_X8_ofCloud D x1 x2 = some (r, D') ∧ RR C' D' := by
  obtain ⟨⟨σ, h1, h2, h3⟩, h4⟩ := id h
  have h5 : sC σ ≤ 5 := h1.2.1
  unfold f_X7_ofCloud f_X8_ofCloud
  rw [x0_has (n := sC σ) h2.2.1 (by omega), x8_isCloud (n := sC σ) h3.2.1 (by omega), b2_s, b2_s, if_bi, if_bi]
  by_cases hr : 0 ≤ x1.toInt ∧ x1.toInt ≤ (sC σ : Int) - 1
  · obtain ⟨c, -, hc0, rfl⟩ := vx (lo := 0) (hi := sC σ - 1) (by omega) (x := x1) (by omega)
    have hc : c < sC σ := by have := hr.2; rw [nI_toInt (by omega)] at this; omega
    have hR : 0 < sR σ := h1.2.2.1 (by omega)
    rw [if_pos hr, if_pos hr, x8_in, b2_s, if_bi, i64, ll0, ll7]
    by_cases hw : 0 ≤ x2.toInt ∧ x2.toInt ≤ 7
    · obtain ⟨w, -, hw7, rfl⟩ := vx (lo := 0) (hi := 7) (by decide) hw
      obtain ⟨e0, e1, e2, e3⟩ := cellC h1 h2 hc
      obtain ⟨d0, d1, d2, d3⟩ := cellD h3 hc
      have b0 : sc σ 0 c ≤ 6 := h1.2.2.2.2.2.2.2.2.1 0 c hc (by decide)
      have b2 : sc σ 2 c ≤ sR σ - 1 := h1.2.2.2.2.2.2.2.2.1 2 c hc (by decide)
      have bm : sc σ 1 c ≤ 9 := h1.2.2.2.2.2.2.2.2.1 1 c hc (by decide)
      rw [if_pos hw, chk_t (in_nI (n := c) (by omega) (by decide)), chk_t (in_nI (n := c) (by omega) (by decide)), chk_t (in_nI (n := c) (by omega) (by decide)), chk_t (in_nI (n := c) (by omega) (by decide)), chk_t (in_nI (n := c) (by omega) (by decide)), nI_clamp (n := c) (by omega), e0, e1, e2, e3]
      have w8 : w = 0 ∨ w = 1 ∨ w = 2 ∨ w = 3 ∨ w = 4 ∨ w = 5 ∨ w = 6 ∨ w = 7 := by omega
      rcases w8 with rfl | rfl | rfl | rfl | rfl | rfl | rfl | rfl
      · refine ⟨nI (sc σ 0 c), C, D, rfl, ?_, h⟩
        rw [if_pos (by decide), x8_of (w := 0) (z := nI 0) rfl (by omega) (by decide), b2_s, d0]
      · refine ⟨nI (sc σ 1 c), C, D, rfl, ?_, h⟩
        rw [if_pos (by decide), x8_of (w := 1) (z := nI 1) rfl (by omega) (by decide), b2_s, d1]
      · refine ⟨nI (sc σ 2 c), C, D, rfl, ?_, h⟩
        rw [if_pos (by decide), x8_of (w := 2) (z := nI 2) rfl (by omega) (by decide), b2_s, d2]
      · refine ⟨nI (sc σ 3 c), C, D, rfl, ?_, h⟩
        rw [if_pos (by decide), x8_of (w := 3) (z := nI 3) rfl (by omega) (by decide), b2_s, d3]
      · refine ⟨nI (lasts (sc σ 0 c) (sc σ 1 c)), C, D, ?_, ?_, h⟩
        · show pm_b2 (f_X0_lasting (1 + 13) C (nI c)) (fun (r8 : Int32) (M7 : pm_M) => (some (r8, M7))) = _
          rw [x0_lasting (k := sc σ 0 c) (m := sc σ 1 c) (by omega) b0 e0 e1, b2_s]
        · show pm_b2 (f_X8_lasts D (nI c)) (fun (r8 : Int32) (M7 : pm_M) => (some (r8, M7))) = _
          rw [x8_lasts (k := sc σ 0 c) (m := sc σ 1 c) (by omega) b0 d0 d1, b2_s]
      · refine ⟨bi (lasts (sc σ 0 c) (sc σ 1 c) ≤ sc σ 3 c), C, D, ?_, ?_, h⟩
        · show pm_b2 (f_X0_isSpent (1 + 13) C (nI c)) (fun (r10 : Int32) (M9 : pm_M) => (if r10 = 0 then (some (0, M9)) else (some (1, M9)))) = _
          rw [x0_isSpent 9999 h1 h2 hc, b2_s, if_bi, bi_s]
        · show pm_b2 (f_X8_isSpent D (nI c)) (fun (r10 : Int32) (M9 : pm_M) => (if r10 = 0 then (some (0, M9)) else (some (1, M9)))) = _
          rw [x8_isSpent 9999 h1 h3 hc, b2_s, if_bi, bi_s]
      · obtain ⟨C', g1, g2⟩ := x5_dropsOn (p := 1) (B := 9999) (by decide) h1 h2 hc (r := sc σ 2 c) (by omega)
        obtain ⟨D', k1, k2, k3⟩ := x8_fallsOn (p := 1) (B := 9999) (by decide) h1 h2 h3 hc (r := sc σ 2 c) (by omega)
        refine ⟨nI (dv σ c (sc σ 2 c)), C', D', ?_, ?_, ?_⟩
        · show pm_b2 (f_X5_dropsOn 1 C (nI c) (nI (sc σ 2 c))) (fun (r12 : Int32) (M11 : pm_M) => (some (r12, M11))) = _
          rw [g1, b2_s]
        · show pm_b2 (f_X8_of D (nI c) 2) (fun (r16 : Int32) (M15 : pm_M) => (pm_b2 (f_X8_fallsOn M15 (nI c) r16) (fun (r18 : Int32) (M17 : pm_M) => (some (r18, M17))))) = _
          rw [x8_of (w := 2) (z := 2) rfl (by omega) (by decide), b2_s, d2, k1, b2_s]
        · exact h.gen h1 (h2.congr (fun q _ _ a b => g2 q a b)) (by rw [k2 1 (by decide) (by decide)]; exact h3) (h4.1.congr (fun q hq => g2 q (by omega) (by omega))) (fun q a b => g2 q (by omega) (by omega)) (k3 2 (by omega)) (k3 14 (by omega)) (fun q a _ _ b _ => k2 q a b)
      · refine ⟨nI (nx σ c), C, D, ?_, ?_, h⟩
        · show pm_b2 (f_X5_nextOver 1 C (nI c)) (fun (r14 : Int32) (M13 : pm_M) => (some (r14, M13))) = _
          rw [x5_nextOver (B := 9999) (by decide) h1 h2 hc, b2_s]
        · show pm_b2 (f_X8_driftsTo D (nI c)) (fun (r20 : Int32) (M19 : pm_M) => (some (r20, M19))) = _
          rw [x8_driftsTo (B := 9999) (by decide) h1 h3 hc, b2_s]
    · rw [if_neg hw, if_pos (show x2.toInt < 0 ∨ 7 < x2.toInt by omega), x7_e1, x8_e1, b2_s, b2_s]
      exact ⟨_, _, _, rfl, rfl, h.err 1⟩
  · rw [if_neg hr, if_neg hr, x7_e1, x8_e1, b2_s, b2_s]
    exact ⟨_, _, _, rfl, rfl, h.err 1⟩
/-! drought -/
theorem drl_loop {a L : Nat} (ha : a < 6) (hL : L ≤ 60) : ∀ (d i B : Nat) (C D : pm_M) (σ : sg) (x y : Int32), i + d = L → B + d + 1 < 2 ^ 19 → DVs 31 B C D σ → ∀ n m : Nat, ∃ (r : Int32) (C' D' : pm_M) (τ : sg), pm_it (fun _ _ _ _ => none) (lb_X7_drought_49 (nI a) (nI L)) (n + d + 1) x y (nI i) C = some (r, C') ∧ pm_it (fun _ _ _ _ => none) (lb_X8_drought_38 (nI a) (nI L)) (m + d + 1) x y (nI i) D = some (r, D') ∧ VC C' 31 τ ∧ (∀ q, (q < 31 ∨ 31 + 30 ≤ q) → C' q = C q) ∧ FDm D D' := by
  intro d
  induction d with
  | zero =>
    intro i B C D σ x y hi hB h n m
    refine ⟨x, C, D, σ, ?_, ?_, h.2.1, fun _ _ => rfl, FDm.refl D⟩
    · show lb_X7_drought_49 (nI a) (nI L) _ x y (nI i) C = _
      rw [lb_X7_drought_49.eq_1, if_pos (yle (by omega) (by omega) (by omega))]
    · show lb_X8_drought_38 (nI a) (nI L) _ x y (nI i) D = _
      rw [lb_X8_drought_38.eq_1, if_pos (yle (by omega) (by omega) (by omega))]
  | succ d ih =>
    intro i B C D σ x y hi hB h n m
    obtain ⟨C1, D1, τ, a1, a2, a3, a4, a5, a6, a7⟩ := day1_eq (by omega) h
    have fin : ∀ x' y', lb_X7_drought_49 (nI a) (nI L) (pm_it (fun _ _ _ _ => none) (lb_X7_drought_49 (nI a) (nI L)) (n + d + 1)) x y (nI i) C = pm_it (fun _ _ _ _ => none) (lb_X7_drought_49 (nI a) (nI L)) (n + d + 1) x' y' (nI (i + 1)) C1 → lb_X8_drought_38 (nI a) (nI L) (pm_it (fun _ _ _ _ => none) (lb_X8_drought_38 (nI a) (nI L)) (m + d + 1)) x y (nI i) D = pm_it (fun _ _ _ _ => none) (lb_X8_drought_38 (nI a) (nI L)) (m + d + 1) x' y' (nI (i + 1)) D1 → ∃ (r : Int32) (C' D' : pm_M) (τ : sg), pm_it (fun _ _ _ _ => none) (lb_X7_drought_49 (nI a) (nI L)) (n + (d + 1) + 1) x y (nI i) C = some (r, C') ∧ pm_it (fun _ _ _ _ => none) (lb_X8_drought_38 (nI a) (nI L)) (m + (d + 1) + 1) x y (nI i) D = some (r, D') ∧ VC C' 31 τ ∧ (∀ q, (q < 31 ∨ 31 + 30 ≤ q) → C' q = C q) ∧ FDm D D' := by
      intro x' y' f1 f2
      obtain ⟨r, C', D', υ, e1, e2, e3, e4, e5⟩ := ih (i + 1) (B + 1) C1 D1 τ x' y' (by omega) (by omega) a3 n m
      exact ⟨r, C', D', υ, Eq.trans (show pm_it (fun _ _ _ _ => none) (lb_X7_drought_49 (nI a) (nI L)) (n + (d + 1) + 1) x y (nI i) C = _ from f1) e1, Eq.trans (show pm_it (fun _ _ _ _ => none) (lb_X8_drought_38 (nI a) (nI L)) (m + (d + 1) + 1) x y (nI i) D = _ from f2) e2, e3, fun q hq => (e4 q hq).trans (a5 q hq), a6.trans e5⟩
    have ef : C1 (31 + 27) a = D1 6 a := a7 a ha
    by_cases z : D1 6 a = 0
    · refine fin (pm_max x (y + 1)) (y + 1) ?_ ?_
      · rw [lb_X7_drought_49.eq_1, if_neg (nle (a := L) (b := i) (by omega) (by omega) (by omega)), a1, b1_s, chk_t (in_nI (n := a) (by omega) (by decide)), nI_clamp (n := a) (by omega), ef, if_pos z, let_s, let_s, nI_p1]
      · rw [lb_X8_drought_38.eq_1, if_neg (nle (a := L) (b := i) (by omega) (by omega) (by omega)), a2, b1_s, chk_t (in_nI (n := a) (by omega) (by decide)), nI_clamp (n := a) (by omega), if_pos z, let_s, nI_p1]
        unfold pm_max
        by_cases k : y + 1 ≤ x
        · rw [if_pos k, if_neg (Int32.not_lt.mpr k)]
        · rw [if_neg k, if_pos (Int32.not_le.mp k)]
    · refine fin (pm_max x 0) 0 ?_ ?_
      · rw [lb_X7_drought_49.eq_1, if_neg (nle (a := L) (b := i) (by omega) (by omega) (by omega)), a1, b1_s, chk_t (in_nI (n := a) (by omega) (by decide)), nI_clamp (n := a) (by omega), ef, if_neg z, let_s, nI_p1]
      · rw [lb_X8_drought_38.eq_1, if_neg (nle (a := L) (b := i) (by omega) (by omega) (by omega)), a2, b1_s, chk_t (in_nI (n := a) (by omega) (by decide)), nI_clamp (n := a) (by omega), if_neg z, nI_p1]
        unfold pm_max
        by_cases k : 0 ≤ x
        · rw [if_pos k, if_neg (Int32.not_lt.mpr k)]
        · rw [if_neg k, if_pos (Int32.not_le.mp k)]
theorem e_drought {C D : pm_M} (h : RR C D) (x1 : Int32) (x2 : Int32) : ∃ (r : Int32) (C' D' : pm_M), f_X7_drought C x1 x2 = some (r, C') ∧ f_X8_drought D x1 x2 = some (r, D') ∧ RR C' D' := by
  obtain ⟨⟨σ, h1, h2, h3⟩, h4⟩ := id h
  have h6 : sR σ ≤ 6 := h1.1
  unfold f_X7_drought f_X8_drought
  rw [x3_has (n := sR σ) h2.1 (by omega), x8_isRoof (n := sR σ) h3.1 (by omega), b2_s, b2_s, if_bi, if_bi]
  by_cases hr : 0 ≤ x1.toInt ∧ x1.toInt ≤ (sR σ : Int) - 1
  · obtain ⟨a, -, ha, rfl⟩ := vx (lo := 0) (hi := sR σ - 1) (by omega) (x := x1) (by omega)
    rw [if_pos hr, if_pos hr, x7_within, x8_in, b2_s, b2_s, if_bi, if_bi, i64, li1, li60, ll1, ll60]
    have ha6 : a < sR σ := by have := hr.2; rw [nI_toInt (by omega)] at this; omega
    by_cases hv : 1 ≤ x2.toInt ∧ x2.toInt ≤ 60
    · obtain ⟨L, -, hL, rfl⟩ := vx (lo := 1) (hi := 60) (by decide) hv
      obtain ⟨C1, D1, a1, a2, a3, a4, a5, a6⟩ := th_in h h1 h2 h3
      obtain ⟨r, C2, D2, τ, e1, e2, e3, e4, e5⟩ := drl_loop (a := a) (L := L) (by omega) hL L 0 9999 C1 D1 σ 0 0 (by omega) (by omega) a3 (99999 - L) (99999 - L)
      rw [pm_F_s _ (by omega)] at e1 e2
      obtain ⟨D3, f1, f2, -⟩ := th_out h a5 a6 (fun q hq => (e4 q hq).trans (a4 q hq)) e3 e5
      rw [if_pos hv, if_pos hv, a1, b1_s, a2, b1_s, show lp_X7_drought_49 (nI a) (nI L) 0 0 0 C1 = some (r, C2) from e1, b2_s, show lp_X8_drought_38 (nI a) (nI L) 0 0 0 D1 = some (r, D2) from e2, b2_s, f1, b1_s]
      exact ⟨_, _, _, rfl, rfl, f2⟩
    · rw [if_neg hv, if_neg hv, x7_e1, x8_e1, b2_s, b2_s]
      exact ⟨_, _, _, rfl, rfl, h.err 1⟩
  · rw [if_neg hr, if_neg hr, x7_e1, x8_e1, b2_s, b2_s]
    exact ⟨_, _, _, rfl, rfl, h.err 1⟩
/-! when -/
theorem wh_loop {a : Nat} {σ0 : sg} (ha : a < sR σ0) (x : Int32) : ∀ (d i B : Nat) (C D : pm_M) (σ : sg), i + d = 61 → B + d + 1 < 2 ^ 19 → sR σ = sR σ0 → DVs 31 B C D σ → ∀ n m : Nat, ∃ (C' D' : pm_M) (τ : sg), ((∃ j, j ≤ 60 ∧ pm_it (fun _ _ => none) (lb_X7_when_44 (nI a) x) (n + d + 1) (nI i) C = some (Sum.inr (nI j, C')) ∧ pm_it (fun _ _ => none) (lb_X8_when_32 (nI a) x) (m + d + 1) (nI i) D = some (nI j, D')) ∨ (pm_it (fun _ _ => none) (lb_X7_when_44 (nI a) x) (n + d + 1) (nI i) C = some (Sum.inl C') ∧ pm_it (fun _ _ => none) (lb_X8_when_32 (nI a) x) (m + d + 1) (nI i) D = some (nI 61, D'))) ∧ VC C' 31 τ ∧ (∀ q, (q < 31 ∨ 31 + 30 ≤ q) → C' q = C q) ∧ FDm D D' := by
  intro d
  induction d with
  | zero =>
    intro i B C D σ hi hB hR h n m
    have : i = 61 := by omega
    subst this
    refine ⟨C, D, σ, Or.inr ⟨?_, ?_⟩, h.2.1, fun _ _ => rfl, FDm.refl D⟩
    · show lb_X7_when_44 (nI a) x _ (nI 61) C = _
      rw [lb_X7_when_44.eq_1, if_pos (by decide)]
    · show lb_X8_when_32 (nI a) x _ (nI 61) D = _
      rw [lb_X8_when_32.eq_1, if_pos (by decide)]
  | succ d ih =>
    intro i B C D σ hi hB hR h n m
    have h6 : sR σ ≤ 6 := h.1.1
    have ca : C (31 + 1 + 2) a = nI (sr σ 1 a) := h.2.1.2.2.2.2.2.2.1 1 a (by decide) (by omega)
    have da : D 1 (6 + 4 * a + 1) = nI (sr σ 1 a) := h.2.2.2.2.2.2.2.2.1 a 1 (by omega) (by decide)
    have n60 : ¬ (60 : Int32) < nI i := nlt (a := 60) (by decide) (by omega) (by omega)
    by_cases k : x ≤ nI (sr σ 1 a)
    · refine ⟨C, D, σ, Or.inl ⟨i, by omega, ?_, ?_⟩, h.2.1, fun _ _ => rfl, FDm.refl D⟩
      · show lb_X7_when_44 (nI a) x _ (nI i) C = _
        rw [lb_X7_when_44.eq_1, if_neg n60, chk_t (in_nI (n := a) (by omega) (by decide)), nI_clamp (n := a) (by omega), ca, if_neg (Int32.not_lt.mpr k)]
      · show lb_X8_when_32 (nI a) x _ (nI i) D = _
        rw [lb_X8_when_32.eq_1, if_neg n60, x8_its (w := 1) (z := 1) rfl (by omega) (by decide), b2_s, da, if_pos k]
    · obtain ⟨C1, D1, τ, a1, a2, a3, a4, a5, a6, a7⟩ := day1_eq (by omega) h
      obtain ⟨C', D', υ, e1, e2, e3, e4⟩ := ih (i + 1) (B + 1) C1 D1 τ (by omega) (by omega) (a4.1.trans hR) a3 n m
      have s1 : pm_it (fun _ _ => none) (lb_X7_when_44 (nI a) x) (n + (d + 1) + 1) (nI i) C = pm_it (fun _ _ => none) (lb_X7_when_44 (nI a) x) (n + d + 1) (nI (i + 1)) C1 := by
        show lb_X7_when_44 (nI a) x (pm_it (fun _ _ => none) (lb_X7_when_44 (nI a) x) (n + d + 1)) (nI i) C = _
        rw [lb_X7_when_44.eq_1, if_neg n60, chk_t (in_nI (n := a) (by omega) (by decide)), nI_clamp (n := a) (by omega), ca, if_pos (Int32.not_le.mp k), a1, b1_s, nI_p1]
      have s2 : pm_it (fun _ _ => none) (lb_X8_when_32 (nI a) x) (m + (d + 1) + 1) (nI i) D = pm_it (fun _ _ => none) (lb_X8_when_32 (nI a) x) (m + d + 1) (nI (i + 1)) D1 := by
        show lb_X8_when_32 (nI a) x (pm_it (fun _ _ => none) (lb_X8_when_32 (nI a) x) (m + d + 1)) (nI i) D = _
        rw [lb_X8_when_32.eq_1, if_neg n60, x8_its (w := 1) (z := 1) rfl (by omega) (by decide), b2_s, da, if_neg k, a2, b1_s, nI_p1]
      rw [s1, s2]
      exact ⟨C', D', υ, e1, e2, fun q hq => (e3 q hq).trans (a5 q hq), a6.trans e4⟩
theorem e_when {C D : pm_M} (h : RR C D) (x1 : Int32) (x2 : Int32) : ∃ (r : Int32) (C' D' : pm_M), f_X7_when C x1 x2 = some (r, C') ∧ f_X8_when D x1 x2 = some (r, D') ∧ RR C' D' := by
  obtain ⟨⟨σ, h1, h2, h3⟩, h4⟩ := id h
  have h6 : sR σ ≤ 6 := h1.1
  unfold f_X7_when f_X8_when
  rw [x3_has (n := sR σ) h2.1 (by omega), x8_isRoof (n := sR σ) h3.1 (by omega), b2_s, b2_s, if_bi, if_bi]
  by_cases hr : 0 ≤ x1.toInt ∧ x1.toInt ≤ (sR σ : Int) - 1
  · obtain ⟨a, -, ha, rfl⟩ := vx (lo := 0) (hi := sR σ - 1) (by omega) (x := x1) (by omega)
    rw [if_pos hr, if_pos hr, x7_within, x8_in, b2_s, b2_s, if_bi, if_bi, i64, li0, li9999, ll0, ll9999]
    have ha6 : a < sR σ := by have := hr.2; rw [nI_toInt (by omega)] at this; omega
    by_cases hv : 0 ≤ x2.toInt ∧ x2.toInt ≤ 9999
    · obtain ⟨C1, D1, a1, a2, a3, a4, a5, a6⟩ := th_in h h1 h2 h3
      obtain ⟨C2, D2, τ, e1, e3, e4, e5⟩ := wh_loop (a := a) (σ0 := σ) ha6 x2 61 0 9999 C1 D1 σ (by omega) (by omega) rfl a3 99938 99938
      obtain ⟨D3, f1, f2, -⟩ := th_out h a5 a6 (fun q hq => (e4 q hq).trans (a4 q hq)) e3 e5
      rw [if_pos hv, if_pos hv, a1, b1_s, a2, b1_s]
      rcases e1 with ⟨j, hj, g1, g2⟩ | ⟨g1, g2⟩
      · rw [show lp_X7_when_44 (nI a) x2 0 C1 = some (Sum.inr (nI j, C2)) from g1, s1_r, show lp_X8_when_32 (nI a) x2 0 D1 = some (nI j, D2) from g2, b2_s, f1, b1_s, if_pos (show nI j ≤ 60 from yle (b := 60) (by omega) (by decide) hj)]
        exact ⟨_, _, _, rfl, rfl, f2⟩
      · rw [show lp_X7_when_44 (nI a) x2 0 C1 = some (Sum.inl C2) from g1, s1_l, show lp_X8_when_32 (nI a) x2 0 D1 = some (nI 61, D2) from g2, b2_s, f1, b1_s, if_neg (show ¬ nI 61 ≤ 60 by decide), x7_e2, x8_e2, b2_s, b2_s]
        exact ⟨_, _, _, rfl, rfl, f2.err 2⟩
    · rw [if_neg hv, if_neg hv, x7_e1, x8_e1, b2_s, b2_s]
      exact ⟨_, _, _, rfl, rfl, h.err 1⟩
  · rw [if_neg hr, if_neg hr, x7_e1, x8_e1, b2_s, b2_s]
    exact ⟨_, _, _, rfl, rfl, h.err 1⟩
