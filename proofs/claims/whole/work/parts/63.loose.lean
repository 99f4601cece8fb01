theorem us8 (x : Int32) : ∃ v, v < 2 ^ 24 ∧ pm_ushr x 8 = nI v := by
  have k := pk_ushr x 8 8 (by decide)
  have hx := x.toBitVec.isLt
  refine ⟨x.toBitVec.toNat / 2 ^ 8, by omega, ?_⟩
  apply Int32.toBitVec_inj.mp
  apply BitVec.eq_of_toNat_eq
  rw [pk_tn (by omega)]
  exact k
def zn (z : Int32) : Int32 := z * 1103515245 + 12345
theorem rest_nI {C : pm_M} {g k : Nat} (hg : g < 2 ^ 30) (h0 : 0 < k) (hk : k < 2 ^ 30) : f_X5_rest C (nI g) (nI k) = some (nI (g % k), C) := by
  unfold f_X5_rest
  rw [if_neg (show ¬ nI k ≤ 0 from nle (b := 0) (by omega) (by decide) h0), chk_t (nz_t (nne (b := 0) (by omega) (by decide) (by omega))), show pm_rem (nI g) (nI k) = nI (g % k) from pk_rem (by omega) h0 (by omega)]
def lo_dr (D : pm_M) (k : pm_M → Option pm_M) : Option pm_M := (pm_b2 (f_X8_drawn D) (fun (r41004 : Int32) (M41003 : pm_M) => (pm_chk (pm_nz (M41003 1 (1 : Int32).toNatClampNeg)) (pm_let (pm_rem r41004 (M41003 1 (1 : Int32).toNatClampNeg)) (fun z41005 : Int32 => (pm_b2 (f_X8_drawn M41003) (fun (r41007 : Int32) (M41006 : pm_M) => (pm_chk (pm_nz (M41006 1 (0 : Int32).toNatClampNeg)) (pm_chk (pm_in ((66 + (4 * z41005)) + 2) 258) (pm_let (pm_up M41006 1 ((66 + (4 * z41005)) + 2).toNatClampNeg (pm_rem r41007 (M41006 1 (0 : Int32).toNatClampNeg))) (fun M41008 : pm_M => (k M41008))))))))))))
theorem scat_eq {B : Nat} {C D : pm_M} {σ : sg} (h : DVs 1 B C D σ) (hc : 0 < sC σ) : ∃ C1 D1 τ, f_X5_scatter 1 C = some C1 ∧ (∀ k, lo_dr D k = k D1) ∧ DVs 1 B C1 D1 τ ∧ sR τ = sR σ ∧ sC τ = sC σ ∧ sD τ = sD σ ∧ (∀ q, (q < 1 ∨ 1 + 30 ≤ q) → C1 q = C q) ∧ FDm D D1 := by
  obtain ⟨h1, h2, h3⟩ := h
  have h5 : sC σ ≤ 5 := h1.2.1
  have h6 : sR σ ≤ 6 := h1.1
  have hR : 0 < sR σ := h1.2.2.1 hc
  have tn3 : (3 : Int32).toNatClampNeg = 3 := rfl
  obtain ⟨z1, hz1⟩ : ∃ z, zn (sZ σ) = z := ⟨_, rfl⟩
  obtain ⟨z2, hz2⟩ : ∃ z, zn z1 = z := ⟨_, rfl⟩
  obtain ⟨v1, b1, e1⟩ := us8 z1
  obtain ⟨v2, b2, e2⟩ := us8 z2
  have c4 : C 1 4 = sZ σ := h2.2.2.2.1
  have d3 : D 1 3 = sZ σ := h3.2.2.2.1
  have m1 : v1 % sC σ < sC σ := Nat.mod_lt _ hc
  have m2 : v2 % sR σ < sR σ := Nat.mod_lt _ hR
  generalize hc' : v1 % sC σ = c at m1
  generalize hr' : v2 % sR σ = r at m2
  have vz := VC.sz z2 (VC.sz z1 h2)
  have wzz : ∀ z : Int32, WF B ((((σ.1.1, σ.1.2.1, σ.1.2.2.1, z), σ.2.1, σ.2.2.1, σ.2.2.2.1, σ.2.2.2.2.1, σ.2.2.2.2.2.1, σ.2.2.2.2.2.2)) : sg) := fun z => by
    obtain ⟨w1, w2, w3, w4, w5, w6, w7, w8, w9, w10, w11, w12⟩ := h1
    exact ⟨w1, w2, w3, w4, w5, w6, w7, w8, w9, w10, w11, w12⟩
  have vc := VC.cf (p := 1) 2 c r vz (by decide)
  have wc := wf_cf (wzz z2) (w := 2) (c := c) (v := r) m1 (by decide) (show r ≤ sR σ - 1 by omega)
  have mz := VM.sz z2 (VM.sz z1 h3 h1) (wzz z1)
  have mc := VM.cf 2 c r mz (wzz z2) m1 (by decide)
  refine ⟨_, pm_up (pm_up (pm_up D 1 3 z1) 1 3 z2) 1 (66 + 4 * c + 2) (nI r), _, ?_, fun k => ?_, ⟨wc, vc, ?_⟩, rfl, rfl, rfl, fun q hq => ?_, ((FDm.up1 (by decide)).trans (FDm.up1 (by decide))).trans (FDm.up1 (by omega))⟩
  · unfold f_X5_scatter f_X5_draw
    have q1 : C 1 4 * 1103515245 + 12345 = z1 := by rw [c4]; exact hz1
    rw [h2.2.1, if_neg (show ¬ nI (sC σ) ≤ 0 from nle (b := 0) (by omega) (by decide) hc), let_s, b2_s, q1, up_s, e1, up_k (show 1 + 13 ≠ 1 by decide), h2.2.1, rest_nI (by omega) hc (by omega), b2_s, let_s, b2_s, up_s, show z1 * 1103515245 + 12345 = z2 from hz2, up_s, e2, up_k (show 1 + 1 ≠ 1 by decide), up_k (show 1 + 1 ≠ 1 by decide), h2.1, rest_nI (by omega) hR (by omega), b2_s, hc', hr', chk_t (in_nI (n := c) (by omega) (by decide)), let_s, nI_clamp (n := c) (by omega)]
  · unfold lo_dr f_X8_drawn
    have q1 : D 1 3 * 1103515245 + 12345 = z1 := by rw [d3]; exact hz1
    have rm1 : pm_rem (nI v1) (nI (sC σ)) = nI c := by rw [← hc']; exact pk_rem (by omega) hc (by omega)
    have rm2 : pm_rem (nI v2) (nI (sR σ)) = nI r := by rw [← hr']; exact pk_rem (by omega) hR (by omega)
    rw [tn3, tn_1, tn_0, let_s, b2_s, q1, up_s, e1, up_i (show (1 : Nat) ≠ 3 by decide), h3.2.1, chk_t (nz_t (show ¬ nI (sC σ) = 0 from nne (b := 0) (by omega) (by decide) (by omega))), let_s, rm1, let_s, b2_s, show z1 * 1103515245 + 12345 = z2 from hz2, up_s, e2, up_i (show (0 : Nat) ≠ 3 by decide), up_i (show (0 : Nat) ≠ 3 by decide), h3.1, chk_t (nz_t (show ¬ nI (sR σ) = 0 from nne (b := 0) (by omega) (by decide) (by omega))), rm2, ix66 c 2 2 rfl, chk_t (in_nI (n := 66 + 4 * c + 2) (by omega) (by decide)), let_s, nI_clamp (n := 66 + 4 * c + 2) (by omega)]
  · rw [pm_up_s, pm_up_s, pm_up_s]; exact mc
  · rw [pm_up_o q (by omega), pm_up_o q (by omega), pm_up_o q (by omega)]
theorem lo_loop {L : Nat} (hL : L ≤ 40) : ∀ (d i B : Nat) (C D : pm_M) (σ : sg), i + d = L → B + d + 1 < 2 ^ 19 → DVs 1 B C D σ → ∀ n m : Nat, ∃ (C' D' : pm_M) (τ : sg) (B' : Nat), pm_it (fun _ _ => none) (lb_X7_loose_39 (nI L)) (n + d + 1) (nI i) C = some C' ∧ pm_it (fun _ _ => none) (lb_X8_loose_40 (nI L)) (m + d + 1) (nI i) D = some D' ∧ DVs 1 B' C' D' τ ∧ sD τ = sD σ + d ∧ (∀ q, (q < 1 ∨ 1 + 30 ≤ q) → C' q = C q) ∧ FDm D D' := by
  intro d
  induction d with
  | zero =>
    intro i B C D σ hi hB h n m
    refine ⟨C, D, σ, B, ?_, ?_, h, rfl, fun _ _ => rfl, FDm.refl D⟩
    · show lb_X7_loose_39 (nI L) _ (nI i) C = _
      rw [lb_X7_loose_39.eq_1, if_pos (yle (by omega) (by omega) (by omega))]
    · show lb_X8_loose_40 (nI L) _ (nI i) D = _
      rw [lb_X8_loose_40.eq_1, if_pos (yle (by omega) (by omega) (by omega))]
  | succ d ih =>
    intro i B C D σ hi hB h n m
    have h5 : sC σ ≤ 5 := h.1.2.1
    have both : ∃ C1 D1 τ, (∀ ih, lb_X7_loose_39 (nI L) ih (nI i) C = pm_b1 (f_X5_passDays 1 C1 1) (fun M => ih (nI (i + 1)) M)) ∧ (∀ ih, lb_X8_loose_40 (nI L) ih (nI i) D = pm_b1 (f_X8_dayGoes D1) (fun M => ih (nI (i + 1)) M)) ∧ DVs 1 B C1 D1 τ ∧ sD τ = sD σ ∧ (∀ q, (q < 1 ∨ 1 + 30 ≤ q) → C1 q = C q) ∧ FDm D D1 := by
      by_cases c : 0 < sC σ
      · obtain ⟨C1, D1, τ, a1, a2, a3, -, -, a4, a5, a6⟩ := scat_eq h c
        refine ⟨C1, D1, τ, fun ih => ?_, fun ih => ?_, a3, a4, a5, a6⟩
        · rw [lb_X7_loose_39.eq_1, if_neg (nle (a := L) (b := i) (by omega) (by omega) (by omega)), a1, b1_s, nI_p1]
        · rw [lb_X8_loose_40.eq_1, if_neg (nle (a := L) (b := i) (by omega) (by omega) (by omega)), if_neg (show ¬ D 1 (1 : Int32).toNatClampNeg ≤ 0 by rw [tn_1, h.2.2.2.1]; exact nle (b := 0) (by omega) (by decide) c), nI_p1]
          exact a2 (fun M => pm_b1 (f_X8_dayGoes M) (fun M => ih (nI (i + 1)) M))
      · have c0 : sC σ = 0 := by omega
        refine ⟨C, D, σ, fun ih => ?_, fun ih => ?_, h, rfl, fun _ _ => rfl, FDm.refl D⟩
        · rw [lb_X7_loose_39.eq_1, if_neg (nle (a := L) (b := i) (by omega) (by omega) (by omega))]
          unfold f_X5_scatter
          rw [h.2.1.2.1, if_pos (show nI (sC σ) ≤ 0 by rw [c0]; decide), b1_s, nI_p1]
        · rw [lb_X8_loose_40.eq_1, if_neg (nle (a := L) (b := i) (by omega) (by omega) (by omega)), if_pos (show D 1 (1 : Int32).toNatClampNeg ≤ 0 by rw [tn_1, h.2.2.2.1, c0]; decide), nI_p1]
    obtain ⟨C1, D1, τ, a1, a2, a3, a4, a5, a6⟩ := both
    obtain ⟨C2, D2, υ, b1, b2, b3, b4, b5, b6, -⟩ := day1_eq (by omega) a3
    obtain ⟨C', D', ω, B', e1, e2, e3, e4, e5, e6⟩ := ih (i + 1) (B + 1) C2 D2 υ (by omega) (by omega) b3 n m
    refine ⟨C', D', ω, B', ?_, ?_, e3, by rw [e4, b4.2.2.1, a4]; omega, fun q hq => (e5 q hq).trans ((b5 q hq).trans (a5 q hq)), (a6.trans b6).trans e6⟩
    · show lb_X7_loose_39 (nI L) (pm_it (fun _ _ => none) (lb_X7_loose_39 (nI L)) (n + d + 1)) (nI i) C = _
      rw [a1, b1, b1_s]; exact e1
    · show lb_X8_loose_40 (nI L) (pm_it (fun _ _ => none) (lb_X8_loose_40 (nI L)) (m + d + 1)) (nI i) D = _
      rw [a2, b2, b1_s]; exact e2
theorem e_loose {C D : pm_M} (h : RR C D) (x1 : Int32) : ∃ (r : Int32) (C' D' : pm_M), f_X7_loose C x1 = some (r, C') ∧ f_X8_loose D x1 = some (r, D') ∧ RR C' D' := by
  obtain ⟨⟨σ, h1, h2, h3⟩, h4⟩ := id h
  have hD : sD σ ≤ 9999 := h1.2.2.2.1
  unfold f_X7_loose f_X8_loose
  rw [x7_within, x8_in, b2_s, b2_s, if_bi, if_bi, i64, li1, li40, ll1, ll40, tn_2]
  by_cases hv : 1 ≤ x1.toInt ∧ x1.toInt ≤ 40
  · obtain ⟨L, -, hL, rfl⟩ := vx (lo := 1) (hi := 40) (by decide) hv
    rw [if_pos hv, if_pos hv, h2.2.2.1, h3.2.2.1, nI_add]
    by_cases le : sD σ + L ≤ 9999
    · have le' : nI (sD σ + L) ≤ 9999 := yle (b := 9999) (by omega) (by decide) le
      obtain ⟨C', D', τ, B', e1, e2, e3, e4, e5, e6⟩ := lo_loop hL L 0 9999 C D σ (by omega) (by omega) ⟨h1, h2, h3⟩ (99999 - L) (99999 - L)
      rw [pm_F_s _ (by omega)] at e1 e2
      obtain ⟨r, s1, s2⟩ := sum_eqp (w := 2) e3.1 e3.2.1 e3.2.2 (by decide)
      rw [if_pos le', if_pos le', show lp_X7_loose_39 (nI L) 0 C = some C' from e1, b1_s, show lp_X8_loose_40 (nI L) 0 D = some D' from e2, b1_s, show f_X3_sum (1 + 1) C' (1 + 1 + 3) = some (r, C') from s1, b2_s, show f_X8_all D' 2 = some (r, D') from s2, b2_s]
      exact ⟨_, _, _, rfl, rfl, h.days e3 (by rw [e4]; exact le) e5 e6⟩
    · have le' : ¬ nI (sD σ + L) ≤ 9999 := nle (b := 9999) (by omega) (by decide) (by omega)
      rw [if_neg le', if_neg le', x7_e3, x8_e3, b2_s, b2_s]
      exact ⟨_, _, _, rfl, rfl, h.err 3⟩
  · rw [if_neg hv, if_neg hv, x7_e1, x8_e1, b2_s, b2_s]
    exact ⟨_, _, _, rfl, rfl, h.err 1⟩
