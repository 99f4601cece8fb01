set_option maxHeartbeats 2000000 in
theorem e_cloud {C D : pm_M} (h : RR C D) (x1 : Int32) (x2 : Int32) : ∃ (r : Int32) (C' D' : pm_M), f_X7_cloud C x1 x2 = some (r, C') ∧ f_X8_cloud D x1 x2 = some (r, D') ∧ RR C' D' := by
  obtain ⟨⟨σ, h1, h2, h3⟩, h4⟩ := id h
  have hR : sR σ ≤ 6 := h1.1
  have hC : sC σ ≤ 5 := h1.2.1
  have eC : C (1 + 13) 0 = nI (sC σ) := h2.2.1
  have eD : D 1 1 = nI (sC σ) := h3.2.1
  unfold f_X7_cloud f_X8_cloud
  rw [x7_isKindAndM, x8_in, b2_s, b2_s, if_bi, if_bi, i64, ll0, ll69]
  by_cases hv : 0 ≤ x1.toInt ∧ x1.toInt ≤ 69
  · obtain ⟨v, -, hv2, rfl⟩ := vx (lo := 0) (hi := 69) (by decide) hv
    rw [if_pos hv, if_pos hv, x3_has (n := sR σ) h2.1 (by omega), x8_isRoof (n := sR σ) h3.1 (by omega), b2_s, b2_s, if_bi, if_bi]
    by_cases hc : 0 ≤ x2.toInt ∧ x2.toInt ≤ (sR σ : Int) - 1
    · obtain ⟨a, -, ha, rfl⟩ := vx (lo := 0) (hi := 5) (by decide) (x := x2) (by omega)
      have haR : a < sR σ := by have := hc.2; rw [nI_toInt (by omega)] at this; omega
      rw [if_pos hc, if_pos hc, tn_1, eC, eD]
      by_cases h6 : sC σ < 5
      · rw [if_pos (show nI (sC σ) < 5 from ylt (b := 5) (by omega) (by decide) h6), if_neg (show ¬ nI (sC σ) = 5 from nne (b := 5) (by omega) (by decide) (by omega))]
        unfold f_X0_add
        rw [eC, x0_setKind h6 hv2, b1_s]
        rw [up_k (k := 1 + 13 + 2) (k' := 1 + 13) (by decide), up_k (k := 1 + 13 + 1) (k' := 1 + 13) (by decide), eC, chk_t (in_nI (n := sC σ) h6 (by decide)), let_s, nI_clamp (n := sC σ) (by omega)]
        rw [up_k (k := 1 + 13 + 3) (k' := 1 + 13) (by decide), up_k (k := 1 + 13 + 2) (k' := 1 + 13) (by decide), up_k (k := 1 + 13 + 1) (k' := 1 + 13) (by decide), eC, chk_t (in_nI (n := sC σ) h6 (by decide)), let_s, nI_clamp (n := sC σ) (by omega), let_s, b2_s]
        rw [up_k (k := 1 + 13 + 4) (k' := 1 + 13) (by decide), up_k (k := 1 + 13 + 3) (k' := 1 + 13) (by decide), up_k (k := 1 + 13 + 2) (k' := 1 + 13) (by decide), up_k (k := 1 + 13 + 1) (k' := 1 + 13) (by decide), eC, up_s, nI_p1, nI_m1]
        have ix : ∀ (w : Nat) (z : Int32), z = nI w → (66 + 4 * nI (sC σ)) + z = nI (66 + 4 * sC σ + w) := fun w z hz => ix66 (sC σ) w z hz
        rw [let_s, ix 0 0 rfl, ix 1 1 rfl, ix 2 2 rfl, ix 3 3 rfl, chk_t (in_nI (n := 66 + 4 * sC σ + 0) (by omega) (by decide)), let_s, chk_t (in_nI (n := 66 + 4 * sC σ + 1) (by omega) (by decide)), let_s, chk_t (in_nI (n := 66 + 4 * sC σ + 2) (by omega) (by decide)), let_s, chk_t (in_nI (n := 66 + 4 * sC σ + 3) (by omega) (by decide)), let_s, let_s, nI_clamp (n := 66 + 4 * sC σ + 0) (by omega), nI_clamp (n := 66 + 4 * sC σ + 1) (by omega), nI_clamp (n := 66 + 4 * sC σ + 2) (by omega), nI_clamp (n := 66 + 4 * sC σ + 3) (by omega)]
        rw [up_s, up_i (i' := 1) (i := 66 + 4 * sC σ + 3) (by omega), up_i (i' := 1) (i := 66 + 4 * sC σ + 2) (by omega), up_i (i' := 1) (i := 66 + 4 * sC σ + 1) (by omega), up_i (i' := 1) (i := 66 + 4 * sC σ + 0) (by omega), eD, nI_p1, nI_m1, nI_q10 hv2, nI_r10 hv2]
        obtain ⟨b1, b2, b3, b4, b5, b6, b7, b8, b9, b10, b11, b12⟩ := h1
        have wn : WF 9999 ((σ.1.1, sC σ + 1, σ.1.2.2.1, σ.1.2.2.2), σ.2.1, σ.2.2.1, f2 (f2 (f2 (f2 σ.2.2.2.1 0 (sC σ) (v / 10)) 1 (sC σ) (v % 10)) 2 (sC σ) a) 3 (sC σ) 0, σ.2.2.2.2.1, σ.2.2.2.2.2.1, σ.2.2.2.2.2.2) := by
          refine ⟨b1, h6, fun _ => (by show 0 < sR σ; omega), b4, b5, b6, b7, b8, fun w c hc hw => ?_, b10, b11, b12⟩
          have hc : c < sC σ + 1 := hc
          show f2 (f2 (f2 (f2 σ.2.2.2.1 0 (sC σ) (v / 10)) 1 (sC σ) (v % 10)) 2 (sC σ) a) 3 (sC σ) 0 w c ≤ cf_most w (sR σ)
          by_cases e : c = sC σ
          · subst e
            have : w = 0 ∨ w = 1 ∨ w = 2 ∨ w = 3 := by omega
            rcases this with rfl | rfl | rfl | rfl
            · rw [f2_n (by omega), f2_n (by omega), f2_n (by omega), f2_s]; show v / 10 ≤ 6; omega
            · rw [f2_n (by omega), f2_n (by omega), f2_s]; show v % 10 ≤ 9; omega
            · rw [f2_n (by omega), f2_s]; show a ≤ sR σ - 1; omega
            · rw [f2_s]; exact Nat.zero_le _
          · rw [f2_n (by omega), f2_n (by omega), f2_n (by omega), f2_n (by omega)]; exact b9 w c (by omega) hw
        refine ⟨_, _, _, rfl, rfl, h.now wn ?_ ?_ (fun q hq => (pm_up_o q (by omega)).trans ((pm_up_o q (by omega)).trans ((pm_up_o q (by omega)).trans ((pm_up_o q (by omega)).trans (pm_up_o q (by omega)))))) (fun q hq => (pm_up_o q hq).trans ((pm_up_o q hq).trans ((pm_up_o q hq).trans ((pm_up_o q hq).trans (pm_up_o q hq)))))⟩
        · refine h2.clouds (sC σ + 1) _ (fun q hq => (pm_up_o q (by omega)).trans ((pm_up_o q (by omega)).trans ((pm_up_o q (by omega)).trans ((pm_up_o q (by omega)).trans (pm_up_o q (by omega)))))) up_s (fun w c hw hc => ?_)
          rw [up_k (by omega)]
          by_cases e : c = sC σ
          · subst e
            have : w = 0 ∨ w = 1 ∨ w = 2 ∨ w = 3 := by omega
            rcases this with rfl | rfl | rfl | rfl
            · rw [up_k (by omega), up_k (by omega), up_k (by omega), f2_n (by omega), f2_n (by omega), f2_n (by omega), f2_s]; exact up_s
            · rw [up_k (by omega), up_k (by omega), f2_n (by omega), f2_n (by omega), f2_s]; exact up_s
            · rw [up_k (by omega), f2_n (by omega), f2_s]; exact up_s
            · rw [f2_s]; exact up_s
          · rw [f2_n (by omega), f2_n (by omega), f2_n (by omega), f2_n (by omega), ← h2.2.2.2.2.2.2.2.2.1 w c hw (by omega)]
            have t : ∀ (M : pm_M) (k : Nat) (x : Int32), pm_up M k (sC σ) x (1 + 14 + w) c = M (1 + 14 + w) c := fun M k x => by simp [pm_up, e]
            rw [t, t, t, t]
        · rw [pm_up_s, pm_up_s, pm_up_s, pm_up_s, pm_up_s]
          refine h3.clouds (B := 9999) ⟨b1, b2, b3, b4, b5, b6, b7, b8, b9, b10, b11, b12⟩ (sC σ + 1) _ (fun i hi hj => ?_) upd_s (fun c w hc hw => ?_)
          · rw [upd_n (by omega), upd_n (by omega), upd_n (by omega), upd_n (by omega), upd_n (by omega)]
          · rw [upd_n (by omega)]
            by_cases e : c = sC σ
            · subst e
              have : w = 0 ∨ w = 1 ∨ w = 2 ∨ w = 3 := by omega
              rcases this with rfl | rfl | rfl | rfl
              · rw [upd_n (by omega), upd_n (by omega), upd_n (by omega), upd_s, f2_n (by omega), f2_n (by omega), f2_n (by omega), f2_s]
              · rw [upd_n (by omega), upd_n (by omega), upd_s, f2_n (by omega), f2_n (by omega), f2_s]
              · rw [upd_n (by omega), upd_s, f2_n (by omega), f2_s]
              · rw [upd_s, f2_s]; rfl
            · rw [upd_n (by omega), upd_n (by omega), upd_n (by omega), upd_n (by omega), f2_n (by omega), f2_n (by omega), f2_n (by omega), f2_n (by omega)]
              exact h3.2.2.2.2.2.2.2.2.1 c w (by omega) hw
      · have e : sC σ = 5 := by omega
        rw [if_neg (show ¬ nI (sC σ) < 5 from nlt (b := 5) (by omega) (by decide) (by omega)), if_pos (show nI (sC σ) = 5 by rw [e]; rfl), x7_e4, x8_e4, b2_s, b2_s]
        exact ⟨_, _, _, rfl, rfl, h.err 4⟩
    · rw [if_neg hc, if_neg hc, x7_e1, x8_e1, b2_s, b2_s]
      exact ⟨_, _, _, rfl, rfl, h.err 1⟩
  · rw [if_neg hv, if_neg hv, x7_e1, x8_e1, b2_s, b2_s]
    exact ⟨_, _, _, rfl, rfl, h.err 1⟩
set_option maxHeartbeats 2000000 in
theorem lea {C D : pm_M} (h : RR C D) {σ : sg} (h1 : WF 9999 σ) (h2 : VC C 1 σ) (h3 : VM (D 1) σ) {w a N : Nat} (hw : w < 2) (haC : a < sC σ) (x3 z most : Int32) (m64 : Int64) (hz : z = nI w) (hm : most.toInt = N) (hm4 : m64.toInt = N) (hN : cf_most (2 + w) (sR σ) = N) (hN2 : N < 2 ^ 30) :
    ∃ (r : Int32) (C' D' : pm_M), (pm_b2 (f_X7_replace C 5 (1 + 14 + (2 + w)) (nI a) x3 most) (fun (r8 : Int32) (M7 : pm_M) => (some (r8, M7)))) = some (r, C') ∧
    (pm_b2 (f_X8_in D (x3.toInt64) 0 m64) (fun (r10 : Int32) (M9 : pm_M) => (if r10 = 0 then (pm_b2 (f_X8_finds M9 1) (fun (r12 : Int32) (M11 : pm_M) => (some (r12, M11)))) else (pm_b2 (f_X8_of M9 (nI a) (2 + z)) (fun (r14 : Int32) (M13 : pm_M) => (pm_chk (pm_in (((66 + (4 * nI a)) + 2) + z) 258) (pm_let (pm_up M13 1 (((66 + (4 * nI a)) + 2) + z).toNatClampNeg x3) (fun M15 : pm_M => (some (r14, M15)))))))))) = some (r, D') ∧ RR C' D' := by
  have hC : sC σ ≤ 5 := h1.2.1
  subst hz
  rw [x8_in, b2_s, if_bi, i64, hm4, ll0, x7_replace (by omega) (by decide), hm]
  by_cases hv : 0 ≤ x3.toInt ∧ x3.toInt ≤ (N : Int)
  · obtain ⟨v, -, hv2, rfl⟩ := vx (lo := 0) (hi := N) (by omega) hv
    rw [if_pos hv, if_pos hv, b2_s, x8_of (c := a) (w := 2 + w) (z := 2 + nI w) (nI_add 2 w) (by omega) (by omega), b2_s, ix66 a 2 2 rfl, nI_add, show 66 + 4 * a + 2 + w = 66 + 4 * a + (2 + w) by omega, chk_t (in_nI (n := 66 + 4 * a + (2 + w)) (by omega) (by decide)), let_s, nI_clamp (n := 66 + 4 * a + (2 + w)) (by omega), cf_eq h2 h3 (by omega) haC]
    refine ⟨_, _, _, rfl, rfl, h.now (wf_cf h1 haC (w := 2 + w) (by omega) (by rw [hN]; exact hv2)) ?_ ?_ (fun q hq => pm_up_o q (by omega)) (fun q hq => pm_up_o q hq)⟩
    · exact h2.cf (2 + w) a v (by omega)
    · rw [pm_up_s]; exact h3.cf (2 + w) a v h1 haC (by omega)
  · rw [if_neg hv, if_neg hv, x8_e1, b2_s, b2_s]
    exact ⟨_, _, _, rfl, rfl, h.err 1⟩
set_option maxHeartbeats 2000000 in
theorem e_lead {C D : pm_M} (h : RR C D) (x1 : Int32) (x2 : Int32) (x3 : Int32) : ∃ (r : Int32) (C' D' : pm_M), f_X7_lead C x1 x2 x3 = some (r, C') ∧ f_X8_lead D x1 x2 x3 = some (r, D') ∧ RR C' D' := by
  obtain ⟨⟨σ, h1, h2, h3⟩, h4⟩ := id h
  have hR : sR σ ≤ 6 := h1.1
  have hC : sC σ ≤ 5 := h1.2.1
  have eC : C (1 + 1) 0 = nI (sR σ) := h2.1
  have eD : D 1 0 = nI (sR σ) := h3.1
  unfold f_X7_lead f_X8_lead
  rw [x0_has (p := 1 + 13) (n := sC σ) h2.2.1 (by omega), x8_isCloud (n := sC σ) h3.2.1 (by omega), b2_s, b2_s, if_bi, if_bi]
  by_cases hc : 0 ≤ x1.toInt ∧ x1.toInt ≤ (sC σ : Int) - 1
  · obtain ⟨a, -, ha, rfl⟩ := vx (lo := 0) (hi := 4) (by decide) (x := x1) (by omega)
    have haC : a < sC σ := by have := hc.2; rw [nI_toInt (by omega)] at this; omega
    have hR0 : 0 < sR σ := h1.2.2.1 (by omega)
    rw [if_pos hc, if_pos hc, x8_in, b2_s, if_bi, i64, ll0, ll1]
    by_cases hv : 0 ≤ x2.toInt ∧ x2.toInt ≤ 1
    · rw [if_pos hv]
      obtain ⟨w, -, hw, rfl⟩ := vx (lo := 0) (hi := 1) (by decide) hv
      have : w = 0 ∨ w = 1 := by omega
      have em : (nI (sR σ) - 1).toInt = ((sR σ - 1 : Nat) : Int) := by rw [m1_toInt (by omega)]; omega
      rcases this with rfl | rfl
      · rw [if_pos (show nI 0 = 0 from rfl), if_pos (show nI 0 = 0 from rfl), tn_0, eC, eD]
        exact lea h h1 h2 h3 (w := 0) (by decide) haC x3 (nI 0) (nI (sR σ) - 1) _ rfl (N := sR σ - 1) em (by rw [i64, em]) rfl (by omega)
      · rw [if_neg (show ¬ nI 1 = 0 by decide), if_neg (show ¬ nI 1 = 0 by decide), if_pos (show nI 1 = 1 from rfl)]
        exact lea h h1 h2 h3 (w := 1) (by decide) haC x3 (nI 1) 99 99 rfl (N := 99) rfl rfl rfl (by decide)
    · have n0 : ¬ x2 = 0 := fun e => hv (by rw [e]; decide)
      have n1 : ¬ x2 = 1 := fun e => hv (by rw [e]; decide)
      rw [if_neg n0, if_neg n1, if_neg hv, x7_e1, x8_e1, b2_s, b2_s]
      exact ⟨_, _, _, rfl, rfl, h.err 1⟩
  · rw [if_neg hc, if_neg hc, x7_e1, x8_e1, b2_s, b2_s]
    exact ⟨_, _, _, rfl, rfl, h.err 1⟩
