theorem nI_inj {a b : Nat} (ha : a < 2 ^ 31) (hb : b < 2 ^ 31) (h : nI a = nI b) : a = b := by
  have := congrArg Int32.toInt h
  rw [nI_toInt ha, nI_toInt hb] at this; omega
set_option maxHeartbeats 4000000 in
theorem feed_loop (x : Int64) {L : Nat} (hL : L ≤ 8) : ∀ (d i t : Nat) (C D : pm_M), RR C D → C 1 6 = nI t → t + d ≤ 50 → i + d = L → ∀ n m : Nat, ∃ (C' D' : pm_M), pm_it (fun _ _ => none) (lb_X7_feed_39 x (nI L)) (n + d + 1) (nI i) C = some C' ∧ pm_it (fun _ _ => none) (lb_X8_feed_40 x (nI L)) (m + d + 1) (nI i) D = some D' ∧ RR C' D' := by
  intro d
  induction d with
  | zero =>
    intro i t C D h ht hb hi n m
    refine ⟨C, D, ?_, ?_, h⟩
    · show lb_X7_feed_39 x (nI L) _ (nI i) C = _
      rw [lb_X7_feed_39.eq_1, if_pos (yle (by omega) (by omega) (by omega))]
    · show lb_X8_feed_40 x (nI L) _ (nI i) D = _
      rw [lb_X8_feed_40.eq_1, if_pos (yle (by omega) (by omega) (by omega))]
  | succ d ih =>
    intro i t C D h ht hb hi n m
    obtain ⟨⟨σ, h1, h2, h3⟩, h4⟩ := id h
    have hlen : (sP σ).length ≤ 50 := h1.2.2.2.2.2.2.2.2.2.2.1
    have eC : C 1 6 = nI (sP σ).length := h2.2.2.2.2.1
    have eD : D 1 4 = nI (sP σ).length := h3.2.2.2.2.1
    have et : (sP σ).length = t := nI_inj (by omega) (by omega) (eC.symm.trans ht)
    have w1 : ∀ y : Int32, WF 9999 (σ.1, σ.2.1, σ.2.2.1, σ.2.2.2.1, σ.2.2.2.2.1, σ.2.2.2.2.2.1 ++ [y], σ.2.2.2.2.2.2) := by
      intro y
      obtain ⟨b1, b2, b3, b4, b5, b6, b7, b8, b9, b10, b11, b12⟩ := h1
      refine ⟨b1, b2, b3, b4, b5, b6, b7, b8, b9, b10, ?_, b12⟩
      show (sP σ ++ [y]).length ≤ 50
      rw [List.length_append, List.length_singleton]; omega
    have hr : ∀ y : Int32, RR (pm_up (pm_up C (1 + 25) (sP σ).length y) 1 6 (nI ((sP σ).length + 1))) (pm_up (pm_up D 1 (208 + (sP σ).length) y) 1 4 (nI ((sP σ).length + 1))) := fun y => h.now (w1 y) (h2.pp y) (by rw [pm_up_s, pm_up_s]; exact h3.pp y h1 (by omega)) (fun q hq => (pm_up_o q (by omega)).trans (pm_up_o q (by omega))) (fun q hq => (pm_up_o q hq).trans (pm_up_o q hq))
    obtain ⟨C', D', e1, e2, e3⟩ := ih (i + 1) (t + 1) _ _ (hr ((((x >>> ((8 * nI i).toInt64 &&& 63)) &&& 255).toInt32))) (by rw [up_s, et]) (by omega) (by omega) n m
    refine ⟨C', D', ?_, ?_, e3⟩
    · show lb_X7_feed_39 x (nI L) (pm_it (fun _ _ => none) (lb_X7_feed_39 x (nI L)) (n + d + 1)) (nI i) C = _
      rw [lb_X7_feed_39.eq_1, if_neg (nle (a := L) (b := i) (by omega) (by omega) (by omega)), byte_eq x (by omega), eC, chk_t (in_nI (n := (sP σ).length) (by omega) (by decide)), let_s, let_s, nI_clamp (n := (sP σ).length) (by omega), up_k (k := 1 + 25) (k' := 1) (by decide), eC, nI_p1, nI_p1]
      exact e1
    · show lb_X8_feed_40 x (nI L) (pm_it (fun _ _ => none) (lb_X8_feed_40 x (nI L)) (m + d + 1)) (nI i) D = _
      rw [lb_X8_feed_40.eq_1, if_neg (nle (a := L) (b := i) (by omega) (by omega) (by omega)), tn_4, eD, show (208 : Int32) + nI (sP σ).length = nI (208 + (sP σ).length) from nI_add 208 _, chk_t (in_nI (n := 208 + (sP σ).length) (by omega) (by decide)), let_s, let_s, nI_clamp (n := 208 + (sP σ).length) (by omega), up_i (i := 208 + (sP σ).length) (i' := 4) (by omega), eD, nI_p1, nI_p1]
      exact e2
theorem RR.tape {C D : pm_M} (h : RR C D) : C 1 6 = D 1 4 := by
  obtain ⟨⟨σ, h1, h2, h3⟩, h4⟩ := h
  exact h2.2.2.2.2.1.trans h3.2.2.2.2.1.symm
set_option maxHeartbeats 4000000 in
theorem e_feed {C D : pm_M} (h : RR C D) (x1 : Int64) (x2 : Int32) : ∃ (r : Int32) (C' D' : pm_M), f_X7_feed C x1 x2 = some (r, C') ∧ f_X8_feed D x1 x2 = some (r, D') ∧ RR C' D' := by
  obtain ⟨⟨σ, h1, h2, h3⟩, h4⟩ := id h
  have hlen : (sP σ).length ≤ 50 := h1.2.2.2.2.2.2.2.2.2.2.1
  have eC : C 1 6 = nI (sP σ).length := h2.2.2.2.2.1
  have eD : D 1 4 = nI (sP σ).length := h3.2.2.2.2.1
  unfold f_X7_feed f_X8_feed
  rw [x7_within, x8_in, b2_s, b2_s, if_bi, if_bi, i64, li1, li8, ll1, ll8, tn_4, eC, eD]
  by_cases hv : 1 ≤ x2.toInt ∧ x2.toInt ≤ 8
  · rw [if_pos hv, if_pos hv]
    obtain ⟨L, hL1, hL, rfl⟩ := vx (lo := 1) (hi := 8) (by decide) hv
    rw [nI_add]
    by_cases hl : (sP σ).length + L ≤ 50
    · rw [if_pos (show nI ((sP σ).length + L) ≤ 50 from yle (b := 50) (by omega) (by decide) hl), if_pos (show nI ((sP σ).length + L) ≤ 50 from yle (b := 50) (by omega) (by decide) hl)]
      obtain ⟨C', D', e1, e2, e3⟩ := feed_loop x1 hL L 0 (sP σ).length C D h eC (by omega) (by omega) (99999 - L) (99999 - L)
      rw [pm_F_s _ (by omega)] at e1 e2
      rw [show lp_X7_feed_39 x1 (nI L) 0 C = some C' from e1, show lp_X8_feed_40 x1 (nI L) 0 D = some D' from e2, b1_s, b1_s, e3.tape]
      exact ⟨_, _, _, rfl, rfl, e3⟩
    · rw [if_neg (show ¬ nI ((sP σ).length + L) ≤ 50 from nle (b := 50) (by omega) (by decide) (by omega)), if_neg (show ¬ nI ((sP σ).length + L) ≤ 50 from nle (b := 50) (by omega) (by decide) (by omega)), x7_e4, x8_e4, b2_s, b2_s]
      exact ⟨_, _, _, rfl, rfl, h.err 4⟩
  · rw [if_neg hv, if_neg hv, x7_e1, x8_e1, b2_s, b2_s]
    exact ⟨_, _, _, rfl, rfl, h.err 1⟩
