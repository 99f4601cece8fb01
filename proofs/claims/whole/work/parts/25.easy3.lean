theorem VC.clouds {C C' : pm_M} {p : Nat} {σ : sg} (h : VC C p σ) (n : Nat) (f : Nat → Nat → Nat) (e : ∀ q, (q < p + 13 ∨ p + 17 < q) → C' q = C q) (e0 : C' (p + 13) 0 = nI n) (e1 : ∀ w c, w < 4 → c < n → C' (p + 14 + w) c = nI (f w c)) : VC C' p ((σ.1.1, n, σ.1.2.2.1, σ.1.2.2.2), σ.2.1, σ.2.2.1, f, σ.2.2.2.2.1, σ.2.2.2.2.2.1, σ.2.2.2.2.2.2) := by
  obtain ⟨h1, h2, h3, h4, h5, h6, h7, h8, h9, h10, h11, h12⟩ := h
  exact ⟨by rw [e _ (by omega)]; exact h1, e0, by rw [e _ (by omega)]; exact h3, by rw [e _ (by omega)]; exact h4, by rw [e _ (by omega)]; exact h5, by rw [e _ (by omega)]; exact h6, fun w r hw hr => by rw [e _ (by omega)]; exact h7 w r hw hr, fun a b ha hb => by rw [e _ (by omega)]; exact h8 a b ha hb, e1, fun i hi => by rw [e _ (by omega)]; exact h10 i hi, fun i hi => by rw [e _ (by omega)]; exact h11 i hi, fun u hu => by
    obtain ⟨g1, g2, cd, g3, g4, g5, g6⟩ := h12 u hu
    exact ⟨by rw [e _ (by omega)]; exact g1, by rw [e _ (by omega)]; exact g2, cd, g3, g4, by rw [e _ (by omega)]; exact g5, fun i hi => by rw [e _ (by omega)]; exact g6 i hi⟩⟩
theorem VM.clouds {g g' : Nat → Int32} {σ : sg} (h : VM g σ) {B : Nat} (hw : WF B σ) (n : Nat) (f : Nat → Nat → Nat) (e : ∀ i, i ≠ 1 → (i < 66 ∨ 86 ≤ i) → g' i = g i) (e0 : g' 1 = nI n) (e1 : ∀ c w, c < n → w < 4 → g' (66 + 4 * c + w) = nI (f w c)) : VM g' ((σ.1.1, n, σ.1.2.2.1, σ.1.2.2.2), σ.2.1, σ.2.2.1, f, σ.2.2.2.2.1, σ.2.2.2.2.2.1, σ.2.2.2.2.2.2) := by
  obtain ⟨h1, h2, h3, h4, h5, h6, h7, h8, h9, h10, h11, h12, h13⟩ := h
  have b1 := hw.1
  exact ⟨by rw [e _ (by omega) (by omega)]; exact h1, e0, by rw [e _ (by omega) (by omega)]; exact h3, by rw [e _ (by omega) (by omega)]; exact h4, by rw [e _ (by omega) (by omega)]; exact h5, by rw [e _ (by omega) (by omega)]; exact h6, fun r w hr hw => by have hr : r < sR σ := hr; rw [e _ (by omega) (by omega)]; exact h7 r w hr hw, fun a b ha hb => by rw [e _ (by omega) (by omega)]; exact h8 a b ha hb, e1, fun u hu => by rw [e _ (by omega) (by omega)]; exact h10 u hu, fun i hi => by rw [e _ (by omega) (by omega)]; exact h11 i hi, fun u i hu hi => by rw [e _ (by omega) (by omega)]; exact h12 u i hu hi, fun i hi => by rw [e _ (by omega) (by omega)]; exact h13 i hi⟩
theorem VC.roofs {C C' : pm_M} {p : Nat} {σ : sg} (h : VC C p σ) (n : Nat) (f : Nat → Nat → Nat) (e : ∀ q, (q < p + 1 ∨ p + 5 < q) → C' q = C q) (e0 : C' (p + 1) 0 = nI n) (e1 : ∀ w r, w < 4 → r < 6 → C' (p + 2 + w) r = nI (f w r)) : VC C' p ((n, σ.1.2.1, σ.1.2.2.1, σ.1.2.2.2), f, σ.2.2.1, σ.2.2.2.1, σ.2.2.2.2.1, σ.2.2.2.2.2.1, σ.2.2.2.2.2.2) := by
  obtain ⟨h1, h2, h3, h4, h5, h6, h7, h8, h9, h10, h11, h12⟩ := h
  exact ⟨e0, by rw [e _ (by omega)]; exact h2, by rw [e _ (by omega)]; exact h3, by rw [e _ (by omega)]; exact h4, by rw [e _ (by omega)]; exact h5, by rw [e _ (by omega)]; exact h6, e1, fun a b ha hb => by rw [e _ (by omega)]; exact h8 a b ha hb, fun w c hw hc => by rw [e _ (by omega)]; exact h9 w c hw hc, fun i hi => by rw [e _ (by omega)]; exact h10 i hi, fun i hi => by rw [e _ (by omega)]; exact h11 i hi, fun u hu => by
    obtain ⟨g1, g2, cd, g3, g4, g5, g6⟩ := h12 u hu
    exact ⟨by rw [e _ (by omega)]; exact g1, by rw [e _ (by omega)]; exact g2, cd, g3, g4, by rw [e _ (by omega)]; exact g5, fun i hi => by rw [e _ (by omega)]; exact g6 i hi⟩⟩
theorem VM.roofs {g g' : Nat → Int32} {σ : sg} (h : VM g σ) (n : Nat) (f : Nat → Nat → Nat) (e : ∀ i, i ≠ 0 → (i < 6 ∨ 30 ≤ i) → g' i = g i) (e0 : g' 0 = nI n) (e1 : ∀ r w, r < n → w < 4 → g' (6 + 4 * r + w) = nI (f w r)) : VM g' ((n, σ.1.2.1, σ.1.2.2.1, σ.1.2.2.2), f, σ.2.2.1, σ.2.2.2.1, σ.2.2.2.2.1, σ.2.2.2.2.2.1, σ.2.2.2.2.2.2) := by
  obtain ⟨h1, h2, h3, h4, h5, h6, h7, h8, h9, h10, h11, h12, h13⟩ := h
  exact ⟨e0, by rw [e _ (by omega) (by omega)]; exact h2, by rw [e _ (by omega) (by omega)]; exact h3, by rw [e _ (by omega) (by omega)]; exact h4, by rw [e _ (by omega) (by omega)]; exact h5, by rw [e _ (by omega) (by omega)]; exact h6, e1, fun a b ha hb => by rw [e _ (by omega) (by omega)]; exact h8 a b ha hb, fun c w hc hw => by rw [e _ (by omega) (by omega)]; exact h9 c w hc hw, fun u hu => by rw [e _ (by omega) (by omega)]; exact h10 u hu, fun i hi => by rw [e _ (by omega) (by omega)]; exact h11 i hi, fun u i hu hi => by rw [e _ (by omega) (by omega)]; exact h12 u i hu hi, fun i hi => by rw [e _ (by omega) (by omega)]; exact h13 i hi⟩
theorem x0_has {M : pm_M} {p n : Nat} {x : Int32} (h : M p 0 = nI n) (hn : n < 2 ^ 30) : f_X0_has p M x = some (bi (0 ≤ x.toInt ∧ x.toInt ≤ (n : Int) - 1), M) := x3_has h hn
theorem x8_isCloud {M : pm_M} {n : Nat} {x : Int32} (h : M 1 1 = nI n) (hn : n < 2 ^ 30) : f_X8_isCloud M x = some (bi (0 ≤ x.toInt ∧ x.toInt ≤ (n : Int) - 1), M) := by
  unfold f_X8_isCloud
  rw [tn_1, h, x8_in, b2_s, chk_bi, i64, i64, ll0, m1_toInt hn]
theorem x7_isKindAndM {M : pm_M} {x : Int32} : f_X7_isKindAndM M x = some (bi (0 ≤ x.toInt ∧ x.toInt ≤ 69), M) := by
  unfold f_X7_isKindAndM
  rw [x7_within, b2_s, chk_bi, li0, li69]
theorem nI_q10 {v : Nat} (h : v ≤ 69) : nI v / 10 = nI (v / 10) := pk_div (by omega) (by decide) (by decide)
theorem nI_r10 {v : Nat} (h : v ≤ 69) : pm_rem (nI v) 10 = nI (v % 10) := pk_rem (by omega) (by decide) (by decide)
theorem x0_setKind {M : pm_M} {p c v : Nat} (hc : c < 5) (hv : v ≤ 69) : f_X0_setKind p M (nI c) (nI v) = some (pm_up (pm_up M (p + 1) c (nI (v / 10))) (p + 2) c (nI (v % 10))) := by
  unfold f_X0_setKind
  rw [chk_t (in_nI hc (by decide)), let_s, chk_t (in_nI hc (by decide)), let_s, nI_clamp (by omega), nI_q10 hv, nI_r10 hv]
theorem nI_p1 {n : Nat} : nI n + 1 = nI (n + 1) := nI_add n 1
theorem nI_m1 {n : Nat} : nI (n + 1) - 1 = nI n := by
  show nI (n + 1) - nI 1 = _
  rw [pk_sub (by omega)]; rfl
set_option maxHeartbeats 2000000 in
theorem e_become {C D : pm_M} (h : RR C D) (x1 : Int32) (x2 : Int32) : ∃ (r : Int32) (C' D' : pm_M), f_X7_become C x1 x2 = some (r, C') ∧ f_X8_become D x1 x2 = some (r, D') ∧ RR C' D' := by
  obtain ⟨⟨σ, h1, h2, h3⟩, h4⟩ := id h
  have hR : sC σ ≤ 5 := h1.2.1
  unfold f_X7_become f_X8_become
  rw [x0_has (p := 1 + 13) (n := sC σ) h2.2.1 (by omega), x8_isCloud (n := sC σ) h3.2.1 (by omega), b2_s, b2_s, if_bi, if_bi]
  by_cases hc : 0 ≤ x1.toInt ∧ x1.toInt ≤ (sC σ : Int) - 1
  · rw [if_pos hc, if_pos hc, x7_isKindAndM, x8_in, b2_s, b2_s, if_bi, if_bi, i64, ll0, ll69]
    obtain ⟨a, -, ha, rfl⟩ := vx (lo := 0) (hi := 4) (by decide) (x := x1) (by omega)
    have haR : a < sC σ := by have := hc.2; rw [nI_toInt (by omega)] at this; omega
    by_cases hv : 0 ≤ x2.toInt ∧ x2.toInt ≤ 69
    · obtain ⟨v, -, hv2, rfl⟩ := vx (lo := 0) (hi := 69) (by decide) hv
      rw [if_pos hv, if_pos hv, chk_t (in_nI (n := a) (by omega) (by decide)), let_s, x0_setKind (by omega) hv2, b1_s, nI_clamp (n := a) (by omega), x8_of (w := 0) (z := 0) rfl (by omega) (by decide), b2_s, ix66 a 0 0 rfl, ix66 a 1 1 rfl, chk_t (in_nI (n := 66 + 4 * a + 0) (by omega) (by decide)), let_s, chk_t (in_nI (n := 66 + 4 * a + 1) (by omega) (by decide)), let_s, nI_clamp (n := 66 + 4 * a + 0) (by omega), nI_clamp (n := 66 + 4 * a + 1) (by omega), nI_q10 hv2, nI_r10 hv2]
      rw [show C (1 + 13 + 1) a = D 1 (66 + 4 * a + 0) from cf_eq h2 h3 (w := 0) (by decide) haR]
      have w1 : WF 9999 (σ.1, σ.2.1, σ.2.2.1, f2 σ.2.2.2.1 0 a (v / 10), σ.2.2.2.2) := wf_cf h1 haR (by decide) (show v / 10 ≤ 6 by omega)
      refine ⟨_, _, _, rfl, rfl, h.now (wf_cf w1 (w := 1) (c := a) haR (by decide) (show v % 10 ≤ 9 by omega)) ?_ ?_ (fun q hq => (pm_up_o q (by omega)).trans (pm_up_o q (by omega))) (fun q hq => (pm_up_o q hq).trans (pm_up_o q hq))⟩
      · exact (h2.cf 0 a _ (by decide)).cf 1 a _ (by decide)
      · rw [pm_up_s, pm_up_s]; exact (h3.cf 0 a _ h1 haR (by decide)).cf 1 a _ w1 haR (by decide)
    · rw [if_neg hv, if_neg hv, x7_e1, x8_e1, b2_s, b2_s]
      exact ⟨_, _, _, rfl, rfl, h.err 1⟩
  · rw [if_neg hc, if_neg hc, x7_e1, x8_e1, b2_s, b2_s]
    exact ⟨_, _, _, rfl, rfl, h.err 1⟩
set_option maxHeartbeats 2000000 in
theorem e_roof {C D : pm_M} (h : RR C D) (x1 : Int32) : ∃ (r : Int32) (C' D' : pm_M), f_X7_roof C x1 = some (r, C') ∧ f_X8_roof D x1 = some (r, D') ∧ RR C' D' := by
  obtain ⟨⟨σ, h1, h2, h3⟩, h4⟩ := id h
  have hR : sR σ ≤ 6 := h1.1
  have eC : C (1 + 1) 0 = nI (sR σ) := h2.1
  have eD : D 1 0 = nI (sR σ) := h3.1
  unfold f_X7_roof f_X8_roof f_X3_add
  rw [x7_within, x8_in, b2_s, b2_s, if_bi, if_bi, i64, li0, ll0, li99, ll99, tn_0, eC, eD]
  by_cases hv : 0 ≤ x1.toInt ∧ x1.toInt ≤ 99
  · obtain ⟨v, -, hv2, rfl⟩ := vx (lo := 0) (hi := 99) (by decide) hv
    rw [if_pos hv, if_pos hv]
    by_cases h6 : sR σ < 6
    · rw [if_pos (show nI (sR σ) < 6 from ylt (b := 6) (by omega) (by decide) h6), if_neg (show ¬ nI (sR σ) = 6 from nne (b := 6) (by omega) (by decide) (by omega))]
      rw [chk_t (in_nI (n := sR σ) h6 (by decide)), let_s, let_s, b2_s, let_s, nI_clamp (n := sR σ) (by omega), up_k (M := C) (k := 1 + 1 + 1) (k' := 1 + 1) (by decide), eC, up_s, nI_p1, nI_m1]
      have ix : ∀ (w : Nat) (z : Int32), z = nI w → (6 + 4 * nI (sR σ)) + z = nI (6 + 4 * sR σ + w) := fun w z hz => ix6 (sR σ) w z hz
      rw [ix 0 0 rfl, ix 1 1 rfl, ix 2 2 rfl, ix 3 3 rfl, chk_t (in_nI (n := 6 + 4 * sR σ + 0) (by omega) (by decide)), let_s, chk_t (in_nI (n := 6 + 4 * sR σ + 1) (by omega) (by decide)), let_s, chk_t (in_nI (n := 6 + 4 * sR σ + 2) (by omega) (by decide)), let_s, chk_t (in_nI (n := 6 + 4 * sR σ + 3) (by omega) (by decide)), let_s, let_s, nI_clamp (n := 6 + 4 * sR σ + 0) (by omega), nI_clamp (n := 6 + 4 * sR σ + 1) (by omega), nI_clamp (n := 6 + 4 * sR σ + 2) (by omega), nI_clamp (n := 6 + 4 * sR σ + 3) (by omega)]
      rw [up_s, up_i (i' := 0) (i := 6 + 4 * sR σ + 3) (by omega), up_i (i' := 0) (i := 6 + 4 * sR σ + 2) (by omega), up_i (i' := 0) (i := 6 + 4 * sR σ + 1) (by omega), up_i (i' := 0) (i := 6 + 4 * sR σ + 0) (by omega), eD, nI_p1, nI_m1]
      obtain ⟨b1, b2, b3, b4, b5, b6, b7, b8, b9, b10, b11, b12⟩ := h1
      have wn : WF 9999 ((sR σ + 1, σ.1.2.1, σ.1.2.2.1, σ.1.2.2.2), f2 σ.2.1 0 (sR σ) v, σ.2.2.1, σ.2.2.2.1, σ.2.2.2.2.1, σ.2.2.2.2.2.1, σ.2.2.2.2.2.2) := by
        refine ⟨h6, b2, fun _ => Nat.succ_pos _, b4, fun w' r' hw' => ?_, fun w' r' hr' => ?_, b7, fun a b hh => b8 a b ?_, fun w c hc hw => ?_, b10, b11, b12⟩
        · show f2 σ.2.1 0 (sR σ) v w' r' ≤ _
          by_cases e : w' = 0 ∧ r' = sR σ
          · obtain ⟨rfl, rfl⟩ := e; rw [f2_s]; exact hv2
          · rw [f2_n e]; exact b5 w' r' hw'
        · show f2 σ.2.1 0 (sR σ) v w' r' = 0
          have hr' : sR σ + 1 ≤ r' := hr'
          rw [f2_n (fun e => by omega)]; exact b6 w' r' (by omega)
        · have hh : sR σ + 1 ≤ a ∨ sR σ + 1 ≤ b ∨ a = b := hh
          omega
        · refine Nat.le_trans (b9 w c hc hw) ?_
          show cf_most w (sR σ) ≤ cf_most w (sR σ + 1)
          unfold cf_most
          split
          · omega
          · split
            · omega
            · split <;> omega
      refine ⟨_, _, _, rfl, rfl, h.now wn ?_ ?_ (fun q hq => (pm_up_o q (by omega)).trans (pm_up_o q (by omega))) (fun q hq => (pm_up_o q hq).trans ((pm_up_o q hq).trans ((pm_up_o q hq).trans ((pm_up_o q hq).trans (pm_up_o q hq)))))⟩
      · refine h2.roofs (sR σ + 1) _ (fun q hq => (pm_up_o q (by omega)).trans (pm_up_o q (by omega))) up_s (fun w r hw hr => ?_)
        rw [up_k (by omega)]
        by_cases e : w = 0 ∧ r = sR σ
        · obtain ⟨rfl, rfl⟩ := e; rw [f2_s]; exact up_s
        · rw [f2_n e, ← h2.2.2.2.2.2.2.1 w r hw hr]
          by_cases e2 : w = 0
          · rw [up_i (by omega)]
          · rw [up_k (by omega)]
      · rw [pm_up_s, pm_up_s, pm_up_s, pm_up_s, pm_up_s]
        refine h3.roofs (sR σ + 1) _ (fun i hi hj => ?_) upd_s (fun r w hr hw => ?_)
        · rw [upd_n (by omega), upd_n (by omega), upd_n (by omega), upd_n (by omega), upd_n (by omega)]
        · rw [upd_n (by omega)]
          by_cases e : r = sR σ
          · subst e
            have z : ∀ w, σ.2.1 w (sR σ) = 0 := fun w => b6 w (sR σ) (Nat.le_refl _)
            have : w = 0 ∨ w = 1 ∨ w = 2 ∨ w = 3 := by omega
            rcases this with rfl | rfl | rfl | rfl
            · rw [upd_n (by omega), upd_n (by omega), upd_n (by omega), upd_s, f2_s]
            · rw [upd_n (by omega), upd_n (by omega), upd_s, f2_n (by omega), z]; rfl
            · rw [upd_n (by omega), upd_s, f2_n (by omega), z]; rfl
            · rw [upd_s, f2_n (by omega), z]; rfl
          · rw [upd_n (by omega), upd_n (by omega), upd_n (by omega), upd_n (by omega), f2_n (by omega)]
            exact h3.2.2.2.2.2.2.1 r w (by omega) hw
    · have e : sR σ = 6 := by omega
      rw [if_neg (show ¬ nI (sR σ) < 6 from nlt (b := 6) (by omega) (by decide) (by omega)), if_pos (show nI (sR σ) = 6 by rw [e]; rfl), x7_e4, x8_e4, b2_s, b2_s]
      exact ⟨_, _, _, rfl, rfl, h.err 4⟩
  · rw [if_neg hv, if_neg hv, x7_e1, x8_e1, b2_s, b2_s]
    exact ⟨_, _, _, rfl, rfl, h.err 1⟩
