/-! charge, drift -/
def cqr (σ τ : sg) : Prop := τ.1 = σ.1 ∧ τ.2.2.1 = σ.2.2.1 ∧ τ.2.2.2.2 = σ.2.2.2.2
theorem cqr.refl (σ : sg) : cqr σ σ := ⟨rfl, rfl, rfl⟩
theorem cqr.trans {a b c : sg} (h : cqr a b) (g : cqr b c) : cqr a c := ⟨g.1.trans h.1, g.2.1.trans h.2.1, g.2.2.trans h.2.2⟩
def CN (p B : Nat) (σ : sg) (f : Nat → Nat) (C0 D0 C D : pm_M) : Prop := ∃ (τ : sg), WF B τ ∧ VC C p τ ∧ VM (D 1) τ ∧ cqr σ τ ∧ (∀ r, r < 6 → C (p + 27) r = nI (f r) ∧ D 6 r = nI (f r)) ∧ (∀ q, (q < p ∨ p + 30 ≤ q) → C q = C0 q) ∧ FDm D0 D
set_option maxHeartbeats 4000000 in
theorem ch_loop {p B : Nat} {σ : sg} (hB : B < 2 ^ 20) {f : Nat → Nat} (hf : ∀ r, f r ≤ 1000) (h6 : sR σ ≤ 6) {C0 D0 : pm_M} : ∀ (d i : Nat) (C D : pm_M), i + d = sR σ → CN p B σ f C0 D0 C D → ∀ n m : Nat, ∃ C' D', pm_it (fun _ _ => none) (lb_X5_charge_2 p) (n + d + 1) (nI i) C = some C' ∧ pm_it (fun _ _ => none) (lb_X8_dayGoes_135) (m + d + 1) (nI i) D = some D' ∧ CN p B σ f C0 D0 C' D' := by
  intro d
  induction d with
  | zero =>
    intro i C D hi h n m
    obtain ⟨τ, h1, h2, h3, h4, h6', h8, h9⟩ := id h
    have e1 : sR τ = sR σ := by show τ.1.1 = _; rw [h4.1]
    refine ⟨C, D, ?_, ?_, h⟩
    · show lb_X5_charge_2 p _ (nI i) C = _
      rw [lb_X5_charge_2.eq_1, h2.1, if_pos (yle (by omega) (by omega) (by omega))]
    · show lb_X8_dayGoes_135 _ (nI i) D = _
      rw [lb_X8_dayGoes_135.eq_1, tn_0, h3.1, if_pos (yle (by omega) (by omega) (by omega))]
  | succ d ih =>
    intro i C D hi h n m
    obtain ⟨τ, h1, h2, h3, h4, h7, h8, h9⟩ := id h
    have eR : sR τ = sR σ := by show τ.1.1 = _; rw [h4.1]
    have hr : i < sR τ := by omega
    have hD : sD τ ≤ B := h1.2.2.2.1
    obtain ⟨f1, f2'⟩ := h7 i (by omega)
    have bf := hf i
    have bs : sr τ 0 i ≤ 99 := h1.2.2.2.2.1 0 i (by decide)
    have ba : sr τ 1 i ≤ 9999 := h1.2.2.2.2.1 1 i (by decide)
    have bk : sr τ 3 i ≤ 99 := h1.2.2.2.2.1 3 i (by decide)
    have c0 : C (p + 1 + 1) i = nI (sr τ 0 i) := h2.2.2.2.2.2.2.1 0 i (by decide) (by omega)
    have d0 : D 1 (6 + 4 * i + 0) = nI (sr τ 0 i) := h3.2.2.2.2.2.2.1 i 0 hr (by decide)
    have d1 : D 1 (6 + 4 * i + 1) = nI (sr τ 1 i) := h3.2.2.2.2.2.2.1 i 1 hr (by decide)
    have d3 : D 1 (6 + 4 * i + 3) = nI (sr τ 3 i) := h3.2.2.2.2.2.2.1 i 3 hr (by decide)
    have ed : D 1 2 = nI (sD τ) := h3.2.2.1
    have its0 : f_X8_its D (nI i) 0 = some (nI (sr τ 0 i), D) := by rw [x8_its (w := 0) (z := 0) rfl (by omega) (by decide), d0]
    have its1 : f_X8_its D (nI i) 1 = some (nI (sr τ 1 i), D) := by rw [x8_its (w := 1) (z := 1) rfl (by omega) (by decide), d1]
    have its3 : f_X8_its D (nI i) 3 = some (nI (sr τ 3 i), D) := by rw [x8_its (w := 3) (z := 3) rfl (by omega) (by decide), d3]
    by_cases le : f i ≤ sr τ 0 i
    · have z : nI (f i) - nI (sr τ 0 i) ≤ 0 := by
        refine Int32.le_iff_toInt_le.mpr ?_
        rw [pk_sub_toInt (by omega) (by omega)]
        show _ ≤ (0 : Int); omega
      obtain ⟨C', D', e1, e2, e3⟩ := ih (i + 1) C D (by omega) h n m
      refine ⟨C', D', ?_, ?_, e3⟩
      · show lb_X5_charge_2 p (pm_it (fun _ _ => none) (lb_X5_charge_2 p) (n + d + 1)) (nI i) C = _
        rw [lb_X5_charge_2.eq_1, h2.1, if_neg (nle (a := sR τ) (b := i) (by omega) (by omega) hr), chk_t (in_nI (n := i) (by omega) (by decide)), chk_t (in_nI (n := i) (by omega) (by decide)), let_s, nI_clamp (n := i) (by omega), f1, c0, if_pos z, nI_p1 (n := i)]
        exact e1
      · show lb_X8_dayGoes_135 (pm_it (fun _ _ => none) (lb_X8_dayGoes_135) (m + d + 1)) (nI i) D = _
        rw [lb_X8_dayGoes_135.eq_1, tn_0, h3.1, if_neg (nle (a := sR τ) (b := i) (by omega) (by omega) hr), chk_t (in_nI (n := i) (by omega) (by decide)), its0, b2_s, let_s, nI_clamp (n := i) (by omega), f2', if_pos z, nI_p1 (n := i)]
        exact e2
    · have zs : nI (f i) - nI (sr τ 0 i) = nI (f i - sr τ 0 i) := sub_nI (by omega)
      have z : ¬ nI (f i - sr τ 0 i) ≤ 0 := nle (b := 0) (by omega) (by decide) (by omega)
      obtain ⟨l1, l2⟩ := lvN_e 1 (sT τ 1) (sr τ 0 i) (sr τ 3 i) (sD τ)
      obtain ⟨C1, g1, g2, g3⟩ := VC.given h1 h2 (u := 1) (by decide) (nI (sr τ 0 i)) (nI (sr τ 3 i)) (nI (sD τ))
      obtain ⟨D1, k1, k2, k3⟩ := VM.given h1 h2 h3 (u := 1) (by decide) (nI (sr τ 0 i)) (nI (sr τ 3 i)) (nI (sD τ))
      rw [l1] at g1 k1
      rw [if_neg (by decide)] at l2
      generalize lvN 1 (sT τ 1) (sr τ 0 i) (sr τ 3 i) (sD τ) = v at g1 k1 l2
      have D11 : D1 1 = D 1 := k2 1 (by decide) (by decide)
      have D16 : D1 6 = D 6 := k2 6 (by decide) (by decide)
      have bm : (f i - sr τ 0 i) * v ≤ 1000 * 9 := Nat.mul_le_mul (by omega) l2
      have vr := VC.rf (p := p) 1 i (min 9999 (sr τ 1 i + (f i - sr τ 0 i) * v)) g3 (by decide)
      have wr := wf_rf h1 (w := 1) (r := i) (v := min 9999 (sr τ 1 i + (f i - sr τ 0 i) * v)) hr (by decide) (Nat.min_le_left _ _)
      have mr := VM.rf 1 i (min 9999 (sr τ 1 i + (f i - sr τ 0 i) * v)) h3 h1 hr (by decide)
      have nxt : CN p B σ f C0 D0 (pm_up C1 (p + 2 + 1) i (nI (min 9999 (sr τ 1 i + (f i - sr τ 0 i) * v)))) (pm_up D1 1 (6 + 4 * i + 1) (nI (min 9999 (sr τ 1 i + (f i - sr τ 0 i) * v)))) := by
        refine ⟨_, wr, vr, ?_, ⟨h4.1, h4.2.1, h4.2.2⟩, fun r hr6 => ?_, fun q hq => ?_, (h9.trans (FDm.tx k2 k3)).trans (FDm.up1 (by omega))⟩
        · rw [pm_up_s, D11]; exact mr
        · rw [up_k (k' := p + 27) (by omega), up_k (k' := 6) (by decide), g2 _ (by omega) (by omega), D16]; exact h7 r hr6
        · rw [pm_up_o q (by omega), g2 q (by omega) (by omega)]; exact h8 q hq
      obtain ⟨C', D', e1, e2, e3⟩ := ih (i + 1) _ _ (by omega) nxt n m
      refine ⟨C', D', ?_, ?_, e3⟩
      · show lb_X5_charge_2 p (pm_it (fun _ _ => none) (lb_X5_charge_2 p) (n + d + 1)) (nI i) C = _
        have c3 : C (p + 1 + 4) i = nI (sr τ 3 i) := h2.2.2.2.2.2.2.1 3 i (by decide) (by omega)
        have c1 : C1 (p + 2 + 1) i = nI (sr τ 1 i) := g3.2.2.2.2.2.2.1 1 i (by decide) (by omega)
        have g1' : f_X1_given (p + 22) C (nI (sr τ 0 i)) (nI (sr τ 3 i)) (nI (sD τ)) = some (nI v, C1) := g1
        rw [lb_X5_charge_2.eq_1, h2.1, if_neg (nle (a := sR τ) (b := i) (by omega) (by omega) hr), chk_t (in_nI (n := i) (by omega) (by decide)), chk_t (in_nI (n := i) (by omega) (by decide)), let_s, nI_clamp (n := i) (by omega), f1, c0, zs, if_neg z, chk_t (in_nI (n := i) (by omega) (by decide)), chk_t (in_nI (n := i) (by omega) (by decide)), c3, h2.2.2.1, g1', b2_s, chk_t (in_nI (n := i) (by omega) (by decide)), chk_t (in_nI (n := i) (by omega) (by decide)), let_s, show p + 1 + 2 = p + 2 + 1 by omega, c1, pk_mul, nI_add, show pm_min 9999 (nI (sr τ 1 i + (f i - sr τ 0 i) * v)) = nI (min 9999 (sr τ 1 i + (f i - sr τ 0 i) * v)) from nI_min (a := 9999) (by decide) (by omega), nI_p1 (n := i)]
        exact e1
      · show lb_X8_dayGoes_135 (pm_it (fun _ _ => none) (lb_X8_dayGoes_135) (m + d + 1)) (nI i) D = _
        have hh : f_X8_held D1 (nI (sr τ 1 i + (f i - sr τ 0 i) * v)) 0 9999 = some (nI (min 9999 (sr τ 1 i + (f i - sr τ 0 i) * v)), D1) := held_nI (by omega) (by decide) _ rfl
        have k1' : f_X8_textGives D 1 (nI (sr τ 0 i)) (nI (sr τ 3 i)) (nI (sD τ)) = some (nI v, D1) := k1
        rw [lb_X8_dayGoes_135.eq_1, tn_0, h3.1, if_neg (nle (a := sR τ) (b := i) (by omega) (by omega) hr), chk_t (in_nI (n := i) (by omega) (by decide)), its0, b2_s, let_s, nI_clamp (n := i) (by omega), f2', zs, if_neg z, its1, b2_s, its0, b2_s, its3, b2_s, tn_2, ed, k1', b2_s, pk_mul, nI_add, hh, b2_s, ix6 i 1 1 rfl, chk_t (in_nI (n := 6 + 4 * i + 1) (by omega) (by decide)), let_s, nI_clamp (n := 6 + 4 * i + 1) (by omega), nI_p1 (n := i)]
        exact e2
set_option maxHeartbeats 4000000 in
theorem dr_loop {p B : Nat} {σ : sg} (hB : B < 2 ^ 20) {f : Nat → Nat} (h5 : sC σ ≤ 5) {C0 D0 : pm_M} : ∀ (d i : Nat) (C D : pm_M), i + d = sC σ → CN p B σ f C0 D0 C D → ∀ n m : Nat, ∃ C' D', pm_it (fun _ _ => none) (lb_X5_drift_2 p) (n + d + 1) (nI i) C = some C' ∧ pm_it (fun _ _ => none) (lb_X8_dayGoes_223) (m + d + 1) (nI i) D = some D' ∧ CN p B σ f C0 D0 C' D' := by
  intro d
  induction d with
  | zero =>
    intro i C D hi h n m
    obtain ⟨τ, h1, h2, h3, h4, h6', h8, h9⟩ := id h
    have e1 : sC τ = sC σ := by show τ.1.2.1 = _; rw [h4.1]
    refine ⟨C, D, ?_, ?_, h⟩
    · show lb_X5_drift_2 p _ (nI i) C = _
      rw [lb_X5_drift_2.eq_1, h2.2.1, if_pos (yle (by omega) (by omega) (by omega))]
    · show lb_X8_dayGoes_223 _ (nI i) D = _
      rw [lb_X8_dayGoes_223.eq_1, tn_1, h3.2.1, if_pos (yle (by omega) (by omega) (by omega))]
  | succ d ih =>
    intro i C D hi h n m
    obtain ⟨τ, h1, h2, h3, h4, h7, h8, h9⟩ := id h
    have eC : sC τ = sC σ := by show τ.1.2.1 = _; rw [h4.1]
    have hc : i < sC τ := by omega
    have hR : sR τ ≤ 6 := h1.1
    have h0 : 0 < sR τ := h1.2.2.1 (by omega)
    have lt : nx τ i < sR τ := by unfold nx; exact Nat.mod_lt _ h0
    have vc := VC.cf (p := p) 2 i (nx τ i) h2 (by decide)
    have wc := wf_cf h1 (w := 2) (c := i) (v := nx τ i) hc (by decide) (show nx τ i ≤ sR τ - 1 by omega)
    have mc := VM.cf 2 i (nx τ i) h3 h1 hc (by decide)
    have nxt : CN p B σ f C0 D0 (pm_up C (p + 14 + 2) i (nI (nx τ i))) (pm_up D 1 (66 + 4 * i + 2) (nI (nx τ i))) := by
      refine ⟨_, wc, vc, ?_, ⟨h4.1, h4.2.1, h4.2.2⟩, fun r hr6 => ?_, fun q hq => ?_, h9.trans (FDm.up1 (by omega))⟩
      · rw [pm_up_s]; exact mc
      · rw [up_k (k' := p + 27) (by omega), up_k (k' := 6) (by decide)]; exact h7 r hr6
      · rw [pm_up_o q (by omega)]; exact h8 q hq
    obtain ⟨C', D', e1, e2, e3⟩ := ih (i + 1) _ _ (by omega) nxt n m
    refine ⟨C', D', ?_, ?_, e3⟩
    · show lb_X5_drift_2 p (pm_it (fun _ _ => none) (lb_X5_drift_2 p) (n + d + 1)) (nI i) C = _
      rw [lb_X5_drift_2.eq_1, h2.2.1, if_neg (nle (a := sC τ) (b := i) (by omega) (by omega) hc), x5_nextOver hB h1 h2 hc, b2_s, chk_t (in_nI (n := i) (by omega) (by decide)), let_s, nI_clamp (n := i) (by omega), show p + 13 + 3 = p + 14 + 2 by omega, nI_p1 (n := i)]
      exact e1
    · show lb_X8_dayGoes_223 (pm_it (fun _ _ => none) (lb_X8_dayGoes_223) (m + d + 1)) (nI i) D = _
      rw [lb_X8_dayGoes_223.eq_1, tn_1, h3.2.1, if_neg (nle (a := sC τ) (b := i) (by omega) (by omega) hc), x8_driftsTo hB h1 h3 hc, b2_s, ix66 i 2 2 rfl, chk_t (in_nI (n := 66 + 4 * i + 2) (by omega) (by decide)), let_s, nI_clamp (n := 66 + 4 * i + 2) (by omega), nI_p1 (n := i)]
      exact e2
/-! a day -/
def DVs (p B : Nat) (C D : pm_M) (σ : sg) : Prop := WF B σ ∧ VC C p σ ∧ VM (D 1) σ
/-- what days leave -/
def dq (n : Nat) (σ τ : sg) : Prop := sR τ = sR σ ∧ sC τ = sC σ ∧ sD τ = sD σ + n ∧ sZ τ = sZ σ ∧ τ.2.2.1 = σ.2.2.1 ∧ τ.2.2.2.2 = σ.2.2.2.2
theorem WF.day {B B' : Nat} {σ : sg} (h : WF B σ) (hd : sD σ ≤ B') : WF B' σ := ⟨h.1, h.2.1, h.2.2.1, hd, h.2.2.2.2⟩
def cday (p : Nat) (M : pm_M) (k : pm_M → Option pm_M) : Option pm_M := (pm_b1 (f_X5_aim p M) (fun M3002 : pm_M => (pm_b1 (f_X5_rain p M3002) (fun M3003 : pm_M => (pm_b1 (f_X5_charge p M3003) (fun M3004 : pm_M => (pm_b1 (f_X5_drift p M3004) (fun M3005 : pm_M => (pm_let (pm_up M3005 p 3 ((M3005 p 3) + 1)) (fun M3006 : pm_M => k M3006))))))))))
set_option maxHeartbeats 2000000 in
theorem day_eq {p B : Nat} {C D : pm_M} {σ : sg} (hB : B + 1 < 2 ^ 20) (h : DVs p B C D σ) : ∃ C' D' τ, (∀ k, cday p C k = k C') ∧ f_X8_dayGoes D = some D' ∧ DVs p (B + 1) C' D' τ ∧ dq 1 σ τ ∧ (∀ q, (q < p ∨ p + 30 ≤ q) → C' q = C q) ∧ FDm D D' ∧ ∀ r, r < 6 → ∃ f : Nat, f ≤ 1000 ∧ C' (p + 27) r = nI f ∧ D' 6 r = nI f := by
  obtain ⟨h1, h2, h3⟩ := h
  have h5 : sC σ ≤ 5 := h1.2.1
  have h6 : sR σ ≤ 6 := h1.1
  obtain ⟨r2, m1, m2, m3⟩ := most_eqp h1 h2 h3
  obtain ⟨w, hw⟩ : ∃ w, 0 < sR σ → w < sR σ ∧ r2 = nI w := by
    by_cases c : 0 < sR σ
    · obtain ⟨a, ha, hb⟩ := m3 c; exact ⟨a, fun _ => ⟨ha, hb⟩⟩
    · exact ⟨0, fun q => absurd q c⟩
  obtain ⟨C1, a1, a2, a3, a4⟩ := x5_aim (by omega) h1 h2 m1 hw
  obtain ⟨C2, b1, b2, b3⟩ := zr_all (pl := p + 27) (lb := lb_X5_rain_2 p) (fun _ _ _ => rfl) C1
  obtain ⟨D2, c1, c2, c3⟩ := zr_all (pl := 6) (lb := lb_X8_dayGoes_7 r2) (fun _ _ _ => rfl) D
  have v2 : VC C2 p σ := a2.congr (fun q a b _ _ => b2 q (by omega))
  have f2 : ∀ q, (q < p ∨ p + 30 ≤ q) → C2 q = C q := fun q hq => (b2 q (by omega)).trans (a4 q (by omega) (by omega) (by omega) (by omega))
  have rn0 : RN p B σ w 0 C D C2 D2 := ⟨σ, fun _ => 0, h1, v2, by rw [c2 1 (by decide)]; exact h3, ⟨rfl, fun _ _ _ => rfl, rfl, fun _ _ _ => rfl, rfl⟩, fun r hr => ⟨b3 r hr, c3 r hr, Nat.zero_le _⟩, fun c hc => by rw [b2 (p + 28) (by omega), b2 (p + 29) (by omega)]; exact a3 c hc, f2, ⟨fun k _ _ _ e => c2 k e, fun j _ => by rw [c2 0 (by decide)], fun k _ => by rw [c2 1 (by decide)]⟩⟩
  obtain ⟨C3, D3, e1, e2, e3⟩ := rn_loop (p := p) (B := B) (by omega) (r2 := r2) (fun k => hw (h1.2.2.1 k)) h5 (sC σ) 0 C2 D2 (by omega) rn0 (99999 - sC σ) (99999 - sC σ)
  rw [pm_F_s _ (by omega)] at e1 e2
  obtain ⟨τ, f, g1, g2, g3, g4, g5, g6, g7, g8⟩ := e3
  have cn0 : CN p B σ (fun r => if r < 6 then f r else 0) C D C3 D3 := ⟨τ, g1, g2, g3, ⟨g4.1, g4.2.2.1, g4.2.2.2.2⟩, fun r hr => by
    show _ = nI (if r < 6 then f r else 0) ∧ _ = nI (if r < 6 then f r else 0)
    rw [if_pos hr]; exact ⟨(g5 r hr).1, (g5 r hr).2.1⟩, g7, g8⟩
  have hf : ∀ r, (fun r => if r < 6 then f r else 0) r ≤ 1000 := fun r => by
    show (if r < 6 then f r else 0) ≤ 1000
    split
    · rename_i hr
      have := (g5 r hr).2.2; omega
    · omega
  obtain ⟨C4, D4, i1, i2, i3⟩ := ch_loop (by omega) hf h6 (sR σ) 0 C3 D3 (by omega) cn0 (99999 - sR σ) (99999 - sR σ)
  rw [pm_F_s _ (by omega)] at i1 i2
  obtain ⟨C5, D5, j1, j2, j3⟩ := dr_loop (by omega) h5 (sC σ) 0 C4 D4 (by omega) i3 (99999 - sC σ) (99999 - sC σ)
  rw [pm_F_s _ (by omega)] at j1 j2
  obtain ⟨υ, k1, k2, k3, k4, k5, k6, k7⟩ := j3
  have eD : sD υ = sD σ := by show υ.1.2.2.1 = _; rw [k4.1]
  have hD : sD υ ≤ B := k1.2.2.2.1
  have cd : C5 p 3 = nI (sD υ) := k2.2.2.1
  have dd : D5 1 2 = nI (sD υ) := k3.2.2.1
  have vd := VC.day (p := p) (sD υ + 1) k2
  have md := VM.day (sD υ + 1) k3 k1
  refine ⟨pm_up C5 p 3 (nI (sD υ + 1)), pm_up D5 1 2 (nI (sD υ + 1)), _, fun k => ?_, ?_, ⟨?_, vd, by rw [pm_up_s]; exact md⟩, ?_, fun q hq => (pm_up_o q (by omega)).trans (k6 q hq), k7.trans (FDm.up1 (by decide)), fun r hr => ⟨if r < 6 then f r else 0, hf r, (congrFun (pm_up_o _ (by omega)) r).trans (k5 r hr).1, (congrFun (pm_up_o _ (by decide)) r).trans (k5 r hr).2⟩⟩
  · unfold cday f_X5_rain f_X5_charge f_X5_drift
    rw [a1, b1_s, show lp_X5_rain_2 p 0 C1 = some C2 from b1, b1_s, show lp_X5_rain_23 p 0 C2 = some C3 from e1, b1_s, b1_s, show lp_X5_charge_2 p 0 C3 = some C4 from i1, b1_s, b1_s, show lp_X5_drift_2 p 0 C4 = some C5 from j1, b1_s, b1_s, let_s, cd, nI_p1]
  · unfold f_X8_dayGoes
    rw [m2, b2_s, show lp_X8_dayGoes_7 r2 0 D = some D2 from c1, b1_s, show lp_X8_dayGoes_28 r2 0 D2 = some D3 from e2, b1_s, show lp_X8_dayGoes_135 0 D3 = some D4 from i2, b1_s, show lp_X8_dayGoes_223 0 D4 = some D5 from j2, b1_s, let_s, tn_2, dd, nI_p1]
  · obtain ⟨x1, x2, x3, x4, x5⟩ := k1
    exact ⟨x1, x2, x3, show sD υ + 1 ≤ B + 1 by omega, x5⟩
  · exact ⟨by show υ.1.1 = _; rw [k4.1], by show υ.1.2.1 = _; rw [k4.1], by show sD υ + 1 = _; rw [eD], by show υ.1.2.2.2 = _; rw [k4.1], k4.2.1, k4.2.2⟩
