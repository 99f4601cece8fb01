theorem dq.trans {a b : Nat} {σ τ υ : sg} (h : dq a σ τ) (g : dq b τ υ) : dq (a + b) σ υ := ⟨g.1.trans h.1, g.2.1.trans h.2.1, by rw [g.2.2.1, h.2.2.1, Nat.add_assoc], g.2.2.2.1.trans h.2.2.2.1, g.2.2.2.2.1.trans h.2.2.2.2.1, g.2.2.2.2.2.trans h.2.2.2.2.2⟩
theorem pd_step (p : Nat) (x : Int32) (ih : Int32 → pm_M → Option pm_M) (l : Int32) (M : pm_M) : lb_X5_passDays_2 p x ih l M = (if x ≤ l then some M else cday p M (fun M => ih (l + 1) M)) := rfl
theorem dn_loop {p L : Nat} (hL : L ≤ 100) : ∀ (d i B : Nat) (C D : pm_M) (σ : sg), i + d = L → B + d + 1 < 2 ^ 20 → DVs p B C D σ → ∀ n m : Nat, ∃ C' D' τ, pm_it (fun _ _ => none) (lb_X5_passDays_2 p (nI L)) (n + d + 1) (nI i) C = some C' ∧ pm_it (fun _ _ => none) (lb_X8_daysGo_2 (nI L)) (m + d + 1) (nI i) D = some D' ∧ DVs p (B + d) C' D' τ ∧ dq d σ τ ∧ (∀ q, (q < p ∨ p + 30 ≤ q) → C' q = C q) ∧ FDm D D' := by
  intro d
  induction d with
  | zero =>
    intro i B C D σ hi hB h n m
    refine ⟨C, D, σ, ?_, ?_, h, ⟨rfl, rfl, rfl, rfl, rfl, rfl⟩, fun _ _ => rfl, FDm.refl D⟩
    · show lb_X5_passDays_2 p (nI L) _ (nI i) C = _
      rw [pd_step, if_pos (yle (by omega) (by omega) (by omega))]
    · show lb_X8_daysGo_2 (nI L) _ (nI i) D = _
      rw [lb_X8_daysGo_2.eq_1, if_pos (yle (by omega) (by omega) (by omega))]
  | succ d ih =>
    intro i B C D σ hi hB h n m
    obtain ⟨C1, D1, τ, a1, a2, a3, a4, a5, a6, -⟩ := day_eq (by omega) h
    obtain ⟨C', D', υ, e1, e2, e3, e4, e5, e6⟩ := ih (i + 1) (B + 1) C1 D1 τ (by omega) (by omega) a3 n m
    refine ⟨C', D', υ, ?_, ?_, by rw [show B + (d + 1) = B + 1 + d by omega]; exact e3, by rw [show d + 1 = 1 + d by omega]; exact a4.trans e4, fun q hq => (e5 q hq).trans (a5 q hq), a6.trans e6⟩
    · show lb_X5_passDays_2 p (nI L) (pm_it (fun _ _ => none) (lb_X5_passDays_2 p (nI L)) (n + d + 1)) (nI i) C = _
      rw [pd_step, if_neg (nle (a := L) (b := i) (by omega) (by omega) (by omega)), a1, nI_p1]
      exact e1
    · show lb_X8_daysGo_2 (nI L) (pm_it (fun _ _ => none) (lb_X8_daysGo_2 (nI L)) (m + d + 1)) (nI i) D = _
      rw [lb_X8_daysGo_2.eq_1, if_neg (nle (a := L) (b := i) (by omega) (by omega) (by omega)), a2, b1_s, nI_p1]
      exact e2
theorem days_eq {p L B : Nat} (hL : L ≤ 100) (hB : B < 2 ^ 19) {C D : pm_M} {σ : sg} (h : DVs p B C D σ) : ∃ C' D' τ, f_X5_passDays p C (nI L) = some C' ∧ f_X8_daysGo D (nI L) = some D' ∧ DVs p (B + L) C' D' τ ∧ dq L σ τ ∧ (∀ q, (q < p ∨ p + 30 ≤ q) → C' q = C q) ∧ FDm D D' := by
  obtain ⟨C', D', τ, e1, e2, e3, e4, e5, e6⟩ := dn_loop hL L 0 B C D σ (by omega) (by omega) h (99999 - L) (99999 - L)
  rw [pm_F_s _ (by omega)] at e1 e2
  refine ⟨C', D', τ, ?_, ?_, e3, e4, e5, e6⟩
  · unfold f_X5_passDays
    rw [show lp_X5_passDays_2 p (nI L) 0 C = some C' from e1, b1_s]
  · unfold f_X8_daysGo
    rw [show lp_X8_daysGo_2 (nI L) 0 D = some D' from e2, b1_s]
theorem day1_eq {p B : Nat} (hB : B < 2 ^ 19) {C D : pm_M} {σ : sg} (h : DVs p B C D σ) : ∃ C' D' τ, f_X5_passDays p C 1 = some C' ∧ f_X8_dayGoes D = some D' ∧ DVs p (B + 1) C' D' τ ∧ dq 1 σ τ ∧ (∀ q, (q < p ∨ p + 30 ≤ q) → C' q = C q) ∧ FDm D D' ∧ ∀ r, r < 6 → C' (p + 27) r = D' 6 r := by
  obtain ⟨C1, D1, τ, a1, a2, a3, a4, a5, a6, a7⟩ := day_eq (by omega) h
  refine ⟨C1, D1, τ, ?_, a2, a3, a4, a5, a6, fun r hr => by obtain ⟨f, -, b1, b2⟩ := a7 r hr; rw [b1, b2]⟩
  unfold f_X5_passDays
  have e : lp_X5_passDays_2 p 1 0 C = some C1 := by
    show lb_X5_passDays_2 p 1 (pm_it (fun _ _ => none) (lb_X5_passDays_2 p 1) 99999) 0 C = _
    rw [pd_step, if_neg (by decide), a1]
    show lb_X5_passDays_2 p 1 (pm_it (fun _ _ => none) (lb_X5_passDays_2 p 1) 99998) (0 + 1) C1 = _
    rw [pd_step, if_pos (by decide)]
  rw [e, b1_s]
theorem RR.days {C D C' D' : pm_M} (h : RR C D) {τ : sg} {B : Nat} (hd : DVs 1 B C' D' τ) (h9 : sD τ ≤ 9999) (eC : ∀ q, (q < 1 ∨ 1 + 30 ≤ q) → C' q = C q) (eD : FDm D D') : RR C' D' :=
  h.gen (hd.1.day h9) hd.2.1 hd.2.2 (h.2.1.congr (fun q hq => eC q (by omega))) (fun q a _ => eC q (by omega)) (eD.2.1 2 (by omega)) (eD.2.1 14 (by omega)) (fun q a b _ d e => eD.1 q a b d e)
theorem e_days {C D : pm_M} (h : RR C D) (x1 : Int32) : ∃ (r : Int32) (C' D' : pm_M), f_X7_days C x1 = some (r, C') ∧ f_X8_days D x1 = some (r, D') ∧ RR C' D' := by
  obtain ⟨⟨σ, h1, h2, h3⟩, h4⟩ := id h
  have hD : sD σ ≤ 9999 := h1.2.2.2.1
  unfold f_X7_days f_X8_days
  rw [x7_within, x8_in, b2_s, b2_s, if_bi, if_bi, i64, li1, li60, ll1, ll60, tn_2]
  by_cases hv : 1 ≤ x1.toInt ∧ x1.toInt ≤ 60
  · obtain ⟨L, -, hL, rfl⟩ := vx (lo := 1) (hi := 60) (by decide) hv
    rw [if_pos hv, if_pos hv, h2.2.2.1, h3.2.2.1, nI_add]
    by_cases le : sD σ + L ≤ 9999
    · have le' : nI (sD σ + L) ≤ 9999 := yle (b := 9999) (by omega) (by decide) le
      obtain ⟨C', D', τ, e1, e2, e3, e4, e5, e6⟩ := days_eq (p := 1) (L := L) (B := 9999) (by omega) (by decide) ⟨h1, h2, h3⟩
      obtain ⟨r, s1, s2⟩ := sum_eqp (w := 2) e3.1 e3.2.1 e3.2.2 (by decide)
      rw [if_pos le', if_pos le', e1, b1_s, e2, b1_s, show f_X3_sum (1 + 1) C' (1 + 1 + 3) = some (r, C') from s1, b2_s, show f_X8_all D' 2 = some (r, D') from s2, b2_s]
      exact ⟨_, _, _, rfl, rfl, h.days e3 (by rw [e4.2.2.1]; exact le) e5 e6⟩
    · have le' : ¬ nI (sD σ + L) ≤ 9999 := nle (b := 9999) (by omega) (by decide) (by omega)
      rw [if_neg le', if_neg le', x7_e3, x8_e3, b2_s, b2_s]
      exact ⟨_, _, _, rfl, rfl, h.err 3⟩
  · rw [if_neg hv, if_neg hv, x7_e1, x8_e1, b2_s, b2_s]
    exact ⟨_, _, _, rfl, rfl, h.err 1⟩
/-! what is only thought -/
theorem th_in {C D : pm_M} (h : RR C D) {σ : sg} (h1 : WF 9999 σ) (h2 : VC C 1 σ) (h3 : VM (D 1) σ) : ∃ C1 D1, f_X5_copyFrom 31 C 1 = some C1 ∧ f_X8_keepAside D = some D1 ∧ DVs 31 9999 C1 D1 σ ∧ (∀ q, (q < 31 ∨ 31 + 30 ≤ q) → C1 q = C q) ∧ (∀ q, q ≠ 4 → D1 q = D q) ∧ (∀ k, k < 86 → D1 4 k = D 1 k) := by
  obtain ⟨C1, a1, a2, a3⟩ := x5_copyFrom (p := 31) (a1 := 1) (by omega) h1 h2 h.2.1
  obtain ⟨D1, b1, b2, b3⟩ := x8_keepAside D
  exact ⟨C1, D1, a1, b1, ⟨h1, a3, by rw [b2 1 (by decide)]; exact h3⟩, a2, b2, b3⟩
theorem th_out {C D D1 C' D2 : pm_M} (h : RR C D) (b2 : ∀ q, q ≠ 4 → D1 q = D q) (b3 : ∀ k, k < 86 → D1 4 k = D 1 k) (eC : ∀ q, (q < 31 ∨ 31 + 30 ≤ q) → C' q = C q) {τ : sg} (hV : VC C' 31 τ) (eD : FDm D1 D2) : ∃ D3, f_X8_putBack D2 = some D3 ∧ RR C' D3 ∧ D3 1 = D 1 ∧ (∀ q, q ≠ 1 → D3 q = D2 q) := by
  obtain ⟨⟨σ, h1, h2, h3⟩, h4⟩ := id h
  obtain ⟨D3, c1, c2, c3, c4⟩ := x8_putBack D2
  have e1 : D3 1 = D 1 := by
    funext k
    by_cases hk : k < 86
    · rw [c3 k hk, eD.1 4 (by decide) (by decide) (by decide) (by decide), b3 k hk]
    · rw [c4 k (by omega), eD.2.2 k (by omega), b2 1 (by decide)]
  refine ⟨D3, c1, h.gen h1 (h2.congr (fun q a b _ _ => eC q (by omega))) (by rw [e1]; exact h3) hV.lk (fun q a _ => eC q (by omega)) ?_ ?_ (fun q a b c d e => ?_), e1, c2⟩
  · rw [c2 0 (by decide), eD.2.1 2 (by omega), b2 0 (by decide)]
  · rw [c2 0 (by decide), eD.2.1 14 (by omega), b2 0 (by decide)]
  · rw [c2 q b, eD.1 q a b d e, b2 q c]
theorem e_then {C D : pm_M} (h : RR C D) (x1 : Int32) (x2 : Int32) (x3 : Int32) : ∃ (r : Int32) (C' D' : pm_M), f_X7_then C x1 x2 x3 = some (r, C') ∧ f_X8_then D x1 x2 x3 = some (r, D') ∧ RR C' D' := by
  obtain ⟨⟨σ, h1, h2, h3⟩, h4⟩ := id h
  have h6 : sR σ ≤ 6 := h1.1
  unfold f_X7_then f_X8_then
  rw [x7_within, x8_in, b2_s, b2_s, if_bi, if_bi, i64, li0, li60, ll0, ll60]
  by_cases hv : 0 ≤ x1.toInt ∧ x1.toInt ≤ 60
  · obtain ⟨L, -, hL, rfl⟩ := vx (lo := 0) (hi := 60) (by decide) hv
    rw [if_pos hv, if_pos hv, x3_has (n := sR σ) h2.1 (by omega), x8_isRoof (n := sR σ) h3.1 (by omega), b2_s, b2_s, if_bi, if_bi]
    by_cases hr : 0 ≤ x2.toInt ∧ x2.toInt ≤ (sR σ : Int) - 1
    · obtain ⟨a, -, ha, rfl⟩ := vx (lo := 0) (hi := sR σ - 1) (by omega) (x := x2) (by omega)
      have ha6 : a < sR σ := by have := hr.2; rw [nI_toInt (by omega)] at this; omega
      rw [if_pos hr, if_pos hr, x7_within, x8_in, b2_s, b2_s, if_bi, if_bi, i64, li0, li1, ll0, ll1]
      by_cases hw : 0 ≤ x3.toInt ∧ x3.toInt ≤ 1
      · obtain ⟨w, -, hw1, rfl⟩ := vx (lo := 0) (hi := 1) (by decide) hw
        obtain ⟨C1, D1, a1, a2, a3, a4, a5, a6⟩ := th_in h h1 h2 h3
        obtain ⟨C2, D2, τ, e1, e2, e3, e4, e5, e6⟩ := days_eq (p := 31) (L := L) (by omega) (by decide) a3
        obtain ⟨D3, f1, f2, -⟩ := th_out h a5 a6 (fun q hq => (e5 q hq).trans (a4 q hq)) e3.2.1 e6
        have hR : sR τ = sR σ := e4.1
        have kits : f_X8_its D2 (nI a) (1 + nI w) = some (nI (sr τ (1 + w) a), D2) := by
          rw [show (1 : Int32) + nI w = nI (1 + w) from nI_add 1 w, x8_its (w := 1 + w) rfl (by omega) (by omega)]
          rw [e3.2.2.2.2.2.2.2.2.1 a (1 + w) (by omega) (by omega)]
        rw [if_pos hw, if_pos hw, a1, b1_s, e1, b1_s, a2, b1_s, e2, b1_s, kits, b2_s, f1, b1_s, chk_t (in_nI (n := a) (by omega) (by decide)), chk_t (in_nI (n := a) (by omega) (by decide)), nI_clamp (n := a) (by omega)]
        have k1 : C2 (31 + 1 + 2) a = nI (sr τ 1 a) := e3.2.1.2.2.2.2.2.2.1 1 a (by decide) (by omega)
        have k2 : C2 (31 + 1 + 3) a = nI (sr τ 2 a) := e3.2.1.2.2.2.2.2.2.1 2 a (by decide) (by omega)
        have hw' : w = 0 ∨ w = 1 := by omega
        rcases hw' with rfl | rfl
        · rw [if_pos (show nI 0 = 0 from rfl), k1]; exact ⟨_, _, _, rfl, rfl, f2⟩
        · rw [if_neg (show ¬ nI 1 = 0 by decide), k2]; exact ⟨_, _, _, rfl, rfl, f2⟩
      · rw [if_neg hw, if_neg hw, x7_e1, x8_e1, b2_s, b2_s]
        exact ⟨_, _, _, rfl, rfl, h.err 1⟩
    · rw [if_neg hr, if_neg hr, x7_e1, x8_e1, b2_s, b2_s]
      exact ⟨_, _, _, rfl, rfl, h.err 1⟩
  · rw [if_neg hv, if_neg hv, x7_e1, x8_e1, b2_s, b2_s]
    exact ⟨_, _, _, rfl, rfl, h.err 1⟩
