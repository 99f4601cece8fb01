/-- a new state of the valley; the Reader, what thinks and the parser of the reference may have changed -/
theorem RR.gen {C D C' D' : pm_M} (h : RR C D) {σ : sg} (hw : WF 9999 σ) (hC : VC C' 1 σ) (hD : VM (D' 1) σ) (lk : LK C' 31) (eC : ∀ q, (q < 1 ∨ 61 ≤ q) → (q < 91 ∨ 93 < q) → C' q = C q) (e02 : D' 0 2 = D 0 2) (e014 : D' 0 14 = D 0 14) (eD : ∀ q, q ≠ 0 → q ≠ 1 → q ≠ 4 → q ≠ 5 → q ≠ 6 → D' q = D q) : RR C' D' := by
  obtain ⟨-, h4, h5, h6, h8, h9, h10⟩ := h
  exact ⟨⟨σ, hw, hC, hD⟩, lk, h5.congr (fun q hq => eC q (by omega) (by omega)), h6.congr (eC 0 (by omega) (by omega)) (fun q a b => eC q (by omega) (by omega)) e02 (eD 2 (by decide) (by decide) (by decide) (by decide) (by decide)), h8.congr (fun q a b => eC q (by omega) (by omega)) (eD 8 (by decide) (by decide) (by decide) (by decide) (by decide)) (eD 9 (by decide) (by decide) (by decide) (by decide) (by decide)) (eD 10 (by decide) (by decide) (by decide) (by decide) (by decide)), h9.congr (eC 94 (by omega) (by omega)) (eC 95 (by omega) (by omega)) e014 (eD 7 (by decide) (by decide) (by decide) (by decide) (by decide)), h10.congr (eC 105 (by omega) (by omega)) (eD 3 (by decide) (by decide) (by decide) (by decide) (by decide))⟩
theorem VC.lc {C : pm_M} {p : Nat} {σ : sg} (h : VC C p σ) {u : Nat} (hu : u < 2) : LC C (p + 19 + 3 * u) u (sT σ u) := h.2.2.2.2.2.2.2.2.2.2.2 u hu
theorem VC.given {C : pm_M} {p B : Nat} {σ : sg} (hw : WF B σ) (h : VC C p σ) {u : Nat} (hu : u < 2) (a b c : Int32) : ∃ C', f_X1_given (p + 19 + 3 * u) C a b c = some (lvI u (sT σ u) a b c, C') ∧ (∀ k, k ≠ p + 21 → k ≠ p + 24 → C' k = C k) ∧ VC C' p σ := by
  obtain ⟨C', e1, e2⟩ := x1_given hu (hw.2.2.2.2.2.2.2.2.2.1 u) (h.lc hu) a b c
  have e3 : ∀ k, k ≠ p + 21 → k ≠ p + 24 → C' k = C k := fun k k1 k2 => e2 k (by omega)
  exact ⟨C', e1, e3, h.congr (fun q _ _ a b => e3 q a b)⟩
theorem VM.given {D C : pm_M} {p B : Nat} {σ : sg} (hw : WF B σ) (h0 : VC C p σ) (h : VM (D 1) σ) {u : Nat} (hu : u < 2) (a b c : Int32) : ∃ D', f_X8_textGives D (nI u) a b c = some (lvI u (sT σ u) a b c, D') ∧ (∀ k, k ≠ 0 → k ≠ 5 → D' k = D k) ∧ ∀ j, (j < 5 ∨ 10 < j) → D' 0 j = D 0 j :=
  x8_textGives hu (hw.2.2.2.2.2.2.2.2.2.1 u) (h0.lc hu).tx (h.2.2.2.2.2.2.2.2.2.1 u hu) (fun i hi => h.2.2.2.2.2.2.2.2.2.2.2.1 u i hu hi) a b c
theorem e_law {C D : pm_M} (h : RR C D) (x1 : Int32) (x2 : Int32) (x3 : Int32) (x4 : Int32) : ∃ (r : Int32) (C' D' : pm_M), f_X7_law C x1 x2 x3 x4 = some (r, C') ∧ f_X8_law D x1 x2 x3 x4 = some (r, D') ∧ RR C' D' := by
  obtain ⟨⟨σ, h1, h2, h3⟩, h4⟩ := id h
  unfold f_X7_law f_X8_law
  rw [x7_within, x8_in, b2_s, b2_s, if_bi, if_bi, i64, li0, li1, ll0, ll1]
  by_cases hv : 0 ≤ x1.toInt ∧ x1.toInt ≤ 1
  · obtain ⟨u, -, hu, rfl⟩ := vx (lo := 0) (hi := 1) (by decide) hv
    rw [if_pos hv, if_pos hv, chk_t (in_nI (n := u) (by omega) (by decide)), nI_clamp (n := u) (by omega)]
    obtain ⟨C', e1, e2, e3⟩ := VC.given h1 h2 (u := u) (by omega) x2 x3 x4
    obtain ⟨D', f1, f2, f3⟩ := VM.given h1 h2 h3 (u := u) (by omega) x2 x3 x4
    rw [e1, b2_s, f1, b2_s]
    exact ⟨_, _, _, rfl, rfl, h.gen h1 e3 (by rw [f2 1 (by decide) (by decide)]; exact h3) (h4.1.congr (fun q hq => e2 q (by omega) (by omega))) (fun q a b => e2 q (by omega) (by omega)) (f3 2 (by omega)) (f3 14 (by omega)) (fun q a _ _ b _ => f2 q a b)⟩
  · rw [if_neg hv, if_neg hv, x7_e1, x8_e1, b2_s, b2_s]
    exact ⟨_, _, _, rfl, rfl, h.err 1⟩
def stx (σ : sg) (u : Nat) (t : List Int32) : sg := (σ.1, σ.2.1, σ.2.2.1, σ.2.2.2.1, (fun u' => if u' = u then t else σ.2.2.2.2.1 u'), [], σ.2.2.2.2.2.2)
theorem wf_stx {B : Nat} {σ : sg} (h : WF B σ) (u : Nat) {t : List Int32} (ht : t.length ≤ 50) : WF B (stx σ u t) := by
  obtain ⟨b1, b2, b3, b4, b5, b6, b7, b8, b9, b10, b11, b12⟩ := h
  refine ⟨b1, b2, b3, b4, b5, b6, b7, b8, b9, fun u' => ?_, Nat.zero_le _, b12⟩
  show (if u' = u then t else σ.2.2.2.2.1 u').length ≤ 50
  split
  · exact ht
  · exact b10 u'
theorem VM.stx {g g' : Nat → Int32} {σ : sg} (h : VM g σ) {B : Nat} (hw : WF B σ) {u : Nat} (hu : u < 2) {t : List Int32} (ht : t.length ≤ 50) (e : ∀ i, i ≠ 4 → i ≠ 86 + u → (i < 108 + 50 * u ∨ 158 + 50 * u ≤ i) → g' i = g i) (e4 : g' 4 = 0) (eu : g' (86 + u) = nI t.length) (et : ∀ i, i < t.length → g' (108 + 50 * u + i) = t.getD i 0) : VM g' (stx σ u t) := by
  obtain ⟨h1, h2, h3, h4, h5, h6, h7, h8, h9, h10, h11, h12, h13⟩ := h
  obtain ⟨b1, b2, b3, b4, b5, b6, b7, b8, b9, b10, b11, b12⟩ := hw
  refine ⟨by rw [e 0 (by omega) (by omega) (by omega)]; exact h1, by rw [e 1 (by omega) (by omega) (by omega)]; exact h2, by rw [e 2 (by omega) (by omega) (by omega)]; exact h3, by rw [e 3 (by omega) (by omega) (by omega)]; exact h4, e4, by rw [e 5 (by omega) (by omega) (by omega)]; exact h6, fun r w hr hw => ?_, fun a b ha hb => ?_, fun c w hc hw => ?_, fun u' hu' => ?_, fun i hi => ?_, fun u' i hu' hi => ?_, fun i hi => absurd hi (Nat.not_lt_zero _)⟩
  · have hr : r < sR σ := hr
    rw [e _ (by omega) (by omega) (by omega)]; exact h7 r w hr hw
  · rw [e _ (by omega) (by omega) (by omega)]; exact h8 a b ha hb
  · have hc : c < sC σ := hc
    rw [e _ (by omega) (by omega) (by omega)]; exact h9 c w hc hw
  · show g' (86 + u') = nI (if u' = u then t else σ.2.2.2.2.1 u').length
    by_cases k : u' = u
    · subst k; rw [if_pos rfl]; exact eu
    · rw [if_neg k, e _ (by omega) (by omega) (by omega)]; exact h10 u' hu'
  · have hi : i < (sW σ).length := hi
    rw [e _ (by omega) (by omega) (by omega)]; exact h11 i hi
  · have hi : i < (if u' = u then t else σ.2.2.2.2.1 u').length := hi
    show g' (108 + 50 * u' + i) = (if u' = u then t else σ.2.2.2.2.1 u').getD i 0
    by_cases k : u' = u
    · subst k; rw [if_pos rfl] at hi ⊢; exact et i hi
    · rw [if_neg k] at hi ⊢
      have : (sT σ u').length ≤ 50 := b10 u'
      have hi : i < (sT σ u').length := hi
      rw [e _ (by omega) (by omega) (by omega)]; exact h12 u' i hu' hi
theorem VC.stx {C C' : pm_M} {p : Nat} {σ : sg} (h : VC C p σ) {u : Nat} (hu : u < 2) {t : List Int32} (e : ∀ q, p ≤ q → q < p + 30 → q ≠ p → q ≠ p + 19 + 3 * u → q ≠ p + 20 + 3 * u → C' q = C q) (ep : ∀ j, j ≠ 6 → C' p j = C p j) (e6 : C' p 6 = 0) (el : LC C' (p + 19 + 3 * u) u t) : VC C' p (stx σ u t) := by
  obtain ⟨h1, h2, h3, h4, h5, h6, h7, h8, h9, h10, h11, h12⟩ := h
  refine ⟨by rw [e _ (by omega) (by omega) (by omega) (by omega) (by omega)]; exact h1, by rw [e _ (by omega) (by omega) (by omega) (by omega) (by omega)]; exact h2, by rw [ep 3 (by decide)]; exact h3, by rw [ep 4 (by decide)]; exact h4, e6, by rw [ep 8 (by decide)]; exact h6, fun w r hw hr => ?_, fun a b ha hb => ?_, fun w c hw hc => ?_, fun i hi => absurd hi (Nat.not_lt_zero _), fun i hi => ?_, fun u' hu' => ?_⟩
  · rw [e _ (by omega) (by omega) (by omega) (by omega) (by omega)]; exact h7 w r hw hr
  · rw [e _ (by omega) (by omega) (by omega) (by omega) (by omega)]; exact h8 a b ha hb
  · rw [e _ (by omega) (by omega) (by omega) (by omega) (by omega)]; exact h9 w c hw hc
  · rw [e _ (by omega) (by omega) (by omega) (by omega) (by omega)]; exact h11 i hi
  · show LC C' (p + 19 + 3 * u') u' (if u' = u then t else σ.2.2.2.2.1 u')
    by_cases k : u' = u
    · subst k; rw [if_pos rfl]; exact el
    · rw [if_neg k]
      obtain ⟨g1, g2, cd, g3, g4, g5, g6⟩ := h12 u' hu'
      exact ⟨by rw [e _ (by omega) (by omega) (by omega) (by omega) (by omega)]; exact g1, by rw [e _ (by omega) (by omega) (by omega) (by omega) (by omega)]; exact g2, cd, g3, g4, by rw [e _ (by omega) (by omega) (by omega) (by omega) (by omega)]; exact g5, fun i hi => by rw [e _ (by omega) (by omega) (by omega) (by omega) (by omega)]; exact g6 i hi⟩
theorem tx_loop {u L : Nat} (hu : u < 2) (hL : L ≤ 50) : ∀ (d i : Nat) (D : pm_M), i + d = L → ∀ n : Nat, ∃ D' : pm_M, pm_it (fun _ _ => none) (lb_X8_text_68 (nI u) (nI L)) (n + d + 1) (nI i) D = some D' ∧ (∀ q, q ≠ 1 → D' q = D q) ∧ (∀ k, i ≤ k → k < L → D' 1 (108 + 50 * u + k) = D 1 (208 + k)) ∧ (∀ k, (k < 108 + 50 * u + i ∨ 108 + 50 * u + L ≤ k) → D' 1 k = D 1 k) := by
  intro d
  induction d with
  | zero =>
    intro i D hi n
    refine ⟨D, ?_, fun _ _ => rfl, fun k a b => by omega, fun _ _ => rfl⟩
    show lb_X8_text_68 (nI u) (nI L) _ (nI i) D = _
    rw [lb_X8_text_68.eq_1, if_pos (yle (by omega) (by omega) (by omega))]
  | succ d ih =>
    intro i D hi n
    obtain ⟨D', e1, e2, e3, e4⟩ := ih (i + 1) (pm_up D 1 (108 + 50 * u + i) (D 1 (208 + i))) (by omega) n
    refine ⟨D', ?_, fun q hq => (e2 q hq).trans (pm_up_o q hq), fun k a b => ?_, fun k hk => ?_⟩
    · show lb_X8_text_68 (nI u) (nI L) (pm_it (fun _ _ => none) (lb_X8_text_68 (nI u) (nI L)) (n + d + 1)) (nI i) D = _
      have a1 : (208 : Int32) + nI i = nI (208 + i) := nI_add 208 i
      have a2 : (108 : Int32) + 50 * nI u + nI i = nI (108 + 50 * u + i) := by
        rw [show (50 : Int32) * nI u = nI (50 * u) from pk_mul 50 u, show (108 : Int32) + nI (50 * u) = nI (108 + 50 * u) from nI_add 108 _, nI_add]
      rw [lb_X8_text_68.eq_1, if_neg (nle (a := L) (b := i) (by omega) (by omega) (by omega)), a1, a2, chk_t (in_nI (n := 208 + i) (by omega) (by decide)), chk_t (in_nI (n := 108 + 50 * u + i) (by omega) (by decide)), let_s, nI_clamp (n := 208 + i) (by omega), nI_clamp (n := 108 + 50 * u + i) (by omega), nI_p1]
      exact e1
    · by_cases c : k = i
      · subst c; rw [e4 _ (by omega), up_s]
      · rw [e3 k (by omega) b, up_i (by omega)]
    · rw [e4 k (by omega), up_i (by omega)]
set_option maxHeartbeats 2000000 in
theorem e_text {C D : pm_M} (h : RR C D) (x1 : Int32) : ∃ (r : Int32) (C' D' : pm_M), f_X7_text C x1 = some (r, C') ∧ f_X8_text D x1 = some (r, D') ∧ RR C' D' := by
  obtain ⟨⟨σ, h1, h2, h3⟩, h4⟩ := id h
  have hP : (sP σ).length ≤ 50 := h1.2.2.2.2.2.2.2.2.2.2.1
  have eC : C 1 6 = nI (sP σ).length := h2.2.2.2.2.1
  have eD : D 1 4 = nI (sP σ).length := h3.2.2.2.2.1
  unfold f_X7_text f_X8_text
  rw [x7_within, x8_in, b2_s, b2_s, if_bi, if_bi, i64, li0, li1, ll0, ll1]
  by_cases hv : 0 ≤ x1.toInt ∧ x1.toInt ≤ 1
  · obtain ⟨u, -, hu, rfl⟩ := vx (lo := 0) (hi := 1) (by decide) hv
    generalize ht : sP σ = t at hP eC eD
    obtain ⟨r, C5, hr, fa, c1, c2, c3⟩ := x2_read (C := C) (a1 := 1 + 25) (u := u) (t := t) (by decide) hP (by omega) (fun i hi => by rw [← ht] at hi ⊢; exact h2.2.2.2.2.2.2.2.2.2.1 i hi)
    obtain ⟨v, D7, d1, d2, d3, d4, d5⟩ := x8_worked (M := pm_up D 1 4 0) (bs := 208) (u := u) (t := t) (a := D 5 0) (b := D 5 1) (c := D 5 2) (by omega) hP (by omega) (by rw [up_k (by decide)]) (by rw [up_k (by decide)]) (by rw [up_k (by decide)]) (fun i hi => by rw [up_i (by omega)]; rw [← ht] at hi ⊢; exact h3.2.2.2.2.2.2.2.2.2.2.2.2 i hi)
    rw [hr] at d3 d4 d5
    have tn4 : (4 : Int32).toNatClampNeg = 4 := rfl
    rw [if_pos hv, if_pos hv, eC, c1, b2_s, let_s, tn4, eD, let_s, let_s, show (208 : Int32) = nI 208 from rfl, d1, b2_s]
    have k7 : ∀ q, (q < 91 ∨ 93 < q) → q ≠ 1 → pm_up C5 1 6 0 q = C q := fun q a b => (pm_up_o q b).trans (c2 q a)
    have fD : ∀ q, q ≠ 0 → q ≠ 1 → D7 q = D q := fun q a b => (d2.1 q a).trans (pm_up_o q b)
    by_cases good : r.1 = false ∧ r.2.1 = t.length
    · obtain ⟨d6, -⟩ := d3 good
      rw [if_pos good, if_pos (by decide), chk_t (in_nI (n := u) (by omega) (by decide)), d6, if_pos (by decide), nI_clamp (n := u) (by omega)]
      obtain ⟨c4, c5⟩ := c3 good.1
      have l0 : 0 < t.length := by have := fa.2.2 good.1; have := this.2 (by decide); omega
      have lc : r.2.2.length ≤ 50 := by have := (fa.2.2 good.1).1; omega
      have n0 : t ≠ [] := List.length_pos_iff.mp l0
      rw [take_eq, b1_s]
      have e86 : 86 + nI u = nI (86 + u) := nI_add 86 u
      rw [e86, chk_t (in_nI (n := 86 + u) (by omega) (by decide)), let_s, nI_clamp (n := 86 + u) (by omega)]
      obtain ⟨D8, l1, l2, l3, l4⟩ := tx_loop (u := u) (L := t.length) (by omega) hP t.length 0 (pm_up D7 1 (86 + u) (nI t.length)) (by omega) (99999 - t.length)
      rw [pm_F_s _ (by omega)] at l1
      rw [show lp_X8_text_68 (nI u) (nI t.length) 0 (pm_up D7 1 (86 + u) (nI t.length)) = some D8 from l1, b1_s]
      have D71 : D7 1 = upd (D 1) 4 0 := (d2.1 1 (by decide)).trans pm_up_s
      have q1 : (pm_up C5 1 6 0) 91 1 = nI r.2.2.length := by rw [up_k (by decide)]; exact c4
      generalize hC9 : pm_up (pm_cpy (pm_up C5 1 6 0) (91 + 1) 0 (1 + 19 + 3 * u + 1) 0 50) (1 + 19 + 3 * u) 3 (pm_up C5 1 6 0 91 1) = C9
      have k9 : ∀ q, q ≠ 1 + 19 + 3 * u → q ≠ 1 + 19 + 3 * u + 1 → C9 q = pm_up C5 1 6 0 q := fun q a b => by subst hC9; rw [pm_up_o q a]; exact cpy_o b
      have LCu : LC C9 (1 + 19 + 3 * u) u t := by
        obtain ⟨g1, g2, -⟩ := h2.lc (u := u) (by omega)
        have kq : ∀ j, j ≠ 3 → C9 (1 + 19 + 3 * u) j = C (1 + 19 + 3 * u) j := fun j hj => by
          subst hC9; rw [up_i hj, cpy_o (by omega), k7 _ (by omega) (by omega)]
        refine ⟨by rw [kq 0 (by decide)]; exact g1, by rw [kq 1 (by decide)]; exact g2, r.2.2, Or.inr ⟨n0, ?_⟩, lc, ?_, fun i hi => ?_⟩
        · rw [hr, ← good.1, ← good.2]
        · subst hC9; rw [up_s]; exact q1
        · subst hC9; rw [up_k (by omega), cpy_s (by omega), up_k (by decide)]; exact c5 i hi
      refine ⟨_, _, _, rfl, rfl, h.gen (wf_stx h1 u hP) (VC.stx h2 (by omega) (fun q a b c d e => (k9 q d (by omega)).trans (k7 q (by omega) c)) (fun j hj => ?_) ?_ LCu) (VM.stx h3 h1 (by omega) hP (fun i a b c => ?_) ?_ ?_ (fun i hi => ?_)) (h4.1.congr (fun q hq => (k9 q (by omega) (by omega)).trans (k7 q (by omega) (by omega)))) (fun q a b => (k9 q (by omega) (by omega)).trans (k7 q b (by omega))) ?_ ?_ (fun q a b _ _ _ => (l2 q b).trans ((pm_up_o q b).trans (fD q a b)))⟩
      · rw [k9 1 (by omega) (by omega), up_i hj, c2 1 (by omega)]
      · rw [k9 1 (by omega) (by omega), up_s]
      · rw [l4 i (by omega), up_i b, D71, upd_n a]
      · rw [l4 4 (by omega), up_i (by omega), D71, upd_s]
      · rw [l4 (86 + u) (by omega), up_s]
      · rw [l3 i (Nat.zero_le _) hi, up_i (by omega), D71, upd_n (by omega)]; rw [← ht] at hi ⊢; exact h3.2.2.2.2.2.2.2.2.2.2.2.2 i hi
      · rw [l2 0 (by decide), pm_up_o 0 (by decide), d2.2 2 (by omega), pm_up_o 0 (by decide)]
      · rw [l2 0 (by decide), pm_up_o 0 (by decide), d2.2 14 (by omega), pm_up_o 0 (by decide)]
    · have d6 := d4 good
      rw [if_neg good, if_neg (show ¬ nI r.2.1 < 0 from nI_pos (by omega)), d6, if_neg (show ¬ nI r.2.1 < 0 from nI_pos (by omega))]
      refine ⟨_, _, _, rfl, rfl, h.gen (σ := (σ.1, σ.2.1, σ.2.2.1, σ.2.2.2.1, σ.2.2.2.2.1, [], σ.2.2.2.2.2.2)) ?_ ?_ ?_ (h4.1.congr (fun q hq => k7 q (by omega) (by omega))) (fun q a b => k7 q b (by omega)) ?_ ?_ (fun q a b _ _ _ => fD q a b)⟩
      · obtain ⟨b1, b2, b3, b4, b5, b6, b7, b8, b9, b10, b11, b12⟩ := h1
        exact ⟨b1, b2, b3, b4, b5, b6, b7, b8, b9, b10, Nat.zero_le _, b12⟩
      · exact VC.pz (h2.congr (fun q a b _ _ => c2 q (by omega)))
      · rw [d2.1 1 (by decide), pm_up_s]; exact VM.pz h3 h1
      · rw [d2.2 2 (by omega), pm_up_o 0 (by decide)]
      · rw [d2.2 14 (by omega), pm_up_o 0 (by decide)]
  · rw [if_neg hv, if_neg hv, x7_e1, x8_e1, b2_s, b2_s]
    exact ⟨_, _, _, rfl, rfl, h.err 1⟩
