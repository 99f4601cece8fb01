set_option maxHeartbeats 4000000 in
theorem cr_mid {p nR : Nat} {C0 D0 : pm_M} {o0 : Nat → Nat → Nat} {a : Nat} : ∀ (d i : Nat) (acc : Int32) (C D : pm_M), (∃ o, OX p nR C0 D0 o0 C D o) → a < i → i + d = nR → ∀ n m : Nat, ∃ (r : Int32) (C' D' : pm_M), pm_it (fun _ _ _ => none) (lb_X3_clearDebts_59 p (nI a)) (n + d + 1) acc (nI i) C = some (r, C') ∧ pm_it (fun _ _ _ => none) (lb_X8_clearsAll_127 (nI a)) (m + d + 1) acc (nI i) D = some (r, D') ∧ ∃ o, OX p nR C0 D0 o0 C' D' o := by
  intro d
  induction d with
  | zero =>
    intro i acc C D h ha hi n m
    obtain ⟨o, ho⟩ := id h
    have hR : nR ≤ 6 := ho.1.1
    refine ⟨acc, C, D, ?_, ?_, h⟩
    · show lb_X3_clearDebts_59 p (nI a) _ acc (nI i) C = _
      rw [lb_X3_clearDebts_59.eq_1, ho.1.2.1, if_pos (yle (by omega) (by omega) (by omega))]
    · show lb_X8_clearsAll_127 (nI a) _ acc (nI i) D = _
      rw [lb_X8_clearsAll_127.eq_1, tn_0, ho.1.2.2.1, if_pos (yle (by omega) (by omega) (by omega))]
  | succ d ih =>
    intro i acc C D h ha hi n m
    obtain ⟨o, ho⟩ := id h
    have hR : nR ≤ 6 := ho.1.1
    obtain ⟨s, C1, D1, f1, f2, f3⟩ := cr_in (p := p) (nR := nR) (a := a) (b := i) ha (by omega) (nR - (a + 1)) (a + 1) acc C D h (by omega) (by omega) (99999 - (nR - (a + 1))) (99999 - (nR - (a + 1)))
    rw [pm_F_s _ (by omega)] at f1 f2
    obtain ⟨r, C', D', e1, e2, e3⟩ := ih (i + 1) s C1 D1 f3 (by omega) (by omega) n m
    refine ⟨r, C', D', ?_, ?_, e3⟩
    · show lb_X3_clearDebts_59 p (nI a) (pm_it (fun _ _ _ => none) (lb_X3_clearDebts_59 p (nI a)) (n + d + 1)) acc (nI i) C = _
      rw [lb_X3_clearDebts_59.eq_1, ho.1.2.1, if_neg (nle (a := nR) (b := i) (by omega) (by omega) (by omega)), let_s, nI_p1, nI_p1, show lp_X3_clearDebts_72 p (nI a) (nI i) acc (nI (a + 1)) C = some (s, C1) from f1, b2_s]
      exact e1
    · show lb_X8_clearsAll_127 (nI a) (pm_it (fun _ _ _ => none) (lb_X8_clearsAll_127 (nI a)) (m + d + 1)) acc (nI i) D = _
      rw [lb_X8_clearsAll_127.eq_1, tn_0, ho.1.2.2.1, if_neg (nle (a := nR) (b := i) (by omega) (by omega) (by omega)), let_s, nI_p1, nI_p1, show lp_X8_clearsAll_142 (nI a) (nI i) acc (nI (a + 1)) D = some (s, D1) from f2, b2_s]
      exact e2
set_option maxHeartbeats 4000000 in
theorem cr_out {p nR : Nat} {C0 D0 : pm_M} {o0 : Nat → Nat → Nat} : ∀ (d i : Nat) (acc : Int32) (C D : pm_M), (∃ o, OX p nR C0 D0 o0 C D o) → i + d = nR → ∀ n m : Nat, ∃ (r : Int32) (C' D' : pm_M), pm_it (fun _ _ _ => none) (lb_X3_clearDebts_47 p) (n + d + 1) acc (nI i) C = some (r, C') ∧ pm_it (fun _ _ _ => none) (lb_X8_clearsAll_113) (m + d + 1) acc (nI i) D = some (r, D') ∧ ∃ o, OX p nR C0 D0 o0 C' D' o := by
  intro d
  induction d with
  | zero =>
    intro i acc C D h hi n m
    obtain ⟨o, ho⟩ := id h
    have hR : nR ≤ 6 := ho.1.1
    refine ⟨acc, C, D, ?_, ?_, h⟩
    · show lb_X3_clearDebts_47 p _ acc (nI i) C = _
      rw [lb_X3_clearDebts_47.eq_1, ho.1.2.1, if_pos (yle (by omega) (by omega) (by omega))]
    · show lb_X8_clearsAll_113 _ acc (nI i) D = _
      rw [lb_X8_clearsAll_113.eq_1, tn_0, ho.1.2.2.1, if_pos (yle (by omega) (by omega) (by omega))]
  | succ d ih =>
    intro i acc C D h hi n m
    obtain ⟨o, ho⟩ := id h
    have hR : nR ≤ 6 := ho.1.1
    obtain ⟨s, C1, D1, f1, f2, f3⟩ := cr_mid (p := p) (nR := nR) (a := i) d (i + 1) acc C D h (by omega) (by omega) (99999 - d) (99999 - d)
    rw [pm_F_s _ (by omega)] at f1 f2
    obtain ⟨r, C', D', e1, e2, e3⟩ := ih (i + 1) s C1 D1 f3 (by omega) n m
    refine ⟨r, C', D', ?_, ?_, e3⟩
    · show lb_X3_clearDebts_47 p (pm_it (fun _ _ _ => none) (lb_X3_clearDebts_47 p) (n + d + 1)) acc (nI i) C = _
      rw [lb_X3_clearDebts_47.eq_1, ho.1.2.1, if_neg (nle (a := nR) (b := i) (by omega) (by omega) (by omega)), let_s, nI_p1, show lp_X3_clearDebts_59 p (nI i) acc (nI (i + 1)) C = some (s, C1) from f1, b2_s]
      exact e1
    · show lb_X8_clearsAll_113 (pm_it (fun _ _ _ => none) (lb_X8_clearsAll_113) (m + d + 1)) acc (nI i) D = _
      rw [lb_X8_clearsAll_113.eq_1, tn_0, ho.1.2.2.1, if_neg (nle (a := nR) (b := i) (by omega) (by omega) (by omega)), let_s, nI_p1, show lp_X8_clearsAll_127 (nI i) acc (nI (i + 1)) D = some (s, D1) from f2, b2_s]
      exact e2
theorem clear_eq {p nR : Nat} {C D : pm_M} {o : Nat → Nat → Nat} (h : OW p nR C D o) : ∃ (r : Int32) (C' D' : pm_M), f_X3_clearDebts p C = some (r, C') ∧ f_X8_clearsAll D = some (r, D') ∧ ∃ o', OX p nR C D o C' D' o' := by
  have hR : nR ≤ 6 := h.1
  have h0 : ∃ o', OX p nR C D o C D o' := ⟨o, h, fun _ _ => rfl, fun _ _ => rfl, fun _ _ => rfl, fun _ _ => Nat.le_refl _⟩
  obtain ⟨s, C1, D1, f1, f2, f3⟩ := cp_out nR 0 0 C D h0 (by omega) (99999 - nR) (99999 - nR)
  obtain ⟨r, C', D', e1, e2, e3⟩ := cr_out nR 0 s C1 D1 f3 (by omega) (99999 - nR) (99999 - nR)
  rw [pm_F_s _ (by omega)] at f1 f2 e1 e2
  unfold f_X3_clearDebts f_X8_clearsAll
  rw [show lp_X3_clearDebts_4 p 0 0 C = some (s, C1) from f1, b2_s, show lp_X3_clearDebts_47 p s 0 C1 = some (r, C') from e1, b2_s, show lp_X8_clearsAll_4 0 0 D = some (s, D1) from f2, b2_s, show lp_X8_clearsAll_113 s 0 D1 = some (r, D') from e2, b2_s]
  exact ⟨_, _, _, rfl, rfl, e3⟩
theorem VC.owes {C C' : pm_M} {p : Nat} {σ : sg} (h : VC C p σ) (f : Nat → Nat → Nat) (e : ∀ q, (q < p + 7 ∨ p + 13 ≤ q) → C' q = C q) (e1 : ∀ a b, a < 6 → b < 6 → C' (p + 7 + a) b = nI (f a b)) : VC C' p (σ.1, σ.2.1, f, σ.2.2.2.1, σ.2.2.2.2.1, σ.2.2.2.2.2.1, σ.2.2.2.2.2.2) := by
  obtain ⟨h1, h2, h3, h4, h5, h6, h7, h8, h9, h10, h11, h12⟩ := h
  exact ⟨by rw [e _ (by omega)]; exact h1, by rw [e _ (by omega)]; exact h2, by rw [e _ (by omega)]; exact h3, by rw [e _ (by omega)]; exact h4, by rw [e _ (by omega)]; exact h5, by rw [e _ (by omega)]; exact h6, fun w r hw hr => by rw [e _ (by omega)]; exact h7 w r hw hr, e1, fun w c hw hc => by rw [e _ (by omega)]; exact h9 w c hw hc, fun i hi => by rw [e _ (by omega)]; exact h10 i hi, fun i hi => by rw [e _ (by omega)]; exact h11 i hi, fun u hu => by
    obtain ⟨g1, g2, cd, g3, g4, g5, g6⟩ := h12 u hu
    exact ⟨by rw [e _ (by omega)]; exact g1, by rw [e _ (by omega)]; exact g2, cd, g3, g4, by rw [e _ (by omega)]; exact g5, fun i hi => by rw [e _ (by omega)]; exact g6 i hi⟩⟩
theorem VM.owes {g g' : Nat → Int32} {σ : sg} (h : VM g σ) {B : Nat} (hw : WF B σ) (f : Nat → Nat → Nat) (e : ∀ i, (i < 30 ∨ 66 ≤ i) → g' i = g i) (e1 : ∀ a b, a < 6 → b < 6 → g' (30 + 6 * a + b) = nI (f a b)) : VM g' (σ.1, σ.2.1, f, σ.2.2.2.1, σ.2.2.2.2.1, σ.2.2.2.2.2.1, σ.2.2.2.2.2.2) := by
  obtain ⟨h1, h2, h3, h4, h5, h6, h7, h8, h9, h10, h11, h12, h13⟩ := h
  have b1 : sR σ ≤ 6 := hw.1
  exact ⟨by rw [e _ (by omega)]; exact h1, by rw [e _ (by omega)]; exact h2, by rw [e _ (by omega)]; exact h3, by rw [e _ (by omega)]; exact h4, by rw [e _ (by omega)]; exact h5, by rw [e _ (by omega)]; exact h6, fun r w hr hw => by have hr : r < sR σ := hr; rw [e _ (by omega)]; exact h7 r w hr hw, e1, fun c w hc hw => by rw [e _ (by omega)]; exact h9 c w hc hw, fun u hu => by rw [e _ (by omega)]; exact h10 u hu, fun i hi => by rw [e _ (by omega)]; exact h11 i hi, fun u i hu hi => by rw [e _ (by omega)]; exact h12 u i hu hi, fun i hi => by rw [e _ (by omega)]; exact h13 i hi⟩
theorem wf_owes {B : Nat} {σ : sg} (h : WF B σ) {f : Nat → Nat → Nat} (le : ∀ a b, f a b ≤ so σ a b) : WF B (σ.1, σ.2.1, f, σ.2.2.2.1, σ.2.2.2.2.1, σ.2.2.2.2.2.1, σ.2.2.2.2.2.2) := by
  obtain ⟨b1, b2, b3, b4, b5, b6, b7, b8, b9, b10, b11, b12⟩ := h
  exact ⟨b1, b2, b3, b4, b5, b6, fun a b => Nat.le_trans (le a b) (b7 a b), fun a b hh => Nat.le_zero.mp (by have := le a b; rw [b8 a b hh] at this; exact this), b9, b10, b11, b12⟩
theorem VC.ow {C D : pm_M} {σ : sg} {B : Nat} (h1 : WF B σ) (h2 : VC C 1 σ) (h3 : VM (D 1) σ) : OW (1 + 1) (sR σ) C D (so σ) := by
  refine ⟨h1.1, h2.1, h3.1, fun a b ha hb => ?_, fun a b ha hb => h3.2.2.2.2.2.2.2.1 a b ha hb, h1.2.2.2.2.2.2.1, fun a => h1.2.2.2.2.2.2.2.1 a a (Or.inr (Or.inr rfl))⟩
  rw [show 1 + 1 + 6 + a = 1 + 7 + a by omega]
  exact h2.2.2.2.2.2.2.2.1 a b ha hb
theorem e_clear {C D : pm_M} (h : RR C D)  : ∃ (r : Int32) (C' D' : pm_M), f_X7_clear C  = some (r, C') ∧ f_X8_clear D  = some (r, D') ∧ RR C' D' := by
  obtain ⟨⟨σ, h1, h2, h3⟩, h4⟩ := id h
  obtain ⟨r, C', D', e1, e2, o, ⟨w1, w2, w3, w4, w5, w6, w7⟩, g1, g2, g3, g4⟩ := clear_eq (VC.ow h1 h2 h3)
  unfold f_X7_clear f_X8_clear
  rw [e1, e2, b2_s, b2_s]
  refine ⟨_, _, _, rfl, rfl, h.now (wf_owes h1 g4) ?_ ?_ (fun q hq => g1 q (by omega)) g2⟩
  · refine h2.owes o (fun q hq => g1 q (by omega)) (fun a b ha hb => ?_)
    rw [show 1 + 7 + a = 1 + 1 + 6 + a by omega]; exact w4 a b ha hb
  · exact h3.owes h1 o g3 w5
