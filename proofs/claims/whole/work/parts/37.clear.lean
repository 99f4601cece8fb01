/-! ### clearing: the owed rows alone; class at p (Roofs), reference at 1 -/
def OW (p nR : Nat) (C D : pm_M) (o : Nat → Nat → Nat) : Prop := nR ≤ 6 ∧ C p 0 = nI nR ∧ D 1 0 = nI nR ∧ (∀ a b, a < 6 → b < 6 → C (p + 6 + a) b = nI (o a b)) ∧ (∀ a b, a < 6 → b < 6 → D 1 (30 + 6 * a + b) = nI (o a b)) ∧ (∀ a b, o a b ≤ 999) ∧ (∀ a, o a a = 0)
def OX (p nR : Nat) (C0 D0 : pm_M) (o0 : Nat → Nat → Nat) (C D : pm_M) (o : Nat → Nat → Nat) : Prop := OW p nR C D o ∧ (∀ q, (q < p + 6 ∨ p + 12 ≤ q) → C q = C0 q) ∧ (∀ q, q ≠ 1 → D q = D0 q) ∧ (∀ k, (k < 30 ∨ 66 ≤ k) → D 1 k = D0 1 k) ∧ ∀ a b, o a b ≤ o0 a b
theorem OX.less {p nR : Nat} {C0 D0 C D : pm_M} {o0 o : Nat → Nat → Nat} (h : OX p nR C0 D0 o0 C D o) {a b z : Nat} (ha : a < 6) (hb : b < 6) : OX p nR C0 D0 o0 (pm_up C (p + 6 + a) b (nI (o a b - z))) (pm_up D 1 (30 + 6 * a + b) (nI (o a b - z))) (f2 o a b (o a b - z)) := by
  obtain ⟨⟨w1, w2, w3, w4, w5, w6, w7⟩, g1, g2, g3, g4⟩ := h
  have le : ∀ a' b', f2 o a b (o a b - z) a' b' ≤ o a' b' := fun a' b' => by
    by_cases e : a' = a ∧ b' = b
    · obtain ⟨rfl, rfl⟩ := e; rw [f2_s]; omega
    · rw [f2_n e]; omega
  refine ⟨⟨w1, by rw [up_k (by omega)]; exact w2, by rw [up_i (by omega)]; exact w3, fun a' b' ha' hb' => ?_, fun a' b' ha' hb' => ?_, fun a' b' => Nat.le_trans (le a' b') (w6 a' b'), fun a' => by have := le a' a'; have := w7 a'; omega⟩, fun q hq => (pm_up_o q (by omega)).trans (g1 q hq), fun q hq => (pm_up_o q hq).trans (g2 q hq), fun k hk => by rw [up_i (by omega)]; exact g3 k hk, fun a' b' => Nat.le_trans (le a' b') (g4 a' b')⟩
  · by_cases e : a' = a ∧ b' = b
    · obtain ⟨rfl, rfl⟩ := e; rw [f2_s, up_s]
    · rw [f2_n e]
      by_cases e2 : a' = a
      · rw [up_i (by omega)]; exact w4 a' b' ha' hb'
      · rw [up_k (by omega)]; exact w4 a' b' ha' hb'
  · by_cases e : a' = a ∧ b' = b
    · obtain ⟨rfl, rfl⟩ := e; rw [f2_s, up_s]
    · rw [f2_n e, up_i (by omega)]; exact w5 a' b' ha' hb'
theorem OX.same {p nR : Nat} {C0 D0 C D : pm_M} {o0 o : Nat → Nat → Nat} (h : OX p nR C0 D0 o0 C D o) {a b : Nat} (ha : a < 6) (hb : b < 6) : OX p nR C0 D0 o0 C (pm_up D 1 (30 + 6 * a + b) (nI (o a b - 0))) o := by
  obtain ⟨⟨w1, w2, w3, w4, w5, w6, w7⟩, g1, g2, g3, g4⟩ := h
  refine ⟨⟨w1, w2, by rw [up_i (by omega)]; exact w3, w4, fun a' b' ha' hb' => ?_, w6, w7⟩, g1, fun q hq => (pm_up_o q hq).trans (g2 q hq), fun k hk => by rw [up_i (by omega)]; exact g3 k hk, g4⟩
  by_cases e : a' = a ∧ b' = b
  · obtain ⟨rfl, rfl⟩ := e; rw [up_s, Nat.sub_zero]
  · rw [up_i (by omega)]; exact w5 a' b' ha' hb'
theorem x8_lessens {p nR : Nat} {C D : pm_M} {o : Nat → Nat → Nat} (h : OW p nR C D o) {a b z : Nat} (ha : a < 6) (hb : b < 6) (hz : z ≤ o a b) : f_X8_lessens D (nI a) (nI b) (nI z) = some (pm_up D 1 (30 + 6 * a + b) (nI (o a b - z))) := by
  obtain ⟨w1, w2, w3, w4, w5, w6, w7⟩ := h
  unfold f_X8_lessens
  rw [ix30, let_s, chk_t (in_nI (n := 30 + 6 * a + b) (by omega) (by decide)), chk_t (in_nI (n := 30 + 6 * a + b) (by omega) (by decide)), let_s, nI_clamp (n := 30 + 6 * a + b) (by omega), w5 a b ha hb, sub_nI hz]
theorem x3_clearPair {p nR : Nat} {C D : pm_M} {o : Nat → Nat → Nat} (h : OW p nR C D o) {a b : Nat} (ha : a < 6) (hb : b < 6) (hab : a ≠ b) (z : Nat) (hz : z = min (o a b) (o b a)) : f_X3_clearPair p C (nI a) (nI b) = some (2 * nI z, pm_up (pm_up C (p + 6 + a) b (nI (o a b - z))) (p + 6 + b) a (nI (o b a - z))) := by
  obtain ⟨w1, w2, w3, w4, w5, w6, w7⟩ := h
  have k1 := w6 a b
  have k2 := w6 b a
  unfold f_X3_clearPair
  rw [chk_t (in_nI (n := a) ha (by decide)), chk_t (in_nI (n := b) hb (by decide)), chk_t (in_nI (n := b) hb (by decide)), chk_t (in_nI (n := a) ha (by decide)), nI_clamp (n := a) (by omega), nI_clamp (n := b) (by omega), w4 a b ha hb, w4 b a hb ha, nI_min (by omega) (by omega), ← hz, let_s, chk_t (in_nI (n := b) hb (by decide)), chk_t (in_nI (n := b) hb (by decide)), let_s, chk_t (in_nI (n := a) ha (by decide)), chk_t (in_nI (n := a) ha (by decide)), let_s, sub_nI (by omega), up_k (k := p + 6 + a) (k' := p + 6 + b) (by omega), w4 b a hb ha, sub_nI (by omega)]
theorem x3_clearRing {p nR : Nat} {C D : pm_M} {o : Nat → Nat → Nat} (h : OW p nR C D o) {a b c : Nat} (ha : a < 6) (hb : b < 6) (hc : c < 6) (hab : a ≠ b) (hbc : b ≠ c) (hac : a ≠ c) (z : Nat) (hz : z = min (o a b) (min (o b c) (o c a))) : f_X3_clearRing p C (nI a) (nI b) (nI c) = some (3 * nI z, pm_up (pm_up (pm_up C (p + 6 + a) b (nI (o a b - z))) (p + 6 + b) c (nI (o b c - z))) (p + 6 + c) a (nI (o c a - z))) := by
  obtain ⟨w1, w2, w3, w4, w5, w6, w7⟩ := h
  have k1 := w6 a b
  have k2 := w6 b c
  have k3 := w6 c a
  unfold f_X3_clearRing
  rw [chk_t (in_nI (n := a) ha (by decide)), chk_t (in_nI (n := b) hb (by decide)), chk_t (in_nI (n := b) hb (by decide)), chk_t (in_nI (n := c) hc (by decide)), chk_t (in_nI (n := c) hc (by decide)), chk_t (in_nI (n := a) ha (by decide)), nI_clamp (n := a) (by omega), nI_clamp (n := b) (by omega), nI_clamp (n := c) (by omega), w4 a b ha hb, w4 b c hb hc, w4 c a hc ha, nI_min (by omega) (by omega), nI_min (by omega) (by omega), ← hz, let_s, chk_t (in_nI (n := b) hb (by decide)), chk_t (in_nI (n := b) hb (by decide)), let_s, chk_t (in_nI (n := c) hc (by decide)), chk_t (in_nI (n := c) hc (by decide)), let_s, chk_t (in_nI (n := a) ha (by decide)), chk_t (in_nI (n := a) ha (by decide)), let_s, sub_nI (by omega), up_k (k := p + 6 + a) (k' := p + 6 + b) (by omega), w4 b c hb hc, sub_nI (by omega), up_k (k := p + 6 + b) (k' := p + 6 + c) (by omega), up_k (k := p + 6 + a) (k' := p + 6 + c) (by omega), w4 c a hc ha, sub_nI (by omega)]
set_option maxHeartbeats 4000000 in
theorem cp_in {p nR : Nat} {C0 D0 : pm_M} {o0 : Nat → Nat → Nat} {a : Nat} : ∀ (d i : Nat) (acc : Int32) (C D : pm_M), (∃ o, OX p nR C0 D0 o0 C D o) → a < i → i + d = nR → ∀ n m : Nat, ∃ (r : Int32) (C' D' : pm_M), pm_it (fun _ _ _ => none) (lb_X3_clearDebts_16 p (nI a)) (n + d + 1) acc (nI i) C = some (r, C') ∧ pm_it (fun _ _ _ => none) (lb_X8_clearsAll_18 (nI a)) (m + d + 1) acc (nI i) D = some (r, D') ∧ ∃ o, OX p nR C0 D0 o0 C' D' o := by
  intro d
  induction d with
  | zero =>
    intro i acc C D h ha hi n m
    obtain ⟨o, ho⟩ := id h
    have hR : nR ≤ 6 := ho.1.1
    refine ⟨acc, C, D, ?_, ?_, h⟩
    · show lb_X3_clearDebts_16 p (nI a) _ acc (nI i) C = _
      rw [lb_X3_clearDebts_16.eq_1, ho.1.2.1, if_pos (yle (by omega) (by omega) (by omega))]
    · show lb_X8_clearsAll_18 (nI a) _ acc (nI i) D = _
      rw [lb_X8_clearsAll_18.eq_1, tn_0, ho.1.2.2.1, if_pos (yle (by omega) (by omega) (by omega))]
  | succ d ih =>
    intro i acc C D h ha hi n m
    obtain ⟨o, ho⟩ := id h
    have hR : nR ≤ 6 := ho.1.1
    generalize hz : min (o a i) (o i a) = z
    have k1 := ho.1.2.2.2.2.2.1 a i
    have k2 := ho.1.2.2.2.2.2.1 i a
    have s1 := ho.less (a := a) (b := i) (z := z) (by omega) (by omega)
    have s2 := s1.less (a := i) (b := a) (z := z) (by omega) (by omega)
    rw [f2_n (by omega)] at s2
    obtain ⟨r, C', D', e1, e2, e3⟩ := ih (i + 1) (acc + 2 * nI z) _ _ ⟨_, s2⟩ (by omega) (by omega) n m
    refine ⟨r, C', D', ?_, ?_, e3⟩
    · show lb_X3_clearDebts_16 p (nI a) (pm_it (fun _ _ _ => none) (lb_X3_clearDebts_16 p (nI a)) (n + d + 1)) acc (nI i) C = _
      rw [lb_X3_clearDebts_16.eq_1, ho.1.2.1, if_neg (nle (a := nR) (b := i) (by omega) (by omega) (by omega)), x3_clearPair ho.1 (by omega) (by omega) (by omega) z hz.symm, b2_s, let_s, nI_p1]
      exact e1
    · have t : ∀ z', z' = z → (pm_b1 (f_X8_lessens D (nI a) (nI i) (nI z')) (fun M19004 : pm_M => (pm_b1 (f_X8_lessens M19004 (nI i) (nI a) (nI z')) (fun M19005 : pm_M => (pm_let (acc + (2 * nI z')) (fun z19006 : Int32 => (pm_it (fun _ _ _ => none) (lb_X8_clearsAll_18 (nI a)) (m + d + 1) z19006 (nI i + 1) M19005))))))) = some (r, D') := by
        intro z' ez
        subst ez
        have l2 := x8_lessens s1.1 (a := i) (b := a) (z := z') (by omega) (by omega) (by rw [f2_n (by omega)]; omega)
        rw [f2_n (by omega)] at l2
        rw [x8_lessens ho.1 (by omega) (by omega) (by omega), b1_s, l2, b1_s, let_s, nI_p1]
        exact e2
      show lb_X8_clearsAll_18 (nI a) (pm_it (fun _ _ _ => none) (lb_X8_clearsAll_18 (nI a)) (m + d + 1)) acc (nI i) D = _
      rw [lb_X8_clearsAll_18.eq_1, tn_0, ho.1.2.2.1, if_neg (nle (a := nR) (b := i) (by omega) (by omega) (by omega)), ix30, ix30, chk_t (in_nI (n := 30 + 6 * a + i) (by omega) (by decide)), let_s, chk_t (in_nI (n := 30 + 6 * i + a) (by omega) (by decide)), let_s, nI_clamp (n := 30 + 6 * a + i) (by omega), nI_clamp (n := 30 + 6 * i + a) (by omega), ho.1.2.2.2.2.1 a i (by omega) (by omega), ho.1.2.2.2.2.1 i a (by omega) (by omega)]
      by_cases c : o i a ≤ o a i
      · rw [if_pos (yle (by omega) (by omega) c)]; exact t _ (by omega)
      · rw [if_neg (nle (by omega) (by omega) (by omega))]; exact t _ (by omega)
