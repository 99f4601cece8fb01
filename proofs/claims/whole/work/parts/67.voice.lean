/-! ### voices -/
def bd (j : Nat) : Nat := ([10, 11, 12, 13, 0, 0, 20, 0, 30, 0, 0, 0, 0, 40, 0, 0, 0, 0, 50, 51, 0, 0, 0, 60, 0, 70, 0, 0] : List Nat).getD j 0
def abv (k : Nat) : Nat := if k < 4 then 0 else k - 3
theorem bd_e : ∀ j, j < 28 → pm_BODIES j = nI (bd j) ∧ bd j < 100 := by decide
theorem abv_e : ∀ k, k < 7 → 0 < k → pm_ABOVE k = nI (abv k) ∧ abv k < k := by decide
def VW (k m c : Nat) (C D : pm_M) : Prop := k ≤ 6 ∧ m ≤ 9 ∧ c < 5 ∧ C 94 2 = nI k ∧ C 94 3 = nI c ∧ C 94 4 = nI m ∧ D 0 15 = nI c ∧ D 1 (66 + 4 * c + 0) = nI k ∧ D 1 (66 + 4 * c + 1) = nI m ∧ TR C D
def VQ (C D C' D' : pm_M) : Prop := (∀ q, q ≠ 94 → q ≠ 95 → C' q = C q) ∧ (∀ j, j ≠ 1 → C' 94 j = C 94 j) ∧ (∀ q, q ≠ 0 → q ≠ 7 → D' q = D q) ∧ (∀ j, j ≠ 14 → D' 0 j = D 0 j) ∧ TR C' D'
theorem VQ.trans {C D C1 D1 C2 D2 : pm_M} (h : VQ C D C1 D1) (g : VQ C1 D1 C2 D2) : VQ C D C2 D2 := ⟨fun q a b => (g.1 q a b).trans (h.1 q a b), fun j a => (g.2.1 j a).trans (h.2.1 j a), fun q a b => (g.2.2.1 q a b).trans (h.2.2.1 q a b), fun j a => (g.2.2.2.1 j a).trans (h.2.2.2.1 j a), g.2.2.2.2⟩
theorem VW.q {k m c : Nat} {C D C' D' : pm_M} (h : VW k m c C D) (g : VQ C D C' D') : VW k m c C' D' := by
  obtain ⟨h1, h2, h3, h4, h5, h6, h7, h8, h9, h10⟩ := h
  obtain ⟨g1, g2, g3, g4, g5⟩ := g
  exact ⟨h1, h2, h3, by rw [g2 2 (by decide)]; exact h4, by rw [g2 3 (by decide)]; exact h5, by rw [g2 4 (by decide)]; exact h6, by rw [g4 15 (by decide)]; exact h7, by rw [g3 1 (by decide) (by decide)]; exact h8, by rw [g3 1 (by decide) (by decide)]; exact h9, g5⟩
theorem note_ran {C D : pm_M} (h : TR C D) (x : Int32) : ∃ C' D', f_X6_note 94 C x = some C' ∧ f_X8_ran D x = some D' ∧ VQ C D C' D' := by
  obtain ⟨n, h1, h2, h3, h4⟩ := id h
  unfold f_X6_note f_X8_ran
  rw [h2, h3]
  by_cases c : 40 ≤ n
  · rw [if_pos (show (40 : Int32) ≤ nI n from yle (a := 40) (by decide) (by omega) c), if_pos (show (40 : Int32) ≤ nI n from yle (a := 40) (by decide) (by omega) c)]
    exact ⟨C, D, rfl, rfl, fun _ _ _ => rfl, fun _ _ => rfl, fun _ _ _ => rfl, fun _ _ => rfl, h⟩
  · rw [if_neg (show ¬ (40 : Int32) ≤ nI n from nle (a := 40) (by decide) (by omega) (by omega)), if_neg (show ¬ (40 : Int32) ≤ nI n from nle (a := 40) (by decide) (by omega) (by omega)), chk_t (in_nI (n := n) (by omega) (by decide)), chk_t (in_nI (n := n) (by omega) (by decide)), let_s, let_s, let_s, let_s, nI_clamp (n := n) (by omega)]
    have c1 : pm_up C (94 + 1) n x 94 1 = nI n := by rw [up_k (by decide)]; exact h2
    have d1 : pm_up D 7 n x 0 14 = nI n := by rw [up_k (by decide)]; exact h3
    rw [c1, d1, nI_p1]
    refine ⟨_, _, rfl, rfl, fun q a b => by rw [pm_up_o q a]; exact pm_up_o q b, fun j a => by rw [up_i a, up_k (by decide)], fun q a b => by rw [pm_up_o q a]; exact pm_up_o q b, fun j a => by rw [up_i a, up_k (by decide)], n + 1, by omega, up_s, up_s, fun i hi => ?_⟩
    rw [up_k (k := 94) (k' := 95) (by decide), up_k (k := 0) (k' := 7) (by decide)]
    show pm_up C 95 n x 95 i = _
    by_cases e : i = n
    · subst e; rw [up_s, up_s]
    · rw [up_i e, up_i e]; exact h4 i (by omega)
/-- the kind whose body speaks -/
def own (a k : Nat) : Nat := if k = 0 ∨ bd (k * 4 + a) ≠ 0 then k else if abv k = 0 ∨ bd (abv k * 4 + a) ≠ 0 then abv k else 0
theorem ow_step {a k j : Nat} (ha : a < 4) (hk : k < 7) (hj : j < 7) (r : GT_X6_say) (p : Nat) (x3 x4 : Int32) (M : pm_M) (ih : Int32 → Int32 → Option Int32) : lb_X6_say_25 r p (nI a) x3 x4 M ih (nI k) (nI j) = (if k = 0 ∨ bd (k * 4 + a) ≠ 0 then some (nI k) else ih (nI (abv k)) (nI (j + 1))) := by
  obtain ⟨b1, b2⟩ := bd_e (k * 4 + a) (by omega)
  have m4 : nI k * 4 + nI a = nI (k * 4 + a) := by rw [show nI k * 4 = nI (k * 4) from pk_mul k 4, nI_add]
  rw [lb_X6_say_25.eq_1, if_neg (show ¬ (7 : Int32) ≤ nI j from nle (a := 7) (by decide) (by omega) hj), m4, chk_t (in_nI (n := k * 4 + a) (by omega) (by decide)), nI_clamp (n := k * 4 + a) (by omega), b1, chk_t (in_nI (n := k) (by omega) (by decide)), nI_clamp (n := k) (by omega), let_s, nI_p1]
  by_cases k0 : k = 0
  · rw [if_pos (show nI k ≤ 0 by rw [k0]; decide), if_pos (Or.inl k0)]
  · rw [if_neg (show ¬ nI k ≤ 0 from nle (b := 0) (by omega) (by decide) (by omega))]
    by_cases b0 : bd (k * 4 + a) = 0
    · rw [if_pos (show nI (bd (k * 4 + a)) = 0 by rw [b0]; rfl), if_neg (fun q => by rcases q with q | q; exact k0 q; exact q b0), (abv_e k hk (by omega)).1]
    · rw [if_neg (show ¬ nI (bd (k * 4 + a)) = 0 from nne (b := 0) (by omega) (by decide) b0), if_pos (Or.inr b0)]
theorem abv2 : ∀ k, k < 7 → abv k < 7 ∧ abv (abv k) = 0 := by decide
theorem owner_eq {a k : Nat} (ha : a < 4) (hk : k < 7) (r : GT_X6_say) (p : Nat) (x3 x4 : Int32) (M : pm_M) : lp_X6_say_25 r p (nI a) x3 x4 M (nI k) 0 = some (nI (own a k)) := by
  obtain ⟨h1, h2⟩ := abv2 k hk
  have s0 := ow_step ha hk (j := 0) (by decide) r p x3 x4 M (pm_it (fun _ _ => none) (lb_X6_say_25 r p (nI a) x3 x4 M) 99999)
  have s1 := ow_step ha h1 (j := 1) (by decide) r p x3 x4 M (pm_it (fun _ _ => none) (lb_X6_say_25 r p (nI a) x3 x4 M) 99998)
  have s2 := ow_step ha (k := 0) (by decide) (j := 2) (by decide) r p x3 x4 M (pm_it (fun _ _ => none) (lb_X6_say_25 r p (nI a) x3 x4 M) 99997)
  rw [if_pos (Or.inl rfl)] at s2
  rw [h2, show pm_it (fun _ _ => none) (lb_X6_say_25 r p (nI a) x3 x4 M) 99998 (nI 0) (nI (1 + 1)) = some (nI 0) from s2] at s1
  rw [show pm_it (fun _ _ => none) (lb_X6_say_25 r p (nI a) x3 x4 M) 99999 (nI (abv k)) (nI (0 + 1)) = _ from s1] at s0
  refine Eq.trans (show lp_X6_say_25 r p (nI a) x3 x4 M (nI k) 0 = _ from s0) ?_
  unfold own
  by_cases c : k = 0 ∨ bd (k * 4 + a) ≠ 0
  · rw [if_pos c, if_pos c]
  · rw [if_neg c, if_neg c]
    by_cases c2 : abv k = 0 ∨ bd (abv k * 4 + a) ≠ 0
    · rw [if_pos c2, if_pos c2]
    · rw [if_neg c2, if_neg c2]
theorem own_b : ∀ a, a < 4 → ∀ k, k < 7 → own a k < 7 := by decide
theorem own_up : ∀ a, a < 4 → ∀ k, k < 7 → ¬ k = 0 → bd (k * 4 + a) = 0 → own a k = own a (abv k) := by decide
theorem b2_eta {a1 a2 : Type} (x : Option (a1 × a2)) : pm_b2 x (fun a b => some (a, b)) = x := by
  cases x <;> rfl
theorem say_eq {a k dep n : Nat} (ha : a < 4) (hk : k < 7) (hd : dep ≤ 40) (C : pm_M) (x : Int32) : (fG_X6_say (n + 1)).1 94 C (nI k) (nI a) x (nI dep) = pm_b1 (f_X6_note 94 C (nI (bd (own a k * 4 + a)))) (fun M3 => (fG_X6_say n).2 94 M3 (nI (bd (own a k * 4 + a))) (pm_ABOVE (own a k)) x (nI (dep + 1))) := by
  have hb := own_b a ha k hk
  obtain ⟨b1, b2⟩ := bd_e (own a k * 4 + a) (by omega)
  have m4 : nI (own a k) * 4 + nI a = nI (own a k * 4 + a) := by rw [show nI (own a k) * 4 = nI (own a k * 4) from pk_mul _ 4, nI_add]
  show rb_X6_say (fG_X6_say n) 94 C (nI k) (nI a) x (nI dep) = _
  rw [rb_X6_say.eq_1, if_neg (show ¬ nI k < 0 from nI_pos (by omega)), if_neg (show ¬ (7 : Int32) ≤ nI k from nle (a := 7) (by decide) (by omega) hk), if_pos (show nI dep ≤ 40 from yle (b := 40) (by omega) (by decide) hd), owner_eq ha hk, b1_s, m4, chk_t (in_nI (n := own a k * 4 + a) (by omega) (by decide)), let_s, nI_clamp (n := own a k * 4 + a) (by omega), b1, nI_p1]
  congr 1
  funext M3
  rw [chk_t (in_nI (n := own a k) (by omega) (by decide)), nI_clamp (n := own a k) (by omega), b2_eta]
def rf (a : Nat) (N : Nat) : pm_M → Int32 → Int32 → Option (Int32 × pm_M) := if a = 0 then fG_X8_rainsBy N else if a = 1 then fG_X8_driftsBy N else if a = 2 then fG_X8_wearsBy N else fG_X8_tellsBy N
def lvl (k : Nat) : Nat := if k = 0 then 1 else if k < 4 then 2 else 3
def VP (k0 m c a k nd : Nat) : Prop := ∀ (C D : pm_M) (x : Int32) (dep n N : Nat), VW k0 m c C D → dep + nd ≤ 40 → 2 * nd + 2 ≤ n → lvl k ≤ N → ∃ (v : Int32) (C' D' : pm_M), (fG_X6_say n).1 94 C (nI k) (nI a) x (nI dep) = some (v, C') ∧ rf a N D (nI k) x = some (v, D') ∧ VQ C D C' D'
theorem VP.mono {k0 m c a k nd nd' : Nat} (h : VP k0 m c a k nd) (hn : nd ≤ nd') : VP k0 m c a k nd' := fun C D x dep n N w h1 h2 h3 => h C D x dep n N w (by omega) (by omega) h3
theorem above_e {M : pm_M} : ∀ k, k < 7 → f_X8_above M (nI k) = some (nI (abv k), M) := by
  intro k hk
  have t : ∀ k, k < 7 → (if (4 : Int32) ≤ nI k then nI k - 3 else 0) = nI (abv k) := by decide
  have := t k hk
  unfold f_X8_above
  by_cases c : (4 : Int32) ≤ nI k
  · rw [if_pos c] at this ⊢; rw [this]
  · rw [if_neg c] at this ⊢; rw [this]
theorem rf_up {a k N : Nat} (ha : a < 4) (hk : k < 7) (k0 : ¬ k = 0) (hb : bd (k * 4 + a) = 0) (D : pm_M) (x : Int32) : rf a (N + 1) D (nI k) x = rf a N D (nI (abv k)) x := by
  have a4 : a = 0 ∨ a = 1 ∨ a = 2 ∨ a = 3 := by omega
  have g : ∀ (r : pm_M → Int32 → Int32 → Option (Int32 × pm_M)), pm_b2 (f_X8_above D (nI k)) (fun r8 M7 => pm_b2 (r M7 r8 x) (fun r10 M9 => some (r10, M9))) = r D (nI (abv k)) x := fun r => by
    rw [above_e k hk, b2_s, b2_eta]
  rcases a4 with rfl | rfl | rfl | rfl
  · show rb_X8_rainsBy (fG_X8_rainsBy N) D (nI k) x = fG_X8_rainsBy N D (nI (abv k)) x
    refine Eq.trans ?_ (g _)
    rcases k7 (show k ≤ 6 by omega) with rfl | rfl | rfl | rfl | rfl | rfl | rfl
    · exact (k0 rfl).elim
    · rfl
    · exact absurd hb (by decide)
    · rfl
    · rfl
    · rfl
    · rfl
  · show rb_X8_driftsBy (fG_X8_driftsBy N) D (nI k) x = fG_X8_driftsBy N D (nI (abv k)) x
    refine Eq.trans ?_ (g _)
    rcases k7 (show k ≤ 6 by omega) with rfl | rfl | rfl | rfl | rfl | rfl | rfl
    · exact (k0 rfl).elim
    · rfl
    · rfl
    · exact absurd hb (by decide)
    · rfl
    · rfl
    · exact absurd hb (by decide)
  · show rb_X8_wearsBy (fG_X8_wearsBy N) D (nI k) x = fG_X8_wearsBy N D (nI (abv k)) x
    refine Eq.trans ?_ (g _)
    rcases k7 (show k ≤ 6 by omega) with rfl | rfl | rfl | rfl | rfl | rfl | rfl
    · exact (k0 rfl).elim
    · exact absurd hb (by decide)
    · rfl
    · rfl
    · exact absurd hb (by decide)
    · rfl
    · rfl
  · show rb_X8_tellsBy (fG_X8_tellsBy N) D (nI k) x = fG_X8_tellsBy N D (nI (abv k)) x
    refine Eq.trans ?_ (g _)
    rcases k7 (show k ≤ 6 by omega) with rfl | rfl | rfl | rfl | rfl | rfl | rfl
    · exact (k0 rfl).elim
    · rfl
    · rfl
    · rfl
    · exact absurd hb (by decide)
    · exact absurd hb (by decide)
    · rfl
theorem lvl_up : ∀ k, k < 7 → ¬ k = 0 → lvl (abv k) + 1 ≤ lvl k := by decide
theorem VP.up {k0 m c a k nd : Nat} (ha : a < 4) (hk : k < 7) (hk0 : ¬ k = 0) (hb : bd (k * 4 + a) = 0) (h : VP k0 m c a (abv k) nd) : VP k0 m c a k nd := by
  intro C D x dep n N w h1 h2 h3
  have hl := lvl_up k hk hk0
  obtain ⟨N', rfl⟩ : ∃ N', N = N' + 1 := ⟨N - 1, by omega⟩
  obtain ⟨n', rfl⟩ : ∃ n', n = n' + 1 := ⟨n - 1, by omega⟩
  obtain ⟨v, C', D', e1, e2, e3⟩ := h C D x dep (n' + 1) N' w h1 h2 (by omega)
  refine ⟨v, C', D', ?_, ?_, e3⟩
  · rw [say_eq ha hk (by omega), own_up a ha k hk hk0 hb, ← say_eq ha (abv2 k hk).1 (by omega)]; exact e1
  · rw [rf_up ha hk hk0 hb]; exact e2
/-- a kind's own body -/
theorem VP.own {k0 m c a k nd b : Nat} (ha : a < 4) (hk : k < 7) (ho : own a k = k) (hb : bd (k * 4 + a) = b)
  (h : ∀ (C D : pm_M) (x : Int32) (dep n N : Nat), VW k0 m c C D → dep + nd ≤ 41 → 2 * nd ≤ n → lvl k ≤ N + 1 → ∃ (v : Int32) (C' D' : pm_M), rb_X6_sayBody (fG_X6_say n) 94 C (nI b) (pm_ABOVE k) x (nI dep) = some (v, C') ∧ VQ C D C' D' ∧ ∀ D0 : pm_M, f_X8_ran D0 (nI b) = some D → rf a (N + 1) D0 (nI k) x = some (v, D')) (hnd : 1 ≤ nd) : VP k0 m c a k nd := by
  intro C D x dep n N w h1 h2 h3
  have l1 : 1 ≤ lvl k := by unfold lvl; split; exact Nat.le_refl _; split <;> omega
  obtain ⟨n', rfl⟩ : ∃ n', n = n' + 1 + 1 := ⟨n - 2, by omega⟩
  obtain ⟨N', rfl⟩ : ∃ N', N = N' + 1 := ⟨N - 1, by omega⟩
  obtain ⟨C1, D1, a1, a2, a3⟩ := note_ran w.2.2.2.2.2.2.2.2.2 (nI b)
  obtain ⟨v, C', D', e1, e2, e3⟩ := h C1 D1 x (dep + 1) n' N' (w.q a3) (by omega) (by omega) (by omega)
  refine ⟨v, C', D', ?_, e3 D a2, a3.trans e2⟩
  rw [say_eq ha hk (by omega), ho, hb, a1, b1_s]
  exact e1
