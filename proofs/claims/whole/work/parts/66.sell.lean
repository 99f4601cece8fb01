/-! sellers -/
def Ss (σ : sg) (w s : Nat) : Nat → Nat
  | 0 => 0
  | i + 1 => Ss σ w s i + s / 2 ^ i % 2 * sr σ w i
def pcs (s : Nat) : Nat → Nat
  | 0 => 0
  | i + 1 => pcs s i + s / 2 ^ i % 2
theorem pcs_6 : ∀ n, n < 7 → ∀ s, s < 2 ^ n → pcs s n = pc6 s ∧ pc6 s ≤ 6 := by decide
theorem Ss_b {B : Nat} {σ : sg} (hw : WF B σ) {w s : Nat} (h2 : w < 2) : ∀ i, Ss σ w s i ≤ 9999 * i := by
  intro i
  induction i with
  | zero => exact Nat.le_refl _
  | succ i ih =>
    have b : sr σ w i ≤ 9999 := Nat.le_trans (hw.2.2.2.2.1 w i (by omega)) (by unfold rf_most; split; exact Nat.le_refl _; split <;> omega)
    have : s / 2 ^ i % 2 * sr σ w i ≤ 1 * 9999 := Nat.mul_le_mul (by omega) b
    show Ss σ w s i + s / 2 ^ i % 2 * sr σ w i ≤ _
    omega
section SE
variable {B : Nat} {σ : sg} {C D : pm_M}
theorem so_loop (hw : WF B σ) (h : VC C 1 σ) {w s : Nat} (h2 : w < 2) (hs : s < 64) : ∀ (d i : Nat), i + d = sR σ → ∀ n : Nat, pm_it (fun _ _ => none) (lb_X3_sumOver_5 (1 + 1) (1 + 2 + w) (nI s) C) (n + d + 1) (nI (Ss σ w s i)) (nI i) = some (nI (Ss σ w s (sR σ))) := by
  have h6 : sR σ ≤ 6 := hw.1
  intro d
  induction d with
  | zero =>
    intro i hi n
    have : i = sR σ := by omega
    subst this
    show lb_X3_sumOver_5 (1 + 1) (1 + 2 + w) (nI s) C _ _ (nI (sR σ)) = _
    rw [lb_X3_sumOver_5.eq_1, show C (1 + 1) 0 = nI (sR σ) from h.1, if_pos (yle (by omega) (by omega) (by omega))]
  | succ d ih =>
    intro i hi n
    refine Eq.trans ?_ (ih (i + 1) (by omega) n)
    show lb_X3_sumOver_5 (1 + 1) (1 + 2 + w) (nI s) C (pm_it (fun _ _ => none) (lb_X3_sumOver_5 (1 + 1) (1 + 2 + w) (nI s) C) (n + d + 1)) (nI (Ss σ w s i)) (nI i) = pm_it (fun _ _ => none) (lb_X3_sumOver_5 (1 + 1) (1 + 2 + w) (nI s) C) (n + d + 1) (nI (Ss σ w s i + s / 2 ^ i % 2 * sr σ w i)) (nI (i + 1))
    have e : C (1 + 2 + w) i = nI (sr σ w i) := h.2.2.2.2.2.2.1 w i (by omega) (by omega)
    rw [lb_X3_sumOver_5.eq_1, show C (1 + 1) 0 = nI (sR σ) from h.1, if_neg (nle (a := sR σ) (b := i) (by omega) (by omega) (by omega)), shr_bit s hs i (by omega), nI_p1]
    by_cases b : s / 2 ^ i % 2 = 1
    · rw [if_pos (bit_1 b), chk_t (in_nI (n := i) (by omega) (by decide)), let_s, nI_clamp (n := i) (by omega), e, nI_add, b, Nat.one_mul]
    · have b0 : s / 2 ^ i % 2 = 0 := by omega
      rw [if_neg (bit_0 b), b0, Nat.zero_mul, Nat.add_zero (Ss σ w s i)]
theorem so_eq (hw : WF B σ) (h : VC C 1 σ) {w s : Nat} (h2 : w < 2) (hs : s < 64) : f_X3_sumOver (1 + 1) C (nI s) (1 + 2 + w) = some (nI (Ss σ w s (sR σ)), C) := by
  have h6 : sR σ ≤ 6 := hw.1
  have e := so_loop hw h h2 hs (sR σ) 0 (by omega) (99999 - sR σ)
  rw [pm_F_s _ (by omega)] at e
  unfold f_X3_sumOver
  rw [show lp_X3_sumOver_5 (1 + 1) (1 + 2 + w) (nI s) C 0 0 = some (nI (Ss σ w s (sR σ))) from e, b1_s]
theorem s8_loop (hw : WF B σ) (h : VM (D 1) σ) {x1 x2 l3 l4 l5 l6 : Int32} {s : Nat} (hs : s < 64) : ∀ (d i : Nat), i + d = sR σ → ∀ n : Nat, pm_it (fun _ _ _ _ _ => none) (lb_X8_sellers_67 x1 x2 l3 l4 l5 l6 (nI s)) (n + d + 1) (nI (pcs s i)) (nI (Ss σ 1 s i)) (nI (Ss σ 0 s i)) (nI i) D = some (nI (pcs s (sR σ)), nI (Ss σ 1 s (sR σ)), nI (Ss σ 0 s (sR σ)), D) := by
  have h6 : sR σ ≤ 6 := hw.1
  intro d
  induction d with
  | zero =>
    intro i hi n
    have : i = sR σ := by omega
    subst this
    show lb_X8_sellers_67 x1 x2 l3 l4 l5 l6 (nI s) _ _ _ _ (nI (sR σ)) D = _
    rw [lb_X8_sellers_67.eq_1, tn_0, h.1, if_pos (yle (by omega) (by omega) (by omega))]
  | succ d ih =>
    intro i hi n
    refine Eq.trans ?_ (ih (i + 1) (by omega) n)
    show lb_X8_sellers_67 x1 x2 l3 l4 l5 l6 (nI s) (pm_it (fun _ _ _ _ _ => none) (lb_X8_sellers_67 x1 x2 l3 l4 l5 l6 (nI s)) (n + d + 1)) (nI (pcs s i)) (nI (Ss σ 1 s i)) (nI (Ss σ 0 s i)) (nI i) D = pm_it (fun _ _ _ _ _ => none) (lb_X8_sellers_67 x1 x2 l3 l4 l5 l6 (nI s)) (n + d + 1) (nI (pcs s i + s / 2 ^ i % 2)) (nI (Ss σ 1 s i + s / 2 ^ i % 2 * sr σ 1 i)) (nI (Ss σ 0 s i + s / 2 ^ i % 2 * sr σ 0 i)) (nI (i + 1)) D
    have e1 : D 1 (6 + 4 * i + 1) = nI (sr σ 1 i) := h.2.2.2.2.2.2.1 i 1 (by omega) (by decide)
    have e0 : D 1 (6 + 4 * i + 0) = nI (sr σ 0 i) := h.2.2.2.2.2.2.1 i 0 (by omega) (by decide)
    rw [lb_X8_sellers_67.eq_1, tn_0, h.1, if_neg (nle (a := sR σ) (b := i) (by omega) (by omega) (by omega)), shr_bit s hs i (by omega), let_s, let_s, x8_its (w := 1) (z := 1) rfl (by omega) (by decide), b2_s, let_s, x8_its (w := 0) (z := 0) rfl (by omega) (by decide), b2_s, let_s, e1, e0, pk_mul, pk_mul, nI_add, nI_add, nI_add, nI_p1 (n := i)]
theorem s8_eq (hw : WF B σ) (h : VM (D 1) σ) {x1 x2 l3 l4 l5 l6 : Int32} {s : Nat} (hs : s < 64) : lp_X8_sellers_67 x1 x2 l3 l4 l5 l6 (nI s) 0 0 0 0 D = some (nI (pcs s (sR σ)), nI (Ss σ 1 s (sR σ)), nI (Ss σ 0 s (sR σ)), D) := by
  have h6 : sR σ ≤ 6 := hw.1
  have e := s8_loop (x1 := x1) (x2 := x2) (l3 := l3) (l4 := l4) (l5 := l5) (l6 := l6) hw h hs (sR σ) 0 (by omega) (99999 - sR σ)
  rw [pm_F_s _ (by omega)] at e
  exact e
theorem b4_s {a1 a2 a3 a4 β : Type} (x : a1) (y : a2) (z : a3) (u : a4) (f : a1 → a2 → a3 → a4 → Option β) : pm_b4 (some (x, y, z, u)) f = f x y z u := rfl
/-- whether a set is taken rather than another one -/
def rather (σ : sg) (s b : Nat) : Prop := pcs s (sR σ) < pcs b (sR σ) ∨ (pcs s (sR σ) = pcs b (sR σ) ∧ Ss σ 1 s (sR σ) < Ss σ 1 b (sR σ))
theorem sr_eq (hw : WF B σ) (h : VC C 1 σ) {s b : Nat} (hs : s < 2 ^ sR σ) (hb : b < 2 ^ sR σ) : (rather σ s b → f_X3_sellsRather (1 + 1) C (nI s) (nI b) = some (1, C)) ∧ (¬ rather σ s b → f_X3_sellsRather (1 + 1) C (nI s) (nI b) = some (0, C)) := by
  have h6 : sR σ ≤ 6 := hw.1
  have p6 : 2 ^ sR σ ≤ 2 ^ 6 := Nat.pow_le_pow_right (by decide) h6
  obtain ⟨c1, c2⟩ := pcs_6 (sR σ) (by omega) s hs
  obtain ⟨d1, d2⟩ := pcs_6 (sR σ) (by omega) b hb
  have bs := Ss_b (w := 1) (s := s) hw (by decide) (sR σ)
  have bb := Ss_b (w := 1) (s := b) hw (by decide) (sR σ)
  have e : f_X3_sellsRather (1 + 1) C (nI s) (nI b) = (if pc6 s < pc6 b then some (1, C) else if pc6 s = pc6 b then (if Ss σ 1 b (sR σ) ≤ Ss σ 1 s (sR σ) then some (0, C) else some (1, C)) else some (0, C)) := by
    unfold f_X3_sellsRather
    have ti : (nI (pc6 s) - nI (pc6 b)).toInt = (pc6 s : Int) - pc6 b := pk_sub_toInt (by omega) (by omega)
    have l1 : (nI (pc6 s) - nI (pc6 b) < 0) ↔ pc6 s < pc6 b := by
      rw [Int32.lt_iff_toInt_lt, ti]; show _ < (0 : Int) ↔ _; omega
    have l2 : (nI (pc6 s) - nI (pc6 b) = 0) ↔ pc6 s = pc6 b := by
      rw [← Int32.toInt_inj, ti]; show _ = (0 : Int) ↔ _; omega
    rw [j_bitCount (by omega), b2_s, j_bitCount (by omega), b2_s, let_s, show 1 + 1 + 2 = 1 + 2 + 1 from rfl, so_eq hw h (w := 1) (by decide) (show s < 64 by omega), b2_s, so_eq hw h (w := 1) (by decide) (show b < 64 by omega), b2_s]
    by_cases a : pc6 s < pc6 b
    · rw [if_pos (l1.mpr a), if_pos a]
    · rw [if_neg (fun q => a (l1.mp q)), if_neg a]
      by_cases a2 : pc6 s = pc6 b
      · rw [if_pos (l2.mpr a2), if_pos a2]
        by_cases a3 : Ss σ 1 b (sR σ) ≤ Ss σ 1 s (sR σ)
        · rw [if_pos (yle (by omega) (by omega) a3), if_pos a3]
        · rw [if_neg (nle (by omega) (by omega) (by omega)), if_neg a3]
      · rw [if_neg (fun q => a2 (l2.mp q)), if_neg a2]
  rw [e]
  unfold rather
  rw [c1, d1]
  refine ⟨fun q => ?_, fun q => ?_⟩
  · by_cases a : pc6 s < pc6 b
    · rw [if_pos a]
    · have : pc6 s = pc6 b ∧ Ss σ 1 s (sR σ) < Ss σ 1 b (sR σ) := by omega
      rw [if_neg a, if_pos this.1, if_neg (by omega)]
  · rw [if_neg (by omega)]
    by_cases a2 : pc6 s = pc6 b
    · rw [if_pos a2, if_pos (by omega)]
    · rw [if_neg a2]
def bst (σ : sg) (l2 l4 l5 l6 : Int32) : Prop := l2 = -1 ∨ ∃ b, b < 2 ^ sR σ ∧ l2 = nI b ∧ l4 = nI (pcs b (sR σ)) ∧ l5 = nI (Ss σ 1 b (sR σ)) ∧ l6 = nI (Ss σ 0 b (sR σ))
set_option maxHeartbeats 1000000 in
theorem se_loop (hw : WF B σ) (h : VC C 1 σ) (h3 : VM (D 1) σ) (x1 x2 : Int32) : ∀ (d i : Nat) (l2 l4 l5 l6 : Int32), i + d = 2 ^ sR σ → bst σ l2 l4 l5 l6 → ∀ n m : Nat, ∃ (r r6 : Int32), pm_it (fun _ _ _ => none) (lb_X3_bestSellers_4 (1 + 1) x1) (n + d + 1) l2 (nI i) C = some (r, C) ∧ pm_it (fun _ _ _ _ _ _ => none) (lb_X8_sellers_42 x1 x2) (m + d + 1) l2 l4 l5 l6 (nI i) D = some (r, r6, D) ∧ (r = -1 ∨ ∃ b, b < 2 ^ sR σ ∧ r = nI b ∧ r6 = nI (Ss σ 0 b (sR σ))) := by
  have h6 : sR σ ≤ 6 := hw.1
  have p6 : 2 ^ sR σ ≤ 2 ^ 6 := Nat.pow_le_pow_right (by decide) h6
  have sh : pm_shl 1 (nI (sR σ)) = nI (2 ^ sR σ) := shl_bit _ (by omega)
  have c0 : C (1 + 1) 0 = nI (sR σ) := h.1
  intro d
  induction d with
  | zero =>
    intro i l2 l4 l5 l6 hi hb n m
    refine ⟨l2, l6, ?_, ?_, ?_⟩
    · show lb_X3_bestSellers_4 (1 + 1) x1 _ l2 (nI i) C = _
      rw [lb_X3_bestSellers_4.eq_1, c0, sh, if_pos (yle (by omega) (by omega) (by omega))]
    · show lb_X8_sellers_42 x1 x2 _ l2 l4 l5 l6 (nI i) D = _
      rw [lb_X8_sellers_42.eq_1, tn_0, h3.1, sh, if_pos (yle (by omega) (by omega) (by omega))]
    · rcases hb with hb | ⟨b, b1, b2, b3, b4, b5⟩
      · exact Or.inl hb
      · exact Or.inr ⟨b, b1, b2, b5⟩
  | succ d ih =>
    intro i l2 l4 l5 l6 hi hb n m
    have hi2 : i < 2 ^ sR σ := by omega
    have me : bst σ (nI i) (nI (pcs i (sR σ))) (nI (Ss σ 1 i (sR σ))) (nI (Ss σ 0 i (sR σ))) := Or.inr ⟨i, hi2, rfl, rfl, rfl, rfl⟩
    have so := so_eq hw h (w := 0) (s := i) (by decide) (by omega)
    have cC : ∀ ih, lb_X3_bestSellers_4 (1 + 1) x1 ih l2 (nI i) C = (if nI (Ss σ 0 i (sR σ)) < x1 then ih l2 (nI (i + 1)) C else (if l2 < 0 then ih (nI i) (nI (i + 1)) C else (pm_b2 (f_X3_sellsRather (1 + 1) C (nI i) l2) (fun (r5005 : Int32) (M5004 : pm_M) => (if r5005 = 0 then (ih l2 (nI (i + 1)) M5004) else (ih (nI i) (nI (i + 1)) M5004)))))) := fun ih => by
      rw [lb_X3_bestSellers_4.eq_1, c0, sh, if_neg (nle (a := 2 ^ sR σ) (b := i) (by omega) (by omega) hi2), show f_X3_sumOver (1 + 1) C (nI i) (1 + 1 + 1) = some (nI (Ss σ 0 i (sR σ)), C) from so, b2_s, nI_p1]
    have cD : ∀ ih, lb_X8_sellers_42 x1 x2 ih l2 l4 l5 l6 (nI i) D = (if nI (Ss σ 0 i (sR σ)) < x1 then ih l2 l4 l5 l6 (nI (i + 1)) D else (if l2 < 0 ∨ nI (pcs i (sR σ)) < l4 ∨ (nI (pcs i (sR σ)) = l4 ∧ ¬ l5 ≤ nI (Ss σ 1 i (sR σ))) then ih (nI i) (nI (pcs i (sR σ))) (nI (Ss σ 1 i (sR σ))) (nI (Ss σ 0 i (sR σ))) (nI (i + 1)) D else ih l2 l4 l5 l6 (nI (i + 1)) D)) := fun ih => by
      rw [lb_X8_sellers_42.eq_1, tn_0, h3.1, sh, if_neg (nle (a := 2 ^ sR σ) (b := i) (by omega) (by omega) hi2), s8_eq hw h3 (by omega), b4_s, nI_p1]
      by_cases v : nI (Ss σ 0 i (sR σ)) < x1
      · simp only [if_pos v]
        split
        · rfl
        · split
          · rfl
          · split
            · split <;> rfl
            · rfl
      · simp only [if_neg v]
        by_cases a : l2 < 0
        · rw [if_pos a, if_pos (Or.inl a)]
        · rw [if_neg a]
          by_cases a2 : nI (pcs i (sR σ)) < l4
          · rw [if_pos a2, if_pos (Or.inr (Or.inl a2))]
          · rw [if_neg a2]
            by_cases a3 : nI (pcs i (sR σ)) = l4
            · rw [if_pos a3]
              by_cases a4 : l5 ≤ nI (Ss σ 1 i (sR σ))
              · rw [if_pos a4, if_neg (fun q => by rcases q with q | q | q; exact a q; exact a2 q; exact q.2 a4)]
              · rw [if_neg a4, if_pos (Or.inr (Or.inr ⟨a3, a4⟩))]
            · rw [if_neg a3, if_neg (fun q => by rcases q with q | q | q; exact a q; exact a2 q; exact a3 q.1)]
    have keep : (∀ ih, lb_X3_bestSellers_4 (1 + 1) x1 ih l2 (nI i) C = ih l2 (nI (i + 1)) C) → (∀ ih, lb_X8_sellers_42 x1 x2 ih l2 l4 l5 l6 (nI i) D = ih l2 l4 l5 l6 (nI (i + 1)) D) → ∃ (r r6 : Int32), pm_it (fun _ _ _ => none) (lb_X3_bestSellers_4 (1 + 1) x1) (n + (d + 1) + 1) l2 (nI i) C = some (r, C) ∧ pm_it (fun _ _ _ _ _ _ => none) (lb_X8_sellers_42 x1 x2) (m + (d + 1) + 1) l2 l4 l5 l6 (nI i) D = some (r, r6, D) ∧ (r = -1 ∨ ∃ b, b < 2 ^ sR σ ∧ r = nI b ∧ r6 = nI (Ss σ 0 b (sR σ))) := by
      intro f1 f2
      obtain ⟨r, r6, e1, e2, e3⟩ := ih (i + 1) l2 l4 l5 l6 (by omega) hb n m
      exact ⟨r, r6, Eq.trans (f1 _) e1, Eq.trans (f2 _) e2, e3⟩
    have take : (∀ ih, lb_X3_bestSellers_4 (1 + 1) x1 ih l2 (nI i) C = ih (nI i) (nI (i + 1)) C) → (∀ ih, lb_X8_sellers_42 x1 x2 ih l2 l4 l5 l6 (nI i) D = ih (nI i) (nI (pcs i (sR σ))) (nI (Ss σ 1 i (sR σ))) (nI (Ss σ 0 i (sR σ))) (nI (i + 1)) D) → ∃ (r r6 : Int32), pm_it (fun _ _ _ => none) (lb_X3_bestSellers_4 (1 + 1) x1) (n + (d + 1) + 1) l2 (nI i) C = some (r, C) ∧ pm_it (fun _ _ _ _ _ _ => none) (lb_X8_sellers_42 x1 x2) (m + (d + 1) + 1) l2 l4 l5 l6 (nI i) D = some (r, r6, D) ∧ (r = -1 ∨ ∃ b, b < 2 ^ sR σ ∧ r = nI b ∧ r6 = nI (Ss σ 0 b (sR σ))) := by
      intro f1 f2
      obtain ⟨r, r6, e1, e2, e3⟩ := ih (i + 1) _ _ _ _ (by omega) me n m
      exact ⟨r, r6, Eq.trans (f1 _) e1, Eq.trans (f2 _) e2, e3⟩
    by_cases v : nI (Ss σ 0 i (sR σ)) < x1
    · exact keep (fun ih => by rw [cC, if_pos v]) (fun ih => by rw [cD, if_pos v])
    · rcases hb with hb | ⟨b, b1, b2, b3, b4, b5⟩
      · have l0 : l2 < 0 := by rw [hb]; decide
        exact take (fun ih => by rw [cC, if_neg v, if_pos l0]) (fun ih => by rw [cD, if_neg v, if_pos (Or.inl l0)])
      · have l0 : ¬ l2 < 0 := by rw [b2]; exact nI_pos (by omega)
        obtain ⟨r1, r0⟩ := sr_eq hw h hi2 b1
        obtain ⟨c1, c2⟩ := pcs_6 (sR σ) (by omega) i hi2
        obtain ⟨d1, d2⟩ := pcs_6 (sR σ) (by omega) b b1
        have bs := Ss_b (w := 1) (s := i) hw (by decide) (sR σ)
        have bb := Ss_b (w := 1) (s := b) hw (by decide) (sR σ)
        have iffr : (l2 < 0 ∨ nI (pcs i (sR σ)) < l4 ∨ (nI (pcs i (sR σ)) = l4 ∧ ¬ l5 ≤ nI (Ss σ 1 i (sR σ)))) ↔ rather σ i b := by
          rw [b3, b4, nI_ltI (by omega) (by omega), nI_eq (by omega) (by omega), nI_leI (by omega) (by omega)]
          unfold rather
          constructor
          · rintro (q | q | q)
            · exact absurd q l0
            · exact Or.inl q
            · exact Or.inr ⟨q.1, by omega⟩
          · rintro (q | q)
            · exact Or.inr (Or.inl q)
            · exact Or.inr (Or.inr ⟨q.1, by omega⟩)
        by_cases rt : rather σ i b
        · exact take (fun ih => by rw [cC, if_neg v, if_neg l0, b2, r1 rt, b2_s, if_neg (by decide)]) (fun ih => by rw [cD, if_neg v, if_pos (iffr.mpr rt)])
        · exact keep (fun ih => by rw [cC, if_neg v, if_neg l0, b2, r0 rt, b2_s, if_pos rfl]) (fun ih => by rw [cD, if_neg v, if_neg (fun q => rt (iffr.mp q))])
end SE
theorem e_sellers {C D : pm_M} (h : RR C D) (x1 : Int32) (x2 : Int32) : ∃ (r : Int32) (C' D' : pm_M), f_X7_sellers C x1 x2 = some (r, C') ∧ f_X8_sellers D x1 x2 = some (r, D') ∧ RR C' D' := by
  obtain ⟨⟨σ, h1, h2, h3⟩, h4⟩ := id h
  have h6 : sR σ ≤ 6 := h1.1
  have p6 : 2 ^ sR σ ≤ 2 ^ 6 := Nat.pow_le_pow_right (by decide) h6
  unfold f_X7_sellers f_X8_sellers
  rw [x7_within, x8_in, b2_s, b2_s, if_bi, if_bi, i64, li0, li999, ll0, ll999]
  by_cases hv : 0 ≤ x1.toInt ∧ x1.toInt ≤ 999
  · rw [if_pos hv, if_pos hv, x7_within, x8_in, b2_s, b2_s, if_bi, if_bi, i64, li0, li1, ll0, ll1]
    by_cases hw : 0 ≤ x2.toInt ∧ x2.toInt ≤ 1
    · obtain ⟨r, r6, e1, e2, e3⟩ := se_loop h1 h2 h3 x1 x2 (2 ^ sR σ) 0 (-1) 0 0 0 (by omega) (Or.inl rfl) (99999 - 2 ^ sR σ) (99999 - 2 ^ sR σ)
      rw [pm_F_s _ (by omega)] at e1 e2
      have eb : f_X3_bestSellers (1 + 1) C x1 = some (r, C) := by
        unfold f_X3_bestSellers
        rw [show lp_X3_bestSellers_4 (1 + 1) x1 (-1) 0 C = some (r, C) from e1, b2_s]
      rw [if_pos hw, if_pos hw, eb, b2_s, show lp_X8_sellers_42 x1 x2 (-1) 0 0 0 0 D = some (r, r6, D) from e2, b3_s]
      rcases e3 with e3 | ⟨b, b1, b2, b3⟩
      · have n0 : ¬ 0 ≤ r := by rw [e3]; decide
        rw [if_neg n0, if_neg n0, x7_e2, x8_e2, b2_s, b2_s]
        exact ⟨_, _, _, rfl, rfl, h.err 2⟩
      · have n0 : 0 ≤ r := by rw [b2]; exact nI_pos' (by omega)
        rw [if_pos n0, if_pos n0]
        by_cases z : x2 = 0
        · rw [if_pos z, if_pos z]; exact ⟨_, _, _, rfl, rfl, h⟩
        · rw [if_neg z, if_neg z, b2, show f_X3_sumOver (1 + 1) C (nI b) (1 + 1 + 1) = some (nI (Ss σ 0 b (sR σ)), C) from so_eq h1 h2 (w := 0) (by decide) (by omega), b2_s, b3]
          exact ⟨_, _, _, rfl, rfl, h⟩
    · rw [if_neg hw, if_neg hw, x7_e1, x8_e1, b2_s, b2_s]
      exact ⟨_, _, _, rfl, rfl, h.err 1⟩
  · rw [if_neg hv, if_neg hv, x7_e1, x8_e1, b2_s, b2_s]
    exact ⟨_, _, _, rfl, rfl, h.err 1⟩
