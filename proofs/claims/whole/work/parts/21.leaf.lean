/-! leaves -/
def bi (p : Prop) [Decidable p] : Int32 := if p then 1 else 0
theorem bi_t {p : Prop} [Decidable p] (h : p) : bi p = 1 := if_pos h
theorem bi_f {p : Prop} [Decidable p] (h : ¬ p) : bi p = 0 := if_neg h
theorem pm_zo_bi (p : Prop) [Decidable p] : pm_zo (bi p) = true := by
  unfold bi; split <;> rfl
theorem chk_t {α : Type} {b : Bool} {E : Option α} (h : b = true) : pm_chk b E = E := by subst h; rfl
theorem chk_bi {α : Type} (p : Prop) [Decidable p] {E : Option α} : pm_chk (pm_zo (bi p)) E = E := chk_t (pm_zo_bi p)
theorem in_nI {n N : Nat} (h : n < N) (hN : N < 2 ^ 31) : pm_in (nI n) N = true := pm_in_iff.mpr (vp_in_nI h hN)
theorem up_s {M : pm_M} {k i : Nat} {x : Int32} : pm_up M k i x k i = x := by simp [pm_up]
theorem up_i {M : pm_M} {k i k' i' : Nat} {x : Int32} (h : i' ≠ i) : pm_up M k i x k' i' = M k' i' := by simp [pm_up, h]
theorem up_k {M : pm_M} {k i k' i' : Nat} {x : Int32} (h : k' ≠ k) : pm_up M k i x k' i' = M k' i' := by simp [pm_up, h]
theorem tn_0 : (0 : Int32).toNatClampNeg = 0 := rfl
theorem tn_1 : (1 : Int32).toNatClampNeg = 1 := rfl
theorem tn_2 : (2 : Int32).toNatClampNeg = 2 := rfl
theorem tn_3 : (3 : Int32).toNatClampNeg = 3 := rfl
theorem tn_4 : (4 : Int32).toNatClampNeg = 4 := rfl
theorem tn_5 : (5 : Int32).toNatClampNeg = 5 := rfl
theorem x7_within (M : pm_M) (x a b : Int32) : f_X7_within M x a b = some (bi (a.toInt ≤ x.toInt ∧ x.toInt ≤ b.toInt), M) := by
  unfold f_X7_within bi
  by_cases h1 : x < a
  · rw [if_pos h1, if_neg]
    have := Int32.lt_iff_toInt_lt.mp h1
    omega
  · rw [if_neg h1]
    have h1' : ¬ x.toInt < a.toInt := fun h => h1 (Int32.lt_iff_toInt_lt.mpr h)
    by_cases h2 : b < x
    · rw [if_pos h2, if_neg]
      have := Int32.lt_iff_toInt_lt.mp h2
      omega
    · have h2' : ¬ b.toInt < x.toInt := fun h => h2 (Int32.lt_iff_toInt_lt.mpr h)
      rw [if_neg h2, if_pos (by omega)]
theorem x7_error (M : pm_M) (k : Nat) (hk : k < 6) : f_X7_error M (nI k) = some (-1000000000 - nI k, pm_up M 105 k (M 105 k + 1)) := by
  unfold f_X7_error
  rw [chk_t (in_nI hk (by decide)), chk_t (in_nI hk (by decide))]
  unfold pm_let
  rw [nI_clamp (by omega)]
theorem x8_finds (M : pm_M) (k : Nat) (hk : k < 6) : f_X8_finds M (nI k) = some (-1000000000 - nI k, pm_up M 3 k (M 3 k + 1)) := by
  unfold f_X8_finds
  rw [chk_t (in_nI hk (by decide)), chk_t (in_nI hk (by decide))]
  unfold pm_let
  rw [nI_clamp (by omega)]
theorem lg_lt (x y : Int64) : lg_cmp x y < 0 ↔ x.toInt < y.toInt := by
  unfold lg_cmp
  simp only [gt_iff_lt, Int64.lt_iff_toInt_lt, ← Int64.toInt_inj]
  by_cases h1 : y.toInt < x.toInt
  · rw [if_pos h1]; exact ⟨fun h => absurd h (by decide), fun h => by omega⟩
  · rw [if_neg h1]
    by_cases h2 : x.toInt = y.toInt
    · rw [if_pos h2]; exact ⟨fun h => absurd h (by decide), fun h => by omega⟩
    · rw [if_neg h2]; exact ⟨fun _ => by omega, fun _ => by decide⟩
theorem lg_gt (x y : Int64) : 0 < lg_cmp x y ↔ y.toInt < x.toInt := by
  unfold lg_cmp
  simp only [gt_iff_lt, Int64.lt_iff_toInt_lt, ← Int64.toInt_inj]
  by_cases h1 : y.toInt < x.toInt
  · rw [if_pos h1]; exact ⟨fun _ => h1, fun _ => by decide⟩
  · rw [if_neg h1]
    by_cases h2 : x.toInt = y.toInt
    · rw [if_pos h2]; exact ⟨fun h => absurd h (by decide), fun h => by omega⟩
    · rw [if_neg h2]; exact ⟨fun h => absurd h (by decide), fun h => by omega⟩
theorem x8_in (M : pm_M) (x a b : Int64) : f_X8_in M x a b = some (bi (a.toInt ≤ x.toInt ∧ x.toInt ≤ b.toInt), M) := by
  unfold f_X8_in bi
  by_cases h1 : lg_cmp x a < 0
  · rw [if_pos h1, if_neg]
    have := (lg_lt _ _).mp h1
    omega
  · rw [if_neg h1]
    have h1' : ¬ x.toInt < a.toInt := fun h => h1 ((lg_lt _ _).mpr h)
    by_cases h2 : 0 < lg_cmp x b
    · rw [if_pos h2, if_neg]
      have := (lg_gt _ _).mp h2
      omega
    · have h2' : ¬ b.toInt < x.toInt := fun h => h2 ((lg_gt _ _).mpr h)
      rw [if_neg h2, if_pos (by omega)]
theorem x7_e1 (M : pm_M) : f_X7_error M 1 = some (-1000000000 - 1, pm_up M 105 1 (M 105 1 + 1)) := x7_error M 1 (by decide)
theorem x7_e2 (M : pm_M) : f_X7_error M 2 = some (-1000000000 - 2, pm_up M 105 2 (M 105 2 + 1)) := x7_error M 2 (by decide)
theorem x7_e3 (M : pm_M) : f_X7_error M 3 = some (-1000000000 - 3, pm_up M 105 3 (M 105 3 + 1)) := x7_error M 3 (by decide)
theorem x7_e4 (M : pm_M) : f_X7_error M 4 = some (-1000000000 - 4, pm_up M 105 4 (M 105 4 + 1)) := x7_error M 4 (by decide)
theorem x7_e5 (M : pm_M) : f_X7_error M 5 = some (-1000000000 - 5, pm_up M 105 5 (M 105 5 + 1)) := x7_error M 5 (by decide)
theorem x8_e1 (M : pm_M) : f_X8_finds M 1 = some (-1000000000 - 1, pm_up M 3 1 (M 3 1 + 1)) := x8_finds M 1 (by decide)
theorem x8_e2 (M : pm_M) : f_X8_finds M 2 = some (-1000000000 - 2, pm_up M 3 2 (M 3 2 + 1)) := x8_finds M 2 (by decide)
theorem x8_e3 (M : pm_M) : f_X8_finds M 3 = some (-1000000000 - 3, pm_up M 3 3 (M 3 3 + 1)) := x8_finds M 3 (by decide)
theorem x8_e4 (M : pm_M) : f_X8_finds M 4 = some (-1000000000 - 4, pm_up M 3 4 (M 3 4 + 1)) := x8_finds M 4 (by decide)
theorem x8_e5 (M : pm_M) : f_X8_finds M 5 = some (-1000000000 - 5, pm_up M 3 5 (M 3 5 + 1)) := x8_finds M 5 (by decide)
theorem b1_s {a1 β : Type} (x : a1) (f : a1 → Option β) : pm_b1 (some x) f = f x := rfl
theorem b2_s {a1 a2 β : Type} (x : a1) (y : a2) (f : a1 → a2 → Option β) : pm_b2 (some (x, y)) f = f x y := rfl
theorem b3_s {a1 a2 a3 β : Type} (x : a1) (y : a2) (z : a3) (f : a1 → a2 → a3 → Option β) : pm_b3 (some (x, y, z)) f = f x y z := rfl
theorem let_s {α β : Type} (v : α) (f : α → β) : pm_let v f = f v := rfl
/-! what the relations read -/
theorem VC.congr {C C' : pm_M} {p : Nat} {σ : sg} (h : VC C p σ) (e : ∀ q, p ≤ q → q < p + 27 → q ≠ p + 21 → q ≠ p + 24 → C' q = C q) : VC C' p σ := by
  obtain ⟨h1, h2, h3, h4, h5, h6, h7, h8, h9, h10, h11, h12⟩ := h
  refine ⟨by rw [e _ (by omega) (by omega) (by omega) (by omega)]; exact h1, by rw [e _ (by omega) (by omega) (by omega) (by omega)]; exact h2, by rw [e _ (by omega) (by omega) (by omega) (by omega)]; exact h3, by rw [e _ (by omega) (by omega) (by omega) (by omega)]; exact h4, by rw [e _ (by omega) (by omega) (by omega) (by omega)]; exact h5, by rw [e _ (by omega) (by omega) (by omega) (by omega)]; exact h6, ?_, ?_, ?_, ?_, ?_, ?_⟩
  · intro w r hw hr; rw [e _ (by omega) (by omega) (by omega) (by omega)]; exact h7 w r hw hr
  · intro a b ha hb; rw [e _ (by omega) (by omega) (by omega) (by omega)]; exact h8 a b ha hb
  · intro w c hw hc; rw [e _ (by omega) (by omega) (by omega) (by omega)]; exact h9 w c hw hc
  · intro i hi; rw [e _ (by omega) (by omega) (by omega) (by omega)]; exact h10 i hi
  · intro i hi; rw [e _ (by omega) (by omega) (by omega) (by omega)]; exact h11 i hi
  · intro u hu
    obtain ⟨g1, g2, cd, g3, g4, g5, g6⟩ := h12 u hu
    refine ⟨by rw [e _ (by omega) (by omega) (by omega) (by omega)]; exact g1, by rw [e _ (by omega) (by omega) (by omega) (by omega)]; exact g2, cd, g3, g4, by rw [e _ (by omega) (by omega) (by omega) (by omega)]; exact g5, fun i hi => by rw [e _ (by omega) (by omega) (by omega) (by omega)]; exact g6 i hi⟩
theorem LK.congr {C C' : pm_M} {p : Nat} (h : LK C p) (e : ∀ q, q = p + 19 ∨ q = p + 22 → C' q = C q) : LK C' p := by
  obtain ⟨h1, h2, h3, h4⟩ := h
  exact ⟨by rw [e _ (Or.inl rfl)]; exact h1, by rw [e _ (Or.inl rfl)]; exact h2, by rw [e _ (Or.inr rfl)]; exact h3, by rw [e _ (Or.inr rfl)]; exact h4⟩
theorem SH.congr {C D C' D' : pm_M} (h : SH C D) (e : ∀ q, 97 ≤ q → q < 105 → C' q = C q) (e8 : D' 8 = D 8) (e9 : D' 9 = D 9) (e10 : D' 10 = D 10) : SH C' D' := by
  intro j hj
  obtain ⟨b, n, g1, g2, g3, g4, g5, g6, g7, g8⟩ := h j hj
  exact ⟨b, n, g1, g2, g3, by rw [e _ (by omega) (by omega)]; exact g4, by rw [e8]; exact g5, by rw [e _ (by omega) (by omega)]; exact g6, by rw [e9]; exact g7, fun i hi => by rw [e _ (by omega) (by omega), e10]; exact g8 i hi⟩
theorem TR.congr {C D C' D' : pm_M} (h : TR C D) (e : C' 94 = C 94) (e2 : C' 95 = C 95) (e3 : D' 0 14 = D 0 14) (e4 : D' 7 = D 7) : TR C' D' := by
  obtain ⟨n, g1, g2, g3, g4⟩ := h
  exact ⟨n, g1, by rw [e]; exact g2, by rw [e3]; exact g3, fun i hi => by rw [e2, e4]; exact g4 i hi⟩
theorem KP.congr {C D C' D' : pm_M} (h : KP C D) (e0 : C' 0 = C 0) (e : ∀ q, 61 ≤ q → q < 91 → C' q = C q) (e1 : D' 0 2 = D 0 2) (e2 : D' 2 = D 2) : KP C' D' := by
  obtain ⟨h1, h2⟩ := h
  refine ⟨by rw [e0, e1]; exact h1, ?_⟩
  rw [e0, e2]
  rcases h2 with h2 | ⟨σ, g1, g2, g3⟩
  · exact Or.inl h2
  · exact Or.inr ⟨σ, g1, g2.congr (fun q a b _ _ => e q (by omega) (by omega)), g3⟩
theorem ER.congr {C D C' D' : pm_M} (h : ER C D) (e : C' 105 = C 105) (e2 : D' 3 = D 3) : ER C' D' := fun k hk => by rw [e, e2]; exact h k hk
theorem ER.bump {C D : pm_M} (h : ER C D) {k : Nat} : ER (pm_up C 105 k (C 105 k + 1)) (pm_up D 3 k (D 3 k + 1)) := by
  intro j hj
  by_cases e : j = k
  · subst e
    rw [up_s, up_s]
    by_cases hj6 : j < 6
    · rw [h j hj]
    · exact absurd hj hj6
  · rw [up_i e, up_i e, h j hj]
/-- errors that grow alike -/
theorem RR.err {C D : pm_M} (h : RR C D) (k : Nat) : RR (pm_up C 105 k (C 105 k + 1)) (pm_up D 3 k (D 3 k + 1)) := by
  obtain ⟨⟨σ, h1, h2, h3⟩, h4, h5, h6, h8, h9, h10⟩ := h
  have hC : ∀ q : Nat, q ≠ 105 → pm_up C 105 k (C 105 k + 1) q = C q := fun q hq => pm_up_o q hq
  have hD : ∀ q : Nat, q ≠ 3 → pm_up D 3 k (D 3 k + 1) q = D q := fun q hq => pm_up_o q hq
  exact ⟨⟨σ, h1, h2.congr (fun q a b _ _ => hC q (by omega)), by rw [hD 1 (by decide)]; exact h3⟩, h4.congr (fun q hq => hC q (by omega)), h5.congr (fun q hq => hC q (by omega)), h6.congr (hC 0 (by decide)) (fun q a b => hC q (by omega)) (by rw [hD 0 (by decide)]) (hD 2 (by decide)), h8.congr (fun q a b => hC q (by omega)) (hD 8 (by decide)) (hD 9 (by decide)) (hD 10 (by decide)), h9.congr (hC 94 (by decide)) (hC 95 (by decide)) (by rw [hD 0 (by decide)]) (hD 7 (by decide)), h10.bump⟩
/-- a new state of the valley now, all else as it was -/
theorem RR.now {C D C' D' : pm_M} (h : RR C D) {σ : sg} (hw : WF 9999 σ) (hC : VC C' 1 σ) (hD : VM (D' 1) σ) (eC : ∀ q, (q < 1 ∨ 31 ≤ q) → C' q = C q) (eD : ∀ q, q ≠ 1 → D' q = D q) : RR C' D' := by
  obtain ⟨-, h4, h5, h6, h8, h9, h10⟩ := h
  exact ⟨⟨σ, hw, hC, hD⟩, h4.congr (fun q hq => eC q (by omega)), h5.congr (fun q hq => eC q (by omega)), h6.congr (eC 0 (by decide)) (fun q a b => eC q (by omega)) (by rw [eD 0 (by decide)]) (eD 2 (by decide)), h8.congr (fun q a b => eC q (by omega)) (eD 8 (by decide)) (eD 9 (by decide)) (eD 10 (by decide)), h9.congr (eC 94 (by decide)) (eC 95 (by decide)) (by rw [eD 0 (by decide)]) (eD 7 (by decide)), h10.congr (eC 105 (by decide)) (eD 3 (by decide))⟩
theorem i64 (x : Int32) : x.toInt64.toInt = x.toInt := Int32.toInt_toInt64 x
theorem e_told {C D : pm_M} (h : RR C D) (x1 : Int32) : ∃ (r : Int32) (C' D' : pm_M), f_X7_told C x1 = some (r, C') ∧ f_X8_told D x1 = some (r, D') ∧ RR C' D' := by
  unfold f_X7_told f_X8_told
  rw [x7_within, x8_in, b2_s, b2_s, i64]
  by_cases hc : 1 ≤ x1.toInt ∧ x1.toInt ≤ 5
  · have e1 : bi ((1 : Int32).toInt ≤ x1.toInt ∧ x1.toInt ≤ (5 : Int32).toInt) = 1 := bi_t hc
    have e2 : bi ((1 : Int64).toInt ≤ x1.toInt ∧ x1.toInt ≤ (5 : Int64).toInt) = 1 := bi_t hc
    rw [e1, e2, if_neg (by decide), if_neg (by decide)]
    have hin : pm_in x1 6 = true := by simp [pm_in]; omega
    rw [chk_t hin, chk_t hin]
    refine ⟨_, _, _, rfl, ?_, h⟩
    rw [h.2.2.2.2.2.2 _ (pm_inlt hin)]
  · have e1 : bi ((1 : Int32).toInt ≤ x1.toInt ∧ x1.toInt ≤ (5 : Int32).toInt) = 0 := bi_f hc
    have e2 : bi ((1 : Int64).toInt ≤ x1.toInt ∧ x1.toInt ≤ (5 : Int64).toInt) = 0 := bi_f hc
    rw [e1, e2, if_pos rfl, if_pos rfl, x7_e1, x8_e1, b2_s, b2_s]
    exact ⟨_, _, _, rfl, rfl, h.err 1⟩
