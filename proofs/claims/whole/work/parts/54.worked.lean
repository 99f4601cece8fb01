/-! ### the reference: worked, textGives -/
def wf (k : Nat) : Prop := k ≠ 0 ∧ k ≠ 5
def wk (D D' : pm_M) : Prop := (∀ k, k ≠ 0 → D' k = D k) ∧ ∀ j, (j < 5 ∨ 10 < j) → D' 0 j = D 0 j
theorem x8_worked {M : pm_M} {bs u : Nat} {t : List Int32} {a b c : Int32} (hu : u < 2) (ht : t.length ≤ 50) (hb : bs + t.length ≤ 258) (e0 : M 5 0 = a) (e1 : M 5 1 = b) (e2 : M 5 2 = c) (et : ∀ i, i < t.length → M 1 (bs + i) = t.getD i 0) : ∃ (v : Int32) (D' : pm_M), f_X8_worked M (nI bs) (nI t.length) (nI u) = some (v, D') ∧ wk M D' ∧ (((px u t px_F 0 0 0).1 = false ∧ (px u t px_F 0 0 0).2.1 = t.length) → D' 0 8 = -1 ∧ ∀ s, xs a b c (px u t px_F 0 0 0).2.2 s = v :: s) ∧ (¬ ((px u t px_F 0 0 0).1 = false ∧ (px u t px_F 0 0 0).2.1 = t.length) → D' 0 8 = nI (px u t px_F 0 0 0).2.1) ∧ (px u t px_F 0 0 0).2.1 ≤ t.length := by
  obtain ⟨p1, p2⟩ := pm_all (u := u) (t := t) (bs := bs) (a := a) (b := b) (c := c) ht
  generalize px u t px_F 0 0 0 = r at p1 p2
  obtain ⟨st, q, cd⟩ := r
  have hq : q ≤ t.length := p2.2.1
  generalize hM6 : pm_up (pm_up (pm_up (pm_up (pm_up (pm_up M 0 5 (nI bs)) 0 6 0) 0 7 (nI t.length)) 0 8 (-1)) 0 9 0) 0 10 (nI u) = M6
  have w6 : wk M M6 := by
    subst hM6
    exact ⟨fun k hk => by rw [pm_up_o k hk, pm_up_o k hk, pm_up_o k hk, pm_up_o k hk, pm_up_o k hk, pm_up_o k hk], fun j hj => by rw [up_i (by omega), up_i (by omega), up_i (by omega), up_i (by omega), up_i (by omega), up_i (by omega)]⟩
  have hs : MS u t bs a b c M6 0 0 := by
    refine ⟨ht, hu, Nat.zero_le _, hb, by decide, ?_, ?_, ?_, ?_, ?_, ?_, by rw [w6.1 5 (by decide)]; exact e0, by rw [w6.1 5 (by decide)]; exact e1, by rw [w6.1 5 (by decide)]; exact e2, by rw [w6.1 1 (by decide)]; exact et⟩
    · subst hM6; rw [up_i (by decide), up_i (by decide), up_i (by decide), up_i (by decide), up_i (by decide), up_s]
    · subst hM6; rw [up_i (by decide), up_i (by decide), up_i (by decide), up_i (by decide), up_s]; rfl
    · subst hM6; rw [up_i (by decide), up_i (by decide), up_i (by decide), up_s]
    · subst hM6; rw [up_i (by decide), up_i (by decide), up_s]
    · subst hM6; rw [up_i (by decide), up_s]; rfl
    · subst hM6; rw [up_s]
  obtain ⟨v, D1, f1, f2, f3⟩ := p1.1 (by decide) M6 hs pm_D (by unfold pm_D; omega)
  have wk1 : ∀ {x : Int32} {D2 : pm_M}, MF D1 D2 → wk M D2 := fun g => by
    have g2 := f2.1.trans g
    exact ⟨fun k hk => (g2.1 k hk).trans (w6.1 k hk), fun j hj => (g2.2 j (by omega) (by omega) (by omega)).trans (w6.2 j hj)⟩
  have es : D1 0 7 = nI t.length := (f2.1.2 7 (by decide) (by decide) (by decide)).trans hs.2.2.2.2.2.2.2.1
  have red : f_X8_worked M (nI bs) (nI t.length) (nI u) = pm_b2 (f_X8_either M6) (fun r8 M7 => (if 0 ≤ (M7 0 8) then (some (r8, M7)) else (if (M7 0 7) ≤ (M7 0 6) then (some (r8, M7)) else (pm_b2 (f_X8_wrong M7) (fun (r10 : Int32) (M9 : pm_M) => (some (r10, M9))))))) := by
    unfold f_X8_worked
    simp only [let_s]
    have hu' : u = 0 ∨ u = 1 := by omega
    rcases hu' with rfl | rfl
    · rw [if_neg (show ¬ nI 0 = 1 by decide), show (0 : Int32) = nI 0 from rfl]
      rw [show (0 : Int32) = nI 0 from rfl] at hM6
      rw [hM6]
    · rw [if_pos (show nI 1 = 1 from rfl)]
      rw [show nI 1 = 1 from rfl] at hM6
      rw [hM6]
  rw [red, show f_X8_either M6 = some (v, D1) from f1, b2_s]
  cases st with
  | true =>
    have hf := f2.f
    rw [if_pos hf]
    exact ⟨v, D1, rfl, wk1 (x := 0) (MF.refl D1), (fun q => nomatch q.1), fun _ => (f2.2.2 rfl).2, hq⟩
  | false =>
    obtain ⟨g1, g2, g3⟩ := f2.2.1 rfl
    rw [g2, if_neg (by decide), es, g1]
    by_cases k : q = t.length
    · rw [if_pos (show nI t.length ≤ nI q from yle (by omega) (by omega) (by omega))]
      exact ⟨v, D1, rfl, wk1 (x := 0) (MF.refl D1), fun _ => ⟨g2, f3 rfl⟩, fun n => absurd ⟨rfl, k⟩ n, hq⟩
    · rw [if_neg (show ¬ nI t.length ≤ nI q from nle (a := t.length) (b := q) (by omega) (by omega) (by omega))]
      have hs1 : MS u t bs a b c D1 0 q := hs.ms f2 hq
      rw [hs1.wrong, b2_s]
      exact ⟨0, _, rfl, wk1 (x := 0) (MF.up (Or.inr (Or.inl rfl))), fun n => absurd n.2 k, fun _ => up_s, hq⟩
theorem x8_held {M : pm_M} (x m : Int32) (hm : 0 ≤ m) : f_X8_held M x 0 m = some (pm_max 0 (pm_min m x), M) := by
  unfold f_X8_held pm_max pm_min
  have e0 : (0 : Int32).toInt = 0 := rfl
  have em := Int32.le_iff_toInt_le.mp hm
  by_cases h : (0 : Int32) ≤ x
  · rw [if_pos h]
    have h' := Int32.le_iff_toInt_le.mp h
    by_cases k : x ≤ m
    · have k' := Int32.le_iff_toInt_le.mp k
      rw [if_pos k]
      by_cases j : x < m
      · rw [if_pos j]
        by_cases z : (0 : Int32) < x
        · rw [if_pos z]
        · rw [if_neg z]
          have z' : ¬ (0 : Int32).toInt < x.toInt := fun q => z (Int32.lt_iff_toInt_lt.mpr q)
          have : x = 0 := Int32.toInt_inj.mp (by omega)
          rw [this]
      · have j' : ¬ x.toInt < m.toInt := fun q => j (Int32.lt_iff_toInt_lt.mpr q)
        have : x = m := Int32.toInt_inj.mp (by omega)
        rw [if_neg j, this]
        by_cases z : (0 : Int32) < m
        · rw [if_pos z]
        · rw [if_neg z]
          have z' : ¬ (0 : Int32).toInt < m.toInt := fun q => z (Int32.lt_iff_toInt_lt.mpr q)
          have : m = 0 := Int32.toInt_inj.mp (by omega)
          rw [this]
    · have k' : ¬ x.toInt ≤ m.toInt := fun q => k (Int32.le_iff_toInt_le.mpr q)
      rw [if_neg k, if_neg (fun q : x < m => by have := Int32.lt_iff_toInt_lt.mp q; omega)]
      by_cases z : (0 : Int32) < m
      · rw [if_pos z]
      · rw [if_neg z]
        have z' : ¬ (0 : Int32).toInt < m.toInt := fun q => z (Int32.lt_iff_toInt_lt.mpr q)
        have : m = 0 := Int32.toInt_inj.mp (by omega)
        rw [this]
  · rw [if_neg h]
    have h' : ¬ (0 : Int32).toInt ≤ x.toInt := fun q => h (Int32.le_iff_toInt_le.mpr q)
    have j : x < m := Int32.lt_iff_toInt_lt.mpr (by omega)
    rw [if_pos j, if_neg (fun q : (0 : Int32) < x => by have := Int32.lt_iff_toInt_lt.mp q; omega)]
theorem pm_mm {x m : Int32} (hm : 0 ≤ m) : ∃ v : Nat, (v : Int) ≤ m.toInt ∧ pm_max 0 (pm_min m x) = nI v := by
  have em := Int32.le_iff_toInt_le.mp hm
  have e0 : (0 : Int32).toInt = 0 := rfl
  have b : 0 ≤ (pm_max 0 (pm_min m x)).toInt ∧ (pm_max 0 (pm_min m x)).toInt ≤ m.toInt := by
    unfold pm_max pm_min
    by_cases j : x < m
    · have := Int32.lt_iff_toInt_lt.mp j
      rw [if_pos j]
      by_cases z : (0 : Int32) < x
      · have := Int32.lt_iff_toInt_lt.mp z
        rw [if_pos z]; omega
      · rw [if_neg z]; omega
    · rw [if_neg j]
      by_cases z : (0 : Int32) < m
      · rw [if_pos z]; omega
      · rw [if_neg z]; omega
  refine ⟨(pm_max 0 (pm_min m x)).toInt.toNat, by omega, ?_⟩
  have hlt : (pm_max 0 (pm_min m x)).toInt < 2147483648 := by
    have := m.toInt_lt; omega
  exact Int32.toInt_inj.mp (by rw [nI_toInt (by omega)]; omega)
theorem lvI_b (u : Nat) (t : List Int32) (a b c : Int32) : ∃ v : Nat, v ≤ (if u = 0 then 99 else 9) ∧ lvI u t a b c = nI v := by
  unfold lvI
  by_cases e : t = []
  · rw [if_pos e]
    by_cases hu : u = 0
    · exact ⟨12, by rw [if_pos hu]; omega, by unfold lw_wo; rw [if_pos hu]; rfl⟩
    · exact ⟨1, by rw [if_neg hu]; omega, by unfold lw_wo; rw [if_neg hu]; rfl⟩
  · rw [if_neg e]
    by_cases hu : u = 0
    · have : lw_mo u = 99 := by unfold lw_mo; rw [if_pos hu]
      rw [this, if_pos hu]
      obtain ⟨v, h1, h2⟩ := pm_mm (x := (xs a b c (px u t px_F 0 0 0).2.2 []).getD 0 0) (m := 99) (by decide)
      exact ⟨v, by rw [show (99 : Int32).toInt = 99 from rfl] at h1; omega, h2⟩
    · have : lw_mo u = 9 := by unfold lw_mo; rw [if_neg hu]
      rw [this, if_neg hu]
      obtain ⟨v, h1, h2⟩ := pm_mm (x := (xs a b c (px u t px_F 0 0 0).2.2 []).getD 0 0) (m := 9) (by decide)
      exact ⟨v, by rw [show (9 : Int32).toInt = 9 from rfl] at h1; omega, h2⟩
/-- t is a text of use u, or none -/
def px_tx (u : Nat) (t : List Int32) : Prop := t = [] ∨ ((px u t px_F 0 0 0).1 = false ∧ (px u t px_F 0 0 0).2.1 = t.length)
theorem LC.tx {C : pm_M} {q u : Nat} {t : List Int32} (h : LC C q u t) : px_tx u t := by
  obtain ⟨-, -, cd, h3, -⟩ := h
  rcases h3 with ⟨rfl, -⟩ | ⟨-, h8⟩
  · exact Or.inl rfl
  · exact Or.inr (by rw [h8]; exact ⟨rfl, rfl⟩)
theorem x8_textGives {D : pm_M} {u : Nat} {t : List Int32} (hu : u < 2) (ht : t.length ≤ 50) (hx : px_tx u t) (e : D 1 (86 + u) = nI t.length) (et : ∀ i, i < t.length → D 1 (108 + 50 * u + i) = t.getD i 0) (a b c : Int32) : ∃ D', f_X8_textGives D (nI u) a b c = some (lvI u t a b c, D') ∧ (∀ k, k ≠ 0 → k ≠ 5 → D' k = D k) ∧ ∀ j, (j < 5 ∨ 10 < j) → D' 0 j = D 0 j := by
  have e86 : 86 + nI u = nI (86 + u) := nI_add 86 u
  have e108 : 108 + 50 * nI u = nI (108 + 50 * u) := by
    rw [show (50 : Int32) * nI u = nI (50 * u) from pk_mul 50 u]; exact nI_add 108 (50 * u)
  have in86 : pm_in (nI (86 + u)) 258 = true := in_nI (n := 86 + u) (by omega) (by decide)
  have cl86 : (nI (86 + u)).toNatClampNeg = 86 + u := nI_clamp (by omega)
  generalize hM7 : pm_up (pm_up (pm_up D 5 0 a) 5 1 b) 5 2 c = M7
  have k5 : ∀ k, k ≠ 5 → M7 k = D k := fun k hk => by subst hM7; rw [pm_up_o k hk, pm_up_o k hk, pm_up_o k hk]
  have n0 : M7 5 0 = a := by subst hM7; rw [up_i (by decide), up_i (by decide), up_s]
  have n1 : M7 5 1 = b := by subst hM7; rw [up_i (by decide), up_s]
  have n2 : M7 5 2 = c := by subst hM7; rw [up_s]
  obtain ⟨v, D', w1, w2, w3, -, -⟩ := x8_worked (M := M7) (bs := 108 + 50 * u) hu ht (by omega) n0 n1 n2 (fun i hi => by rw [k5 1 (by decide)]; exact et i hi)
  have fr : (∀ k, k ≠ 0 → k ≠ 5 → D' k = D k) ∧ ∀ j, (j < 5 ∨ 10 < j) → D' 0 j = D 0 j := ⟨fun k h0 h5 => (w2.1 k h0).trans (k5 k h5), fun j hj => by rw [w2.2 j hj, k5 0 (by decide)]⟩
  have hu' : u = 0 ∨ u = 1 := by omega
  unfold f_X8_textGives
  simp only [let_s]
  rw [tn_0, tn_1, tn_2, hM7, e86, chk_t in86, chk_t in86, chk_t in86, cl86, k5 1 (by decide), e, e108, w1, b2_s]
  have lv : t ≠ [] → pm_max 0 (pm_min (lw_mo u) v) = lvI u t a b c := fun hne => by
    rcases hx with hx | hx
    · exact absurd hx hne
    · unfold lvI
      rw [if_neg hne, (w3 hx).2 []]; rfl
  by_cases hne : t = []
  · have l0 : t.length = 0 := by rw [hne]; rfl
    have lv0 : lvI u t a b c = lw_wo u := by unfold lvI; rw [if_pos hne]
    rw [lv0]
    rcases hu' with rfl | rfl
    · rw [if_pos (show nI 0 = 0 from rfl), if_pos (show nI t.length ≤ 0 by rw [l0]; decide), if_pos (show nI 0 = 0 from rfl), x8_held _ _ (by decide), b2_s]
      exact ⟨D, rfl, fun _ _ _ => rfl, fun _ _ => rfl⟩
    · rw [if_neg (show ¬ nI 1 = 0 by decide), if_pos (show nI t.length ≤ 0 by rw [l0]; decide), if_neg (show ¬ nI 1 = 0 by decide), x8_held _ _ (by decide), b2_s]
      exact ⟨D, rfl, fun _ _ _ => rfl, fun _ _ => rfl⟩
  · have l0 : 0 < t.length := List.length_pos_iff.mpr hne
    have np : ¬ nI t.length ≤ 0 := nle (b := 0) (by omega) (by decide) l0
    rw [← lv hne]
    rcases hu' with rfl | rfl
    · rw [if_pos (show nI 0 = 0 from rfl), if_neg np, if_pos (show nI 0 = 0 from rfl), x8_held _ _ (by decide), b2_s]
      exact ⟨D', rfl, fr⟩
    · rw [if_neg (show ¬ nI 1 = 0 by decide), if_neg np, if_neg (show ¬ nI 1 = 0 by decide), x8_held _ _ (by decide), b2_s]
      exact ⟨D', rfl, fr⟩
