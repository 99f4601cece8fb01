/-! ### the class's Law (at q: code q + 1, stack q + 2) works its code out -/
theorem x1_join {M : pm_M} (x l r : Int32) : f_X1_join M x l r = some (xj x l r, M) := by
  unfold f_X1_join xj
  by_cases h : x = 37
  · rw [if_pos h, if_pos h]
    by_cases z : r = 0
    · rw [if_pos z, if_pos z]
    · rw [if_neg z, if_neg z, chk_t (nz_t z)]
  rw [if_neg h, if_neg h]
  by_cases h : x = 38
  · rw [if_pos h, if_pos h]
    by_cases z : l = 0
    · rw [if_pos z, if_pos z]
    · rw [if_neg z, if_neg z]
      by_cases z : r = 0
      · rw [if_pos z, if_pos z]
      · rw [if_neg z, if_neg z]
  rw [if_neg h, if_neg h]
  by_cases h : x = 42
  · rw [if_pos h, if_pos h]
  rw [if_neg h, if_neg h]
  by_cases h : x = 43
  · rw [if_pos h, if_pos h]
  rw [if_neg h, if_neg h]
  by_cases h : x = 45
  · rw [if_pos h, if_pos h]
  rw [if_neg h, if_neg h]
  by_cases h : x = 47
  · rw [if_pos h, if_pos h]
    by_cases z : r = 0
    · rw [if_pos z, if_pos z]
    · rw [if_neg z, if_neg z, chk_t (nz_t z)]
  rw [if_neg h, if_neg h]
  by_cases h : x = 60
  · rw [if_pos h, if_pos h]; split <;> rfl
  rw [if_neg h, if_neg h]
  by_cases h : x = 61
  · rw [if_pos h, if_pos h]; split <;> rfl
  rw [if_neg h, if_neg h]
  by_cases h : x = 62
  · rw [if_pos h, if_pos h]; split <;> rfl
  rw [if_neg h, if_neg h]
  by_cases h : x = 124
  · rw [if_pos h, if_pos h]
    by_cases z : l = 0
    · rw [if_pos z, if_pos z]; split <;> rfl
    · rw [if_neg z, if_neg z]
  rw [if_neg h, if_neg h]
def ST (C : pm_M) (q : Nat) (s : List Int32) : Prop := ∀ k, k < s.length → C (q + 2) (s.length - 1 - k) = s.getD k 0
theorem ST.push {C : pm_M} {q : Nat} {s : List Int32} (h : ST C q s) (x : Int32) : ST (pm_up C (q + 2) s.length x) q (x :: s) := by
  intro k hk
  cases k with
  | zero => exact up_s
  | succ k =>
    have hk' : k < s.length := Nat.lt_of_succ_lt_succ hk
    show pm_up C (q + 2) s.length x (q + 2) (s.length + 1 - 1 - (k + 1)) = s.getD k 0
    rw [up_i (by omega), show s.length + 1 - 1 - (k + 1) = s.length - 1 - k by omega]
    exact h k hk'
theorem ST.tail {C : pm_M} {q : Nat} {v : Int32} {s : List Int32} (h : ST C q (v :: s)) : ST C q s := by
  intro k hk
  have := h (k + 1) (Nat.succ_lt_succ hk)
  rwa [show (v :: s).length - 1 - (k + 1) = s.length - 1 - k by show s.length + 1 - 1 - (k + 1) = _; omega] at this
theorem ST.top {C : pm_M} {q : Nat} {v : Int32} {s : List Int32} (h : ST C q (v :: s)) : C (q + 2) s.length = v := h 0 (Nat.succ_pos _)
section GV
variable {C : pm_M} {q : Nat} {a b c x : Int32} {s : List Int32} {i N : Nat} {ih : Int32 → Int32 → pm_M → Option pm_M}
theorem gv_push (hi : i < N) (hN : N ≤ 50) (hs : s.length ≤ i) (e3 : C q 3 = nI N) (ex : C (q + 1) i = x) (y : Int32) (hy : (x = -33 → s = []) ∧ (¬ -3 ≤ x → s.length < 2)) (ey : y = (if x < 0 then (if x = -1 then a else if x = -2 then b else c) else x)) : lb_X1_given_18 q a b c ih (nI s.length) (nI i) C = ih (nI (s.length + 1)) (nI (i + 1)) (pm_up C (q + 2) s.length y) := by
  have p50 : ¬ (50 : Int32) ≤ nI s.length := nle (a := 50) (by decide) (by omega) (by omega)
  have fin : (if x < 0 then (if x = -1 then (pm_chk (pm_in (nI s.length) 50) (pm_let (pm_up C (q + 2) (nI s.length).toNatClampNeg a) (fun M => ih (nI s.length + 1) (nI i + 1) M))) else (if x = -2 then (pm_chk (pm_in (nI s.length) 50) (pm_let (pm_up C (q + 2) (nI s.length).toNatClampNeg b) (fun M => ih (nI s.length + 1) (nI i + 1) M))) else (pm_chk (pm_in (nI s.length) 50) (pm_let (pm_up C (q + 2) (nI s.length).toNatClampNeg c) (fun M => ih (nI s.length + 1) (nI i + 1) M))))) else (pm_chk (pm_in (nI s.length) 50) (pm_let (pm_up C (q + 2) (nI s.length).toNatClampNeg x) (fun M => ih (nI s.length + 1) (nI i + 1) M)))) = ih (nI (s.length + 1)) (nI (i + 1)) (pm_up C (q + 2) s.length y) := by
    rw [chk_t (in_nI (n := s.length) (by omega) (by decide)), chk_t (in_nI (n := s.length) (by omega) (by decide)), chk_t (in_nI (n := s.length) (by omega) (by decide)), chk_t (in_nI (n := s.length) (by omega) (by decide)), let_s, let_s, let_s, let_s, nI_clamp (n := s.length) (by omega), nI_p1, nI_p1, ey]
    by_cases h0 : x < 0
    · rw [if_pos h0, if_pos h0]
      by_cases h1 : x = -1
      · rw [if_pos h1, if_pos h1]
      · rw [if_neg h1, if_neg h1]
        by_cases h2 : x = -2
        · rw [if_pos h2, if_pos h2]
        · rw [if_neg h2, if_neg h2]
    · rw [if_neg h0, if_neg h0]
  rw [lb_X1_given_18.eq_1, e3, if_neg (nle (a := N) (b := i) (by omega) (by omega) hi), chk_t (in_nI (n := i) (by omega) (by decide)), let_s, nI_clamp (n := i) (by omega), ex]
  by_cases h33 : x = -33
  · rw [if_pos h33, if_pos (show nI s.length < 1 by rw [hy.1 h33]; decide), if_neg (show ¬ (-3 : Int32) ≤ x by rw [h33]; decide), if_pos (show nI s.length < 2 by rw [hy.1 h33]; decide), if_neg p50]
    exact fin
  · rw [if_neg h33]
    by_cases h3 : -3 ≤ x
    · rw [if_pos h3, if_neg p50]
      exact fin
    · rw [if_neg h3, if_pos (show nI s.length < 2 from ylt (b := 2) (by omega) (by decide) (hy.2 h3)), if_neg p50]
      exact fin
theorem gv_not {v : Int32} (hi : i < N) (hN : N ≤ 50) (hs : s.length + 1 ≤ i) (e3 : C q 3 = nI N) (ex : C (q + 1) i = -33) (hv : C (q + 2) s.length = v) : lb_X1_given_18 q a b c ih (nI (s.length + 1)) (nI i) C = ih (nI (s.length + 1)) (nI (i + 1)) (pm_up C (q + 2) s.length (if v = 0 then 1 else 0)) := by
  rw [lb_X1_given_18.eq_1, e3, if_neg (nle (a := N) (b := i) (by omega) (by omega) hi), chk_t (in_nI (n := i) (by omega) (by decide)), let_s, nI_clamp (n := i) (by omega), ex, if_pos rfl, if_neg (show ¬ nI (s.length + 1) < 1 from nlt (b := 1) (by omega) (by decide) (by omega)), nI_m1, chk_t (in_nI (n := s.length) (by omega) (by decide)), chk_t (in_nI (n := s.length) (by omega) (by decide)), let_s, chk_t (in_nI (n := s.length) (by omega) (by decide)), let_s, nI_clamp (n := s.length) (by omega), hv, nI_p1]
  split <;> rfl
theorem gv_join {l r : Int32} (hi : i < N) (hN : N ≤ 50) (hs : s.length + 2 ≤ i) (e3 : C q 3 = nI N) (ex : C (q + 1) i = x) (h33 : ¬ x = -33) (h3 : ¬ -3 ≤ x) (hr : C (q + 2) (s.length + 1) = r) (hl : C (q + 2) s.length = l) : lb_X1_given_18 q a b c ih (nI (s.length + 1 + 1)) (nI i) C = ih (nI (s.length + 1)) (nI (i + 1)) (pm_up C (q + 2) s.length (xj (-x) l r)) := by
  have m : nI (s.length + 1 + 1) + (-1) = nI (s.length + 1) := pk_m1 (s.length + 1)
  rw [lb_X1_given_18.eq_1, e3, if_neg (nle (a := N) (b := i) (by omega) (by omega) hi), chk_t (in_nI (n := i) (by omega) (by decide)), let_s, nI_clamp (n := i) (by omega), ex, if_neg h33, if_neg h3, if_neg (show ¬ nI (s.length + 1 + 1) < 2 from nlt (b := 2) (by omega) (by decide) (by omega)), m, nI_m1, chk_t (in_nI (n := s.length) (by omega) (by decide)), chk_t (in_nI (n := s.length + 1) (by omega) (by decide)), nI_clamp (n := s.length) (by omega), nI_clamp (n := s.length + 1) (by omega), hr, hl, x1_join, b2_s, chk_t (in_nI (n := s.length) (by omega) (by decide)), let_s, nI_p1 (n := i)]
end GV
theorem gv_step {C : pm_M} {q : Nat} {a b c : Int32} {s : List Int32} {i N : Nat} (hi : i < N) (hN : N ≤ 50) (hs : s.length ≤ i) (e3 : C q 3 = nI N) (h : ST C q s) : ∃ C1, (∀ ih, lb_X1_given_18 q a b c ih (nI s.length) (nI i) C = ih (nI (xs1 a b c (C (q + 1) i) s).length) (nI (i + 1)) C1) ∧ (∀ k, k ≠ q + 2 → C1 k = C k) ∧ ST C1 q (xs1 a b c (C (q + 1) i) s) ∧ (xs1 a b c (C (q + 1) i) s).length ≤ i + 1 := by
  generalize ex : C (q + 1) i = x
  have hp : ∀ y, (x = -33 → s = []) ∧ (¬ -3 ≤ x → s.length < 2) → y = (if x < 0 then (if x = -1 then a else if x = -2 then b else c) else x) → xs1 a b c x s = y :: s → ∃ C1, (∀ ih, lb_X1_given_18 q a b c ih (nI s.length) (nI i) C = ih (nI (xs1 a b c x s).length) (nI (i + 1)) C1) ∧ (∀ k, k ≠ q + 2 → C1 k = C k) ∧ ST C1 q (xs1 a b c x s) ∧ (xs1 a b c x s).length ≤ i + 1 := by
    intro y hy ey e
    rw [e]
    exact ⟨pm_up C (q + 2) s.length y, fun ih => gv_push hi hN hs e3 ex y hy ey, fun k hk => pm_up_o k hk, h.push y, Nat.succ_le_succ hs⟩
  by_cases h33 : x = -33
  · cases s with
    | nil => exact hp c ⟨fun _ => rfl, fun _ => by show 0 < 2; decide⟩ (by rw [h33, if_pos (by decide), if_neg (by decide), if_neg (by decide)]) (by rw [h33]; rfl)
    | cons v s =>
      have e : xs1 a b c x (v :: s) = (if v = 0 then 1 else 0) :: s := by rw [h33]; rfl
      rw [e]
      exact ⟨pm_up C (q + 2) s.length (if v = 0 then 1 else 0), fun ih => gv_not hi hN hs e3 (ex.trans h33) h.top, fun k hk => pm_up_o k hk, h.tail.push _, Nat.le_succ_of_le hs⟩
  · by_cases h3 : -3 ≤ x
    · refine hp (if x < 0 then (if x = -1 then a else if x = -2 then b else c) else x) ⟨fun q => absurd q h33, fun q => absurd h3 q⟩ rfl ?_
      unfold xs1; rw [if_neg h33, if_pos h3]
    · have hx0 : x < 0 := by
        have k : ¬ (-3 : Int32).toInt ≤ x.toInt := fun q => h3 (Int32.le_iff_toInt_le.mpr q)
        refine Int32.lt_iff_toInt_lt.mpr ?_
        have e1 : (-3 : Int32).toInt = -3 := by decide
        have e2 : (0 : Int32).toInt = 0 := rfl
        omega
      have hx1 : ¬ x = -1 := fun q => h3 (by rw [q]; decide)
      have hx2 : ¬ x = -2 := fun q => h3 (by rw [q]; decide)
      have ec : c = (if x < 0 then (if x = -1 then a else if x = -2 then b else c) else x) := by rw [if_pos hx0, if_neg hx1, if_neg hx2]
      cases s with
      | nil => exact hp c ⟨fun q => absurd q h33, fun _ => by show 0 < 2; decide⟩ ec (by unfold xs1; rw [if_neg h33, if_neg h3])
      | cons r s =>
        cases s with
        | nil => exact hp c ⟨fun q => absurd q h33, fun _ => by show 1 < 2; decide⟩ ec (by unfold xs1; rw [if_neg h33, if_neg h3])
        | cons l s =>
          have e : xs1 a b c x (r :: l :: s) = xj (-x) l r :: s := by unfold xs1; rw [if_neg h33, if_neg h3]
          rw [e]
          exact ⟨pm_up C (q + 2) s.length (xj (-x) l r), fun ih => gv_join hi hN hs e3 ex h33 h3 h.top h.tail.top, fun k hk => pm_up_o k hk, h.tail.tail.push _, by have : s.length + 1 + 1 ≤ i := hs; show s.length + 1 ≤ i + 1; omega⟩
theorem gv_loop {q : Nat} {a b c : Int32} {cd : List Int32} (hN : cd.length ≤ 50) : ∀ (d i : Nat) (s : List Int32) (C : pm_M), i + d = cd.length → s.length ≤ i → C q 3 = nI cd.length → (∀ j, j < cd.length → C (q + 1) j = cd.getD j 0) → ST C q s → ∀ n : Nat, ∃ C', pm_it (fun _ _ _ => none) (lb_X1_given_18 q a b c) (n + d + 1) (nI s.length) (nI i) C = some C' ∧ (∀ k, k ≠ q + 2 → C' k = C k) ∧ ST C' q (xs a b c (cd.drop i) s) := by
  intro d
  induction d with
  | zero =>
    intro i s C hi hs e3 ec h n
    have : i = cd.length := by omega
    subst this
    refine ⟨C, ?_, fun _ _ => rfl, by rw [List.drop_length]; exact h⟩
    show lb_X1_given_18 q a b c _ (nI s.length) (nI cd.length) C = _
    rw [lb_X1_given_18.eq_1, e3, if_pos (yle (by omega) (by omega) (by omega))]
  | succ d ih =>
    intro i s C hi hs e3 ec h n
    obtain ⟨C1, e1, e2, e4, e5⟩ := gv_step (a := a) (b := b) (c := c) (show i < cd.length by omega) hN hs e3 h
    obtain ⟨C', f1, f2, f3⟩ := ih (i + 1) _ C1 (by omega) e5 (by rw [e2 q (by omega)]; exact e3) (fun j hj => by rw [e2 (q + 1) (by omega)]; exact ec j hj) e4 n
    refine ⟨C', (e1 _).trans f1, fun k hk => (f2 k hk).trans (e2 k hk), ?_⟩
    rw [List.drop_eq_getElem_cons (show i < cd.length by omega)]
    show ST C' q (xs a b c (cd.drop (i + 1)) (xs1 a b c cd[i] s))
    have : cd[i]'(show i < cd.length by omega) = C (q + 1) i := by
      rw [ec i (by omega), List.getD_eq_getElem?_getD, List.getElem?_eq_getElem (by omega)]; rfl
    rw [this]; exact f3
/-- what a text gives, held -/
def lvI (u : Nat) (t : List Int32) (a b c : Int32) : Int32 := if t = [] then lw_wo u else pm_max 0 (pm_min (lw_mo u) ((xs a b c (px u t px_F 0 0 0).2.2 []).getD 0 0))
theorem x1_given {C : pm_M} {q u : Nat} {t : List Int32} (hu : u < 2) (ht : t.length ≤ 50) (h : LC C q u t) (a b c : Int32) : ∃ C', f_X1_given q C a b c = some (lvI u t a b c, C') ∧ ∀ k, k ≠ q + 2 → C' k = C k := by
  obtain ⟨h1, h2, cd, h3, h4, h5, h6⟩ := h
  unfold f_X1_given lvI
  rcases h3 with ⟨rfl, rfl⟩ | ⟨h7, h8⟩
  · rw [h5, if_pos (show nI ([] : List Int32).length = 0 from rfl), if_pos (show ([] : List Int32) = [] from rfl), h1]
    exact ⟨C, rfl, fun _ _ => rfl⟩
  · have pm := (pm_all (u := u) (t := t) (bs := 0) (a := a) (b := b) (c := c) ht).1
    have ne : ∃ v, xs a b c cd [] = [v] := by
      have g := pm.1 (by decide)
      rw [h8] at g
      have hs : MS u t 0 a b c (fun k j => if k = 0 then (if j = 5 then 0 else if j = 6 then 0 else if j = 7 then nI t.length else if j = 8 then -1 else if j = 9 then 0 else if j = 10 then nI u else 0) else if k = 5 then (if j = 0 then a else if j = 1 then b else c) else t.getD j 0) 0 0 :=
        ⟨ht, hu, by omega, by omega, by omega, rfl, rfl, rfl, rfl, rfl, rfl, rfl, rfl, rfl, fun i hi => by show t.getD (0 + i) 0 = _; rw [Nat.zero_add]⟩
      obtain ⟨v, D', -, -, e⟩ := g _ hs 36 (by decide)
      exact ⟨v, e rfl []⟩
    obtain ⟨v, ne⟩ := ne
    have hc : 0 < cd.length := by
      cases cd with
      | nil => exact nomatch ne
      | cons x cd => exact Nat.succ_pos _
    rw [h5, if_neg (show ¬ nI cd.length = 0 from nne (b := 0) (by omega) (by decide) (by omega)), if_neg h7, h8]
    obtain ⟨C', e1, e2, e3⟩ := gv_loop (q := q) (a := a) (b := b) (c := c) (cd := cd) h4 cd.length 0 [] C (by omega) (Nat.le_refl _) h5 h6 (fun k hk => absurd hk (Nat.not_lt_zero k)) (99999 - cd.length)
    rw [pm_F_s _ (by omega)] at e1
    rw [List.drop_zero, ne] at e3
    rw [show lp_X1_given_18 q a b c 0 0 C = some C' from e1, b1_s, tn_0, e2 q (by omega), h2, show C' (q + 2) 0 = v from e3 0 (Nat.succ_pos _)]
    show ∃ C'', some (pm_max 0 (pm_min (lw_mo u) v), C') = some (pm_max 0 (pm_min (lw_mo u) ((xs a b c cd []).getD 0 0)), C'') ∧ _
    rw [ne]
    exact ⟨C', rfl, e2⟩
