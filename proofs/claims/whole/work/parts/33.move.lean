theorem subx {n : Nat} (hn : n < 2 ^ 30) {x : Int32} (hx : 0 ≤ x.toInt) : (nI n - x).toInt = (n : Int) - x.toInt := by
  have h1 := Int32.toInt_lt x
  rw [Int32.toInt_sub, nI_toInt (by omega)]
  exact Int.bmod_eq_of_le (by omega) (by omega)
theorem x4_holds {M : pm_M} {p n : Nat} {x y : Int32} (e : M p 1 = nI n) (hn : n ≤ 40) : f_X4_holds p M x y = some (bi (0 ≤ x.toInt ∧ 0 ≤ y.toInt ∧ x.toInt + y.toInt ≤ (n : Int)), M) := by
  unfold f_X4_holds
  rw [e]
  by_cases c1 : x < 0
  · have := Int32.lt_iff_toInt_lt.mp c1
    rw [li0] at this
    rw [if_pos c1, bi_f (by omega)]
  · have c1' : ¬ x.toInt < 0 := fun q => c1 (Int32.lt_iff_toInt_lt.mpr (by rw [li0]; exact q))
    rw [if_neg c1]
    by_cases c2 : y < 0
    · have := Int32.lt_iff_toInt_lt.mp c2
      rw [li0] at this
      rw [if_pos c2, bi_f (by omega)]
    · have c2' : ¬ y.toInt < 0 := fun q => c2 (Int32.lt_iff_toInt_lt.mpr (by rw [li0]; exact q))
      rw [if_neg c2]
      by_cases c3 : nI n < x
      · have := Int32.lt_iff_toInt_lt.mp c3
        rw [nI_toInt (by omega)] at this
        rw [if_pos c3, bi_f (by omega)]
      · have c3' : ¬ (n : Int) < x.toInt := fun q => c3 (Int32.lt_iff_toInt_lt.mpr (by rw [nI_toInt (by omega)]; exact q))
        rw [if_neg c3]
        by_cases c4 : nI n - x < y
        · have := Int32.lt_iff_toInt_lt.mp c4
          rw [subx (by omega) (by omega)] at this
          rw [if_pos c4, bi_f (by omega)]
        · have c4' : ¬ (n : Int) - x.toInt < y.toInt := fun q => c4 (Int32.lt_iff_toInt_lt.mpr (by rw [subx (by omega) (by omega)]; exact q))
          rw [if_neg c4, bi_t (by omega)]
theorem mv1_loop {j a L : Nat} (hj : j < 4) (ha : a + L ≤ 40) (x3 x4 : Int32) : ∀ (d i : Nat) (D : pm_M), i + d = L → ∀ n : Nat, ∃ D' : pm_M, pm_it (fun _ _ => none) (lb_X8_move_115 (nI j) (nI a) x3 x4 (nI L)) (n + d + 1) (nI i) D = some D' ∧ (∀ q, q ≠ 11 → D' q = D q) ∧ (∀ k, i ≤ k → k < L → D' 11 k = D 10 (40 * j + a + k)) ∧ (∀ k, k < i → D' 11 k = D 11 k) := by
  intro d
  induction d with
  | zero =>
    intro i D hi n
    refine ⟨D, ?_, fun q _ => rfl, fun k a b => by omega, fun k _ => rfl⟩
    show lb_X8_move_115 (nI j) (nI a) x3 x4 (nI L) _ (nI i) D = _
    rw [lb_X8_move_115.eq_1, if_pos (yle (by omega) (by omega) (by omega))]
  | succ d ih =>
    intro i D hi n
    obtain ⟨D', e1, e2, e3, e4⟩ := ih (i + 1) (pm_up D 11 i (D 10 (40 * j + a + i))) (by omega) n
    refine ⟨D', ?_, fun q hq => (e2 q hq).trans (pm_up_o q hq), fun k q b => ?_, fun k hk => ?_⟩
    · show lb_X8_move_115 (nI j) (nI a) x3 x4 (nI L) (pm_it (fun _ _ => none) (lb_X8_move_115 (nI j) (nI a) x3 x4 (nI L)) (n + d + 1)) (nI i) D = _
      rw [lb_X8_move_115.eq_1, if_neg (nle (a := L) (b := i) (by omega) (by omega) (by omega)), ix40, nI_add, chk_t (in_nI (n := 40 * j + a + i) (by omega) (by decide)), chk_t (in_nI (n := i) (by omega) (by decide)), let_s, nI_clamp (n := i) (by omega), nI_clamp (n := 40 * j + a + i) (by omega), nI_p1]
      exact e1
    · by_cases c : k = i
      · subst c; rw [e4 k (by omega), up_s]
      · rw [e3 k (by omega) b, up_k (by decide)]
    · rw [e4 k (by omega), up_i (by omega)]
theorem mv2_loop {j a L : Nat} (hj : j < 4) (ha : a + L ≤ 40) : ∀ (d i : Nat) (D : pm_M), i + d = L → ∀ n : Nat, ∃ D' : pm_M, pm_it (fun _ _ => none) (lb_X8_move_152 (nI j) (nI a) (nI L)) (n + d + 1) (nI i) D = some D' ∧ (∀ q, q ≠ 10 → D' q = D q) ∧ (∀ k, i ≤ k → k < L → D' 10 (40 * j + a + k) = D 11 k) ∧ (∀ k, (k < 40 * j + a + i ∨ 40 * j + a + L ≤ k) → D' 10 k = D 10 k) := by
  intro d
  induction d with
  | zero =>
    intro i D hi n
    refine ⟨D, ?_, fun q _ => rfl, fun k a b => by omega, fun k _ => rfl⟩
    show lb_X8_move_152 (nI j) (nI a) (nI L) _ (nI i) D = _
    rw [lb_X8_move_152.eq_1, if_pos (yle (by omega) (by omega) (by omega))]
  | succ d ih =>
    intro i D hi n
    obtain ⟨D', e1, e2, e3, e4⟩ := ih (i + 1) (pm_up D 10 (40 * j + a + i) (D 11 i)) (by omega) n
    refine ⟨D', ?_, fun q hq => (e2 q hq).trans (pm_up_o q hq), fun k q b => ?_, fun k hk => ?_⟩
    · show lb_X8_move_152 (nI j) (nI a) (nI L) (pm_it (fun _ _ => none) (lb_X8_move_152 (nI j) (nI a) (nI L)) (n + d + 1)) (nI i) D = _
      rw [lb_X8_move_152.eq_1, if_neg (nle (a := L) (b := i) (by omega) (by omega) (by omega)), ix40, nI_add, chk_t (in_nI (n := i) (by omega) (by decide)), chk_t (in_nI (n := 40 * j + a + i) (by omega) (by decide)), let_s, nI_clamp (n := i) (by omega), nI_clamp (n := 40 * j + a + i) (by omega), nI_p1]
      exact e1
    · by_cases c : k = i
      · subst c; rw [e4 _ (by omega), up_s]
      · rw [e3 k (by omega) b, up_k (by decide)]
    · rw [e4 k (by omega), up_i (by omega)]
theorem x8_chain {A : Type} {n1 n3 : Nat} (h1 : n1 ≤ 40) (h3 : n3 ≤ 40) (x2 x4 x5 : Int32) (E G : A) : (if x5 < 0 then E else (if x2 < 0 then E else (if x4 < 0 then E else (if (nI n1 - x2) < x5 then E else (if x5 ≤ (nI n3 - x4) then G else E))))) = (if (0 ≤ x2.toInt ∧ 0 ≤ x5.toInt ∧ x2.toInt + x5.toInt ≤ (n1 : Int)) ∧ (0 ≤ x4.toInt ∧ 0 ≤ x5.toInt ∧ x4.toInt + x5.toInt ≤ (n3 : Int)) then G else E) := by
  have lt0 : ∀ x : Int32, x < 0 ↔ x.toInt < 0 := fun x => Int32.lt_iff_toInt_lt
  by_cases c5 : x5 < 0
  · have := (lt0 _).mp c5
    rw [if_pos c5, if_neg (by omega)]
  · have c5' : ¬ x5.toInt < 0 := fun q => c5 ((lt0 _).mpr q)
    rw [if_neg c5]
    by_cases c2 : x2 < 0
    · have := (lt0 _).mp c2
      rw [if_pos c2, if_neg (by omega)]
    · have c2' : ¬ x2.toInt < 0 := fun q => c2 ((lt0 _).mpr q)
      rw [if_neg c2]
      by_cases c4 : x4 < 0
      · have := (lt0 _).mp c4
        rw [if_pos c4, if_neg (by omega)]
      · have c4' : ¬ x4.toInt < 0 := fun q => c4 ((lt0 _).mpr q)
        rw [if_neg c4]
        have s1 := subx (n := n1) (by omega) (x := x2) (by omega)
        have s3 := subx (n := n3) (by omega) (x := x4) (by omega)
        by_cases d1 : nI n1 - x2 < x5
        · have := Int32.lt_iff_toInt_lt.mp d1
          rw [if_pos d1, if_neg (by omega)]
        · have d1' : ¬ (nI n1 - x2).toInt < x5.toInt := fun q => d1 (Int32.lt_iff_toInt_lt.mpr q)
          rw [if_neg d1]
          by_cases d3 : x5 ≤ nI n3 - x4
          · have := Int32.le_iff_toInt_le.mp d3
            rw [if_pos d3, if_pos (by omega)]
          · have d3' : ¬ x5.toInt ≤ (nI n3 - x4).toInt := fun q => d3 (Int32.le_iff_toInt_le.mpr q)
            rw [if_neg d3, if_neg (by omega)]
