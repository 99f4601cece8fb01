/-! ### texts: an induction over what a text compiles to -/
theorem px_at_n {t : List Int32} {p : Nat} (h : t.length ≤ p) : px_at t p = -1 := by
  unfold px_at; rw [List.getD_eq_getElem?_getD, List.getElem?_eq_none h]; rfl
theorem px_at_g {t : List Int32} {p : Nat} (h : p < t.length) : px_at t p = t.getD p 0 := by
  unfold px_at; rw [List.getD_eq_getElem?_getD, List.getD_eq_getElem?_getD, List.getElem?_eq_getElem h]; rfl
theorem px_lt {t : List Int32} {p : Nat} (h : ¬ px_at t p = -1) : p < t.length := by
  by_cases c : p < t.length
  · exact c
  · exact absurd (px_at_n (by omega)) h
theorem px_sig_lt {t : List Int32} {p l : Nat} (h : px_sig l (px_at t p) = true) : p < t.length := by
  refine px_lt (fun e => ?_)
  rw [e] at h
  revert h
  unfold px_sig
  split
  · decide
  · split
    · decide
    · split
      · decide
      · split <;> decide
theorem px_dg_lt {t : List Int32} {p : Nat} (h : px_dg (px_at t p) = true) : p < t.length := by
  refine px_lt (fun e => ?_)
  rw [e] at h
  exact absurd h (by decide)
theorem px_nm_lt {t : List Int32} {u p k : Nat} (h : px_nm u (px_at t p) = some k) : p < t.length ∧ k < 3 := by
  refine ⟨px_lt (fun e => ?_), ?_⟩
  · rw [e] at h
    revert h
    unfold px_nm
    split
    · rw [if_neg (by decide), if_neg (by decide), if_neg (by decide)]; exact fun h => nomatch h
    · rw [if_neg (by decide), if_neg (by decide), if_neg (by decide)]; exact fun h => nomatch h
  · revert h
    unfold px_nm
    repeat' split
    all_goals (intro h; cases h)
    all_goals decide
theorem px_num_b {t : List Int32} : ∀ (k p : Nat) (v : Int32), p ≤ t.length → p ≤ (px_num t k p v).1 ∧ (px_num t k p v).1 ≤ t.length := by
  intro k
  induction k with
  | zero => intro p v h; exact ⟨Nat.le_refl _, h⟩
  | succ k ih =>
    intro p v h
    rw [px_num]
    by_cases c : px_dg (px_at t p) = true
    · rw [if_pos c]
      have := ih (p + 1) (10 * v + px_at t p - 48) (px_dg_lt c)
      exact ⟨by omega, this.2⟩
    · rw [if_neg c]; exact ⟨Nat.le_refl _, h⟩
theorem px_num_4 {t : List Int32} {p : Nat} (h : px_dg (px_at t p) = true) : p < (px_num t 4 p 0).1 ∧ (px_num t 4 p 0).1 ≤ t.length := by
  rw [px_num, if_pos h]
  have := px_num_b 3 (p + 1) (10 * 0 + px_at t p - 48) (px_dg_lt h)
  exact ⟨by omega, this.2⟩
def px_m (N tag p : Nat) : Nat := if tag ≤ 5 then 7 * (N - p) + 7 - tag else 7 * (N - p) + 1
def px_fa (N tag p : Nat) (r : Bool × Nat × List Int32) : Prop := p ≤ r.2.1 ∧ r.2.1 ≤ N ∧ (r.1 = false → r.2.2.length ≤ r.2.1 - p ∧ (tag ≤ 5 → p < r.2.1))
theorem px_rec (u : Nat) (t : List Int32) (P : Nat → Nat → Nat → Bool × Nat × List Int32 → Prop)
  (c0 : ∀ l o p q cd, l < 5 → o ≤ 5 → p ≤ t.length → q ≤ t.length → P (l + 1) o p (true, q, cd) → P l o p (true, q, cd))
  (c1 : ∀ l o p q cd st q' cd', l < 5 → o ≤ 5 → p < q → q ≤ q' → q' ≤ t.length → cd.length ≤ q - p → P (l + 1) o p (false, q, cd) → P (6 + l) o q (st, q', cd') → P l o p (st, q', cd ++ cd'))
  (c2 : ∀ o p, o ≤ 5 → p < t.length → px_dg (px_at t p) = true → P 5 o p (false, (px_num t 4 p 0).1, [(px_num t 4 p 0).2]))
  (c3 : ∀ o p k, o ≤ 5 → p < t.length → k < 3 → ¬ px_dg (px_at t p) = true → px_nm u (px_at t p) = some k → P 5 o p (false, p + 1, [-1 - nI k]))
  (c4 : ∀ o p st q cd, o < 5 → p < t.length → q ≤ t.length → px_at t p = 33 → (st = false → cd.length < q - p ∧ p + 1 < q) → P 5 (o + 1) (p + 1) (st, q, cd) → P 5 o p (st, q, cd ++ [-33]))
  (c5 : ∀ o p q cd, o < 5 → p < t.length → q ≤ t.length → px_at t p = 40 → P 0 (o + 1) (p + 1) (true, q, cd) → P 5 o p (true, q, cd))
  (c6 : ∀ o p q cd, o < 5 → p < t.length → q < t.length → px_at t p = 40 → p + 1 < q → px_at t q = 41 → cd.length ≤ q - (p + 1) → P 0 (o + 1) (p + 1) (false, q, cd) → P 5 o p (false, q + 1, cd))
  (c7 : ∀ o p q cd, o < 5 → p < t.length → q ≤ t.length → px_at t p = 40 → p + 1 < q → ¬ px_at t q = 41 → cd.length ≤ q - (p + 1) → P 0 (o + 1) (p + 1) (false, q, cd) → P 5 o p (true, q, cd))
  (c8 : ∀ o p, o ≤ 5 → p ≤ t.length → ¬ px_dg (px_at t p) = true → px_nm u (px_at t p) = none → ¬ (px_at t p = 33 ∧ o < 5) → ¬ (px_at t p = 40 ∧ o < 5) → P 5 o p (true, p, []))
  (c9 : ∀ l o p, l < 5 → o ≤ 5 → p ≤ t.length → ¬ px_sig l (px_at t p) = true → P (6 + l) o p (false, p, []))
  (c10 : ∀ l o p q cd, l < 5 → o ≤ 5 → p < t.length → q ≤ t.length → px_sig l (px_at t p) = true → P (l + 1) o (p + 1) (true, q, cd) → P (6 + l) o p (true, q, cd))
  (c11 : ∀ o p q cd, o ≤ 5 → p < t.length → p + 1 < q → q ≤ t.length → px_sig 2 (px_at t p) = true → cd.length ≤ q - (p + 1) → P 3 o (p + 1) (false, q, cd) → P 8 o p (false, q, cd ++ [-px_at t p]))
  (c12 : ∀ l o p q cd st q' cd', l < 5 → l ≠ 2 → o ≤ 5 → p < t.length → p + 1 < q → q ≤ q' → q' ≤ t.length → px_sig l (px_at t p) = true → cd.length ≤ q - (p + 1) → P (l + 1) o (p + 1) (false, q, cd) → P (6 + l) o q (st, q', cd') → P (6 + l) o p (st, q', cd ++ ([-px_at t p] ++ cd'))) :
  ∀ (F tag o p : Nat), tag ≤ 10 → o ≤ 5 → p ≤ t.length → px_m t.length tag p ≤ F → P tag o p (px u t F tag o p) ∧ px_fa t.length tag p (px u t F tag o p) := by
  intro F
  induction F with
  | zero =>
    intro tag o p ht _ _ hm
    unfold px_m at hm
    split at hm <;> omega
  | succ F ih =>
    intro tag o p ht ho hp hm
    rw [px]
    by_cases h5 : tag < 5
    · rw [if_pos h5]
      have hm' : 7 * (t.length - p) + 7 - tag ≤ F + 1 := by unfold px_m at hm; rwa [if_pos (by omega)] at hm
      obtain ⟨a1, a2⟩ := ih (tag + 1) o p (by omega) ho hp (by unfold px_m; rw [if_pos (by omega)]; omega)
      generalize px u t F (tag + 1) o p = a at a1 a2
      obtain ⟨st, q, cd⟩ := a
      obtain ⟨a3, a4, a5⟩ := a2
      cases st with
      | true => exact ⟨c0 _ _ _ _ _ h5 ho hp a4 a1, a3, a4, fun h => nomatch h⟩
      | false =>
        obtain ⟨b1, b2⟩ := ih (6 + tag) o q (by omega) ho a4 (by have : p ≤ q := a3; unfold px_m; rw [if_neg (by omega)]; omega)
        show P tag o p ((px u t F (6 + tag) o q).1, (px u t F (6 + tag) o q).2.1, cd ++ (px u t F (6 + tag) o q).2.2) ∧ px_fa t.length tag p ((px u t F (6 + tag) o q).1, (px u t F (6 + tag) o q).2.1, cd ++ (px u t F (6 + tag) o q).2.2)
        generalize px u t F (6 + tag) o q = b at b1 b2
        obtain ⟨st', q', cd'⟩ := b
        obtain ⟨b3, b4, b5⟩ := b2
        obtain ⟨a6, a7⟩ := a5 rfl
        have a8 : p < q := a7 (by omega)
        have a9 : cd.length ≤ q - p := a6
        have b6 : q ≤ q' := b3
        refine ⟨c1 _ _ _ _ _ _ _ _ h5 ho a8 b6 b4 a6 a1 b1, show p ≤ q' by omega, b4, fun h => ?_⟩
        have b7 : cd'.length ≤ q' - q := (b5 h).1
        refine ⟨?_, fun _ => show p < q' by omega⟩
        show (cd ++ cd').length ≤ q' - p
        rw [List.length_append]; omega
    · rw [if_neg h5]
      by_cases e5 : tag = 5
      · rw [if_pos e5]
        subst e5
        have hm' : 7 * (t.length - p) + 2 ≤ F + 1 := by unfold px_m at hm; rw [if_pos (by omega)] at hm; omega
        dsimp only
        by_cases d : px_dg (px_at t p) = true
        · rw [if_pos d]
          have k := px_num_4 d
          exact ⟨c2 _ _ ho (px_dg_lt d) d, Nat.le_of_lt k.1, k.2, fun _ => ⟨show 1 ≤ (px_num t 4 p 0).1 - p by omega, fun _ => k.1⟩⟩
        · rw [if_neg d]
          cases e : px_nm u (px_at t p) with
          | some k =>
            have k' := px_nm_lt e
            exact ⟨c3 _ _ _ ho k'.1 k'.2 d e, Nat.le_succ _, k'.1, fun _ => ⟨show 1 ≤ p + 1 - p by omega, fun _ => Nat.lt_succ_self _⟩⟩
          | none =>
            dsimp only
            by_cases q1 : px_at t p = 33 ∧ o < 5
            · rw [if_pos q1]
              have hl : p < t.length := px_lt (by rw [q1.1]; decide)
              obtain ⟨a1, a2⟩ := ih 5 (o + 1) (p + 1) (by omega) (by omega) hl (by unfold px_m; rw [if_pos (by omega)]; omega)
              generalize px u t F 5 (o + 1) (p + 1) = a at a1 a2
              obtain ⟨st, q, cd⟩ := a
              obtain ⟨a3, a4, a5⟩ := a2
              have a6 : p + 1 ≤ q := a3
              have a7 : st = false → cd.length ≤ q - (p + 1) ∧ p + 1 < q := fun h => ⟨(a5 h).1, (a5 h).2 (by omega)⟩
              refine ⟨c4 o p st q cd q1.2 hl a4 q1.1 (fun h => by have := a7 h; omega) a1, show p ≤ q by omega, a4, fun h => ?_⟩
              have a8 := a7 h
              refine ⟨?_, fun _ => show p < q by omega⟩
              show (cd ++ [-33]).length ≤ q - p
              rw [List.length_append]; show cd.length + 1 ≤ q - p; omega
            · rw [if_neg q1]
              by_cases q2 : px_at t p = 40 ∧ o < 5
              · rw [if_pos q2]
                have hl : p < t.length := px_lt (by rw [q2.1]; decide)
                obtain ⟨a1, a2⟩ := ih 0 (o + 1) (p + 1) (by omega) (by omega) hl (by unfold px_m; rw [if_pos (by omega)]; omega)
                generalize px u t F 0 (o + 1) (p + 1) = a at a1 a2
                obtain ⟨st, q, cd⟩ := a
                obtain ⟨a3, a4, a5⟩ := a2
                have a6 : p + 1 ≤ q := a3
                cases st with
                | true => exact ⟨c5 _ _ _ _ q2.2 hl a4 q2.1 a1, show p ≤ q by omega, a4, fun h => nomatch h⟩
                | false =>
                  have a7 : cd.length ≤ q - (p + 1) ∧ p + 1 < q := ⟨(a5 rfl).1, (a5 rfl).2 (by omega)⟩
                  show P 5 o p (if px_at t q = 41 then (false, q + 1, cd) else (true, q, cd)) ∧ px_fa t.length 5 p (if px_at t q = 41 then (false, q + 1, cd) else (true, q, cd))
                  by_cases q3 : px_at t q = 41
                  · rw [if_pos q3]
                    have hl2 : q < t.length := px_lt (by rw [q3]; decide)
                    exact ⟨c6 _ _ _ _ q2.2 hl hl2 q2.1 a7.2 q3 a7.1 a1, show p ≤ q + 1 by omega, hl2, fun _ => ⟨show cd.length ≤ q + 1 - p by omega, fun _ => show p < q + 1 by omega⟩⟩
                  · rw [if_neg q3]
                    exact ⟨c7 _ _ _ _ q2.2 hl a4 q2.1 a7.2 q3 a7.1 a1, show p ≤ q by omega, a4, fun h => nomatch h⟩
              · rw [if_neg q2]
                exact ⟨c8 _ _ ho hp d e q1 q2, Nat.le_refl _, hp, fun h => nomatch h⟩
      · rw [if_neg e5]
        obtain ⟨l, rfl⟩ : ∃ l, tag = 6 + l := ⟨tag - 6, by omega⟩
        have hm' : 7 * (t.length - p) + 1 ≤ F + 1 := by unfold px_m at hm; rwa [if_neg (by omega)] at hm
        dsimp only
        rw [show 6 + l - 6 = l by omega]
        by_cases s : px_sig l (px_at t p) = true
        · rw [if_pos s]
          have hl := px_sig_lt s
          obtain ⟨a1, a2⟩ := ih (l + 1) o (p + 1) (by omega) ho hl (by unfold px_m; rw [if_pos (by omega)]; omega)
          generalize px u t F (l + 1) o (p + 1) = a at a1 a2
          obtain ⟨st, q, cd⟩ := a
          obtain ⟨a3, a4, a5⟩ := a2
          have a6 : p + 1 ≤ q := a3
          cases st with
          | true => exact ⟨c10 _ _ _ _ _ (by omega) ho hl a4 s a1, show p ≤ q by omega, a4, fun h => nomatch h⟩
          | false =>
            have a7 : cd.length ≤ q - (p + 1) ∧ p + 1 < q := ⟨(a5 rfl).1, (a5 rfl).2 (by omega)⟩
            rw [if_neg (show ¬ ((false, q, cd) : Bool × Nat × List Int32).1 = true from fun h => nomatch h)]
            by_cases l2 : l = 2
            · rw [if_pos l2]
              subst l2
              refine ⟨c11 _ _ _ _ ho hl a7.2 a4 s a7.1 a1, show p ≤ q by omega, a4, fun _ => ⟨?_, fun _ => show p < q by omega⟩⟩
              show (cd ++ [-px_at t p]).length ≤ q - p
              rw [List.length_append]; show cd.length + 1 ≤ q - p; omega
            · rw [if_neg l2]
              obtain ⟨b1, b2⟩ := ih (6 + l) o q (by omega) ho a4 (by unfold px_m; rw [if_neg (by omega)]; omega)
              show P (6 + l) o p ((px u t F (6 + l) o q).1, (px u t F (6 + l) o q).2.1, cd ++ ([-px_at t p] ++ (px u t F (6 + l) o q).2.2)) ∧ px_fa t.length (6 + l) p ((px u t F (6 + l) o q).1, (px u t F (6 + l) o q).2.1, cd ++ ([-px_at t p] ++ (px u t F (6 + l) o q).2.2))
              generalize px u t F (6 + l) o q = b at b1 b2
              obtain ⟨st', q', cd'⟩ := b
              obtain ⟨b3, b4, b5⟩ := b2
              have b6 : q ≤ q' := b3
              refine ⟨c12 _ _ _ _ _ _ _ _ (by omega) l2 ho hl a7.2 b6 b4 s a7.1 a1 b1, show p ≤ q' by omega, b4, fun h => ?_⟩
              have b7 : cd'.length ≤ q' - q := (b5 h).1
              refine ⟨?_, fun _ => show p < q' by omega⟩
              show (cd ++ ([-px_at t p] ++ cd')).length ≤ q' - p
              rw [List.length_append, List.length_append]; show cd.length + (1 + cd'.length) ≤ q' - p; omega
        · rw [if_neg s]
          exact ⟨c9 _ _ _ (by omega) ho hp s, Nat.le_refl _, hp, fun _ => ⟨by show 0 ≤ p - p; omega, fun h => by omega⟩⟩
