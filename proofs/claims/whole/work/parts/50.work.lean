/-! ### what a text's code works out; the reference works it out as it reads -/
def xj (x l r : Int32) : Int32 :=
  if x = 37 then (if r = 0 then 0 else pm_rem l r) else if x = 38 then (if l = 0 then 0 else if r = 0 then 0 else 1) else if x = 42 then l * r else if x = 43 then l + r else if x = 45 then l - r else if x = 47 then (if r = 0 then 0 else l / r) else if x = 60 then (if r ≤ l then 0 else 1) else if x = 61 then (if l = r then 1 else 0) else if x = 62 then (if l ≤ r then 0 else 1) else if x = 124 then (if l = 0 then (if r = 0 then 0 else 1) else 1) else 0
def xs1 (a b c x : Int32) (s : List Int32) : List Int32 :=
  if x = -33 then (match s with
    | [] => [c]
    | v :: s => (if v = 0 then 1 else 0) :: s)
  else if -3 ≤ x then ((if x < 0 then (if x = -1 then a else if x = -2 then b else c) else x) :: s)
  else match s with
    | r :: l :: s => xj (-x) l r :: s
    | s => c :: s
def xs (a b c : Int32) : List Int32 → List Int32 → List Int32
  | [], s => s
  | x :: cd, s => xs a b c cd (xs1 a b c x s)
theorem xs_app {a b c : Int32} : ∀ (d e s : List Int32), xs a b c (d ++ e) s = xs a b c e (xs a b c d s) := by
  intro d
  induction d with
  | nil => intro e s; rfl
  | cons x d ih => intro e s; exact ih e _
theorem sig_cases {l : Nat} {x : Int32} (hl : l < 5) (h : px_sig l x = true) : (l = 0 ∧ x = 124) ∨ (l = 1 ∧ x = 38) ∨ (l = 2 ∧ (x = 60 ∨ x = 61 ∨ x = 62)) ∨ (l = 3 ∧ (x = 43 ∨ x = 45)) ∨ (l = 4 ∧ (x = 42 ∨ x = 47 ∨ x = 37)) := by
  have hl' : l = 0 ∨ l = 1 ∨ l = 2 ∨ l = 3 ∨ l = 4 := by omega
  obtain ⟨s0, s1, s2, s3, s4⟩ := sig_x x
  rcases hl' with rfl | rfl | rfl | rfl | rfl
  · exact Or.inl ⟨rfl, s0.mp h⟩
  · exact Or.inr (Or.inl ⟨rfl, s1.mp h⟩)
  · exact Or.inr (Or.inr (Or.inl ⟨rfl, s2.mp h⟩))
  · exact Or.inr (Or.inr (Or.inr (Or.inl ⟨rfl, s3.mp h⟩)))
  · exact Or.inr (Or.inr (Or.inr (Or.inr ⟨rfl, s4.mp h⟩)))
theorem xs1_sig {a b c x v w : Int32} {s : List Int32} {l : Nat} (hl : l < 5) (h : px_sig l x = true) : xs1 a b c (-x) (w :: v :: s) = xj x v w :: s := by
  rcases sig_cases hl h with ⟨-, rfl⟩ | ⟨-, rfl⟩ | ⟨-, rfl | rfl | rfl⟩ | ⟨-, rfl | rfl⟩ | ⟨-, rfl | rfl | rfl⟩ <;> rfl
def MF (D D' : pm_M) : Prop := (∀ k, k ≠ 0 → D' k = D k) ∧ ∀ j, j ≠ 6 → j ≠ 8 → j ≠ 9 → D' 0 j = D 0 j
theorem MF.refl (D : pm_M) : MF D D := ⟨fun _ _ => rfl, fun _ _ _ _ => rfl⟩
theorem MF.trans {D E F : pm_M} (h : MF D E) (g : MF E F) : MF D F := ⟨fun k a => (g.1 k a).trans (h.1 k a), fun j a b c => (g.2 j a b c).trans (h.2 j a b c)⟩
theorem MF.up {D : pm_M} {j : Nat} {x : Int32} (h : j = 6 ∨ j = 8 ∨ j = 9) : MF D (pm_up D 0 j x) := ⟨fun k a => pm_up_o k a, fun i a b c => up_i (by omega)⟩
def MS (u : Nat) (t : List Int32) (bs : Nat) (a b c : Int32) (D : pm_M) (o p : Nat) : Prop := t.length ≤ 50 ∧ u < 2 ∧ p ≤ t.length ∧ bs + t.length ≤ 258 ∧ o ≤ 5 ∧ D 0 5 = nI bs ∧ D 0 6 = nI p ∧ D 0 7 = nI t.length ∧ D 0 8 = -1 ∧ D 0 9 = nI o ∧ D 0 10 = nI u ∧ D 5 0 = a ∧ D 5 1 = b ∧ D 5 2 = c ∧ ∀ i, i < t.length → D 1 (bs + i) = t.getD i 0
def MTo (D D' : pm_M) (o : Nat) (st : Bool) (q : Nat) : Prop := MF D D' ∧ (st = false → D' 0 6 = nI q ∧ D' 0 8 = -1 ∧ D' 0 9 = nI o) ∧ (st = true → q ≤ 50 ∧ D' 0 8 = nI q)
section MSs
variable {u : Nat} {t : List Int32} {bs : Nat} {a b c : Int32} {D D' : pm_M} {o p q : Nat}
theorem MS.mf {o' : Nat} (h : MS u t bs a b c D o p) (g : MF D D') (hq : q ≤ t.length) (ho : o' ≤ 5) (e6 : D' 0 6 = nI q) (e8 : D' 0 8 = -1) (e9 : D' 0 9 = nI o') : MS u t bs a b c D' o' q := by
  obtain ⟨h1, h2, h3, h4, h4', h5, h6, h7, h8, h9, h10, h11, h12, h13, h14⟩ := h
  exact ⟨h1, h2, hq, h4, ho, (g.2 5 (by decide) (by decide) (by decide)).trans h5, e6, (g.2 7 (by decide) (by decide) (by decide)).trans h7, e8, e9, (g.2 10 (by decide) (by decide) (by decide)).trans h10, by rw [g.1 5 (by decide)]; exact h11, by rw [g.1 5 (by decide)]; exact h12, by rw [g.1 5 (by decide)]; exact h13, by rw [g.1 1 (by decide)]; exact h14⟩
theorem MS.ms (h : MS u t bs a b c D o p) (g : MTo D D' o false q) (hq : q ≤ t.length) : MS u t bs a b c D' o q :=
  h.mf g.1 hq h.2.2.2.2.1 (g.2.1 rfl).1 (g.2.1 rfl).2.1 (g.2.1 rfl).2.2
theorem MS.here (h : MS u t bs a b c D o p) : f_X8_here D = some (px_at t p, D) := by
  obtain ⟨h1, h2, h3, h4, h4', h5, h6, h7, h8, h9, h10, h11, h12, h13, h14⟩ := h
  unfold f_X8_here
  rw [h6, h7, h8, h5, nI_add]
  by_cases e : p < t.length
  · rw [if_neg (nle (a := t.length) (b := p) (by omega) (by omega) e), if_neg (by decide), chk_t (in_nI (n := bs + p) (by omega) (by decide)), nI_clamp (n := bs + p) (by omega), h14 p e, px_at_g e]
  · rw [if_pos (yle (by omega) (by omega) (by omega)), px_at_n (by omega)]
theorem here_x (h : 0 ≤ D 0 8) : f_X8_here D = some (-1, D) := by
  unfold f_X8_here
  rw [if_pos h]; split <;> rfl
theorem takes_n {x y : Int32} (h : f_X8_here D = some (x, D)) (e : ¬ x = y) : f_X8_takes D y = some (0, D) := by
  unfold f_X8_takes
  rw [h, b2_s, if_neg e]
theorem takes_y {x y : Int32} (h : f_X8_here D = some (x, D)) (e : x = y) : f_X8_takes D y = some (1, pm_up D 0 6 (D 0 6 + 1)) := by
  unfold f_X8_takes
  rw [h, b2_s, if_pos e, let_s]
theorem MS.at1 (h : MS u t bs a b c D o p) (hp : p < t.length) : MS u t bs a b c (pm_up D 0 6 (D 0 6 + 1)) o (p + 1) :=
  h.mf (MF.up (Or.inl rfl)) hp h.2.2.2.2.1 (by rw [up_s, h.2.2.2.2.2.2.1, nI_p1]) ((up_i (by decide)).trans h.2.2.2.2.2.2.2.2.1) ((up_i (by decide)).trans h.2.2.2.2.2.2.2.2.2.1)
theorem MS.wrong (h : MS u t bs a b c D o p) : f_X8_wrong D = some (0, pm_up D 0 8 (nI p)) := by
  unfold f_X8_wrong
  rw [h.2.2.2.2.2.2.2.2.1, if_neg (by decide), let_s, h.2.2.2.2.2.2.1]
theorem MS.wr (h : MS u t bs a b c D o p) {D0 : pm_M} {o' : Nat} (g : MF D0 D) : MTo D0 (pm_up D 0 8 (nI p)) o' true p :=
  ⟨g.trans (MF.up (Or.inr (Or.inl rfl))), (fun q => nomatch q), fun _ => ⟨by have := h.1; have := h.2.2.1; omega, up_s⟩⟩
theorem wrong_x (h : 0 ≤ D 0 8) : f_X8_wrong D = some (0, pm_up D 0 8 (D 0 8)) := by
  unfold f_X8_wrong
  rw [if_pos h, let_s]
theorem MTo.f (g : MTo D D' o true q) : 0 ≤ D' 0 8 := by
  rw [(g.2.2 rfl).2]; exact nI_pos' (by have := (g.2.2 rfl).1; omega)
theorem MS.nm (h : MS u t bs a b c D o p) (x : Int32) : f_X8_nameOf D x = some (nm_v (px_nm u x), D) := by
  have hu : u = 0 ∨ u = 1 := by have := h.2.1; omega
  unfold f_X8_nameOf
  rw [h.2.2.2.2.2.2.2.2.2.2.1]
  unfold px_nm
  rcases hu with rfl | rfl
  · rw [if_pos (show nI 0 = 0 from rfl), if_pos (show (0 : Nat) = 0 from rfl)]
    by_cases k : x = 119
    · rw [if_pos k, if_pos k]; rfl
    · rw [if_neg k, if_neg k]
      by_cases k : x = 100
      · rw [if_pos k, if_pos k]; rfl
      · rw [if_neg k, if_neg k]
        by_cases k : x = 109
        · rw [if_pos k, if_pos k]; rfl
        · rw [if_neg k, if_neg k]; rfl
  · rw [if_neg (show ¬ nI 1 = 0 by decide), if_neg (show ¬ (1 : Nat) = 0 by decide)]
    by_cases k : x = 115
    · rw [if_pos k, if_pos k]; rfl
    · rw [if_neg k, if_neg k]
      by_cases k : x = 114
      · rw [if_pos k, if_pos k]; rfl
      · rw [if_neg k, if_neg k]
        by_cases k : x = 100
        · rw [if_pos k, if_pos k]; rfl
        · rw [if_neg k, if_neg k]; rfl
end MSs
def gm : Nat → GT_X8_either → pm_M → Option (Int32 × pm_M)
  | 0, r => r.1
  | 1, r => r.2.1
  | 2, r => r.2.2.1
  | 3, r => r.2.2.2.1
  | 4, r => r.2.2.2.2.1
  | _, r => r.2.2.2.2.2
def km_cmp (r : GT_X8_either) (v : Int32) (D : pm_M) : Option (Int32 × pm_M) :=
  pm_b2 (f_X8_here D) (fun (x : Int32) (M : pm_M) => if px_sig 2 x = true then pm_b2 (r.2.2.2.1 (pm_up M 0 6 ((M 0 6) + 1))) (fun (w : Int32) (M2 : pm_M) => some (xj x v w, M2)) else some (v, M))
def kl : Nat → GT_X8_either → Nat → Int32 → pm_M → Option (Int32 × pm_M)
  | 0, r, m => pm_it (fun _ _ => none) (lb_X8_either_5 r) m
  | 1, r, m => pm_it (fun _ _ => none) (lb_X8_both_5 r) m
  | 2, r, _ => km_cmp r
  | 3, r, m => pm_it (fun _ _ => none) (lb_X8_sum_5 r) m
  | _, r, m => pm_it (fun _ _ => none) (lb_X8_product_5 r) m
theorem cmp_eq (r : GT_X8_either) (D : pm_M) : rb_X8_compared r D = pm_b2 (r.2.2.2.1 D) (km_cmp r) := by
  rw [rb_X8_compared.eq_1]
  congr 1
  funext v M
  unfold km_cmp
  congr 1
  funext x M3
  simp only [let_s]
  have s0 : (px_sig 2 x = true) ↔ (x = 60 ∨ x = 61 ∨ x = 62) := (sig_x x).2.2.1
  by_cases h1 : x = 60
  · subst h1; rw [if_pos rfl, if_pos (s0.mpr (Or.inl rfl))]
    congr 1; funext w M2
    show _ = some ((if w ≤ v then (0 : Int32) else 1), M2)
    rw [if_pos rfl]; split <;> rfl
  · rw [if_neg h1]
    by_cases h2 : x = 61
    · subst h2; rw [if_pos rfl, if_pos (s0.mpr (Or.inr (Or.inl rfl)))]
      congr 1; funext w M2
      show _ = some ((if v = w then (1 : Int32) else 0), M2)
      rw [if_neg (by decide), if_pos rfl]; split <;> rfl
    · rw [if_neg h2]
      by_cases h3 : x = 62
      · subst h3; rw [if_pos rfl, if_pos (s0.mpr (Or.inr (Or.inr rfl)))]
        congr 1; funext w M2
        show _ = some ((if v ≤ w then (0 : Int32) else 1), M2)
        rw [if_neg (by decide), if_neg (by decide)]; split <;> rfl
      · rw [if_neg h3, if_neg (fun q => by rcases s0.mp q with q | q | q <;> contradiction)]
theorem gm_s {l n : Nat} {v w : Int32} {D D1 D2 : pm_M} (hl : l < 5) (e1 : gm (l + 1) (fG_X8_either n) D = some (v, D1)) (e2 : kl l (fG_X8_either n) pm_F v D1 = some (w, D2)) : gm l (fG_X8_either (n + 1)) D = some (w, D2) := by
  have hl' : l = 0 ∨ l = 1 ∨ l = 2 ∨ l = 3 ∨ l = 4 := by omega
  rcases hl' with rfl | rfl | rfl | rfl | rfl
  · show rb_X8_either (fG_X8_either n) D = _
    rw [rb_X8_either.eq_1, show (fG_X8_either n).2.1 D = some (v, D1) from e1, b2_s, show lp_X8_either_5 (fG_X8_either n) v D1 = some (w, D2) from e2, b2_s]
  · show rb_X8_both (fG_X8_either n) D = _
    rw [rb_X8_both.eq_1, show (fG_X8_either n).2.2.1 D = some (v, D1) from e1, b2_s, show lp_X8_both_5 (fG_X8_either n) v D1 = some (w, D2) from e2, b2_s]
  · show rb_X8_compared (fG_X8_either n) D = _
    rw [cmp_eq, show (fG_X8_either n).2.2.2.1 D = some (v, D1) from e1, b2_s]; exact e2
  · show rb_X8_sum (fG_X8_either n) D = _
    rw [rb_X8_sum.eq_1, show (fG_X8_either n).2.2.2.2.1 D = some (v, D1) from e1, b2_s, show lp_X8_sum_5 (fG_X8_either n) v D1 = some (w, D2) from e2, b2_s]
  · show rb_X8_product (fG_X8_either n) D = _
    rw [rb_X8_product.eq_1, show (fG_X8_either n).2.2.2.2.2 D = some (v, D1) from e1, b2_s, show lp_X8_product_5 (fG_X8_either n) v D1 = some (w, D2) from e2, b2_s]
