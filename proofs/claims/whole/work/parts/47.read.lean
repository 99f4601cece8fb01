/-! ### the class's Reader (91; code 92, tape 93) writes what px says -/
def RS (u : Nat) (t : List Int32) (C : pm_M) (p s : Nat) : Prop := t.length ≤ 50 ∧ u < 2 ∧ s ≤ p ∧ p ≤ t.length ∧ C 91 3 = nI t.length ∧ C 91 4 = nI p ∧ C 91 5 = nI u ∧ C 91 6 = 0 ∧ C 91 1 = nI s ∧ ∀ i, i < t.length → C 93 i = t.getD i 0
def RT (C C' : pm_M) (s : Nat) (st : Bool) (q : Nat) (cd : List Int32) : Prop :=
  (∀ k, k ≠ 91 → k ≠ 92 → C' k = C k) ∧ (∀ j, j ≠ 1 → j ≠ 4 → j ≠ 6 → C' 91 j = C 91 j) ∧ C' 91 4 = nI q ∧
  (st = true → C' 91 6 = 1 ∧ ∃ s', s' ≤ 50 ∧ C' 91 1 = nI s') ∧
  (st = false → C' 91 6 = 0 ∧ C' 91 1 = nI (s + cd.length) ∧ (∀ i, i < s → C' 92 i = C 92 i) ∧ ∀ i, i < cd.length → C' 92 (s + i) = cd.getD i 0)
theorem RS.next {u : Nat} {t : List Int32} {C : pm_M} {p s : Nat} (h : RS u t C p s) : f_X2_next 91 C = some (px_at t p, C) := by
  obtain ⟨h1, h2, h3, h4, h5, h6, h7, h8, h9, h10⟩ := h
  unfold f_X2_next
  rw [h5, h6]
  by_cases c : p < t.length
  · rw [if_neg (nle (a := t.length) (b := p) (by omega) (by omega) c), chk_t (in_nI (n := p) (by omega) (by decide)), nI_clamp (n := p) (by omega), show C (91 + 2) p = t.getD p 0 from h10 p c, px_at_g c]
  · rw [if_pos (yle (by omega) (by omega) (by omega)), px_at_n (by omega)]
def nm_v (k : Option Nat) : Int32 := match k with
  | some k => nI k
  | none => -1
theorem nm_step {C : pm_M} {u j : Nat} {x : Int32} (hu : u < 2) (hj : j < 3) (e : C 91 5 = nI u) (ih : Int32 → Option (Unit ⊕ (Int32 × pm_M))) : lb_X2_nameOf_2 91 x C ih (nI j) = (if pm_NAMES (u * 3 + j) = x then some (Sum.inr (nI j, C)) else ih (nI (j + 1))) := by
  have m3 : nI u * 3 = nI (u * 3) := pk_mul u 3
  rw [lb_X2_nameOf_2.eq_1, e, if_neg (show ¬ (3 : Int32) ≤ nI j from nle (a := 3) (by decide) (by omega) hj), m3, nI_add, chk_t (in_nI (n := u * 3 + j) (by omega) (by decide)), nI_clamp (n := u * 3 + j) (by omega), nI_p1]
theorem x2_nm {C : pm_M} {u : Nat} {x : Int32} (hu : u < 2) (e : C 91 5 = nI u) : f_X2_nameOf 91 C x = some (nm_v (px_nm u x), C) := by
  have l : lp_X2_nameOf_2 91 x C 0 = (if pm_NAMES (u * 3 + 0) = x then some (Sum.inr (nI 0, C)) else (if pm_NAMES (u * 3 + 1) = x then some (Sum.inr (nI 1, C)) else (if pm_NAMES (u * 3 + 2) = x then some (Sum.inr (nI 2, C)) else some (Sum.inl ())))) := by
    have k3 : ∀ ih, lb_X2_nameOf_2 91 x C ih (nI 3) = some (Sum.inl ()) := fun ih => by rw [lb_X2_nameOf_2.eq_1, if_pos (by decide)]
    have k0 := nm_step (x := x) hu (j := 0) (by decide) e (pm_it (fun _ => none) (lb_X2_nameOf_2 91 x C) 99999)
    have k1 := nm_step (x := x) hu (j := 1) (by decide) e (pm_it (fun _ => none) (lb_X2_nameOf_2 91 x C) 99998)
    have k2 := nm_step (x := x) hu (j := 2) (by decide) e (pm_it (fun _ => none) (lb_X2_nameOf_2 91 x C) 99997)
    rw [show pm_it (fun _ => none) (lb_X2_nameOf_2 91 x C) 99997 (nI (2 + 1)) = some (Sum.inl ()) from k3 _] at k2
    rw [show pm_it (fun _ => none) (lb_X2_nameOf_2 91 x C) 99998 (nI (1 + 1)) = _ from k2] at k1
    rw [show pm_it (fun _ => none) (lb_X2_nameOf_2 91 x C) 99999 (nI (0 + 1)) = _ from k1] at k0
    exact k0
  have hu' : u = 0 ∨ u = 1 := by omega
  unfold f_X2_nameOf
  rw [l]
  rcases hu' with rfl | rfl
  · rw [show pm_NAMES (0 * 3 + 0) = 119 from rfl, show pm_NAMES (0 * 3 + 1) = 100 from rfl, show pm_NAMES (0 * 3 + 2) = 109 from rfl]
    by_cases a : x = 119
    · subst a; rfl
    by_cases b : x = 100
    · subst b; rfl
    by_cases c : x = 109
    · subst c; rfl
    rw [if_neg (show ¬ (119 : Int32) = x from fun q => a q.symm), if_neg (show ¬ (100 : Int32) = x from fun q => b q.symm), if_neg (show ¬ (109 : Int32) = x from fun q => c q.symm)]
    unfold px_nm
    rw [if_pos rfl, if_neg a, if_neg b, if_neg c]; rfl
  · rw [show pm_NAMES (1 * 3 + 0) = 115 from rfl, show pm_NAMES (1 * 3 + 1) = 114 from rfl, show pm_NAMES (1 * 3 + 2) = 100 from rfl]
    by_cases a : x = 115
    · subst a; rfl
    by_cases b : x = 114
    · subst b; rfl
    by_cases c : x = 100
    · subst c; rfl
    rw [if_neg (show ¬ (115 : Int32) = x from fun q => a q.symm), if_neg (show ¬ (114 : Int32) = x from fun q => b q.symm), if_neg (show ¬ (100 : Int32) = x from fun q => c q.symm)]
    unfold px_nm
    rw [if_neg (by decide), if_neg a, if_neg b, if_neg c]; rfl
theorem joins_x (M : pm_M) (x : Int32) : f_X2_joins M 0 x = (if x = 124 then some (1, M) else some (0, M)) ∧ f_X2_joins M 1 x = (if x = 38 then some (1, M) else some (0, M)) ∧ f_X2_joins M 2 x = (if x = 60 then some (1, M) else if x = 61 then some (1, M) else if x = 62 then some (1, M) else some (0, M)) ∧ f_X2_joins M 3 x = (if x = 43 then some (1, M) else if x = 45 then some (1, M) else some (0, M)) ∧ f_X2_joins M 4 x = (if x = 42 then some (1, M) else if x = 47 then some (1, M) else if x = 37 then some (1, M) else some (0, M)) := ⟨rfl, rfl, rfl, rfl, rfl⟩
theorem sig_x (x : Int32) : (px_sig 0 x = true ↔ x = 124) ∧ (px_sig 1 x = true ↔ x = 38) ∧ (px_sig 2 x = true ↔ x = 60 ∨ x = 61 ∨ x = 62) ∧ (px_sig 3 x = true ↔ x = 43 ∨ x = 45) ∧ (px_sig 4 x = true ↔ x = 42 ∨ x = 47 ∨ x = 37) := by
  refine ⟨?_, ?_, ?_, ?_, ?_⟩
  · show decide (x = 124) = true ↔ _
    rw [decide_eq_true_eq]
  · show decide (x = 38) = true ↔ _
    rw [decide_eq_true_eq]
  · show (decide (x = 60) || (decide (x = 61) || decide (x = 62))) = true ↔ _
    rw [Bool.or_eq_true, Bool.or_eq_true, decide_eq_true_eq, decide_eq_true_eq, decide_eq_true_eq]
  · show (decide (x = 43) || decide (x = 45)) = true ↔ _
    rw [Bool.or_eq_true, decide_eq_true_eq, decide_eq_true_eq]
  · show (decide (x = 42) || (decide (x = 47) || decide (x = 37))) = true ↔ _
    rw [Bool.or_eq_true, Bool.or_eq_true, decide_eq_true_eq, decide_eq_true_eq, decide_eq_true_eq]
theorem if3 {p q r : Prop} [Decidable p] [Decidable q] [Decidable r] {S : Prop} [Decidable S] (e : S ↔ p ∨ q ∨ r) {α : Type} {A B : α} : (if p then A else if q then A else if r then A else B) = (if S then A else B) := by
  by_cases a : p
  · rw [if_pos a, if_pos (e.mpr (Or.inl a))]
  · by_cases b : q
    · rw [if_neg a, if_pos b, if_pos (e.mpr (Or.inr (Or.inl b)))]
    · by_cases c : r
      · rw [if_neg a, if_neg b, if_pos c, if_pos (e.mpr (Or.inr (Or.inr c)))]
      · rw [if_neg a, if_neg b, if_neg c, if_neg (fun k => by rcases e.mp k with k | k | k <;> contradiction)]
theorem if2 {p q : Prop} [Decidable p] [Decidable q] {S : Prop} [Decidable S] (e : S ↔ p ∨ q) {α : Type} {A B : α} : (if p then A else if q then A else B) = (if S then A else B) := by
  by_cases a : p
  · rw [if_pos a, if_pos (e.mpr (Or.inl a))]
  · by_cases b : q
    · rw [if_neg a, if_pos b, if_pos (e.mpr (Or.inr b))]
    · rw [if_neg a, if_neg b, if_neg (fun k => by rcases e.mp k with k | k <;> contradiction)]
theorem if1 {p : Prop} [Decidable p] {S : Prop} [Decidable S] (e : S ↔ p) {α : Type} {A B : α} : (if p then A else B) = (if S then A else B) := by
  by_cases a : p
  · rw [if_pos a, if_pos (e.mpr a)]
  · rw [if_neg a, if_neg (fun k => a (e.mp k))]
theorem bi_s (p : Prop) [Decidable p] (M : pm_M) : (if p then some ((1 : Int32), M) else some (0, M)) = some (bi p, M) := by
  unfold bi; split <;> rfl
theorem x2_joins {M : pm_M} {l : Nat} {x : Int32} (hl : l < 5) : f_X2_joins M (nI l) x = some (bi (px_sig l x = true), M) := by
  have hl' : l = 0 ∨ l = 1 ∨ l = 2 ∨ l = 3 ∨ l = 4 := by omega
  obtain ⟨j0, j1, j2, j3, j4⟩ := joins_x M x
  obtain ⟨s0, s1, s2, s3, s4⟩ := sig_x x
  rw [← bi_s]
  rcases hl' with rfl | rfl | rfl | rfl | rfl
  · exact j0.trans (if1 s0)
  · exact j1.trans (if1 s1)
  · exact j2.trans (if3 s2)
  · exact j3.trans (if2 s3)
  · exact j4.trans (if3 s4)
theorem x2_isDigit {M : pm_M} {x : Int32} : f_X2_isDigit M x = some (bi (px_dg x = true), M) := by
  unfold f_X2_isDigit px_dg bi
  simp only [Bool.and_eq_true, decide_eq_true_eq]
  by_cases a : x < 48
  · rw [if_pos a, if_neg (fun q => by have := Int32.lt_iff_toInt_lt.mp a; have := Int32.le_iff_toInt_le.mp q.1; omega)]
  · rw [if_neg a]
    by_cases b : 57 < x
    · rw [if_pos b, if_neg (fun q => by have := Int32.lt_iff_toInt_lt.mp b; have := Int32.le_iff_toInt_le.mp q.2; omega)]
    · rw [if_neg b, if_pos ⟨Int32.not_lt.mp a, Int32.not_lt.mp b⟩]
theorem RS.at1 {u : Nat} {t : List Int32} {C : pm_M} {p s : Nat} (h : RS u t C p s) (hp : p < t.length) : RS u t (pm_up C 91 4 (nI (p + 1))) (p + 1) s ∧ RT C (pm_up C 91 4 (nI (p + 1))) s false (p + 1) [] := by
  obtain ⟨h1, h2, h3, h4, h5, h6, h7, h8, h9, h10⟩ := h
  have e : ∀ j, j ≠ 4 → pm_up C 91 4 (nI (p + 1)) 91 j = C 91 j := fun j hj => up_i hj
  have k : ∀ q, q ≠ 91 → pm_up C 91 4 (nI (p + 1)) q = C q := fun q hq => pm_up_o q hq
  refine ⟨⟨h1, h2, by omega, hp, by rw [e 3 (by decide)]; exact h5, up_s, by rw [e 5 (by decide)]; exact h7, by rw [e 6 (by decide)]; exact h8, by rw [e 1 (by decide)]; exact h9, by rw [k 93 (by decide)]; exact h10⟩, fun q hq _ => k q hq, fun j _ hj _ => e j hj, up_s, (fun q => nomatch q), fun _ => ⟨by rw [e 6 (by decide)]; exact h8, by rw [e 1 (by decide)]; exact h9, fun i _ => by rw [k 92 (by decide)], fun i hi => absurd hi (Nat.not_lt_zero i)⟩⟩
theorem RT.rs {u : Nat} {t : List Int32} {C C' : pm_M} {p s q : Nat} {cd : List Int32} (h : RS u t C p s) (g : RT C C' s false q cd) (hq : s + cd.length ≤ q) (hN : q ≤ t.length) : RS u t C' q (s + cd.length) := by
  obtain ⟨h1, h2, h3, h4, h5, h6, h7, h8, h9, h10⟩ := h
  obtain ⟨g1, g2, g3, -, g4⟩ := g
  obtain ⟨g5, g6, g7, g8⟩ := g4 rfl
  exact ⟨h1, h2, hq, hN, by rw [g2 3 (by decide) (by decide) (by decide)]; exact h5, g3, by rw [g2 5 (by decide) (by decide) (by decide)]; exact h7, g5, g6, by rw [g1 93 (by decide) (by decide)]; exact h10⟩
theorem gD_al {a b : List Int32} {i : Nat} (h : i < a.length) : (a ++ b).getD i 0 = a.getD i 0 := by
  rw [List.getD_eq_getElem?_getD, List.getD_eq_getElem?_getD, List.getElem?_append_left h]
theorem gD_ar {a b : List Int32} {i : Nat} (h : a.length ≤ i) : (a ++ b).getD i 0 = b.getD (i - a.length) 0 := by
  rw [List.getD_eq_getElem?_getD, List.getD_eq_getElem?_getD, List.getElem?_append_right h]
theorem RT.trans {C C1 C2 : pm_M} {s q1 q : Nat} {st : Bool} {a b : List Int32} (h : RT C C1 s false q1 a) (g : RT C1 C2 (s + a.length) st q b) : RT C C2 s st q (a ++ b) := by
  obtain ⟨h1, h2, h3, -, h4⟩ := h
  obtain ⟨h5, h6, h7, h8⟩ := h4 rfl
  obtain ⟨g1, g2, g3, g4, g5⟩ := g
  refine ⟨fun k x y => (g1 k x y).trans (h1 k x y), fun j x y z => (g2 j x y z).trans (h2 j x y z), g3, g4, fun e => ?_⟩
  obtain ⟨g6, g7, g8, g9⟩ := g5 e
  refine ⟨g6, by rw [g7, List.length_append, Nat.add_assoc], fun i hi => (g8 i (by omega)).trans (h7 i hi), fun i hi => ?_⟩
  rw [List.length_append] at hi
  by_cases c : i < a.length
  · rw [gD_al c, g8 _ (by omega)]; exact h8 i c
  · rw [gD_ar (by omega)]
    have := g9 (i - a.length) (by omega)
    rwa [show s + a.length + (i - a.length) = s + i by omega] at this
theorem RT.any {C C' : pm_M} {s q : Nat} {a b : List Int32} (h : RT C C' s true q a) : RT C C' s true q b := by
  obtain ⟨h1, h2, h3, h4, -⟩ := h
  exact ⟨h1, h2, h3, h4, fun q => nomatch q⟩
theorem RT.jump {C C1 C2 : pm_M} {s q1 q : Nat} {a b d : List Int32} (h : RT C C1 s false q1 a) (g : RT C1 C2 (s + a.length) true q b) : RT C C2 s true q d := (RT.trans h g).any
theorem RS.stuck {u : Nat} {t : List Int32} {C : pm_M} {p s : Nat} (h : RS u t C p s) {cd : List Int32} : RT C (pm_up C 91 6 1) s true p cd := by
  obtain ⟨h1, h2, h3, h4, h5, h6, h7, h8, h9, h10⟩ := h
  exact ⟨fun q hq _ => pm_up_o q hq, fun j _ _ hj => up_i hj, by rw [up_i (by decide)]; exact h6, fun _ => ⟨up_s, s, by omega, by rw [up_i (by decide)]; exact h9⟩, fun q => nomatch q⟩
theorem RS.write {u : Nat} {t : List Int32} {C : pm_M} {p s : Nat} (h : RS u t C p s) (hs : s < 50) (x : Int32) : ∃ C', f_X2_write 91 C x = some C' ∧ RT C C' s false p [x] := by
  obtain ⟨h1, h2, h3, h4, h5, h6, h7, h8, h9, h10⟩ := h
  refine ⟨pm_up (pm_up C 92 s x) 91 1 (nI (s + 1)), ?_, fun k a b => by rw [pm_up_o k a, pm_up_o k b], fun j a _ _ => by rw [up_i a, up_k (by decide)], by rw [up_i (by decide), up_k (by decide)]; exact h6, (fun q => nomatch q), fun _ => ⟨by rw [up_i (by decide), up_k (by decide)]; exact h8, up_s, fun i hi => by rw [up_k (by decide), up_i (by omega)], fun i hi => ?_⟩⟩
  · unfold f_X2_write
    rw [h9, if_neg (show ¬ (50 : Int32) ≤ nI s from nle (a := 50) (by decide) (by omega) hs), chk_t (in_nI (n := s) hs (by decide)), let_s, let_s, nI_clamp (n := s) (by omega)]
    show some (pm_up (pm_up C 92 s x) 91 1 ((pm_up C 92 s x) 91 1 + 1)) = _
    rw [up_k (by decide), h9, nI_p1]
  · have : i = 0 := Nat.lt_one_iff.mp hi
    subst this
    rw [up_k (by decide)]; exact up_s
theorem RT.wr {C C1 : pm_M} {s q : Nat} {a b : List Int32} (h : RT C C1 s true q a) (x : Int32) : ∃ C', f_X2_write 91 C1 x = some C' ∧ RT C C' s true q b := by
  obtain ⟨h1, h2, h3, h4, -⟩ := h
  obtain ⟨h5, s', h6, h7⟩ := h4 rfl
  unfold f_X2_write
  rw [h7]
  by_cases c : 50 ≤ s'
  · rw [if_pos (show (50 : Int32) ≤ nI s' from yle (a := 50) (by decide) (by omega) c)]
    exact ⟨C1, rfl, h1, h2, h3, h4, fun q => nomatch q⟩
  · rw [if_neg (show ¬ (50 : Int32) ≤ nI s' from nle (a := 50) (by decide) (by omega) (by omega)), chk_t (in_nI (n := s') (by omega) (by decide)), let_s, let_s]
    refine ⟨_, rfl, fun k a b => by rw [pm_up_o k a]; exact (pm_up_o k b).trans (h1 k a b), fun j a b c => by rw [up_i a, up_k (by decide)]; exact h2 j a b c, by rw [up_i (by decide), up_k (by decide)]; exact h3, fun _ => ⟨by rw [up_i (by decide), up_k (by decide)]; exact h5, s' + 1, by omega, ?_⟩, fun q => nomatch q⟩
    rw [up_s, up_k (by decide), h7, nI_p1]
theorem num_loop {u : Nat} {t : List Int32} : ∀ (k i p s : Nat) (v : Int32) (C : pm_M), RS u t C p s → i + k = 4 → ∀ n : Nat, ∃ C', pm_it (fun _ _ _ => none) (lb_X2_readNumber_4 91) (n + k + 1) v (nI i) C = some ((px_num t k p v).2, C') ∧ RT C C' s false (px_num t k p v).1 [] := by
  intro k
  induction k with
  | zero =>
    intro i p s v C h hi n
    have : i = 4 := by omega
    subst this
    refine ⟨C, ?_, fun _ _ _ => rfl, fun _ _ _ _ => rfl, h.2.2.2.2.2.1, (fun q => nomatch q), fun _ => ⟨h.2.2.2.2.2.2.2.1, h.2.2.2.2.2.2.2.2.1, fun _ _ => rfl, fun i hi => absurd hi (Nat.not_lt_zero i)⟩⟩
    show lb_X2_readNumber_4 91 _ v (nI 4) C = _
    rw [lb_X2_readNumber_4.eq_1, if_pos (by decide)]; rfl
  | succ k ih =>
    intro i p s v C h hi n
    show ∃ C', lb_X2_readNumber_4 91 (pm_it (fun _ _ _ => none) (lb_X2_readNumber_4 91) (n + k + 1)) v (nI i) C = _ ∧ _
    rw [lb_X2_readNumber_4.eq_1, if_neg (show ¬ (4 : Int32) ≤ nI i from nle (a := 4) (by decide) (by omega) (by omega)), h.next, b2_s, x2_isDigit, b2_s, if_bi, px_num]
    by_cases c : px_dg (px_at t p) = true
    · have hp := px_dg_lt c
      obtain ⟨h', g⟩ := h.at1 hp
      rw [if_pos c, if_pos c, h.next, b2_s, let_s, let_s, h.2.2.2.2.2.1, nI_p1, nI_p1]
      obtain ⟨C', e1, e2⟩ := ih (i + 1) (p + 1) s (10 * v + px_at t p - 48) _ h' (by omega) n
      exact ⟨C', e1, RT.trans g e2⟩
    · rw [if_neg c, if_neg c]
      exact ⟨C, rfl, fun _ _ _ => rfl, fun _ _ _ _ => rfl, h.2.2.2.2.2.1, (fun q => nomatch q), fun _ => ⟨h.2.2.2.2.2.2.2.1, h.2.2.2.2.2.2.2.2.1, fun _ _ => rfl, fun i hi => absurd hi (Nat.not_lt_zero i)⟩⟩
theorem RS.num {u : Nat} {t : List Int32} {C : pm_M} {p s : Nat} (h : RS u t C p s) (hd : px_dg (px_at t p) = true) : ∃ C', f_X2_readNumber 91 C = some C' ∧ RT C C' s false (px_num t 4 p 0).1 [(px_num t 4 p 0).2] := by
  have hp := px_dg_lt hd
  have k := px_num_4 hd
  obtain ⟨C1, e1, e2⟩ := num_loop 4 0 p s 0 C h (by omega) 99995
  have h1 : RS u t C1 (px_num t 4 p 0).1 s := e2.rs h (by have := h.2.2.1; show s ≤ _; omega) k.2
  obtain ⟨C2, f1, f2⟩ := h1.write (by have := h.2.2.1; have := h.1; omega) (px_num t 4 p 0).2
  refine ⟨C2, ?_, RT.trans e2 f2⟩
  unfold f_X2_readNumber
  rw [show lp_X2_readNumber_4 91 0 0 C = some ((px_num t 4 p 0).2, C1) from e1, b2_s, f1, b1_s]
