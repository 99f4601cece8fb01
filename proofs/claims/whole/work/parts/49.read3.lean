theorem RS.refl {u : Nat} {t : List Int32} {C : pm_M} {p s : Nat} (h : RS u t C p s) : RT C C s false p [] :=
  ⟨fun _ _ _ => rfl, fun _ _ _ _ => rfl, h.2.2.2.2.2.1, (fun q => nomatch q), fun _ => ⟨h.2.2.2.2.2.2.2.1, h.2.2.2.2.2.2.2.2.1, fun _ _ => rfl, fun i hi => absurd hi (Nat.not_lt_zero i)⟩⟩
theorem pc_9 {u : Nat} {t : List Int32} : ∀ l o p, l < 5 → o ≤ 5 → p ≤ t.length → ¬ px_sig l (px_at t p) = true → Pc u t (6 + l) o p (false, p, []) := by
  intro l o p hl ho hp hx
  refine Pc.ke (fun s C hs n m i hn hm hi => ⟨C, Or.inl ?_, hs.refl⟩)
  obtain ⟨m', rfl⟩ : ∃ m', m = m' + 1 := ⟨m - 1, by omega⟩
  show lb_X2_readJoined_21 (fG_X2_readJoined n) 91 (nI l) (nI o) (pm_it (fun _ _ => none) (lb_X2_readJoined_21 (fG_X2_readJoined n) 91 (nI l) (nI o)) m') (nI i) C = _
  have h50 := hs.1
  rw [lb_X2_readJoined_21.eq_1]
  by_cases c : 50 ≤ i
  · rw [if_pos (show (50 : Int32) ≤ nI i from yle (a := 50) (by decide) (by omega) c)]
  · rw [if_neg (show ¬ (50 : Int32) ≤ nI i from nle (a := 50) (by decide) (by omega) (by omega)), if_pos hs.2.2.2.2.2.2.2.1, hs.next, b2_s, x2_joins hl, b2_s, if_bi, if_neg hx]
/-- one round of the loop -/
theorem rk_step {u : Nat} {t : List Int32} {C : pm_M} {p s l o n i : Nat} (hs : RS u t C p s) (hl : l < 5) (hi : i ≤ p) (hp : p < t.length) (hx : px_sig l (px_at t p) = true) {C1 C2 : pm_M} (e1 : (fG_X2_readJoined n).1 91 (pm_up C 91 4 (nI (p + 1))) (nI l + 1) (nI o) = some C1) (e2 : f_X2_write 91 C1 (-px_at t p) = some C2) (ih : Int32 → pm_M → Option ((pm_M) ⊕ pm_M)) : lb_X2_readJoined_21 (fG_X2_readJoined n) 91 (nI l) (nI o) ih (nI i) C = (if nI l = 2 then some (Sum.inr C2) else ih (nI (i + 1)) C2) := by
  have h50 := hs.1
  rw [lb_X2_readJoined_21.eq_1, if_neg (show ¬ (50 : Int32) ≤ nI i from nle (a := 50) (by decide) (by omega) (by omega)), if_pos hs.2.2.2.2.2.2.2.1, hs.next, b2_s, x2_joins hl, b2_s, if_bi, if_pos hx, hs.next, b2_s, let_s, hs.2.2.2.2.2.1, nI_p1, e1, b1_s, e2, b1_s, nI_p1]
theorem pc_10 {u : Nat} {t : List Int32} : ∀ l o p q cd, l < 5 → o ≤ 5 → p < t.length → q ≤ t.length → px_sig l (px_at t p) = true → Pc u t (l + 1) o (p + 1) (true, q, cd) → Pc u t (6 + l) o p (true, q, cd) := by
  intro l o p q cd hl ho hp hq hx h
  refine Pc.ke (fun s C hs n m i hn hm hi => ?_)
  obtain ⟨m', rfl⟩ : ∃ m', m = m' + 1 + 1 := ⟨m - 2, by omega⟩
  obtain ⟨h1, g1⟩ := hs.at1 hp
  obtain ⟨C1, e1, e2⟩ := h.join hl h1 (n := n) (by omega)
  obtain ⟨C2, f1, f2⟩ := RT.wr (b := cd) (RT.jump (d := cd) g1 e2) (-px_at t p)
  refine ⟨C2, ?_, f2⟩
  have st := rk_step (n := n) (o := o) hs hl hi hp hx e1 f1 (pm_it (fun _ _ => none) (lb_X2_readJoined_21 (fG_X2_readJoined n) 91 (nI l) (nI o)) (m' + 1))
  by_cases c : nI l = 2
  · right
    rw [if_pos c] at st
    exact st
  · left
    rw [if_neg c] at st
    refine Eq.trans st ?_
    show lb_X2_readJoined_21 (fG_X2_readJoined n) 91 (nI l) (nI o) (pm_it (fun _ _ => none) (lb_X2_readJoined_21 (fG_X2_readJoined n) 91 (nI l) (nI o)) m') (nI (i + 1)) C2 = _
    rw [lb_X2_readJoined_21.eq_1]
    by_cases c5 : (50 : Int32) ≤ nI (i + 1)
    · rw [if_pos c5]
    · rw [if_neg c5, (f2.2.2.2.1 rfl).1, if_neg (by decide)]
theorem pc_11 {u : Nat} {t : List Int32} : ∀ o p q cd, o ≤ 5 → p < t.length → p + 1 < q → q ≤ t.length → px_sig 2 (px_at t p) = true → cd.length ≤ q - (p + 1) → Pc u t 3 o (p + 1) (false, q, cd) → Pc u t 8 o p (false, q, cd ++ [-px_at t p]) := by
  intro o p q cd ho hp hpq hq hx hc h
  refine Pc.ke (l := 2) (fun s C hs n m i hn hm hi => ?_)
  obtain ⟨m', rfl⟩ : ∃ m', m = m' + 1 := ⟨m - 1, by omega⟩
  obtain ⟨h1, g1⟩ := hs.at1 hp
  obtain ⟨C1, e1, e2⟩ := Pc.join (l := 2) h (by decide) h1 (n := n) (by omega)
  have hsp := hs.2.2.1
  have h50 := hs.1
  have k := RT.trans g1 e2
  have h2 : RS u t C1 q (s + cd.length) := k.rs hs (show s + ([] ++ cd).length ≤ q by rw [List.nil_append]; omega) hq
  obtain ⟨C2, f1, f2⟩ := h2.write (by omega) (-px_at t p)
  refine ⟨C2, Or.inr ?_, RT.trans (a := cd) k f2⟩
  have st := rk_step (n := n) (o := o) (l := 2) hs (by decide) hi hp hx e1 f1 (pm_it (fun _ _ => none) (lb_X2_readJoined_21 (fG_X2_readJoined n) 91 (nI 2) (nI o)) m')
  rw [if_pos (show nI 2 = 2 from rfl)] at st
  exact st
theorem pc_12 {u : Nat} {t : List Int32} : ∀ l o p q cd st q' cd', l < 5 → l ≠ 2 → o ≤ 5 → p < t.length → p + 1 < q → q ≤ q' → q' ≤ t.length → px_sig l (px_at t p) = true → cd.length ≤ q - (p + 1) → Pc u t (l + 1) o (p + 1) (false, q, cd) → Pc u t (6 + l) o q (st, q', cd') → Pc u t (6 + l) o p (st, q', cd ++ ([-px_at t p] ++ cd')) := by
  intro l o p q cd st q' cd' hl hl2 ho hp hpq hq hq' hx hc h g
  refine Pc.ke (fun s C hs n m i hn hm hi => ?_)
  obtain ⟨m', rfl⟩ : ∃ m', m = m' + 1 := ⟨m - 1, by omega⟩
  obtain ⟨h1, g1⟩ := hs.at1 hp
  obtain ⟨C1, e1, e2⟩ := h.join hl h1 (n := n) (by omega)
  have hsp := hs.2.2.1
  have h50 := hs.1
  have k := RT.trans g1 e2
  have h2 : RS u t C1 q (s + cd.length) := k.rs hs (show s + ([] ++ cd).length ≤ q by rw [List.nil_append]; omega) (by omega)
  obtain ⟨C2, f1, f2⟩ := h2.write (by omega) (-px_at t p)
  have h3 : RS u t C2 q (s + cd.length + 1) := f2.rs h2 (show s + cd.length + 1 ≤ q by omega) (by omega)
  obtain ⟨C3, k1, k2⟩ := g.k _ C2 h3 n m' (i + 1) hn (by omega) (by omega)
  refine ⟨C3, ?_, RT.trans (a := cd) k (RT.trans f2 k2)⟩
  have st := rk_step (n := n) (o := o) hs hl hi hp hx e1 f1 (pm_it (fun _ _ => none) (lb_X2_readJoined_21 (fG_X2_readJoined n) 91 (nI l) (nI o)) m')
  rw [if_neg (show ¬ nI l = 2 from nne (b := 2) (by omega) (by decide) hl2)] at st
  rcases k1 with k1 | k1
  · exact Or.inl (Eq.trans st k1)
  · exact Or.inr (Eq.trans st k1)
theorem pc_all (u : Nat) (t : List Int32) : Pc u t 0 0 0 (px u t px_F 0 0 0) ∧ px_fa t.length 0 0 (px u t px_F 0 0 0) ∨ 50 < t.length := by
  by_cases c : t.length ≤ 50
  · exact Or.inl (px_rec u t (Pc u t) pc_0 pc_1 pc_2 pc_3 pc_4 pc_5 pc_6 pc_7 pc_8 pc_9 pc_10 pc_11 pc_12 px_F 0 0 0 (by decide) (by decide) (by omega) (by unfold px_m px_F; rw [if_pos (by decide)]; omega))
  · exact Or.inr (by omega)
theorem x2_read {C : pm_M} {a1 u : Nat} {t : List Int32} (ha : a1 < 91) (hN : t.length ≤ 50) (hu : u < 2) (ht : ∀ i, i < t.length → C a1 i = t.getD i 0) :
  ∃ (r : Bool × Nat × List Int32) (C' : pm_M), px u t px_F 0 0 0 = r ∧ px_fa t.length 0 0 r ∧ f_X2_read 91 C a1 (nI t.length) (nI u) = some (if r.1 = false ∧ r.2.1 = t.length then -1 else nI r.2.1, C') ∧ (∀ k, (k < 91 ∨ 93 < k) → C' k = C k) ∧ (r.1 = false → C' 91 1 = nI r.2.2.length ∧ ∀ i, i < r.2.2.length → C' 92 i = r.2.2.getD i 0) := by
  rcases pc_all u t with ⟨h1, h2⟩ | h
  · generalize hr : px u t px_F 0 0 0 = r at h1 h2
    generalize hC6 : pm_up (pm_up (pm_up (pm_up (pm_up (pm_cpy C a1 0 93 0 50) 91 3 (nI t.length)) 91 4 0) 91 1 0) 91 5 (nI u)) 91 6 0 = C6
    have k6 : ∀ k, k ≠ 91 → k ≠ 93 → C6 k = C k := fun k a b => by
      rw [← hC6, pm_up_o k a, pm_up_o k a, pm_up_o k a, pm_up_o k a, pm_up_o k a]; exact cpy_o b
    have hs : RS u t C6 0 0 := by
      subst hC6
      refine ⟨hN, hu, Nat.le_refl _, Nat.zero_le _, ?_, ?_, ?_, up_s, ?_, fun i hi => ?_⟩
      · rw [up_i (by decide), up_i (by decide), up_i (by decide), up_i (by decide), up_s]
      · rw [up_i (by decide), up_i (by decide), up_i (by decide), up_s]; rfl
      · rw [up_i (by decide), up_s]
      · rw [up_i (by decide), up_i (by decide), up_s]; rfl
      · rw [up_k (by decide), up_k (by decide), up_k (by decide), up_k (by decide), up_k (by decide), cpy_s (by omega)]; exact ht i hi
    obtain ⟨C7, e1, e2⟩ := h1.1 (by decide) 0 C6 hs pm_D (by unfold pm_D; omega)
    obtain ⟨g1, g2, g3, g4, g5⟩ := e2
    have l3 : C7 91 3 = nI t.length := by rw [g2 3 (by decide) (by decide) (by decide)]; exact hs.2.2.2.2.1
    refine ⟨r, C7, rfl, h2, ?_, fun k hk => (g1 k (by omega) (by omega)).trans (k6 k (by omega) (by omega)), fun q => ?_⟩
    · unfold f_X2_read
      rw [tn_0, tn_50]
      simp only [let_s]
      rw [show (pm_up (pm_up (pm_up (pm_up (pm_up (pm_cpy C a1 0 (91 + 2) 0 50) 91 3 (nI t.length)) 91 4 0) 91 1 0) 91 5 (nI u)) 91 6 0) = C6 from hC6, show f_X2_readJoined 91 C6 0 0 = some C7 from e1, b1_s, l3, g3]
      have hq := h2.2.1
      cases hst : r.1 with
      | true => rw [(g4 hst).1, if_neg (by decide), if_neg (fun q => nomatch q.1)]
      | false =>
        rw [(g5 hst).1, if_pos rfl]
        by_cases c : r.2.1 = t.length
        · rw [if_pos (yle (by omega) (by omega) (by omega)), if_pos ⟨rfl, c⟩]
        · rw [if_neg (nle (a := t.length) (b := r.2.1) (by omega) (by omega) (by omega)), if_neg (fun q => c q.2)]
    · obtain ⟨-, g6, -, g8⟩ := g5 q
      rw [Nat.zero_add] at g6
      exact ⟨g6, fun i hi => by have := g8 i hi; rwa [Nat.zero_add] at this⟩
  · omega
