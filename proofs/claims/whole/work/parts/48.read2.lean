def PcL (u : Nat) (t : List Int32) (l o p : Nat) (r : Bool × Nat × List Int32) : Prop := ∀ (s : Nat) (C : pm_M), RS u t C p s → ∀ n, 7 * (5 - o) + 7 - l ≤ n → ∃ C', (fG_X2_readJoined n).1 91 C (nI l) (nI o) = some C' ∧ RT C C' s r.1 r.2.1 r.2.2
def PcS (u : Nat) (t : List Int32) (o p : Nat) (r : Bool × Nat × List Int32) : Prop := ∀ (s : Nat) (C : pm_M), RS u t C p s → ∀ n, 7 * (5 - o) + 1 ≤ n → ∃ C', (fG_X2_readJoined n).2 91 C (nI o) = some C' ∧ RT C C' s r.1 r.2.1 r.2.2
def PcK (u : Nat) (t : List Int32) (l o p : Nat) (r : Bool × Nat × List Int32) : Prop := ∀ (s : Nat) (C : pm_M), RS u t C p s → ∀ n m i, 7 * (5 - o) + 6 - l ≤ n → t.length - p < m → i ≤ p → ∃ C', (pm_it (fun _ _ => none) (lb_X2_readJoined_21 (fG_X2_readJoined n) 91 (nI l) (nI o)) m (nI i) C = some (Sum.inl C') ∨ pm_it (fun _ _ => none) (lb_X2_readJoined_21 (fG_X2_readJoined n) 91 (nI l) (nI o)) m (nI i) C = some (Sum.inr C')) ∧ RT C C' s r.1 r.2.1 r.2.2
def Pc (u : Nat) (t : List Int32) (tag o p : Nat) (r : Bool × Nat × List Int32) : Prop := (tag < 5 → PcL u t tag o p r) ∧ (tag = 5 → PcS u t o p r) ∧ (6 ≤ tag → PcK u t (tag - 6) o p r)
theorem Pc.lo {u : Nat} {t : List Int32} {l o p : Nat} {r : Bool × Nat × List Int32} (h : l < 5) (H : PcL u t l o p r) : Pc u t l o p r := ⟨fun _ => H, fun e => by omega, fun e => by omega⟩
theorem Pc.si {u : Nat} {t : List Int32} {o p : Nat} {r : Bool × Nat × List Int32} (H : PcS u t o p r) : Pc u t 5 o p r := ⟨fun e => by omega, fun _ => H, fun e => by omega⟩
theorem Pc.ke {u : Nat} {t : List Int32} {l o p : Nat} {r : Bool × Nat × List Int32} (H : PcK u t l o p r) : Pc u t (6 + l) o p r := ⟨fun e => by omega, fun e => by omega, fun _ => by rw [show 6 + l - 6 = l by omega]; exact H⟩
theorem Pc.k {u : Nat} {t : List Int32} {l o p : Nat} {r : Bool × Nat × List Int32} (h : Pc u t (6 + l) o p r) : PcK u t l o p r := by
  have := h.2.2 (by omega)
  rwa [show 6 + l - 6 = l by omega] at this
/-- the next level, whichever it is -/
theorem Pc.join {u : Nat} {t : List Int32} {l o p : Nat} {r : Bool × Nat × List Int32} (h : Pc u t (l + 1) o p r) (hl : l < 5) {s : Nat} {C : pm_M} (hs : RS u t C p s) {n : Nat} (hn : 7 * (5 - o) + 6 - l ≤ n) : ∃ C', (fG_X2_readJoined n).1 91 C (nI l + 1) (nI o) = some C' ∧ RT C C' s r.1 r.2.1 r.2.2 := by
  rw [nI_p1]
  by_cases c : l + 1 < 5
  · exact h.1 c s C hs n (by omega)
  · have e : l = 4 := by omega
    subst e
    obtain ⟨n', rfl⟩ : ∃ n', n = n' + 1 := ⟨n - 1, by omega⟩
    obtain ⟨C', e1, e2⟩ := h.2.1 rfl s C hs n' (by omega)
    refine ⟨C', ?_, e2⟩
    show rb_X2_readJoined (fG_X2_readJoined n') 91 C (nI 5) (nI o) = _
    rw [rb_X2_readJoined.eq_1, if_neg (by decide), e1, b1_s]
theorem pc_0 {u : Nat} {t : List Int32} : ∀ l o p q cd, l < 5 → o ≤ 5 → p ≤ t.length → q ≤ t.length → Pc u t (l + 1) o p (true, q, cd) → Pc u t l o p (true, q, cd) := by
  intro l o p q cd hl ho hp hq h
  refine Pc.lo hl (fun s C hs n hn => ?_)
  obtain ⟨n', rfl⟩ : ∃ n', n = n' + 1 := ⟨n - 1, by omega⟩
  obtain ⟨C1, e1, e2⟩ := h.join hl hs (n := n') (by omega)
  refine ⟨C1, ?_, e2⟩
  show rb_X2_readJoined (fG_X2_readJoined n') 91 C (nI l) (nI o) = _
  rw [rb_X2_readJoined.eq_1, if_pos (show nI l < 5 from ylt (b := 5) (by omega) (by decide) hl), e1, b1_s]
  have k : lp_X2_readJoined_21 (fG_X2_readJoined n') 91 (nI l) (nI o) 0 C1 = some (Sum.inl C1) := by
    show lb_X2_readJoined_21 (fG_X2_readJoined n') 91 (nI l) (nI o) (pm_it (fun _ _ => none) (lb_X2_readJoined_21 (fG_X2_readJoined n') 91 (nI l) (nI o)) 99999) 0 C1 = _
    rw [lb_X2_readJoined_21.eq_1, if_neg (by decide), (e2.2.2.2.1 rfl).1, if_neg (by decide)]
  rw [k, s1_l]
theorem pc_1 {u : Nat} {t : List Int32} : ∀ l o p q cd st q' cd', l < 5 → o ≤ 5 → p < q → q ≤ q' → q' ≤ t.length → cd.length ≤ q - p → Pc u t (l + 1) o p (false, q, cd) → Pc u t (6 + l) o q (st, q', cd') → Pc u t l o p (st, q', cd ++ cd') := by
  intro l o p q cd st q' cd' hl ho hp hq hq' hc h g
  refine Pc.lo hl (fun s C hs n hn => ?_)
  obtain ⟨n', rfl⟩ : ∃ n', n = n' + 1 := ⟨n - 1, by omega⟩
  have hsp := hs.2.2.1
  have h50 := hs.1
  obtain ⟨C1, e1, e2⟩ := h.join hl hs (n := n') (by omega)
  have hs1 : RS u t C1 q (s + cd.length) := e2.rs hs (by omega) (by omega)
  obtain ⟨C2, f1, f2⟩ := g.k _ C1 hs1 n' pm_F 0 (by omega) (by unfold pm_F; omega) (Nat.zero_le _)
  refine ⟨C2, ?_, RT.trans e2 f2⟩
  show rb_X2_readJoined (fG_X2_readJoined n') 91 C (nI l) (nI o) = _
  rw [rb_X2_readJoined.eq_1, if_pos (show nI l < 5 from ylt (b := 5) (by omega) (by decide) hl), e1, b1_s]
  rcases f1 with f1 | f1
  · rw [show lp_X2_readJoined_21 (fG_X2_readJoined n') 91 (nI l) (nI o) 0 C1 = some (Sum.inl C2) from f1, s1_l]
  · rw [show lp_X2_readJoined_21 (fG_X2_readJoined n') 91 (nI l) (nI o) 0 C1 = some (Sum.inr C2) from f1, s1_r]
/-- the first steps of a Q -/
theorem rs_single {u : Nat} {t : List Int32} {C : pm_M} {p s : Nat} (h : RS u t C p s) (r : GT_X2_readJoined) (o : Int32) : rb_X2_readSingle r 91 C o = (if px_dg (px_at t p) = true then (pm_b1 (f_X2_readNumber 91 C) (fun M22 : pm_M => (some M22))) else (if nm_v (px_nm u (px_at t p)) < 0 then (if px_at t p = 33 then (if 5 ≤ o then (some (pm_up C 91 6 1)) else (pm_b1 (r.2 91 (pm_up C 91 4 ((C 91 4) + 1)) (o + 1)) (fun M13 : pm_M => (pm_b1 (f_X2_write 91 M13 (-33)) (fun M14 : pm_M => (some M14)))))) else (if px_at t p = 40 then (if 5 ≤ o then (some (pm_up C 91 6 1)) else (pm_b1 (r.1 91 (pm_up C 91 4 ((C 91 4) + 1)) 0 (o + 1)) (fun M17 : pm_M => (pm_b1 (f_X2_readClosing 91 M17) (fun M18 : pm_M => (some M18)))))) else (some (pm_up C 91 6 1)))) else (pm_b1 (f_X2_write 91 (pm_up C 91 4 ((C 91 4) + 1)) ((-1) - nm_v (px_nm u (px_at t p)))) (fun M21 : pm_M => (some M21))))) := by
  have e5 : C 91 5 = nI u := h.2.2.2.2.2.2.1
  rw [rb_X2_readSingle.eq_1, h.next, b2_s, x2_nm h.2.1 e5, b2_s, x2_isDigit, b2_s, if_bi]
  simp only [let_s]
  by_cases d : px_dg (px_at t p) = true
  · rw [if_pos d, if_pos d]
  · rw [if_neg d, if_neg d]
    by_cases k : nm_v (px_nm u (px_at t p)) < 0
    · rw [if_pos k, if_pos k]
      by_cases a : px_at t p = 33
      · rw [if_pos a, if_pos a, if_neg (show ¬ px_at t p = 40 by rw [a]; decide)]
      · rw [if_neg a, if_neg a]
    · rw [if_neg k, if_neg k]
theorem pc_2 {u : Nat} {t : List Int32} : ∀ o p, o ≤ 5 → p < t.length → px_dg (px_at t p) = true → Pc u t 5 o p (false, (px_num t 4 p 0).1, [(px_num t 4 p 0).2]) := by
  intro o p ho hp hd
  refine Pc.si (fun s C hs n hn => ?_)
  obtain ⟨n', rfl⟩ : ∃ n', n = n' + 1 := ⟨n - 1, by omega⟩
  obtain ⟨C', e1, e2⟩ := hs.num hd
  refine ⟨C', ?_, e2⟩
  show rb_X2_readSingle (fG_X2_readJoined n') 91 C (nI o) = _
  rw [rs_single hs, if_pos hd, e1, b1_s]
theorem pc_3 {u : Nat} {t : List Int32} : ∀ o p k, o ≤ 5 → p < t.length → k < 3 → ¬ px_dg (px_at t p) = true → px_nm u (px_at t p) = some k → Pc u t 5 o p (false, p + 1, [-1 - nI k]) := by
  intro o p k ho hp hk hd hnm
  refine Pc.si (fun s C hs n hn => ?_)
  obtain ⟨n', rfl⟩ : ∃ n', n = n' + 1 := ⟨n - 1, by omega⟩
  obtain ⟨h1, g1⟩ := hs.at1 hp
  obtain ⟨C', e1, e2⟩ := h1.write (by have := hs.2.2.1; have := hs.1; omega) (-1 - nI k)
  refine ⟨C', ?_, RT.trans g1 e2⟩
  show rb_X2_readSingle (fG_X2_readJoined n') 91 C (nI o) = _
  rw [rs_single hs, if_neg hd, hnm]
  show (if nI k < 0 then _ else pm_b1 (f_X2_write 91 (pm_up C 91 4 ((C 91 4) + 1)) ((-1) - nI k)) (fun M21 : pm_M => (some M21))) = _
  rw [if_neg (show ¬ nI k < 0 from nI_pos (by omega)), hs.2.2.2.2.2.1, nI_p1, e1, b1_s]
theorem pc_4 {u : Nat} {t : List Int32} : ∀ o p st q cd, o < 5 → p < t.length → q ≤ t.length → px_at t p = 33 → (st = false → cd.length < q - p ∧ p + 1 < q) → Pc u t 5 (o + 1) (p + 1) (st, q, cd) → Pc u t 5 o p (st, q, cd ++ [-33]) := by
  intro o p st q cd ho hp hq hx hf h
  refine Pc.si (fun s C hs n hn => ?_)
  obtain ⟨n', rfl⟩ : ∃ n', n = n' + 1 := ⟨n - 1, by omega⟩
  obtain ⟨h1, g1⟩ := hs.at1 hp
  obtain ⟨C1, e1, e2⟩ := h.2.1 rfl s _ h1 n' (by omega)
  have en : px_nm u (px_at t p) = none := by
    rw [hx]; unfold px_nm; split <;> (rw [if_neg (by decide), if_neg (by decide), if_neg (by decide)])
  have go : ∀ C', f_X2_write 91 C1 (-33) = some C' → rb_X2_readSingle (fG_X2_readJoined n') 91 C (nI o) = some C' := by
    intro C' e
    rw [rs_single hs, if_neg (by rw [hx]; decide), en, if_pos (show nm_v none < 0 by decide), if_pos hx, if_neg (show ¬ (5 : Int32) ≤ nI o from nle (a := 5) (by decide) (by omega) ho), hs.2.2.2.2.2.1, nI_p1, nI_p1, e1, b1_s, e, b1_s]
  cases st with
  | true =>
    obtain ⟨C', k1, k2⟩ := RT.wr (b := cd ++ [-33]) (RT.jump (d := cd) g1 e2) (-33)
    exact ⟨C', go C' k1, k2⟩
  | false =>
    obtain ⟨f1, f2⟩ := hf rfl
    have k := RT.trans g1 e2
    have hsp := hs.2.2.1
    have h50 := hs.1
    have h2 : RS u t C1 q (s + cd.length) := k.rs hs (show s + ([] ++ cd).length ≤ q by rw [List.nil_append]; omega) hq
    obtain ⟨C', k1, k2⟩ := h2.write (by omega) (-33)
    exact ⟨C', go C' k1, RT.trans (a := cd) k k2⟩
theorem rc_ok {u : Nat} {t : List Int32} {C : pm_M} {q s : Nat} (h : RS u t C q s) (e : px_at t q = 41) : f_X2_readClosing 91 C = some (pm_up C 91 4 (nI (q + 1))) := by
  unfold f_X2_readClosing
  rw [if_pos h.2.2.2.2.2.2.2.1, h.next, b2_s, if_pos e, let_s, h.2.2.2.2.2.1, nI_p1]
theorem rc_no {u : Nat} {t : List Int32} {C : pm_M} {q s : Nat} (h : RS u t C q s) (e : ¬ px_at t q = 41) : f_X2_readClosing 91 C = some (pm_up C 91 6 1) := by
  unfold f_X2_readClosing
  rw [if_pos h.2.2.2.2.2.2.2.1, h.next, b2_s, if_neg e, let_s]
theorem rs_open {u : Nat} {t : List Int32} {C : pm_M} {p s o n : Nat} (hs : RS u t C p s) (ho : o < 5) (hx : px_at t p = 40) {C1 C' : pm_M} (e1 : (fG_X2_readJoined n).1 91 (pm_up C 91 4 (nI (p + 1))) (nI 0) (nI (o + 1)) = some C1) (e : f_X2_readClosing 91 C1 = some C') : rb_X2_readSingle (fG_X2_readJoined n) 91 C (nI o) = some C' := by
  have en : px_nm u (px_at t p) = none := by
    rw [hx]; unfold px_nm; split <;> (rw [if_neg (by decide), if_neg (by decide), if_neg (by decide)])
  rw [rs_single hs, if_neg (by rw [hx]; decide), en, if_pos (show nm_v none < 0 by decide), if_neg (by rw [hx]; decide), if_pos hx, if_neg (show ¬ (5 : Int32) ≤ nI o from nle (a := 5) (by decide) (by omega) ho), hs.2.2.2.2.2.1, nI_p1, nI_p1, show (0 : Int32) = nI 0 from rfl, e1, b1_s, e, b1_s]
theorem pc_5 {u : Nat} {t : List Int32} : ∀ o p q cd, o < 5 → p < t.length → q ≤ t.length → px_at t p = 40 → Pc u t 0 (o + 1) (p + 1) (true, q, cd) → Pc u t 5 o p (true, q, cd) := by
  intro o p q cd ho hp hq hx h
  refine Pc.si (fun s C hs n hn => ?_)
  obtain ⟨n', rfl⟩ : ∃ n', n = n' + 1 := ⟨n - 1, by omega⟩
  obtain ⟨h1, g1⟩ := hs.at1 hp
  obtain ⟨C1, e1, e2⟩ := h.1 (by decide) s _ h1 n' (by omega)
  have k := RT.jump (d := cd) g1 e2
  obtain ⟨k1, k2, k3, k4, -⟩ := k
  obtain ⟨k5, s', k6, k7⟩ := k4 rfl
  have e : f_X2_readClosing 91 C1 = some (pm_up C1 91 6 1) := by
    unfold f_X2_readClosing
    rw [k5, if_neg (by decide), let_s]
  exact ⟨_, rs_open hs ho hx e1 e, fun k a b => (pm_up_o k a).trans (k1 k a b), fun j a b c => (up_i c).trans (k2 j a b c), (up_i (by decide)).trans k3, fun _ => ⟨up_s, s', k6, (up_i (by decide)).trans k7⟩, fun q => nomatch q⟩
theorem pc_6 {u : Nat} {t : List Int32} : ∀ o p q cd, o < 5 → p < t.length → q < t.length → px_at t p = 40 → p + 1 < q → px_at t q = 41 → cd.length ≤ q - (p + 1) → Pc u t 0 (o + 1) (p + 1) (false, q, cd) → Pc u t 5 o p (false, q + 1, cd) := by
  intro o p q cd ho hp hq hx hpq hc hl h
  refine Pc.si (fun s C hs n hn => ?_)
  obtain ⟨n', rfl⟩ : ∃ n', n = n' + 1 := ⟨n - 1, by omega⟩
  obtain ⟨h1, g1⟩ := hs.at1 hp
  obtain ⟨C1, e1, e2⟩ := h.1 (by decide) s _ h1 n' (by omega)
  have k := RT.trans g1 e2
  have hsp := hs.2.2.1
  have h2 : RS u t C1 q (s + cd.length) := k.rs hs (show s + ([] ++ cd).length ≤ q by rw [List.nil_append]; omega) (by omega)
  have g2 := (h2.at1 hq).2
  refine ⟨_, rs_open hs ho hx e1 (rc_ok h2 hc), ?_⟩
  have := RT.trans (a := cd) k g2
  rwa [List.append_nil] at this
theorem pc_7 {u : Nat} {t : List Int32} : ∀ o p q cd, o < 5 → p < t.length → q ≤ t.length → px_at t p = 40 → p + 1 < q → ¬ px_at t q = 41 → cd.length ≤ q - (p + 1) → Pc u t 0 (o + 1) (p + 1) (false, q, cd) → Pc u t 5 o p (true, q, cd) := by
  intro o p q cd ho hp hq hx hpq hc hl h
  refine Pc.si (fun s C hs n hn => ?_)
  obtain ⟨n', rfl⟩ : ∃ n', n = n' + 1 := ⟨n - 1, by omega⟩
  obtain ⟨h1, g1⟩ := hs.at1 hp
  obtain ⟨C1, e1, e2⟩ := h.1 (by decide) s _ h1 n' (by omega)
  have k := RT.trans g1 e2
  have hsp := hs.2.2.1
  have h2 : RS u t C1 q (s + cd.length) := k.rs hs (show s + ([] ++ cd).length ≤ q by rw [List.nil_append]; omega) (by omega)
  exact ⟨_, rs_open hs ho hx e1 (rc_no h2 hc), RT.jump (a := cd) k (h2.stuck (cd := []))⟩
theorem pc_8 {u : Nat} {t : List Int32} : ∀ o p, o ≤ 5 → p ≤ t.length → ¬ px_dg (px_at t p) = true → px_nm u (px_at t p) = none → ¬ (px_at t p = 33 ∧ o < 5) → ¬ (px_at t p = 40 ∧ o < 5) → Pc u t 5 o p (true, p, []) := by
  intro o p ho hp hd hnm q1 q2
  refine Pc.si (fun s C hs n hn => ?_)
  obtain ⟨n', rfl⟩ : ∃ n', n = n' + 1 := ⟨n - 1, by omega⟩
  refine ⟨_, ?_, hs.stuck⟩
  show rb_X2_readSingle (fG_X2_readJoined n') 91 C (nI o) = _
  rw [rs_single hs, if_neg hd, hnm, if_pos (show nm_v none < 0 by decide)]
  by_cases a : px_at t p = 33
  · rw [if_pos a, if_pos (show (5 : Int32) ≤ nI o from yle (a := 5) (by decide) (by omega) (by have : ¬ o < 5 := fun h => q1 ⟨a, h⟩; omega))]
  · rw [if_neg a]
    by_cases b : px_at t p = 40
    · rw [if_pos b, if_pos (show (5 : Int32) ≤ nI o from yle (a := 5) (by decide) (by omega) (by have : ¬ o < 5 := fun h => q2 ⟨b, h⟩; omega))]
    · rw [if_neg b]
