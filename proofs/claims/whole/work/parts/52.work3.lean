def PmL (u : Nat) (t : List Int32) (bs : Nat) (a b c : Int32) (l o p : Nat) (r : Bool × Nat × List Int32) : Prop := ∀ D, MS u t bs a b c D o p → ∀ n, 6 * (5 - o) + 6 - l ≤ n → ∃ (v : Int32) (D' : pm_M), gm l (fG_X8_either n) D = some (v, D') ∧ MTo D D' o r.1 r.2.1 ∧ (r.1 = false → ∀ s, xs a b c r.2.2 s = v :: s)
def PmK (u : Nat) (t : List Int32) (bs : Nat) (a b c : Int32) (l o p : Nat) (r : Bool × Nat × List Int32) : Prop := ∀ (v0 : Int32) (D : pm_M), MS u t bs a b c D o p → ∀ n m, 6 * (5 - o) + 5 - l ≤ n → t.length - p < m → ∃ (v : Int32) (D' : pm_M), kl l (fG_X8_either n) m v0 D = some (v, D') ∧ MTo D D' o r.1 r.2.1 ∧ (r.1 = false → ∀ s, xs a b c r.2.2 (v0 :: s) = v :: s)
def Pm (u : Nat) (t : List Int32) (bs : Nat) (a b c : Int32) (tag o p : Nat) (r : Bool × Nat × List Int32) : Prop := (tag ≤ 5 → PmL u t bs a b c tag o p r) ∧ (6 ≤ tag → PmK u t bs a b c (tag - 6) o p r)
section PM
variable {u : Nat} {t : List Int32} {bs : Nat} {a b c : Int32}
theorem Pm.lo {l o p : Nat} {r : Bool × Nat × List Int32} (h : l ≤ 5) (H : PmL u t bs a b c l o p r) : Pm u t bs a b c l o p r := ⟨fun _ => H, fun e => by omega⟩
theorem Pm.ke {l o p : Nat} {r : Bool × Nat × List Int32} (H : PmK u t bs a b c l o p r) : Pm u t bs a b c (6 + l) o p r := ⟨fun e => by omega, fun _ => by rw [show 6 + l - 6 = l by omega]; exact H⟩
theorem Pm.k {l o p : Nat} {r : Bool × Nat × List Int32} (h : Pm u t bs a b c (6 + l) o p r) : PmK u t bs a b c l o p r := by
  have := h.2 (by omega)
  rwa [show 6 + l - 6 = l by omega] at this
theorem pm_0 : ∀ l o p q cd, l < 5 → o ≤ 5 → p ≤ t.length → q ≤ t.length → Pm u t bs a b c (l + 1) o p (true, q, cd) → Pm u t bs a b c l o p (true, q, cd) := by
  intro l o p q cd hl ho hp hq h
  refine Pm.lo (by omega) (fun D hs n hn => ?_)
  obtain ⟨n', rfl⟩ : ∃ n', n = n' + 1 := ⟨n - 1, by omega⟩
  obtain ⟨v, D1, e1, e2, -⟩ := h.1 (by omega) D hs n' (by omega)
  have e3 : kl l (fG_X8_either n') pm_F v D1 = some (v, D1) := by
    rw [show pm_F = 99999 + 1 from rfl]
    exact kl_no hl (here_x e2.f) (by
      have : ∀ l, l < 5 → ¬ px_sig l (-1) = true := by decide
      exact this l hl)
  exact ⟨v, D1, gm_s hl e1 e3, e2, fun q => nomatch q⟩
theorem pm_1 : ∀ l o p q cd st q' cd', l < 5 → o ≤ 5 → p < q → q ≤ q' → q' ≤ t.length → cd.length ≤ q - p → Pm u t bs a b c (l + 1) o p (false, q, cd) → Pm u t bs a b c (6 + l) o q (st, q', cd') → Pm u t bs a b c l o p (st, q', cd ++ cd') := by
  intro l o p q cd st q' cd' hl ho hp hq hq' hc h g
  refine Pm.lo (by omega) (fun D hs n hn => ?_)
  obtain ⟨n', rfl⟩ : ∃ n', n = n' + 1 := ⟨n - 1, by omega⟩
  obtain ⟨v, D1, e1, e2, e3⟩ := h.1 (by omega) D hs n' (by omega)
  have h50 := hs.1
  have hs1 : MS u t bs a b c D1 o q := hs.ms e2 (by omega)
  obtain ⟨w, D2, f1, f2, f3⟩ := g.k v D1 hs1 n' pm_F (by omega) (by unfold pm_F; omega)
  refine ⟨w, D2, gm_s hl e1 f1, ⟨e2.1.trans f2.1, f2.2⟩, fun k s => ?_⟩
  show xs a b c (cd ++ cd') s = _
  rw [xs_app, e3 rfl, f3 k]
theorem pm_2 : ∀ o p, o ≤ 5 → p < t.length → px_dg (px_at t p) = true → Pm u t bs a b c 5 o p (false, (px_num t 4 p 0).1, [(px_num t 4 p 0).2]) := by
  intro o p ho hp hd
  refine Pm.lo (by omega) (fun D hs n hn => ?_)
  obtain ⟨n', rfl⟩ : ∃ n', n = n' + 1 := ⟨n - 1, by omega⟩
  obtain ⟨k1, k2, k3⟩ := dg_nm (u := u) hd
  obtain ⟨i', D', e1, e2, e3, e4, e5, e6⟩ := nums (r := fG_X8_either n') 4 0 p 0 D hs (by omega) 99995
  have e7 := e4 (by omega) hd
  refine ⟨(px_num t 4 p 0).2, D', ?_, e6, fun _ s => ?_⟩
  · show rb_X8_unit (fG_X8_either n') D = _
    rw [q_num hs k2 k3 k1 (show lp_X8_unit_150 (fG_X8_either n') 0 0 D = some _ from e1), if_neg (show ¬ nI i' = 0 from nne (b := 0) (by omega) (by decide) (by omega))]
  · obtain ⟨w', e, hw⟩ := px_num_v (t := t) 4 p 0 (by decide)
    show xs1 a b c (px_num t 4 p (nI 0)).2 s = (px_num t 4 p (nI 0)).2 :: s
    rw [e]; exact xs1_num (by omega) s
theorem pm_3 : ∀ o p k, o ≤ 5 → p < t.length → k < 3 → ¬ px_dg (px_at t p) = true → px_nm u (px_at t p) = some k → Pm u t bs a b c 5 o p (false, p + 1, [-1 - nI k]) := by
  intro o p k ho hp hk hd hnm
  refine Pm.lo (by omega) (fun D hs n hn => ?_)
  obtain ⟨n', rfl⟩ : ∃ n', n = n' + 1 := ⟨n - 1, by omega⟩
  have ne : ∀ y : Int32, px_nm u y = none → ¬ px_at t p = y := fun y hy q => by rw [q, hy] at hnm; exact nomatch hnm
  have h3 : ¬ px_at t p = 33 := ne 33 (by unfold px_nm; split <;> (rw [if_neg (by decide), if_neg (by decide), if_neg (by decide)]))
  have h4 : ¬ px_at t p = 40 := ne 40 (by unfold px_nm; split <;> (rw [if_neg (by decide), if_neg (by decide), if_neg (by decide)]))
  refine ⟨D 5 k, _, q_nm hs h3 h4 hk hnm, ⟨MF.up (Or.inl rfl), fun _ => ?_, (fun q => nomatch q)⟩, fun _ s => ?_⟩
  · have := hs.at1 hp
    exact ⟨this.2.2.2.2.2.2.1, this.2.2.2.2.2.2.2.2.1, this.2.2.2.2.2.2.2.2.2.1⟩
  · show xs1 a b c (-1 - nI k) s = _
    rw [xs1_nm hk]
    obtain ⟨-, -, -, -, -, -, -, -, -, -, -, n0, n1, n2, -⟩ := hs
    have : k = 0 ∨ k = 1 ∨ k = 2 := by omega
    rcases this with rfl | rfl | rfl
    · rw [n0]; rfl
    · rw [n1]; rfl
    · rw [n2]; rfl
theorem pm_4 : ∀ o p st q cd, o < 5 → p < t.length → q ≤ t.length → px_at t p = 33 → (st = false → cd.length < q - p ∧ p + 1 < q) → Pm u t bs a b c 5 (o + 1) (p + 1) (st, q, cd) → Pm u t bs a b c 5 o p (st, q, cd ++ [-33]) := by
  intro o p st q cd ho hp hq hx hf h
  refine Pm.lo (by omega) (fun D hs n hn => ?_)
  obtain ⟨n', rfl⟩ : ∃ n', n = n' + 1 := ⟨n - 1, by omega⟩
  obtain ⟨h1, g1⟩ := hs.mo hp ho
  obtain ⟨v, M, e1, e2, e3⟩ := h.1 (by omega) _ h1 n' (by omega)
  refine ⟨_, _, q_33 hs hx ho e1, ⟨(g1.trans e2.1).trans (MF.up (Or.inr (Or.inr rfl))), fun k => ?_, fun k => ?_⟩, fun k s => ?_⟩
  · obtain ⟨m1, m2, m3⟩ := e2.2.1 k
    exact ⟨(up_i (by decide)).trans m1, (up_i (by decide)).trans m2, by rw [up_s, m3, nI_m1]⟩
  · obtain ⟨m1, m2⟩ := e2.2.2 k
    exact ⟨m1, (up_i (by decide)).trans m2⟩
  · show xs a b c (cd ++ [-33]) s = _
    rw [xs_app, e3 k]; rfl
theorem pm_5 : ∀ o p q cd, o < 5 → p < t.length → q ≤ t.length → px_at t p = 40 → Pm u t bs a b c 0 (o + 1) (p + 1) (true, q, cd) → Pm u t bs a b c 5 o p (true, q, cd) := by
  intro o p q cd ho hp hq hx h
  refine Pm.lo (by omega) (fun D hs n hn => ?_)
  obtain ⟨n', rfl⟩ : ∃ n', n = n' + 1 := ⟨n - 1, by omega⟩
  obtain ⟨h1, g1⟩ := hs.mo hp ho
  obtain ⟨v, M, e1, e2, e3⟩ := h.1 (by omega) _ h1 n' (by omega)
  have hf := e2.f
  refine ⟨0, pm_up M 0 8 (M 0 8), ?_, ⟨(g1.trans e2.1).trans (MF.up (Or.inr (Or.inl rfl))), (fun q => nomatch q), fun k => ⟨(e2.2.2 k).1, up_s.trans (e2.2.2 k).2⟩⟩, fun q => nomatch q⟩
  show rb_X8_unit (fG_X8_either n') D = _
  rw [q_40 hs hx ho e1, takes_n (here_x hf) (by decide), b2_s, if_pos rfl, wrong_x hf, b2_s]
theorem pm_6 : ∀ o p q cd, o < 5 → p < t.length → q < t.length → px_at t p = 40 → p + 1 < q → px_at t q = 41 → cd.length ≤ q - (p + 1) → Pm u t bs a b c 0 (o + 1) (p + 1) (false, q, cd) → Pm u t bs a b c 5 o p (false, q + 1, cd) := by
  intro o p q cd ho hp hq hx hpq hc hl h
  refine Pm.lo (by omega) (fun D hs n hn => ?_)
  obtain ⟨n', rfl⟩ : ∃ n', n = n' + 1 := ⟨n - 1, by omega⟩
  obtain ⟨h1, g1⟩ := hs.mo hp ho
  obtain ⟨v, M, e1, e2, e3⟩ := h.1 (by omega) _ h1 n' (by omega)
  have h2 : MS u t bs a b c M (o + 1) q := h1.ms e2 (by omega)
  have h3 := h2.at1 hq
  refine ⟨v, pm_up (pm_up M 0 6 (M 0 6 + 1)) 0 9 (pm_up M 0 6 (M 0 6 + 1) 0 9 - 1), ?_, ⟨((g1.trans e2.1).trans (MF.up (Or.inl rfl))).trans (MF.up (Or.inr (Or.inr rfl))), fun _ => ?_, (fun q => nomatch q)⟩, fun k s => e3 k s⟩
  · show rb_X8_unit (fG_X8_either n') D = _
    rw [q_40 hs hx ho e1, takes_y h2.here hc, b2_s, if_neg (by decide)]
  · exact ⟨(up_i (by decide)).trans h3.2.2.2.2.2.2.1, (up_i (by decide)).trans h3.2.2.2.2.2.2.2.2.1, by rw [up_s, h3.2.2.2.2.2.2.2.2.2.1, nI_m1]⟩
theorem pm_7 : ∀ o p q cd, o < 5 → p < t.length → q ≤ t.length → px_at t p = 40 → p + 1 < q → ¬ px_at t q = 41 → cd.length ≤ q - (p + 1) → Pm u t bs a b c 0 (o + 1) (p + 1) (false, q, cd) → Pm u t bs a b c 5 o p (true, q, cd) := by
  intro o p q cd ho hp hq hx hpq hc hl h
  refine Pm.lo (by omega) (fun D hs n hn => ?_)
  obtain ⟨n', rfl⟩ : ∃ n', n = n' + 1 := ⟨n - 1, by omega⟩
  obtain ⟨h1, g1⟩ := hs.mo hp ho
  obtain ⟨v, M, e1, e2, e3⟩ := h.1 (by omega) _ h1 n' (by omega)
  have h2 : MS u t bs a b c M (o + 1) q := h1.ms e2 (by omega)
  refine ⟨0, _, ?_, h2.wr (g1.trans e2.1), fun q => nomatch q⟩
  show rb_X8_unit (fG_X8_either n') D = _
  rw [q_40 hs hx ho e1, takes_n h2.here hc, b2_s, if_pos rfl, h2.wrong, b2_s]
theorem pm_8 : ∀ o p, o ≤ 5 → p ≤ t.length → ¬ px_dg (px_at t p) = true → px_nm u (px_at t p) = none → ¬ (px_at t p = 33 ∧ o < 5) → ¬ (px_at t p = 40 ∧ o < 5) → Pm u t bs a b c 5 o p (true, p, []) := by
  intro o p ho hp hd hnm q1 q2
  refine Pm.lo (by omega) (fun D hs n hn => ?_)
  obtain ⟨n', rfl⟩ : ∃ n', n = n' + 1 := ⟨n - 1, by omega⟩
  by_cases x : px_at t p = 33 ∨ px_at t p = 40
  · have : o = 5 := by
      rcases x with x | x
      · have : ¬ o < 5 := fun h => q1 ⟨x, h⟩
        omega
      · have : ¬ o < 5 := fun h => q2 ⟨x, h⟩
        omega
    subst this
    exact ⟨0, _, q_5 hs x, hs.wr (MF.refl D), fun q => nomatch q⟩
  · obtain ⟨i', D', e1, e2, e3, e4, e5, e6⟩ := nums (r := fG_X8_either n') 4 0 p 0 D hs (by omega) 99995
    have e7 := e5 hd
    subst e7
    have e8 : (px_num t 4 p 0).1 = p := by rw [px_num, if_neg hd]
    rw [e8] at e6
    have h2 : MS u t bs a b c D' o p := hs.ms e6 hp
    refine ⟨0, _, ?_, h2.wr e6.1, fun q => nomatch q⟩
    show rb_X8_unit (fG_X8_either n') D = _
    rw [q_num hs (fun q => x (Or.inl q)) (fun q => x (Or.inr q)) hnm (show lp_X8_unit_150 (fG_X8_either n') 0 0 D = some _ from e1), if_pos (show nI 0 = 0 from rfl), h2.wrong, b2_s]
theorem pm_9 : ∀ l o p, l < 5 → o ≤ 5 → p ≤ t.length → ¬ px_sig l (px_at t p) = true → Pm u t bs a b c (6 + l) o p (false, p, []) := by
  intro l o p hl ho hp hx
  refine Pm.ke (fun v0 D hs n m hn hm => ?_)
  obtain ⟨m', rfl⟩ : ∃ m', m = m' + 1 := ⟨m - 1, by omega⟩
  exact ⟨v0, D, kl_no hl hs.here hx, ⟨MF.refl D, fun _ => ⟨hs.2.2.2.2.2.2.1, hs.2.2.2.2.2.2.2.2.1, hs.2.2.2.2.2.2.2.2.2.1⟩, (fun q => nomatch q)⟩, fun _ s => rfl⟩
theorem pm_10 : ∀ l o p q cd, l < 5 → o ≤ 5 → p < t.length → q ≤ t.length → px_sig l (px_at t p) = true → Pm u t bs a b c (l + 1) o (p + 1) (true, q, cd) → Pm u t bs a b c (6 + l) o p (true, q, cd) := by
  intro l o p q cd hl ho hp hq hx h
  refine Pm.ke (fun v0 D hs n m hn hm => ?_)
  obtain ⟨m', rfl⟩ : ∃ m', m = m' + 1 + 1 := ⟨m - 2, by omega⟩
  obtain ⟨v, D1, e1, e2, -⟩ := h.1 (by omega) _ (hs.at1 hp) n (by omega)
  have st := kl_yes (m := m' + 1) (v := v0) hl hs.here hx e1
  refine ⟨xj (px_at t p) v0 v, D1, ?_, ⟨(MF.up (Or.inl rfl)).trans e2.1, (fun q => nomatch q), e2.2.2⟩, fun q => nomatch q⟩
  rw [st]
  by_cases k : l = 2
  · rw [if_pos k]
  · rw [if_neg k]
    exact kl_no hl (here_x e2.f) (by
      have : ∀ l, l < 5 → ¬ px_sig l (-1) = true := by decide
      exact this l hl)
theorem pm_11 : ∀ o p q cd, o ≤ 5 → p < t.length → p + 1 < q → q ≤ t.length → px_sig 2 (px_at t p) = true → cd.length ≤ q - (p + 1) → Pm u t bs a b c 3 o (p + 1) (false, q, cd) → Pm u t bs a b c 8 o p (false, q, cd ++ [-px_at t p]) := by
  intro o p q cd ho hp hpq hq hx hc h
  refine Pm.ke (l := 2) (fun v0 D hs n m hn hm => ?_)
  obtain ⟨m', rfl⟩ : ∃ m', m = m' + 1 := ⟨m - 1, by omega⟩
  obtain ⟨v, D1, e1, e2, e3⟩ := h.1 (by omega) _ (hs.at1 hp) n (by omega)
  have st := kl_yes (l := 2) (m := m') (v := v0) (by decide) hs.here hx e1
  rw [if_pos rfl] at st
  refine ⟨xj (px_at t p) v0 v, D1, st, ⟨(MF.up (Or.inl rfl)).trans e2.1, e2.2.1, (fun q => nomatch q)⟩, fun k s => ?_⟩
  show xs a b c (cd ++ [-px_at t p]) (v0 :: s) = _
  rw [xs_app, e3 rfl]
  exact xs1_sig (l := 2) (by decide) hx
theorem pm_12 : ∀ l o p q cd st q' cd', l < 5 → l ≠ 2 → o ≤ 5 → p < t.length → p + 1 < q → q ≤ q' → q' ≤ t.length → px_sig l (px_at t p) = true → cd.length ≤ q - (p + 1) → Pm u t bs a b c (l + 1) o (p + 1) (false, q, cd) → Pm u t bs a b c (6 + l) o q (st, q', cd') → Pm u t bs a b c (6 + l) o p (st, q', cd ++ ([-px_at t p] ++ cd')) := by
  intro l o p q cd st q' cd' hl hl2 ho hp hpq hq hq' hx hc h g
  refine Pm.ke (fun v0 D hs n m hn hm => ?_)
  obtain ⟨m', rfl⟩ : ∃ m', m = m' + 1 := ⟨m - 1, by omega⟩
  obtain ⟨v, D1, e1, e2, e3⟩ := h.1 (by omega) _ (hs.at1 hp) n (by omega)
  have st := kl_yes (m := m') (v := v0) hl hs.here hx e1
  rw [if_neg hl2] at st
  have h1 : MS u t bs a b c D1 o q := (hs.at1 hp).ms e2 (by omega)
  obtain ⟨w, D2, f1, f2, f3⟩ := g.k (xj (px_at t p) v0 v) D1 h1 n m' hn (by omega)
  refine ⟨w, D2, st.trans f1, ⟨((MF.up (Or.inl rfl)).trans e2.1).trans f2.1, f2.2⟩, fun k s => ?_⟩
  show xs a b c (cd ++ ([-px_at t p] ++ cd')) (v0 :: s) = _
  rw [xs_app, e3 rfl]
  show xs a b c cd' (xs1 a b c (-px_at t p) (v :: v0 :: s)) = _
  rw [xs1_sig hl hx]
  exact f3 k s
theorem pm_all (hN : t.length ≤ 50) : Pm u t bs a b c 0 0 0 (px u t px_F 0 0 0) ∧ px_fa t.length 0 0 (px u t px_F 0 0 0) :=
  px_rec u t (Pm u t bs a b c) pm_0 pm_1 pm_2 pm_3 pm_4 pm_5 pm_6 pm_7 pm_8 pm_9 pm_10 pm_11 pm_12 px_F 0 0 0 (by decide) (by decide) (by omega) (by unfold px_m px_F; rw [if_pos (by decide)]; omega)
end PM
