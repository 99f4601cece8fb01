theorem kl_no {l m : Nat} {r : GT_X8_either} {v x : Int32} {D : pm_M} (hl : l < 5) (e : f_X8_here D = some (x, D)) (hx : ¬ px_sig l x = true) : kl l r (m + 1) v D = some (v, D) := by
  have hl' : l = 0 ∨ l = 1 ∨ l = 2 ∨ l = 3 ∨ l = 4 := by omega
  obtain ⟨s0, s1, s2, s3, s4⟩ := sig_x x
  rcases hl' with rfl | rfl | rfl | rfl | rfl
  · show lb_X8_either_5 r (pm_it (fun _ _ => none) (lb_X8_either_5 r) m) v D = _
    rw [lb_X8_either_5.eq_1, takes_n e (fun q => hx (s0.mpr q)), b2_s, if_pos rfl]
  · show lb_X8_both_5 r (pm_it (fun _ _ => none) (lb_X8_both_5 r) m) v D = _
    rw [lb_X8_both_5.eq_1, takes_n e (fun q => hx (s1.mpr q)), b2_s, if_pos rfl]
  · show km_cmp r v D = _
    unfold km_cmp
    rw [e, b2_s, if_neg hx]
  · show lb_X8_sum_5 r (pm_it (fun _ _ => none) (lb_X8_sum_5 r) m) v D = _
    rw [lb_X8_sum_5.eq_1, e, b2_s, if_neg (fun q => hx (s3.mpr (Or.inl q))), e, b2_s, if_neg (fun q => hx (s3.mpr (Or.inr q)))]
  · show lb_X8_product_5 r (pm_it (fun _ _ => none) (lb_X8_product_5 r) m) v D = _
    rw [lb_X8_product_5.eq_1, e, b2_s, if_neg (fun q => hx (s4.mpr (Or.inl q))), e, b2_s, if_neg (fun q => hx (s4.mpr (Or.inr (Or.inl q)))), e, b2_s, if_neg (fun q => hx (s4.mpr (Or.inr (Or.inr q))))]
theorem nz_t {w : Int32} (h : ¬ w = 0) : pm_nz w = true := by unfold pm_nz; simp [h]
theorem kl_yes {l m : Nat} {r : GT_X8_either} {v x w : Int32} {D D1 : pm_M} (hl : l < 5) (e : f_X8_here D = some (x, D)) (hx : px_sig l x = true) (e1 : gm (l + 1) r (pm_up D 0 6 (D 0 6 + 1)) = some (w, D1)) : kl l r (m + 1) v D = (if l = 2 then some (xj x v w, D1) else kl l r m (xj x v w) D1) := by
  rcases sig_cases hl hx with ⟨rfl, rfl⟩ | ⟨rfl, rfl⟩ | ⟨rfl, h2⟩ | ⟨rfl, rfl | rfl⟩ | ⟨rfl, rfl | rfl | rfl⟩
  · rw [if_neg (show ¬ (0 : Nat) = 2 by decide)]
    show lb_X8_either_5 r (kl 0 r m) v D = kl 0 r m (if v = 0 then (if w = 0 then 0 else 1) else 1) D1
    rw [lb_X8_either_5.eq_1, takes_y e rfl, b2_s, if_neg (by decide), show r.2.1 (pm_up D 0 6 (D 0 6 + 1)) = some (w, D1) from e1, b2_s]
    by_cases a : v = 0
    · rw [if_pos a, if_pos a]
      by_cases b : w = 0
      · rw [if_pos b, if_pos b]
      · rw [if_neg b, if_neg b]
    · rw [if_neg a, if_neg a]
  · rw [if_neg (show ¬ (1 : Nat) = 2 by decide)]
    show lb_X8_both_5 r (kl 1 r m) v D = kl 1 r m (if v = 0 then 0 else if w = 0 then 0 else 1) D1
    rw [lb_X8_both_5.eq_1, takes_y e rfl, b2_s, if_neg (by decide), show r.2.2.1 (pm_up D 0 6 (D 0 6 + 1)) = some (w, D1) from e1, b2_s]
    by_cases a : v = 0
    · rw [if_pos a, if_pos a]
    · rw [if_neg a, if_neg a]
      by_cases b : w = 0
      · rw [if_pos b, if_pos b]
      · rw [if_neg b, if_neg b]
  · rw [if_pos rfl]
    show km_cmp r v D = _
    unfold km_cmp
    rw [e, b2_s, if_pos hx, show r.2.2.2.1 (pm_up D 0 6 (D 0 6 + 1)) = some (w, D1) from e1, b2_s]
  · rw [if_neg (show ¬ (3 : Nat) = 2 by decide)]
    show lb_X8_sum_5 r (kl 3 r m) v D = kl 3 r m (v + w) D1
    rw [lb_X8_sum_5.eq_1, e, b2_s, if_pos rfl, e, b2_s, let_s, show r.2.2.2.2.1 (pm_up D 0 6 (D 0 6 + 1)) = some (w, D1) from e1, b2_s, if_pos rfl, let_s]
  · rw [if_neg (show ¬ (3 : Nat) = 2 by decide)]
    show lb_X8_sum_5 r (kl 3 r m) v D = kl 3 r m (v - w) D1
    rw [lb_X8_sum_5.eq_1, e, b2_s, if_neg (show ¬ (45 : Int32) = 43 by decide), e, b2_s, if_pos rfl, e, b2_s, let_s, show r.2.2.2.2.1 (pm_up D 0 6 (D 0 6 + 1)) = some (w, D1) from e1, b2_s, if_neg (show ¬ (45 : Int32) = 43 by decide), let_s]
  · rw [if_neg (show ¬ (4 : Nat) = 2 by decide)]
    show lb_X8_product_5 r (kl 4 r m) v D = kl 4 r m (v * w) D1
    rw [lb_X8_product_5.eq_1, e, b2_s, if_pos rfl, e, b2_s, let_s, show r.2.2.2.2.2 (pm_up D 0 6 (D 0 6 + 1)) = some (w, D1) from e1, b2_s, if_pos rfl, let_s]
  · rw [if_neg (show ¬ (4 : Nat) = 2 by decide)]
    show lb_X8_product_5 r (kl 4 r m) v D = kl 4 r m (if w = 0 then 0 else v / w) D1
    rw [lb_X8_product_5.eq_1, e, b2_s, if_neg (show ¬ (47 : Int32) = 42 by decide), e, b2_s, if_pos rfl, e, b2_s, let_s, show r.2.2.2.2.2 (pm_up D 0 6 (D 0 6 + 1)) = some (w, D1) from e1, b2_s, if_neg (show ¬ (47 : Int32) = 42 by decide)]
    by_cases b : w = 0
    · rw [if_pos b, if_pos b]
    · rw [if_neg b, if_neg b, if_pos rfl, chk_t (nz_t b), let_s]
  · rw [if_neg (show ¬ (4 : Nat) = 2 by decide)]
    show lb_X8_product_5 r (kl 4 r m) v D = kl 4 r m (if w = 0 then 0 else pm_rem v w) D1
    rw [lb_X8_product_5.eq_1, e, b2_s, if_neg (show ¬ (37 : Int32) = 42 by decide), e, b2_s, if_neg (show ¬ (37 : Int32) = 47 by decide), e, b2_s, if_pos rfl, e, b2_s, let_s, show r.2.2.2.2.2 (pm_up D 0 6 (D 0 6 + 1)) = some (w, D1) from e1, b2_s, if_neg (show ¬ (37 : Int32) = 42 by decide)]
    by_cases b : w = 0
    · rw [if_pos b, if_pos b]
    · rw [if_neg b, if_neg b, if_neg (show ¬ (37 : Int32) = 47 by decide), chk_t (nz_t b), let_s]
/-! a Q -/
def mop (D : pm_M) : pm_M := pm_up (pm_up D 0 9 (D 0 9 + 1)) 0 6 (pm_up D 0 9 (D 0 9 + 1) 0 6 + 1)
section Q
variable {u : Nat} {t : List Int32} {bs : Nat} {a b c : Int32} {D M M' : pm_M} {o p q : Nat} {r : GT_X8_either} {v : Int32}
theorem MS.mo (h : MS u t bs a b c D o p) (hp : p < t.length) (ho : o < 5) : MS u t bs a b c (mop D) (o + 1) (p + 1) ∧ MF D (mop D) := by
  have g : MF D (mop D) := MF.trans (MF.up (Or.inr (Or.inr rfl))) (MF.up (Or.inl rfl))
  refine ⟨h.mf g hp (by omega) ?_ ?_ ?_, g⟩
  · show pm_up (pm_up D 0 9 (D 0 9 + 1)) 0 6 (pm_up D 0 9 (D 0 9 + 1) 0 6 + 1) 0 6 = _
    rw [up_s, up_i (by decide), h.2.2.2.2.2.2.1, nI_p1]
  · show pm_up (pm_up D 0 9 (D 0 9 + 1)) 0 6 (pm_up D 0 9 (D 0 9 + 1) 0 6 + 1) 0 8 = _
    rw [up_i (by decide), up_i (by decide)]; exact h.2.2.2.2.2.2.2.2.1
  · show pm_up (pm_up D 0 9 (D 0 9 + 1)) 0 6 (pm_up D 0 9 (D 0 9 + 1) 0 6 + 1) 0 9 = _
    rw [up_i (by decide), up_s, h.2.2.2.2.2.2.2.2.2.1, nI_p1]
theorem q_33 (h : MS u t bs a b c D o p) (hx : px_at t p = 33) (ho : o < 5) (e : r.2.2.2.2.2 (mop D) = some (v, M)) : rb_X8_unit r D = some ((if v = 0 then 1 else 0), pm_up M 0 9 (M 0 9 - 1)) := by
  rw [rb_X8_unit.eq_1, h.here, b2_s, if_pos hx, h.2.2.2.2.2.2.2.2.2.1, if_neg (show ¬ nI o = 5 from nne (b := 5) (by omega) (by decide) (by omega)), let_s, let_s, if_neg (show ¬ px_at t p = 40 by rw [hx]; decide)]
  have e' : r.2.2.2.2.2 (pm_up (pm_up D 0 9 (nI o + 1)) 0 6 (pm_up D 0 9 (nI o + 1) 0 6 + 1)) = some (v, M) := by
    rw [← h.2.2.2.2.2.2.2.2.2.1]; exact e
  rw [e', b2_s, if_neg (show ¬ px_at t p = 40 by rw [hx]; decide), let_s, if_neg (show ¬ px_at t p = 40 by rw [hx]; decide)]
  split <;> rfl
theorem q_40 (h : MS u t bs a b c D o p) (hx : px_at t p = 40) (ho : o < 5) (e : r.1 (mop D) = some (v, M)) : rb_X8_unit r D = pm_b2 (f_X8_takes M 41) (fun (k : Int32) (M2 : pm_M) => if k = 0 then pm_b2 (f_X8_wrong M2) (fun (k : Int32) (M3 : pm_M) => some (k, M3)) else some (v, pm_up M2 0 9 (M2 0 9 - 1))) := by
  rw [rb_X8_unit.eq_1, h.here, b2_s, if_neg (show ¬ px_at t p = 33 by rw [hx]; decide), if_pos hx, h.2.2.2.2.2.2.2.2.2.1, if_neg (show ¬ nI o = 5 from nne (b := 5) (by omega) (by decide) (by omega)), let_s, let_s, if_pos hx]
  have e' : r.1 (pm_up (pm_up D 0 9 (nI o + 1)) 0 6 (pm_up D 0 9 (nI o + 1) 0 6 + 1)) = some (v, M) := by
    rw [← h.2.2.2.2.2.2.2.2.2.1]; exact e
  rw [e', b2_s, if_pos hx]
  congr 1
  funext k M2
  by_cases z : k = 0
  · rw [if_pos z, if_pos z]
  · rw [if_neg z, if_neg z, let_s, if_pos hx]
theorem q_5 (h : MS u t bs a b c D 5 p) (hx : px_at t p = 33 ∨ px_at t p = 40) : rb_X8_unit r D = some (0, pm_up D 0 8 (nI p)) := by
  rw [rb_X8_unit.eq_1, h.here, b2_s, h.2.2.2.2.2.2.2.2.2.1]
  rcases hx with hx | hx
  · rw [if_pos hx, if_pos (show nI 5 = 5 from rfl), h.wrong, b2_s]
  · rw [if_neg (show ¬ px_at t p = 33 by rw [hx]; decide), if_pos hx, if_pos (show nI 5 = 5 from rfl), h.wrong, b2_s]
theorem q_nm (h : MS u t bs a b c D o p) (h3 : ¬ px_at t p = 33) (h4 : ¬ px_at t p = 40) {k : Nat} (hk : k < 3) (e : px_nm u (px_at t p) = some k) : rb_X8_unit r D = some (D 5 k, pm_up D 0 6 (D 0 6 + 1)) := by
  rw [rb_X8_unit.eq_1, h.here, b2_s, if_neg h3, if_neg h4, h.nm, b2_s, e]
  show (if nI k < 0 then _ else pm_let (pm_up D 0 6 ((D 0 6) + 1)) (fun M50 : pm_M => (pm_chk (pm_in (nI k) 3) (some ((M50 5 (nI k).toNatClampNeg), M50))))) = _
  rw [if_neg (show ¬ nI k < 0 from nI_pos (by omega)), let_s, chk_t (in_nI (n := k) hk (by decide)), nI_clamp (n := k) (by omega), up_k (by decide)]
theorem q_num (h : MS u t bs a b c D o p) (h3 : ¬ px_at t p = 33) (h4 : ¬ px_at t p = 40) (e : px_nm u (px_at t p) = none) {w : Int32} (el : lp_X8_unit_150 r 0 0 D = some (v, w, M)) : rb_X8_unit r D = (if w = 0 then pm_b2 (f_X8_wrong M) (fun (k : Int32) (M3 : pm_M) => some (k, M3)) else some (v, M)) := by
  rw [rb_X8_unit.eq_1, h.here, b2_s, if_neg h3, if_neg h4, h.nm, b2_s, e, if_pos (show nm_v none < 0 by decide), el]
  rfl
theorem dg_iff (x : Int32) : px_dg x = true ↔ (48 ≤ x.toInt ∧ x.toInt ≤ 57) := by
  unfold px_dg
  rw [Bool.and_eq_true, decide_eq_true_eq, decide_eq_true_eq, Int32.le_iff_toInt_le, Int32.le_iff_toInt_le]
  exact Iff.rfl
theorem nums (r : GT_X8_either) : ∀ (k i p : Nat) (v : Int32) (D : pm_M), MS u t bs a b c D o p → i + k = 4 → ∀ n : Nat, ∃ (i' : Nat) (D' : pm_M), pm_it (fun _ _ _ => none) (lb_X8_unit_150 r) (n + k + 1) v (nI i) D = some ((px_num t k p v).2, nI i', D') ∧ i ≤ i' ∧ i' ≤ 4 ∧ (0 < k → px_dg (px_at t p) = true → i < i') ∧ (¬ px_dg (px_at t p) = true → i' = i) ∧ MTo D D' o false (px_num t k p v).1 := by
  intro k
  induction k with
  | zero =>
    intro i p v D h hi n
    have : i = 4 := by omega
    subst this
    refine ⟨4, D, ?_, Nat.le_refl _, Nat.le_refl _, fun q => by omega, fun _ => rfl, MF.refl D, fun _ => ⟨h.2.2.2.2.2.2.1, h.2.2.2.2.2.2.2.2.1, h.2.2.2.2.2.2.2.2.2.1⟩, (fun q => nomatch q)⟩
    show lb_X8_unit_150 r _ v (nI 4) D = _
    rw [lb_X8_unit_150.eq_1, if_pos (by decide)]; rfl
  | succ k ih =>
    intro i p v D h hi n
    show ∃ (i' : Nat) (D' : pm_M), lb_X8_unit_150 r (pm_it (fun _ _ _ => none) (lb_X8_unit_150 r) (n + k + 1)) v (nI i) D = _ ∧ _
    rw [lb_X8_unit_150.eq_1, if_neg (show ¬ (4 : Int32) ≤ nI i from nle (a := 4) (by decide) (by omega) (by omega)), h.here, b2_s, x8_in, b2_s, if_bi, i64, px_num]
    by_cases d : px_dg (px_at t p) = true
    · have hp := px_dg_lt d
      have d' := (dg_iff _).mp d
      rw [if_pos (show (48 : Int64).toInt ≤ (px_at t p).toInt ∧ (px_at t p).toInt ≤ (57 : Int64).toInt from d'), if_pos d, h.here, b2_s, let_s, let_s, nI_p1]
      obtain ⟨i', D', e1, e2, e3, e4, e5, e6⟩ := ih (i + 1) (p + 1) (10 * v + px_at t p - 48) _ (h.at1 hp) (by omega) n
      exact ⟨i', D', e1, by omega, e3, fun _ _ => by omega, fun q => absurd d q, (MF.up (Or.inl rfl)).trans e6.1, e6.2.1, e6.2.2⟩
    · rw [if_neg (show ¬ ((48 : Int64).toInt ≤ (px_at t p).toInt ∧ (px_at t p).toInt ≤ (57 : Int64).toInt) from fun q => d ((dg_iff _).mpr q)), if_neg d]
      exact ⟨i, D, rfl, Nat.le_refl _, by omega, fun _ q => absurd q d, fun _ => rfl, MF.refl D, fun _ => ⟨h.2.2.2.2.2.2.1, h.2.2.2.2.2.2.2.2.1, h.2.2.2.2.2.2.2.2.2.1⟩, (fun q => nomatch q)⟩
end Q
theorem dg_cases {x : Int32} (h : px_dg x = true) : ∃ d, d < 10 ∧ x = nI (48 + d) := by
  have h' := (dg_iff x).mp h
  obtain ⟨v, h1, h2, rfl⟩ := vx (lo := 48) (hi := 57) (by decide) h'
  exact ⟨v - 48, by omega, by rw [show 48 + (v - 48) = v by omega]⟩
theorem dg_nm {x : Int32} {u : Nat} (h : px_dg x = true) : px_nm u x = none ∧ ¬ x = 33 ∧ ¬ x = 40 := by
  obtain ⟨d, hd, rfl⟩ := dg_cases h
  have k : ∀ d, d < 10 → (¬ nI (48 + d) = 33 ∧ ¬ nI (48 + d) = 40) ∧ (¬ nI (48 + d) = 119 ∧ ¬ nI (48 + d) = 100 ∧ ¬ nI (48 + d) = 109 ∧ ¬ nI (48 + d) = 115 ∧ ¬ nI (48 + d) = 114) := by decide
  obtain ⟨k1, k2, k3, k4, k5, k6⟩ := k d hd
  refine ⟨?_, k1⟩
  unfold px_nm
  by_cases hu : u = 0
  · rw [if_pos hu, if_neg k2, if_neg k3, if_neg k4]
  · rw [if_neg hu, if_neg k5, if_neg k6, if_neg k3]
theorem px_num_v {t : List Int32} : ∀ (k p w : Nat), (w + 1) * 10 ^ k ≤ 100000 → ∃ w', (px_num t k p (nI w)).2 = nI w' ∧ w' < 100000 := by
  intro k
  induction k with
  | zero => intro p w h; exact ⟨w, rfl, by omega⟩
  | succ k ih =>
    intro p w h
    rw [px_num]
    have hk : 0 < 10 ^ k := Nat.pow_pos (by decide)
    have hs : (w + 1) * 10 ^ (k + 1) = (10 * w + 10) * 10 ^ k := by rw [Nat.pow_succ, Nat.mul_comm (10 ^ k) 10, ← Nat.mul_assoc]; congr 1; omega
    by_cases d : px_dg (px_at t p) = true
    · rw [if_pos d]
      obtain ⟨d', hd, e⟩ := dg_cases d
      have m : 10 * nI w + px_at t p - 48 = nI (10 * w + d') := by
        rw [e, show (10 : Int32) * nI w = nI (10 * w) from pk_mul 10 w, nI_add]
        show nI (10 * w + (48 + d')) - nI 48 = _
        rw [sub_nI (by omega)]; congr 1; omega
      rw [m]
      refine ih (p + 1) (10 * w + d') (Nat.le_trans (Nat.mul_le_mul_right _ (by omega)) (hs ▸ h))
    · rw [if_neg d]
      refine ⟨w, rfl, ?_⟩
      have : (w + 1) * 1 ≤ (w + 1) * 10 ^ (k + 1) := Nat.mul_le_mul_left _ (Nat.pow_pos (by decide))
      omega
theorem xs1_num {a b c : Int32} {w : Nat} (hw : w < 2 ^ 30) (s : List Int32) : xs1 a b c (nI w) s = nI w :: s := by
  unfold xs1
  have h0 : ¬ nI w < 0 := nI_pos (by omega)
  have h1 : (0 : Int32) ≤ nI w := nI_pos' (by omega)
  have hi : (nI w).toInt = (w : Int) := nI_toInt (by omega)
  rw [if_neg (fun q => h0 (by rw [q]; decide)), if_pos (Int32.le_iff_toInt_le.mpr (by rw [hi]; show (-3 : Int) ≤ _; omega)), if_neg h0]
theorem xs1_nm {a b c : Int32} {k : Nat} (hk : k < 3) (s : List Int32) : xs1 a b c (-1 - nI k) s = (if k = 0 then a else if k = 1 then b else c) :: s := by
  have : k = 0 ∨ k = 1 ∨ k = 2 := by omega
  have e0 : (-1 : Int32) - nI 0 = -1 := by decide
  have e1 : (-1 : Int32) - nI 1 = -2 := by decide
  have e2 : (-1 : Int32) - nI 2 = -3 := by decide
  rcases this with rfl | rfl | rfl
  · rw [e0]; unfold xs1
    rw [if_neg (show ¬ (-1 : Int32) = -33 by decide), if_pos (show (-3 : Int32) ≤ -1 by decide), if_pos (show (-1 : Int32) < 0 by decide), if_pos (show (-1 : Int32) = -1 from rfl), if_pos (show (0 : Nat) = 0 from rfl)]
  · rw [e1]; unfold xs1
    rw [if_neg (show ¬ (-2 : Int32) = -33 by decide), if_pos (show (-3 : Int32) ≤ -2 by decide), if_pos (show (-2 : Int32) < 0 by decide), if_neg (show ¬ (-2 : Int32) = -1 by decide), if_pos (show (-2 : Int32) = -2 from rfl), if_neg (show ¬ (1 : Nat) = 0 by decide), if_pos (show (1 : Nat) = 1 from rfl)]
  · rw [e2]; unfold xs1
    rw [if_neg (show ¬ (-3 : Int32) = -33 by decide), if_pos (show (-3 : Int32) ≤ -3 by decide), if_pos (show (-3 : Int32) < 0 by decide), if_neg (show ¬ (-3 : Int32) = -1 by decide), if_neg (show ¬ (-3 : Int32) = -2 by decide), if_neg (show ¬ (2 : Nat) = 0 by decide), if_neg (show ¬ (2 : Nat) = 1 by decide)]
