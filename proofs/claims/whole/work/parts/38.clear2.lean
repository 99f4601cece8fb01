set_option maxHeartbeats 4000000 in
theorem cp_out {p nR : Nat} {C0 D0 : pm_M} {o0 : Nat → Nat → Nat} : ∀ (d i : Nat) (acc : Int32) (C D : pm_M), (∃ o, OX p nR C0 D0 o0 C D o) → i + d = nR → ∀ n m : Nat, ∃ (r : Int32) (C' D' : pm_M), pm_it (fun _ _ _ => none) (lb_X3_clearDebts_4 p) (n + d + 1) acc (nI i) C = some (r, C') ∧ pm_it (fun _ _ _ => none) (lb_X8_clearsAll_4) (m + d + 1) acc (nI i) D = some (r, D') ∧ ∃ o, OX p nR C0 D0 o0 C' D' o := by
  intro d
  induction d with
  | zero =>
    intro i acc C D h hi n m
    obtain ⟨o, ho⟩ := id h
    have hR : nR ≤ 6 := ho.1.1
    refine ⟨acc, C, D, ?_, ?_, h⟩
    · show lb_X3_clearDebts_4 p _ acc (nI i) C = _
      rw [lb_X3_clearDebts_4.eq_1, ho.1.2.1, if_pos (yle (by omega) (by omega) (by omega))]
    · show lb_X8_clearsAll_4 _ acc (nI i) D = _
      rw [lb_X8_clearsAll_4.eq_1, tn_0, ho.1.2.2.1, if_pos (yle (by omega) (by omega) (by omega))]
  | succ d ih =>
    intro i acc C D h hi n m
    obtain ⟨o, ho⟩ := id h
    have hR : nR ≤ 6 := ho.1.1
    obtain ⟨s, C1, D1, f1, f2, f3⟩ := cp_in (p := p) (nR := nR) (a := i) d (i + 1) acc C D h (by omega) (by omega) (99999 - d) (99999 - d)
    rw [pm_F_s _ (by omega)] at f1 f2
    obtain ⟨r, C', D', e1, e2, e3⟩ := ih (i + 1) s C1 D1 f3 (by omega) n m
    refine ⟨r, C', D', ?_, ?_, e3⟩
    · show lb_X3_clearDebts_4 p (pm_it (fun _ _ _ => none) (lb_X3_clearDebts_4 p) (n + d + 1)) acc (nI i) C = _
      rw [lb_X3_clearDebts_4.eq_1, ho.1.2.1, if_neg (nle (a := nR) (b := i) (by omega) (by omega) (by omega)), let_s, nI_p1, show lp_X3_clearDebts_16 p (nI i) acc (nI (i + 1)) C = some (s, C1) from f1, b2_s]
      exact e1
    · show lb_X8_clearsAll_4 (pm_it (fun _ _ _ => none) (lb_X8_clearsAll_4) (m + d + 1)) acc (nI i) D = _
      rw [lb_X8_clearsAll_4.eq_1, tn_0, ho.1.2.2.1, if_neg (nle (a := nR) (b := i) (by omega) (by omega) (by omega)), let_s, nI_p1, show lp_X8_clearsAll_18 (nI i) acc (nI (i + 1)) D = some (s, D1) from f2, b2_s]
      exact e2
set_option maxHeartbeats 8000000 in
theorem cr_in {p nR : Nat} {C0 D0 : pm_M} {o0 : Nat → Nat → Nat} {a b : Nat} (hab : a < b) (hbR : b < nR) : ∀ (d i : Nat) (acc : Int32) (C D : pm_M), (∃ o, OX p nR C0 D0 o0 C D o) → a < i → i + d = nR → ∀ n m : Nat, ∃ (r : Int32) (C' D' : pm_M), pm_it (fun _ _ _ => none) (lb_X3_clearDebts_72 p (nI a) (nI b)) (n + d + 1) acc (nI i) C = some (r, C') ∧ pm_it (fun _ _ _ => none) (lb_X8_clearsAll_142 (nI a) (nI b)) (m + d + 1) acc (nI i) D = some (r, D') ∧ ∃ o, OX p nR C0 D0 o0 C' D' o := by
  intro d
  induction d with
  | zero =>
    intro i acc C D h ha hi n m
    obtain ⟨o, ho⟩ := id h
    have hR : nR ≤ 6 := ho.1.1
    refine ⟨acc, C, D, ?_, ?_, h⟩
    · show lb_X3_clearDebts_72 p (nI a) (nI b) _ acc (nI i) C = _
      rw [lb_X3_clearDebts_72.eq_1, ho.1.2.1, if_pos (yle (by omega) (by omega) (by omega))]
    · show lb_X8_clearsAll_142 (nI a) (nI b) _ acc (nI i) D = _
      rw [lb_X8_clearsAll_142.eq_1, tn_0, ho.1.2.2.1, if_pos (yle (by omega) (by omega) (by omega))]
  | succ d ih =>
    intro i acc C D h ha hi n m
    obtain ⟨o, ho⟩ := id h
    have hR : nR ≤ 6 := ho.1.1
    have hk := ho.1.2.2.2.2.2.1
    have hD := ho.1.2.2.2.2.1
    by_cases eb : b = i
    · subst eb
      have s1 := ho.same (a := a) (b := b) (by omega) (by omega)
      have s2 := s1.same (a := b) (b := b) (by omega) (by omega)
      have s3 := s2.same (a := b) (b := a) (by omega) (by omega)
      obtain ⟨r, C', D', e1, e2, e3⟩ := ih (b + 1) (acc + 0) _ _ ⟨_, s3⟩ (by omega) (by omega) n m
      refine ⟨r, C', D', ?_, ?_, e3⟩
      · show lb_X3_clearDebts_72 p (nI a) (nI b) (pm_it (fun _ _ _ => none) (lb_X3_clearDebts_72 p (nI a) (nI b)) (n + d + 1)) acc (nI b) C = _
        rw [lb_X3_clearDebts_72.eq_1, ho.1.2.1, if_neg (nle (a := nR) (b := b) (by omega) (by omega) (by omega)), if_pos rfl, let_s, nI_p1]
        exact e1
      · show lb_X8_clearsAll_142 (nI a) (nI b) (pm_it (fun _ _ _ => none) (lb_X8_clearsAll_142 (nI a) (nI b)) (m + d + 1)) acc (nI b) D = _
        have k1 := hk b b
        have k2 := hk b a
        rw [lb_X8_clearsAll_142.eq_1, tn_0, ho.1.2.2.1, if_neg (nle (a := nR) (b := b) (by omega) (by omega) (by omega)), if_pos rfl, ix30, chk_t (in_nI (n := 30 + 6 * b + b) (by omega) (by decide)), nI_clamp (n := 30 + 6 * b + b) (by omega), hD b b (by omega) (by omega), if_pos (show 0 ≤ nI (o b b) from yle (a := 0) (by decide) (by omega) (Nat.zero_le _)), ix30, chk_t (in_nI (n := 30 + 6 * b + a) (by omega) (by decide)), nI_clamp (n := 30 + 6 * b + a) (by omega), hD b a (by omega) (by omega), if_pos (show 0 ≤ nI (o b a) from yle (a := 0) (by decide) (by omega) (Nat.zero_le _))]
        rw [show f_X8_lessens D (nI a) (nI b) 0 = some (pm_up D 1 (30 + 6 * a + b) (nI (o a b - 0))) from x8_lessens ho.1 (z := 0) (by omega) (by omega) (Nat.zero_le _), b1_s]
        rw [show f_X8_lessens (pm_up D 1 (30 + 6 * a + b) (nI (o a b - 0))) (nI b) (nI b) 0 = some (pm_up (pm_up D 1 (30 + 6 * a + b) (nI (o a b - 0))) 1 (30 + 6 * b + b) (nI (o b b - 0))) from x8_lessens s1.1 (z := 0) (by omega) (by omega) (Nat.zero_le _), b1_s]
        rw [show f_X8_lessens (pm_up (pm_up D 1 (30 + 6 * a + b) (nI (o a b - 0))) 1 (30 + 6 * b + b) (nI (o b b - 0))) (nI b) (nI a) 0 = some (pm_up (pm_up (pm_up D 1 (30 + 6 * a + b) (nI (o a b - 0))) 1 (30 + 6 * b + b) (nI (o b b - 0))) 1 (30 + 6 * b + a) (nI (o b a - 0))) from x8_lessens s2.1 (z := 0) (by omega) (by omega) (Nat.zero_le _), b1_s, let_s, nI_p1]
        exact e2
    · generalize hz : min (o a b) (min (o b i) (o i a)) = z
      have k1 := hk a b
      have k2 := hk b i
      have k3 := hk i a
      have s1 := ho.less (a := a) (b := b) (z := z) (by omega) (by omega)
      have s2 := s1.less (a := b) (b := i) (z := z) (by omega) (by omega)
      rw [f2_n (by omega)] at s2
      have s3 := s2.less (a := i) (b := a) (z := z) (by omega) (by omega)
      rw [f2_n (by omega), f2_n (by omega)] at s3
      obtain ⟨r, C', D', e1, e2, e3⟩ := ih (i + 1) (acc + 3 * nI z) _ _ ⟨_, s3⟩ (by omega) (by omega) n m
      refine ⟨r, C', D', ?_, ?_, e3⟩
      · show lb_X3_clearDebts_72 p (nI a) (nI b) (pm_it (fun _ _ _ => none) (lb_X3_clearDebts_72 p (nI a) (nI b)) (n + d + 1)) acc (nI i) C = _
        rw [lb_X3_clearDebts_72.eq_1, ho.1.2.1, if_neg (nle (a := nR) (b := i) (by omega) (by omega) (by omega)), if_neg (nne (by omega) (by omega) eb), x3_clearRing ho.1 (by omega) (by omega) (by omega) (by omega) eb (by omega) z hz.symm, b2_s, let_s, nI_p1]
        exact e1
      · have t : ∀ z', z' = z → (pm_b1 (f_X8_lessens D (nI a) (nI b) (nI z')) (fun M143022 : pm_M => (pm_b1 (f_X8_lessens M143022 (nI b) (nI i) (nI z')) (fun M143023 : pm_M => (pm_b1 (f_X8_lessens M143023 (nI i) (nI a) (nI z')) (fun M143024 : pm_M => (pm_let (acc + (3 * nI z')) (fun z143025 : Int32 => (pm_it (fun _ _ _ => none) (lb_X8_clearsAll_142 (nI a) (nI b)) (m + d + 1) z143025 (nI i + 1) M143024))))))))) = some (r, D') := by
          intro z' ez
          subst ez
          have l2 := x8_lessens s1.1 (a := b) (b := i) (z := z') (by omega) (by omega) (by rw [f2_n (by omega)]; omega)
          rw [f2_n (by omega)] at l2
          have l3 := x8_lessens s2.1 (a := i) (b := a) (z := z') (by omega) (by omega) (by rw [f2_n (by omega), f2_n (by omega)]; omega)
          rw [f2_n (by omega), f2_n (by omega)] at l3
          rw [x8_lessens ho.1 (by omega) (by omega) (by omega), b1_s, l2, b1_s, l3, b1_s, let_s, nI_p1]
          exact e2
        show lb_X8_clearsAll_142 (nI a) (nI b) (pm_it (fun _ _ _ => none) (lb_X8_clearsAll_142 (nI a) (nI b)) (m + d + 1)) acc (nI i) D = _
        rw [lb_X8_clearsAll_142.eq_1, tn_0, ho.1.2.2.1, if_neg (nle (a := nR) (b := i) (by omega) (by omega) (by omega)), if_neg (nne (by omega) (by omega) eb)]
        simp only [ix30, chk_t (in_nI (n := 30 + 6 * a + b) (N := 258) (by omega) (by decide)), chk_t (in_nI (n := 30 + 6 * b + i) (N := 258) (by omega) (by decide)), chk_t (in_nI (n := 30 + 6 * i + a) (N := 258) (by omega) (by decide)), nI_clamp (n := 30 + 6 * a + b) (by omega), nI_clamp (n := 30 + 6 * b + i) (by omega), nI_clamp (n := 30 + 6 * i + a) (by omega), hD a b (by omega) (by omega), hD b i (by omega) (by omega), hD i a (by omega) (by omega)]
        rw [let_s]
        by_cases c1 : o a b ≤ o b i
        · rw [if_pos (yle (by omega) (by omega) c1)]
          by_cases c2 : o a b ≤ o i a
          · rw [if_pos (yle (by omega) (by omega) c2)]; exact t _ (by omega)
          · rw [if_neg (nle (by omega) (by omega) (by omega)), let_s]; exact t _ (by omega)
        · rw [if_neg (nle (by omega) (by omega) (by omega)), let_s]
          by_cases c2 : o b i ≤ o i a
          · rw [if_pos (yle (by omega) (by omega) c2)]; exact t _ (by omega)
          · rw [if_neg (nle (by omega) (by omega) (by omega)), let_s]; exact t _ (by omega)
