/-! fell -/
theorem shr_bit : ∀ s : Nat, s < 64 → ∀ c : Nat, c < 6 → (pm_shr (nI s) (nI c)) &&& 1 = nI (s / 2 ^ c % 2) := by decide
theorem shl_bit : ∀ n : Nat, n < 7 → pm_shl 1 (nI n) = nI (2 ^ n) := by decide
def Sm (σ : sg) (w s r : Nat) : Nat → Nat
  | 0 => 0
  | i + 1 => Sm σ w s r i + (if s / 2 ^ i % 2 = 1 ∧ on σ w i = r then dv σ i (on σ w i) else 0)
theorem Sm_b {B : Nat} {σ : sg} (hw : WF B σ) {w s r : Nat} : ∀ i, i ≤ sC σ → Sm σ w s r i ≤ 108 * i := by
  intro i
  induction i with
  | zero => intro _; exact Nat.le_refl _
  | succ i ih =>
    intro hi
    have := ih (by omega)
    have := dv_b (r := on σ w i) hw (show i < sC σ by omega)
    show Sm σ w s r i + (if s / 2 ^ i % 2 = 1 ∧ on σ w i = r then dv σ i (on σ w i) else 0) ≤ _
    split <;> omega
theorem bit_1 {s c : Nat} (h : s / 2 ^ c % 2 = 1) : nI (s / 2 ^ c % 2) = 1 := by rw [h]; rfl
theorem bit_0 {s c : Nat} (h : ¬ s / 2 ^ c % 2 = 1) : ¬ nI (s / 2 ^ c % 2) = 1 := by
  have : s / 2 ^ c % 2 = 0 := by omega
  rw [this]; decide
section FE
variable {p B s w a2 : Nat} {σ : sg} {C : pm_M}
theorem wg_2 (hB : B < 2 ^ 20) (hw : WF B σ) (h : VC C p σ) (ha : aimed p σ w (sC σ) C) (hwR : 0 < sC σ → w < sR σ) (hs : s < 64) : ∀ (d i : Nat), i + d = sC σ → ∀ n : Nat, ((∀ c, i ≤ c → c < sC σ → s / 2 ^ c % 2 = 1 → ¬ spent σ c) → pm_it (fun _ => none) (lb_X5_wouldGive_2 p a2 (nI s) C) (n + d + 1) (nI i) = some (Sum.inl ())) ∧ (¬ (∀ c, i ≤ c → c < sC σ → s / 2 ^ c % 2 = 1 → ¬ spent σ c) → pm_it (fun _ => none) (lb_X5_wouldGive_2 p a2 (nI s) C) (n + d + 1) (nI i) = some (Sum.inr (0, C))) := by
  have h5 : sC σ ≤ 5 := hw.2.1
  have h6 : sR σ ≤ 6 := hw.1
  intro d
  induction d with
  | zero =>
    intro i hi n
    refine ⟨fun _ => ?_, fun q => absurd (fun c a b => by omega) q⟩
    show lb_X5_wouldGive_2 p a2 (nI s) C _ (nI i) = _
    rw [lb_X5_wouldGive_2.eq_1, h.2.1, if_pos (yle (by omega) (by omega) (by omega))]
  | succ d ih =>
    intro i hi n
    obtain ⟨i1, i2⟩ := ih (i + 1) (by omega) n
    have st : pm_it (fun _ => none) (lb_X5_wouldGive_2 p a2 (nI s) C) (n + (d + 1) + 1) (nI i) = (if s / 2 ^ i % 2 = 1 ∧ spent σ i then some (Sum.inr (0, C)) else pm_it (fun _ => none) (lb_X5_wouldGive_2 p a2 (nI s) C) (n + d + 1) (nI (i + 1))) := by
      show lb_X5_wouldGive_2 p a2 (nI s) C (pm_it (fun _ => none) (lb_X5_wouldGive_2 p a2 (nI s) C) (n + d + 1)) (nI i) = _
      rw [lb_X5_wouldGive_2.eq_1, h.2.1, if_neg (nle (a := sC σ) (b := i) (by omega) (by omega) (by omega)), shr_bit s hs i (by omega), nI_p1]
      by_cases b : s / 2 ^ i % 2 = 1
      · rw [if_pos (bit_1 b), chk_t (in_nI (n := i) (by omega) (by decide)), nI_clamp (n := i) (by omega)]
        by_cases sp : spent σ i
        · rw [((ha i (by omega)).1 sp).1, if_neg (by decide), if_pos ⟨b, sp⟩]
        · have := on_b hw (w := w) (c := i) (by omega) (hwR (by omega))
          rw [((ha i (by omega)).2 sp).1, if_pos (nI_pos' (by omega)), if_neg (fun q => sp q.2)]
      · rw [if_neg (bit_0 b), if_neg (fun q => b q.1)]
    rw [st]
    by_cases k : s / 2 ^ i % 2 = 1 ∧ spent σ i
    · rw [if_pos k]
      exact ⟨fun q => absurd k.2 (q i (Nat.le_refl i) (by omega) k.1), fun _ => rfl⟩
    · rw [if_neg k]
      refine ⟨fun q => i1 (fun c a b => q c (by omega) b), fun q => i2 (fun q2 => q (fun c a b e => ?_))⟩
      by_cases ci : c = i
      · subst ci; exact fun sp => k ⟨e, sp⟩
      · exact q2 c (by omega) b e
theorem wg_58 (hB : B < 2 ^ 20) (hw : WF B σ) (h : VC C p σ) (ha : aimed p σ w (sC σ) C) (hwR : 0 < sC σ → w < sR σ) (hs : s < 64) (ok : ∀ c, c < sC σ → s / 2 ^ c % 2 = 1 → ¬ spent σ c) {r : Nat} (hr : r < sR σ) : ∀ (d i : Nat), i + d = sC σ → ∀ n : Nat, pm_it (fun _ _ => none) (lb_X5_wouldGive_58 p a2 (nI s) (nI r) C) (n + d + 1) (nI (Sm σ w s r i)) (nI i) = some (nI (Sm σ w s r (sC σ))) := by
  have h5 : sC σ ≤ 5 := hw.2.1
  have h6 : sR σ ≤ 6 := hw.1
  intro d
  induction d with
  | zero =>
    intro i hi n
    have : i = sC σ := by omega
    subst this
    show lb_X5_wouldGive_58 p a2 (nI s) (nI r) C _ _ (nI (sC σ)) = _
    rw [lb_X5_wouldGive_58.eq_1, h.2.1, if_pos (yle (by omega) (by omega) (by omega))]
  | succ d ih =>
    intro i hi n
    have i1 := ih (i + 1) (by omega) n
    refine Eq.trans ?_ i1
    show lb_X5_wouldGive_58 p a2 (nI s) (nI r) C (pm_it (fun _ _ => none) (lb_X5_wouldGive_58 p a2 (nI s) (nI r) C) (n + d + 1)) (nI (Sm σ w s r i)) (nI i) = pm_it (fun _ _ => none) (lb_X5_wouldGive_58 p a2 (nI s) (nI r) C) (n + d + 1) (nI (Sm σ w s r i + (if s / 2 ^ i % 2 = 1 ∧ on σ w i = r then dv σ i (on σ w i) else 0))) (nI (i + 1))
    rw [lb_X5_wouldGive_58.eq_1, h.2.1, if_neg (nle (a := sC σ) (b := i) (by omega) (by omega) (by omega)), shr_bit s hs i (by omega), nI_p1]
    by_cases b : s / 2 ^ i % 2 = 1
    · obtain ⟨a28, a29⟩ := (ha i (by omega)).2 (ok i (by omega) b)
      have ob := on_b hw (w := w) (c := i) (by omega) (hwR (by omega))
      rw [if_pos (bit_1 b), chk_t (in_nI (n := i) (by omega) (by decide)), nI_clamp (n := i) (by omega), a28, a29]
      by_cases o : on σ w i = r
      · rw [if_pos (show nI (on σ w i) = nI r by rw [o]), if_pos ⟨b, o⟩, chk_t (in_nI (n := i) (by omega) (by decide)), let_s, nI_add]
      · rw [if_neg (show ¬ nI (on σ w i) = nI r from nne (by omega) (by omega) o), if_neg (fun q => o q.2), Nat.add_zero (Sm σ w s r i)]
    · rw [if_neg (bit_0 b), if_neg (fun q => b q.1), Nat.add_zero (Sm σ w s r i)]
theorem wg_41 (hB : B < 2 ^ 20) (hw : WF B σ) (h : VC C p σ) (ha : aimed p σ w (sC σ) C) (hwR : 0 < sC σ → w < sR σ) (hs : s < 64) (ok : ∀ c, c < sC σ → s / 2 ^ c % 2 = 1 → ¬ spent σ c) : ∀ (d i : Nat), i + d = sR σ → ∀ n : Nat, ((∀ r, i ≤ r → r < sR σ → nI (Sm σ w s r (sC σ)) = C a2 r) → pm_it (fun _ => none) (lb_X5_wouldGive_41 p a2 (nI s) C) (n + d + 1) (nI i) = some (Sum.inl ())) ∧ (¬ (∀ r, i ≤ r → r < sR σ → nI (Sm σ w s r (sC σ)) = C a2 r) → pm_it (fun _ => none) (lb_X5_wouldGive_41 p a2 (nI s) C) (n + d + 1) (nI i) = some (Sum.inr (0, C))) := by
  have h5 : sC σ ≤ 5 := hw.2.1
  have h6 : sR σ ≤ 6 := hw.1
  intro d
  induction d with
  | zero =>
    intro i hi n
    refine ⟨fun _ => ?_, fun q => absurd (fun c a b => by omega) q⟩
    show lb_X5_wouldGive_41 p a2 (nI s) C _ (nI i) = _
    rw [lb_X5_wouldGive_41.eq_1, h.1, if_pos (yle (by omega) (by omega) (by omega))]
  | succ d ih =>
    intro i hi n
    obtain ⟨i1, i2⟩ := ih (i + 1) (by omega) n
    have st : pm_it (fun _ => none) (lb_X5_wouldGive_41 p a2 (nI s) C) (n + (d + 1) + 1) (nI i) = (if nI (Sm σ w s i (sC σ)) = C a2 i then pm_it (fun _ => none) (lb_X5_wouldGive_41 p a2 (nI s) C) (n + d + 1) (nI (i + 1)) else some (Sum.inr (0, C))) := by
      show lb_X5_wouldGive_41 p a2 (nI s) C (pm_it (fun _ => none) (lb_X5_wouldGive_41 p a2 (nI s) C) (n + d + 1)) (nI i) = _
      have e := wg_58 (a2 := a2) hB hw h ha hwR hs ok (r := i) (by omega) (sC σ) 0 (by omega) (99999 - sC σ)
      rw [pm_F_s _ (by omega)] at e
      rw [lb_X5_wouldGive_41.eq_1, h.1, if_neg (nle (a := sR σ) (b := i) (by omega) (by omega) (by omega)), show lp_X5_wouldGive_58 p a2 (nI s) (nI i) C 0 0 = some (nI (Sm σ w s i (sC σ))) from e, b1_s, chk_t (in_nI (n := i) (by omega) (by decide)), nI_clamp (n := i) (by omega), nI_p1]
    rw [st]
    by_cases k : nI (Sm σ w s i (sC σ)) = C a2 i
    · rw [if_pos k]
      refine ⟨fun q => i1 (fun c a b => q c (by omega) b), fun q => i2 (fun q2 => q (fun c a b => ?_))⟩
      by_cases ci : c = i
      · subst ci; exact k
      · exact q2 c (by omega) b
    · rw [if_neg k]
      exact ⟨fun q => absurd (q i (Nat.le_refl i) (by omega)) k, fun _ => rfl⟩
def good (σ : sg) (w s : Nat) (g : Nat → Int32) : Prop := (∀ c, c < sC σ → s / 2 ^ c % 2 = 1 → ¬ spent σ c) ∧ ∀ r, r < sR σ → nI (Sm σ w s r (sC σ)) = g r
theorem x5_wouldGive (hB : B < 2 ^ 20) (hw : WF B σ) (h : VC C p σ) (ha : aimed p σ w (sC σ) C) (hwR : 0 < sC σ → w < sR σ) (hs : s < 64) : (good σ w s (C a2) → f_X5_wouldGive p C (nI s) a2 = some (1, C)) ∧ (¬ good σ w s (C a2) → f_X5_wouldGive p C (nI s) a2 = some (0, C)) := by
  have h5 : sC σ ≤ 5 := hw.2.1
  have h6 : sR σ ≤ 6 := hw.1
  obtain ⟨a1, a0⟩ := wg_2 (a2 := a2) hB hw h ha hwR hs (sC σ) 0 (by omega) (99999 - sC σ)
  rw [pm_F_s _ (by omega)] at a1 a0
  unfold f_X5_wouldGive
  by_cases ok : ∀ c, c < sC σ → s / 2 ^ c % 2 = 1 → ¬ spent σ c
  · obtain ⟨b1, b0⟩ := wg_41 (a2 := a2) hB hw h ha hwR hs ok (sR σ) 0 (by omega) (99999 - sR σ)
    rw [pm_F_s _ (by omega)] at b1 b0
    rw [show lp_X5_wouldGive_2 p a2 (nI s) C 0 = some (Sum.inl ()) from a1 (fun c _ => ok c), s1_l]
    refine ⟨fun q => ?_, fun q => ?_⟩
    · rw [show lp_X5_wouldGive_41 p a2 (nI s) C 0 = some (Sum.inl ()) from b1 (fun r _ => q.2 r), s1_l]
    · rw [show lp_X5_wouldGive_41 p a2 (nI s) C 0 = some (Sum.inr (0, C)) from b0 (fun q2 => q ⟨ok, fun r hr => q2 r (Nat.zero_le _) hr⟩), s1_r]
  · rw [show lp_X5_wouldGive_2 p a2 (nI s) C 0 = some (Sum.inr (0, C)) from a0 (fun q => ok (fun c => q c (Nat.zero_le _))), s1_r]
    exact ⟨fun q => absurd q.1 ok, fun _ => rfl⟩
end FE
section FD
variable {p B s w : Nat} {σ : sg} {C : pm_M} {x1 x2 r12 l4 l5 : Int32}
set_option maxHeartbeats 1000000 in
theorem fe_110 (hB : B < 2 ^ 20) (hw : WF B σ) (h0 : VC C p σ) (hr2 : 0 < sC σ → w < sR σ ∧ r12 = nI w) (hs : s < 64) : ∀ (d i : Nat) (z : Int32) (D : pm_M), i + d = sC σ → VM (D 1) σ → (∀ r, r < 6 → D 6 r = nI (Sm σ w s r i)) → ((∀ c, c < i → s / 2 ^ c % 2 = 1 → ¬ spent σ c) → z = 1) → (¬ (∀ c, c < i → s / 2 ^ c % 2 = 1 → ¬ spent σ c) → z = 0) → ∀ n : Nat, ∃ (z' : Int32) (D' : pm_M), pm_it (fun _ _ _ => none) (lb_X8_fell_110 x1 x2 r12 l4 l5 (nI s)) (n + d + 1) z (nI i) D = some (z', D') ∧ (∀ r, r < 6 → D' 6 r = nI (Sm σ w s r (sC σ))) ∧ ((∀ c, c < sC σ → s / 2 ^ c % 2 = 1 → ¬ spent σ c) → z' = 1) ∧ (¬ (∀ c, c < sC σ → s / 2 ^ c % 2 = 1 → ¬ spent σ c) → z' = 0) ∧ FDm D D' ∧ D' 1 = D 1 := by
  have h5 : sC σ ≤ 5 := hw.2.1
  have h6 : sR σ ≤ 6 := hw.1
  have hD : sD σ ≤ B := hw.2.2.2.1
  intro d
  induction d with
  | zero =>
    intro i z D hi h hf z1 z0 n
    have : i = sC σ := by omega
    subst this
    refine ⟨z, D, ?_, hf, z1, z0, FDm.refl D, rfl⟩
    show lb_X8_fell_110 x1 x2 r12 l4 l5 (nI s) _ z (nI (sC σ)) D = _
    rw [lb_X8_fell_110.eq_1, tn_1, h.2.1, if_pos (yle (by omega) (by omega) (by omega))]
  | succ d ih =>
    intro i z D hi h hf z1 z0 n
    have hc : i < sC σ := by omega
    obtain ⟨hwR, hr12⟩ := hr2 (by omega)
    by_cases b : s / 2 ^ i % 2 = 1
    · have ob := on_b hw (w := w) hc hwR
      obtain ⟨D1, k1, k2, k3⟩ := x8_fallsOn hB hw h0 h (r := on σ w i) hc ob
      have D11 : D1 1 = D 1 := k2 1 (by decide) (by decide)
      have D16 : D1 6 = D 6 := k2 6 (by decide) (by decide)
      have fw : f_X8_fallsWhere D (nI i) r12 = some (nI (on σ w i), D) := by
        unfold f_X8_fallsWhere on
        have r7 := rem7 (C := D 1 2) (d := sD σ) (by omega) h.2.2.1
        rw [tn_2]
        by_cases sun : sD σ % 7 = 6
        · rw [if_pos (r7.mpr sun), hr12, if_pos sun]
        · rw [if_neg (fun q => sun (r7.mp q)), x8_of (w := 2) (z := 2) rfl (by omega) (by decide), b2_s, if_neg sun, (cellD h hc).2.2.1]
      have hM : VM (pm_up D1 6 (on σ w i) (nI (Sm σ w s (on σ w i) i + dv σ i (on σ w i))) 1) σ := by rw [pm_up_o 1 (by decide), D11]; exact h
      have sp := x8_isSpent (D := pm_up D1 6 (on σ w i) (nI (Sm σ w s (on σ w i) i + dv σ i (on σ w i)))) B hw hM hc
      have st : ∃ z', lb_X8_fell_110 x1 x2 r12 l4 l5 (nI s) (pm_it (fun _ _ _ => none) (lb_X8_fell_110 x1 x2 r12 l4 l5 (nI s)) (n + d + 1)) z (nI i) D = pm_it (fun _ _ _ => none) (lb_X8_fell_110 x1 x2 r12 l4 l5 (nI s)) (n + d + 1) z' (nI (i + 1)) (pm_up D1 6 (on σ w i) (nI (Sm σ w s (on σ w i) i + dv σ i (on σ w i)))) ∧ ((∀ c, c < i + 1 → s / 2 ^ c % 2 = 1 → ¬ spent σ c) → z' = 1) ∧ (¬ (∀ c, c < i + 1 → s / 2 ^ c % 2 = 1 → ¬ spent σ c) → z' = 0) := by
        rw [lb_X8_fell_110.eq_1, tn_1, h.2.1, if_neg (nle (a := sC σ) (b := i) (by omega) (by omega) hc), shr_bit s hs i (by omega), if_pos (bit_1 b), fw, b2_s, chk_t (in_nI (n := on σ w i) (by omega) (by decide)), k1, b2_s, chk_t (in_nI (n := on σ w i) (by omega) (by decide)), let_s, nI_clamp (n := on σ w i) (by omega), hf _ (by omega), nI_add, nI_p1]
        by_cases zz : z = 0
        · rw [if_pos zz]
          have nok : ¬ (∀ c, c < i → s / 2 ^ c % 2 = 1 → ¬ spent σ c) := fun q => by
            have := z1 q
            rw [zz] at this; exact absurd this (by decide)
          exact ⟨0, rfl, fun q => absurd (fun c hc' => q c (by omega)) nok, fun _ => rfl⟩
        · rw [if_neg zz, sp, b2_s, if_bi]
          have ok : ∀ c, c < i → s / 2 ^ c % 2 = 1 → ¬ spent σ c := by
            by_cases q : ∀ c, c < i → s / 2 ^ c % 2 = 1 → ¬ spent σ c
            · exact q
            · exact absurd (z0 q) zz
          by_cases spi : spent σ i
          · rw [if_pos spi]
            exact ⟨0, rfl, fun q => absurd spi (q i (by omega) b), fun _ => rfl⟩
          · rw [if_neg spi]
            refine ⟨1, rfl, fun _ => rfl, fun q => absurd (fun c hc' e => ?_) q⟩
            by_cases ci : c = i
            · subst ci; exact spi
            · exact ok c (by omega) e
      obtain ⟨z', st, q1, q0⟩ := st
      obtain ⟨z'', D', e1, e2, e3, e4, e5, e6⟩ := ih (i + 1) z' _ (by omega) hM (fun r hr => by
        show _ = nI (Sm σ w s r i + (if s / 2 ^ i % 2 = 1 ∧ on σ w i = r then dv σ i (on σ w i) else 0))
        by_cases o : r = on σ w i
        · subst o; rw [up_s, if_pos ⟨b, rfl⟩]
        · rw [up_i o, D16, hf r hr, if_neg (fun q => o q.2.symm), Nat.add_zero]) q1 q0 n
      exact ⟨z'', D', Eq.trans (show pm_it (fun _ _ _ => none) (lb_X8_fell_110 x1 x2 r12 l4 l5 (nI s)) (n + (d + 1) + 1) z (nI i) D = _ from st) e1, e2, e3, e4, ((FDm.tx k2 k3).trans FDm.up6).trans e5, e6.trans ((pm_up_o 1 (by decide)).trans D11)⟩
    · obtain ⟨z'', D', e1, e2, e3, e4, e5, e6⟩ := ih (i + 1) z D (by omega) h (fun r hr => by
        show _ = nI (Sm σ w s r i + (if s / 2 ^ i % 2 = 1 ∧ on σ w i = r then dv σ i (on σ w i) else 0))
        rw [if_neg (fun q => b q.1), Nat.add_zero]; exact hf r hr) (fun q => z1 (fun c hc' => q c (by omega))) (fun q => z0 (fun q2 => q (fun c hc' e => by
          by_cases ci : c = i
          · subst ci; exact absurd e b
          · exact q2 c (by omega) e))) n
      refine ⟨z'', D', ?_, e2, e3, e4, e5, e6⟩
      refine Eq.trans ?_ e1
      show lb_X8_fell_110 x1 x2 r12 l4 l5 (nI s) (pm_it (fun _ _ _ => none) (lb_X8_fell_110 x1 x2 r12 l4 l5 (nI s)) (n + d + 1)) z (nI i) D = _
      rw [lb_X8_fell_110.eq_1, tn_1, h.2.1, if_neg (nle (a := sC σ) (b := i) (by omega) (by omega) hc), shr_bit s hs i (by omega), if_neg (bit_0 b), nI_p1]
theorem fe_189 {j nR : Nat} (hj : j < 4) (h6 : nR ≤ 6) {l6 : Int32} {D : pm_M} (hR : D 1 0 = nI nR) (g : Nat → Int32) (hg : ∀ r, r < 6 → D 10 (40 * j + r) = g r) {S : Nat → Nat} (hS : ∀ r, r < 6 → D 6 r = nI (S r)) : ∀ (d i : Nat) (z : Int32), i + d = nR → (z = 1 ∨ z = 0) → ∀ n : Nat, ∃ z' : Int32, pm_it (fun _ _ => none) (lb_X8_fell_189 (nI j) x2 r12 l4 l5 l6 D) (n + d + 1) z (nI i) = some z' ∧ ((z = 1 ∧ ∀ r, i ≤ r → r < nR → nI (S r) = g r) → z' = 1) ∧ (¬ (z = 1 ∧ ∀ r, i ≤ r → r < nR → nI (S r) = g r) → z' = 0) := by
  intro d
  induction d with
  | zero =>
    intro i z hi hz n
    refine ⟨z, ?_, fun q => q.1, fun q => ?_⟩
    · show lb_X8_fell_189 (nI j) x2 r12 l4 l5 l6 D _ z (nI i) = _
      rw [lb_X8_fell_189.eq_1, tn_0, hR, if_pos (yle (by omega) (by omega) (by omega))]
    · rcases hz with hz | hz
      · exact absurd ⟨hz, fun r a b => by omega⟩ q
      · exact hz
  | succ d ih =>
    intro i z hi hz n
    have ix : (40 : Int32) * nI j + nI i = nI (40 * j + i) := ix40 j i
    have st : ∃ z1, lb_X8_fell_189 (nI j) x2 r12 l4 l5 l6 D (pm_it (fun _ _ => none) (lb_X8_fell_189 (nI j) x2 r12 l4 l5 l6 D) (n + d + 1)) z (nI i) = pm_it (fun _ _ => none) (lb_X8_fell_189 (nI j) x2 r12 l4 l5 l6 D) (n + d + 1) z1 (nI (i + 1)) ∧ (z1 = 1 ∨ z1 = 0) ∧ ((z = 1 ∧ nI (S i) = g i) ↔ z1 = 1) := by
      rw [lb_X8_fell_189.eq_1, tn_0, hR, if_neg (nle (a := nR) (b := i) (by omega) (by omega) (by omega)), nI_p1]
      rcases hz with hz | hz
      · rw [hz, if_neg (by decide), chk_t (in_nI (n := i) (by omega) (by decide)), ix, chk_t (in_nI (n := 40 * j + i) (by omega) (by decide)), nI_clamp (n := i) (by omega), nI_clamp (n := 40 * j + i) (by omega), hS i (by omega), hg i (by omega)]
        by_cases e : nI (S i) = g i
        · rw [if_pos e]; exact ⟨1, rfl, Or.inl rfl, fun _ => rfl, fun _ => ⟨rfl, e⟩⟩
        · rw [if_neg e]; exact ⟨0, rfl, Or.inr rfl, fun q => absurd q.2 e, fun q => absurd q (by decide)⟩
      · rw [hz, if_pos rfl]; exact ⟨0, rfl, Or.inr rfl, fun q => absurd q.1 (by decide), fun q => absurd q (by decide)⟩
    obtain ⟨z1, st, hz1, iff1⟩ := st
    obtain ⟨z', e1, e2, e3⟩ := ih (i + 1) z1 (by omega) hz1 n
    refine ⟨z', Eq.trans (show pm_it (fun _ _ => none) (lb_X8_fell_189 (nI j) x2 r12 l4 l5 l6 D) (n + (d + 1) + 1) z (nI i) = _ from st) e1, fun q => e2 ⟨iff1.mp ⟨q.1, q.2 i (Nat.le_refl i) (by omega)⟩, fun r a b => q.2 r (by omega) b⟩, fun q => e3 (fun q2 => q ⟨(iff1.mpr q2.1).1, fun r a b => ?_⟩)⟩
    by_cases ri : r = i
    · subst ri; exact (iff1.mpr q2.1).2
    · exact q2.2 r (by omega) b
end FD
