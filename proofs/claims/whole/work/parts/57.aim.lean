abbrev spent (σ : sg) (c : Nat) : Prop := lasts (sc σ 0 c) (sc σ 1 c) ≤ sc σ 3 c
def on (σ : sg) (w c : Nat) : Nat := if sD σ % 7 = 6 then w else sc σ 2 c
def aimed (p : Nat) (σ : sg) (w i : Nat) (C : pm_M) : Prop := ∀ c, c < i → (spent σ c → C (p + 28) c = -1 ∧ C (p + 29) c = nI 0) ∧ (¬ spent σ c → C (p + 28) c = nI (on σ w c) ∧ C (p + 29) c = nI (dv σ c (on σ w c)))
theorem on_b {B : Nat} {σ : sg} (hw : WF B σ) {w c : Nat} (hc : c < sC σ) (h : w < sR σ) : on σ w c < sR σ := by
  have b2 : sc σ 2 c ≤ sR σ - 1 := hw.2.2.2.2.2.2.2.2.1 2 c hc (by decide)
  unfold on; split <;> omega
theorem rem7 {C : Int32} {d : Nat} (hd : d < 2 ^ 30) (e : C = nI d) : (pm_rem C 7 = 6) ↔ d % 7 = 6 := by
  have k : pm_rem C 7 = nI (d % 7) := by rw [e]; exact pk_rem (by omega) (by decide) (by decide)
  rw [k]
  constructor
  · intro q
    by_cases z : d % 7 = 6
    · exact z
    · exact absurd q (nne (b := 6) (by omega) (by decide) z)
  · intro q; rw [q]; rfl
theorem aim_a {p B : Nat} {σ : sg} (hB : B < 2 ^ 20) (hw : WF B σ) {w : Nat} {r2 : Int32} (hs : sD σ % 7 = 6) (hr : 0 < sC σ → w < sR σ ∧ r2 = nI w) : ∀ (d i : Nat) (C : pm_M), i + d = sC σ → VC C p σ → aimed p σ w i C → ∀ n : Nat, ∃ C', pm_it (fun _ _ => none) (lb_X5_aim_26 p r2) (n + d + 1) (nI i) C = some C' ∧ VC C' p σ ∧ aimed p σ w (sC σ) C' ∧ ∀ q, q ≠ p + 21 → q ≠ p + 24 → q ≠ p + 28 → q ≠ p + 29 → C' q = C q := by
  intro d
  have h5 : sC σ ≤ 5 := hw.2.1
  have h6 : sR σ ≤ 6 := hw.1
  induction d with
  | zero =>
    intro i C hi h ha n
    refine ⟨C, ?_, h, by rw [← show i = sC σ by omega]; exact ha, fun _ _ _ _ _ => rfl⟩
    show lb_X5_aim_26 p r2 _ (nI i) C = _
    rw [lb_X5_aim_26.eq_1, h.2.1, if_pos (yle (by omega) (by omega) (by omega))]
  | succ d ih =>
    intro i C hi h ha n
    have hc : i < sC σ := by omega
    have hwR := hr (by omega)
    have fin : ∀ (C1 : pm_M) (a b : Int32), (∀ q, q ≠ p + 21 → q ≠ p + 24 → q ≠ p + 28 → q ≠ p + 29 → C1 q = C q) → (∀ c, c ≠ i → C1 (p + 28) c = C (p + 28) c) → C1 (p + 28) i = a → C1 (p + 29) = upd (C (p + 29)) i b → ((spent σ i → a = -1 ∧ b = nI 0) ∧ (¬ spent σ i → a = nI (on σ w i) ∧ b = nI (dv σ i (on σ w i)))) → lb_X5_aim_26 p r2 (pm_it (fun _ _ => none) (lb_X5_aim_26 p r2) (n + d + 1)) (nI i) C = pm_it (fun _ _ => none) (lb_X5_aim_26 p r2) (n + d + 1) (nI (i + 1)) C1 → ∃ C', pm_it (fun _ _ => none) (lb_X5_aim_26 p r2) (n + (d + 1) + 1) (nI i) C = some C' ∧ VC C' p σ ∧ aimed p σ w (sC σ) C' ∧ ∀ q, q ≠ p + 21 → q ≠ p + 24 → q ≠ p + 28 → q ≠ p + 29 → C' q = C q := by
      intro C1 a b f1 f2 f3 f4 f5 f6
      have h1 : VC C1 p σ := h.congr (fun q a b c d => f1 q c d (by omega) (by omega))
      have ha1 : aimed p σ w (i + 1) C1 := by
        intro c hc'
        by_cases e : c = i
        · subst e
          rw [f3, f4, upd_s]; exact f5
        · rw [f2 c e, f4, upd_n e]; exact ha c (by omega)
      obtain ⟨C', g1, g2, g3, g4⟩ := ih (i + 1) C1 (by omega) h1 ha1 n
      exact ⟨C', Eq.trans (show pm_it (fun _ _ => none) (lb_X5_aim_26 p r2) (n + (d + 1) + 1) (nI i) C = _ from f6) g1, g2, g3, fun q a b c d => (g4 q a b c d).trans (f1 q a b c d)⟩
    have sp := x0_isSpent B hw h hc
    have o6 := on_b hw (w := w) hc hwR.1
    by_cases s : spent σ i
    · refine fin (pm_up (pm_up C (p + 28) i (-1)) (p + 29) i 0) (-1) 0 (fun q _ _ a b => by rw [pm_up_o q b, pm_up_o q a]) (fun c hc' => by rw [up_k (by omega), up_i hc']) (by rw [up_k (by omega), up_s]) (by rw [pm_up_s, pm_up_o _ (by omega)]) ⟨fun _ => ⟨rfl, rfl⟩, fun q => absurd s q⟩ ?_
      rw [lb_X5_aim_26.eq_1, h.2.1, if_neg (nle (a := sC σ) (b := i) (by omega) (by omega) hc), sp, b2_s, if_bi, if_pos s, chk_t (in_nI (n := i) (by omega) (by decide)), let_s, chk_t (in_nI (n := i) (by omega) (by decide)), let_s, nI_clamp (n := i) (by omega), nI_p1]
    · have h1 : VC (pm_up C (p + 28) i (nI (on σ w i))) p σ := h.congr (fun q a b c d => pm_up_o q (by omega))
      obtain ⟨C2, g1, g2⟩ := x5_dropsOn hB hw h1 hc o6
      refine fin (pm_up C2 (p + 29) i (nI (dv σ i (on σ w i)))) (nI (on σ w i)) (nI (dv σ i (on σ w i))) (fun q a b c d => by rw [pm_up_o q d, g2 q a b, pm_up_o q c]) (fun c hc' => by rw [up_k (by omega), g2 _ (by omega) (by omega), up_i hc']) (by rw [up_k (by omega), g2 _ (by omega) (by omega), up_s]) (by rw [pm_up_s, g2 _ (by omega) (by omega), pm_up_o _ (by omega)]) ⟨fun q => absurd q s, fun _ => ⟨rfl, rfl⟩⟩ ?_
      have eo : r2 = nI (on σ w i) := by unfold on; rw [if_pos hs]; exact hwR.2
      rw [lb_X5_aim_26.eq_1, h.2.1, if_neg (nle (a := sC σ) (b := i) (by omega) (by omega) hc), sp, b2_s, if_bi, if_neg s, if_neg (show ¬ r2 < 0 by rw [hwR.2]; exact nI_pos (by omega)), chk_t (in_nI (n := i) (by omega) (by decide)), let_s, chk_t (in_nI (n := i) (by omega) (by decide)), nI_clamp (n := i) (by omega), eo, up_s, g1, b2_s, chk_t (in_nI (n := i) (by omega) (by decide)), let_s, nI_p1]
theorem aim_b {p B : Nat} {σ : sg} (hB : B < 2 ^ 20) (hw : WF B σ) {w : Nat} (hs : ¬ sD σ % 7 = 6) (hr : 0 < sC σ → w < sR σ) : ∀ (d i : Nat) (C : pm_M), i + d = sC σ → VC C p σ → aimed p σ w i C → ∀ n : Nat, ∃ C', pm_it (fun _ _ => none) (lb_X5_aim_26b p) (n + d + 1) (nI i) C = some C' ∧ VC C' p σ ∧ aimed p σ w (sC σ) C' ∧ ∀ q, q ≠ p + 21 → q ≠ p + 24 → q ≠ p + 28 → q ≠ p + 29 → C' q = C q := by
  intro d
  have h5 : sC σ ≤ 5 := hw.2.1
  have h6 : sR σ ≤ 6 := hw.1
  induction d with
  | zero =>
    intro i C hi h ha n
    refine ⟨C, ?_, h, by rw [← show i = sC σ by omega]; exact ha, fun _ _ _ _ _ => rfl⟩
    show lb_X5_aim_26b p _ (nI i) C = _
    rw [lb_X5_aim_26b.eq_1, h.2.1, if_pos (yle (by omega) (by omega) (by omega))]
  | succ d ih =>
    intro i C hi h ha n
    have hc : i < sC σ := by omega
    have hwR := hr (by omega)
    have fin : ∀ (C1 : pm_M) (a b : Int32), (∀ q, q ≠ p + 21 → q ≠ p + 24 → q ≠ p + 28 → q ≠ p + 29 → C1 q = C q) → (∀ c, c ≠ i → C1 (p + 28) c = C (p + 28) c) → C1 (p + 28) i = a → C1 (p + 29) = upd (C (p + 29)) i b → ((spent σ i → a = -1 ∧ b = nI 0) ∧ (¬ spent σ i → a = nI (on σ w i) ∧ b = nI (dv σ i (on σ w i)))) → lb_X5_aim_26b p (pm_it (fun _ _ => none) (lb_X5_aim_26b p) (n + d + 1)) (nI i) C = pm_it (fun _ _ => none) (lb_X5_aim_26b p) (n + d + 1) (nI (i + 1)) C1 → ∃ C', pm_it (fun _ _ => none) (lb_X5_aim_26b p) (n + (d + 1) + 1) (nI i) C = some C' ∧ VC C' p σ ∧ aimed p σ w (sC σ) C' ∧ ∀ q, q ≠ p + 21 → q ≠ p + 24 → q ≠ p + 28 → q ≠ p + 29 → C' q = C q := by
      intro C1 a b f1 f2 f3 f4 f5 f6
      have h1 : VC C1 p σ := h.congr (fun q a b c d => f1 q c d (by omega) (by omega))
      have ha1 : aimed p σ w (i + 1) C1 := by
        intro c hc'
        by_cases e : c = i
        · subst e
          rw [f3, f4, upd_s]; exact f5
        · rw [f2 c e, f4, upd_n e]; exact ha c (by omega)
      obtain ⟨C', g1, g2, g3, g4⟩ := ih (i + 1) C1 (by omega) h1 ha1 n
      exact ⟨C', Eq.trans (show pm_it (fun _ _ => none) (lb_X5_aim_26b p) (n + (d + 1) + 1) (nI i) C = _ from f6) g1, g2, g3, fun q a b c d => (g4 q a b c d).trans (f1 q a b c d)⟩
    have sp := x0_isSpent B hw h hc
    have o6 := on_b hw (w := w) hc hwR
    by_cases s : spent σ i
    · refine fin (pm_up (pm_up C (p + 28) i (-1)) (p + 29) i 0) (-1) 0 (fun q _ _ a b => by rw [pm_up_o q b, pm_up_o q a]) (fun c hc' => by rw [up_k (by omega), up_i hc']) (by rw [up_k (by omega), up_s]) (by rw [pm_up_s, pm_up_o _ (by omega)]) ⟨fun _ => ⟨rfl, rfl⟩, fun q => absurd s q⟩ ?_
      rw [lb_X5_aim_26b.eq_1, h.2.1, if_neg (nle (a := sC σ) (b := i) (by omega) (by omega) hc), sp, b2_s, if_bi, if_pos s, chk_t (in_nI (n := i) (by omega) (by decide)), let_s, chk_t (in_nI (n := i) (by omega) (by decide)), let_s, nI_clamp (n := i) (by omega), nI_p1]
    · have h1 : VC (pm_up C (p + 28) i (nI (on σ w i))) p σ := h.congr (fun q a b c d => pm_up_o q (by omega))
      obtain ⟨C2, g1, g2⟩ := x5_dropsOn hB hw h1 hc o6
      refine fin (pm_up C2 (p + 29) i (nI (dv σ i (on σ w i)))) (nI (on σ w i)) (nI (dv σ i (on σ w i))) (fun q a b c d => by rw [pm_up_o q d, g2 q a b, pm_up_o q c]) (fun c hc' => by rw [up_k (by omega), g2 _ (by omega) (by omega), up_i hc']) (by rw [up_k (by omega), g2 _ (by omega) (by omega), up_s]) (by rw [pm_up_s, g2 _ (by omega) (by omega), pm_up_o _ (by omega)]) ⟨fun q => absurd q s, fun _ => ⟨rfl, rfl⟩⟩ ?_
      have eo : C (p + 13 + 3) i = nI (on σ w i) := by unfold on; rw [if_neg hs]; exact (cellC hw h hc).2.2.1
      rw [lb_X5_aim_26b.eq_1, h.2.1, if_neg (nle (a := sC σ) (b := i) (by omega) (by omega) hc), sp, b2_s, if_bi, if_neg s, chk_t (in_nI (n := i) (by omega) (by decide)), chk_t (in_nI (n := i) (by omega) (by decide)), let_s, chk_t (in_nI (n := i) (by omega) (by decide)), nI_clamp (n := i) (by omega), eo, up_s, g1, b2_s, chk_t (in_nI (n := i) (by omega) (by decide)), let_s, nI_p1]
theorem x5_aim {C : pm_M} {p B : Nat} {σ : sg} (hB : B < 2 ^ 20) (hw : WF B σ) (h : VC C p σ) {r2 : Int32} {w : Nat} (hm : f_X3_mostInArrears (p + 1) C = some (r2, C)) (hr : 0 < sR σ → w < sR σ ∧ r2 = nI w) : ∃ C', f_X5_aim p C = some C' ∧ VC C' p σ ∧ aimed p σ w (sC σ) C' ∧ ∀ q, q ≠ p + 21 → q ≠ p + 24 → q ≠ p + 28 → q ≠ p + 29 → C' q = C q := by
  have hD : sD σ ≤ B := hw.2.2.2.1
  have h5 : sC σ ≤ 5 := hw.2.1
  have e7 := rem7 (C := C p 3) (d := sD σ) (by omega) h.2.2.1
  have a0 : aimed p σ w 0 C := fun c hc => absurd hc (Nat.not_lt_zero c)
  unfold f_X5_aim
  by_cases s : sD σ % 7 = 6
  · obtain ⟨C', g1, g2, g3, g4⟩ := aim_a hB hw (w := w) (r2 := r2) s (fun k => hr (hw.2.2.1 k)) (sC σ) 0 C (by omega) h a0 (99999 - sC σ)
    rw [pm_F_s _ (by omega)] at g1
    rw [if_pos (e7.mpr s), hm, b2_s, show lp_X5_aim_26 p r2 0 C = some C' from g1, b1_s]
    exact ⟨C', rfl, g2, g3, g4⟩
  · obtain ⟨C', g1, g2, g3, g4⟩ := aim_b hB hw (w := w) s (fun k => (hr (hw.2.2.1 k)).1) (sC σ) 0 C (by omega) h a0 (99999 - sC σ)
    rw [pm_F_s _ (by omega)] at g1
    rw [if_neg (fun q => s (e7.mp q)), show lp_X5_aim_26b p 0 C = some C' from g1, b1_s]
    exact ⟨C', rfl, g2, g3, g4⟩
