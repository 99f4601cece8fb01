/-! ### the day: class's Valley at p -/
theorem rf_eqp {p : Nat} {C D : pm_M} {σ : sg} (h2 : VC C p σ) (h3 : VM (D 1) σ) {w r : Nat} (hw : w < 4) (hr : r < sR σ) (h6 : r < 6) : C (p + 2 + w) r = D 1 (6 + 4 * r + w) := (h2.2.2.2.2.2.2.1 w r hw h6).trans (h3.2.2.2.2.2.2.1 r w hr hw).symm
theorem sum_loopp {p B : Nat} {C D : pm_M} {σ : sg} (h1 : WF B σ) (h2 : VC C p σ) (h3 : VM (D 1) σ) {w : Nat} (hw : w < 4) : ∀ (d i : Nat) (acc : Int32), i + d = sR σ → ∀ n m : Nat, ∃ r : Int32, pm_it (fun _ _ => none) (lb_X3_sum_4 (p + 1) (p + 2 + w) C) (n + d + 1) acc (nI i) = some r ∧ pm_it (fun _ _ _ => none) (lb_X8_all_4 (nI w)) (m + d + 1) acc (nI i) D = some (r, D) := by
  have hR : sR σ ≤ 6 := h1.1
  have eC : C (p + 1) 0 = nI (sR σ) := h2.1
  have eD : D 1 0 = nI (sR σ) := h3.1
  intro d
  induction d with
  | zero =>
    intro i acc hi n m
    refine ⟨acc, ?_, ?_⟩
    · show lb_X3_sum_4 (p + 1) (p + 2 + w) C _ acc (nI i) = _
      rw [lb_X3_sum_4.eq_1, eC, if_pos (yle (by omega) (by omega) (by omega))]
    · show lb_X8_all_4 (nI w) _ acc (nI i) D = _
      rw [lb_X8_all_4.eq_1, tn_0, eD, if_pos (yle (by omega) (by omega) (by omega))]
  | succ d ih =>
    intro i acc hi n m
    obtain ⟨r, e1, e2⟩ := ih (i + 1) (acc + D 1 (6 + 4 * i + w)) (by omega) n m
    refine ⟨r, ?_, ?_⟩
    · show lb_X3_sum_4 (p + 1) (p + 2 + w) C (pm_it (fun _ _ => none) (lb_X3_sum_4 (p + 1) (p + 2 + w) C) (n + d + 1)) acc (nI i) = _
      rw [lb_X3_sum_4.eq_1, eC, if_neg (nle (a := sR σ) (b := i) (by omega) (by omega) (by omega)), chk_t (in_nI (n := i) (by omega) (by decide)), let_s, nI_clamp (n := i) (by omega), rf_eqp h2 h3 hw (by omega) (by omega), nI_p1]
      exact e1
    · show lb_X8_all_4 (nI w) (pm_it (fun _ _ _ => none) (lb_X8_all_4 (nI w)) (m + d + 1)) acc (nI i) D = _
      rw [lb_X8_all_4.eq_1, tn_0, eD, if_neg (nle (a := sR σ) (b := i) (by omega) (by omega) (by omega)), x8_its (w := w) rfl (by omega) hw, b2_s, let_s, nI_p1]
      exact e2
theorem sum_eqp {p B : Nat} {C D : pm_M} {σ : sg} (h1 : WF B σ) (h2 : VC C p σ) (h3 : VM (D 1) σ) {w : Nat} (hw : w < 4) : ∃ r : Int32, f_X3_sum (p + 1) C (p + 2 + w) = some (r, C) ∧ f_X8_all D (nI w) = some (r, D) := by
  have hR : sR σ ≤ 6 := h1.1
  obtain ⟨r, e1, e2⟩ := sum_loopp h1 h2 h3 hw (sR σ) 0 0 (by omega) (99999 - sR σ) (99999 - sR σ)
  have ef : 99999 - sR σ + sR σ + 1 = pm_F := by unfold pm_F; omega
  rw [ef] at e1 e2
  unfold f_X3_sum f_X8_all
  rw [show lp_X3_sum_4 (p + 1) (p + 2 + w) C 0 0 = some r from e1, show lp_X8_all_4 (nI w) 0 0 D = some (r, D) from e2, b1_s, b2_s]
  exact ⟨_, rfl, rfl⟩
theorem most_loopp {p B : Nat} {C D : pm_M} {σ : sg} (h1 : WF B σ) (h2 : VC C p σ) (h3 : VM (D 1) σ) : ∀ (d i b : Nat), i + d = sR σ → b < sR σ → ∀ n m : Nat, ∃ r : Nat, r < sR σ ∧ pm_it (fun _ _ => none) (lb_X3_mostInArrears_15 (p + 1) C) (n + d + 1) (nI b) (nI i) = some (nI r) ∧ pm_it (fun _ _ _ => none) (lb_X8_mostInArrears_17) (m + d + 1) (nI b) (nI i) D = some (nI r, D) := by
  have hR : sR σ ≤ 6 := h1.1
  have eC : C (p + 1) 0 = nI (sR σ) := h2.1
  have eD : D 1 0 = nI (sR σ) := h3.1
  intro d
  induction d with
  | zero =>
    intro i b hi hb n m
    refine ⟨b, hb, ?_, ?_⟩
    · show lb_X3_mostInArrears_15 (p + 1) C _ (nI b) (nI i) = _
      rw [lb_X3_mostInArrears_15.eq_1, eC, if_pos (yle (by omega) (by omega) (by omega))]
    · show lb_X8_mostInArrears_17 _ (nI b) (nI i) D = _
      rw [lb_X8_mostInArrears_17.eq_1, tn_0, eD, if_pos (yle (by omega) (by omega) (by omega))]
  | succ d ih =>
    intro i b hi hb n m
    have q1 : pm_it (fun _ _ => none) (lb_X3_mostInArrears_15 (p + 1) C) (n + (d + 1) + 1) (nI b) (nI i) = pm_it (fun _ _ => none) (lb_X3_mostInArrears_15 (p + 1) C) (n + d + 1) (if D 1 (6 + 4 * i + 1) ≤ D 1 (6 + 4 * b + 1) then nI b else nI i) (nI (i + 1)) := by
      show lb_X3_mostInArrears_15 (p + 1) C (pm_it (fun _ _ => none) (lb_X3_mostInArrears_15 (p + 1) C) (n + d + 1)) (nI b) (nI i) = _
      rw [lb_X3_mostInArrears_15.eq_1, eC, if_neg (nle (a := sR σ) (b := i) (by omega) (by omega) (by omega)), chk_t (in_nI (n := i) (by omega) (by decide)), chk_t (in_nI (n := b) (by omega) (by decide)), nI_clamp (n := i) (by omega), nI_clamp (n := b) (by omega), show C (p + 1 + 2) i = D 1 (6 + 4 * i + 1) from rf_eqp h2 h3 (w := 1) (by decide) (by omega) (by omega), show C (p + 1 + 2) b = D 1 (6 + 4 * b + 1) from rf_eqp h2 h3 (w := 1) (by decide) (by omega) (by omega), nI_p1]
      split <;> rfl
    have q2 : pm_it (fun _ _ _ => none) (lb_X8_mostInArrears_17) (m + (d + 1) + 1) (nI b) (nI i) D = pm_it (fun _ _ _ => none) (lb_X8_mostInArrears_17) (m + d + 1) (if D 1 (6 + 4 * i + 1) ≤ D 1 (6 + 4 * b + 1) then nI b else nI i) (nI (i + 1)) D := by
      show lb_X8_mostInArrears_17 (pm_it (fun _ _ _ => none) (lb_X8_mostInArrears_17) (m + d + 1)) (nI b) (nI i) D = _
      rw [lb_X8_mostInArrears_17.eq_1, tn_0, eD, if_neg (nle (a := sR σ) (b := i) (by omega) (by omega) (by omega)), x8_its (w := 1) (z := 1) rfl (by omega) (by decide), b2_s, x8_its (w := 1) (z := 1) rfl (by omega) (by decide), b2_s, nI_p1]
      split <;> rfl
    rw [q1, q2]
    by_cases c : D 1 (6 + 4 * i + 1) ≤ D 1 (6 + 4 * b + 1)
    · rw [if_pos c]; exact ih (i + 1) b (by omega) hb n m
    · rw [if_neg c]; exact ih (i + 1) i (by omega) (by omega) n m
theorem most_eqp {p B : Nat} {C D : pm_M} {σ : sg} (h1 : WF B σ) (h2 : VC C p σ) (h3 : VM (D 1) σ) : ∃ r : Int32, f_X3_mostInArrears (p + 1) C = some (r, C) ∧ f_X8_mostInArrears D = some (r, D) ∧ (0 < sR σ → ∃ a, a < sR σ ∧ r = nI a) := by
  have hR : sR σ ≤ 6 := h1.1
  have eC : C (p + 1) 0 = nI (sR σ) := h2.1
  have eD : D 1 0 = nI (sR σ) := h3.1
  unfold f_X3_mostInArrears f_X8_mostInArrears
  rw [tn_0, eC, eD]
  by_cases c : sR σ = 0
  · rw [if_pos (show nI (sR σ) = 0 by rw [c]; rfl), if_pos (show nI (sR σ) ≤ 0 by rw [c]; decide)]
    have e1 : lp_X3_mostInArrears_15 (p + 1) C (-1) 1 = some (-1) := by
      show lb_X3_mostInArrears_15 (p + 1) C (pm_it (fun _ _ => none) (lb_X3_mostInArrears_15 (p + 1) C) 99999) (-1) 1 = _
      rw [lb_X3_mostInArrears_15.eq_1, eC, c, if_pos (by decide)]
    have e2 : lp_X8_mostInArrears_17 (-1) 1 D = some (-1, D) := by
      show lb_X8_mostInArrears_17 (pm_it (fun _ _ _ => none) (lb_X8_mostInArrears_17) 99999) (-1) 1 D = _
      rw [lb_X8_mostInArrears_17.eq_1, tn_0, eD, c, if_pos (by decide)]
    rw [e1, e2, b1_s, b2_s]
    exact ⟨_, rfl, rfl, fun q => by omega⟩
  · rw [if_neg (show ¬ nI (sR σ) = 0 from nne (b := 0) (by omega) (by decide) c), if_neg (show ¬ nI (sR σ) ≤ 0 from nle (b := 0) (by omega) (by decide) (by omega))]
    obtain ⟨r, hr, e1, e2⟩ := most_loopp h1 h2 h3 (sR σ - 1) 1 0 (by omega) (by omega) (99999 - (sR σ - 1)) (99999 - (sR σ - 1))
    have ef : 99999 - (sR σ - 1) + (sR σ - 1) + 1 = pm_F := by unfold pm_F; omega
    rw [ef] at e1 e2
    rw [show lp_X3_mostInArrears_15 (p + 1) C 0 1 = some (nI r) from e1, show lp_X8_mostInArrears_17 0 1 D = some (nI r, D) from e2, b1_s, b2_s]
    exact ⟨_, rfl, rfl, fun _ => ⟨r, hr, rfl⟩⟩
theorem max0 {v : Nat} (hv : v < 2 ^ 31) : pm_max 0 (nI v) = nI v := by
  unfold pm_max
  by_cases h : (0 : Int32) < nI v
  · rw [if_pos h]
  · rw [if_neg h]
    have : v = 0 := by
      by_cases z : v = 0
      · exact z
      · exact absurd (show (0 : Int32) < nI v from ylt (a := 0) (by decide) hv (by omega)) h
    rw [this]; rfl
theorem held_nI {M : pm_M} {v m : Nat} (hv : v < 2 ^ 30) (hm : m < 2 ^ 30) (x : Int32) (hx : x = nI m) : f_X8_held M (nI v) 0 x = some (nI (min m v), M) := by
  subst hx
  rw [x8_held _ _ (nI_pos' (by omega)), nI_min (by omega) (by omega), max0 (by omega)]
def lvN (u : Nat) (t : List Int32) (a b c : Nat) : Nat := (lvI u t (nI a) (nI b) (nI c)).toNatClampNeg
theorem lvN_e (u : Nat) (t : List Int32) (a b c : Nat) : lvI u t (nI a) (nI b) (nI c) = nI (lvN u t a b c) ∧ lvN u t a b c ≤ (if u = 0 then 99 else 9) := by
  obtain ⟨v, h1, h2⟩ := lvI_b u t (nI a) (nI b) (nI c)
  have hv : v ≤ 99 := by split at h1 <;> omega
  have e : lvN u t a b c = v := by unfold lvN; rw [h2, nI_clamp (by omega)]
  rw [e]; exact ⟨h2, h1⟩
/-- what a cloud falls on a roof -/
def dv (σ : sg) (c r : Nat) : Nat :=
  if sc σ 0 c = 1 ∨ sc σ 0 c = 4 then lvN 0 (sT σ 0) (sc σ 3 c) (sD σ) (sc σ 1 c) - sc σ 3 c / 10
  else if sc σ 0 c = 2 ∨ sc σ 0 c = 5 then lvN 0 (sT σ 0) (sc σ 3 c) (sD σ) (sc σ 1 c) + sD σ % 2 * sc σ 1 c
  else if sc σ 0 c = 3 then min (lvN 0 (sT σ 0) (sc σ 3 c) (sD σ) (sc σ 1 c)) (sr σ 0 r)
  else if sc σ 0 c = 6 then min (lvN 0 (sT σ 0) (sc σ 3 c) (sD σ) (sc σ 1 c)) (sr σ 0 r) / 2
  else lvN 0 (sT σ 0) (sc σ 3 c) (sD σ) (sc σ 1 c)
/-- where a cloud drifts -/
def nx (σ : sg) (c : Nat) : Nat :=
  (if sc σ 0 c = 4 then sc σ 2 c + 1 + sc σ 1 c else if sc σ 0 c = 3 ∨ sc σ 0 c = 6 then sc σ 1 c else if sc σ 0 c = 5 then sD σ else sc σ 2 c + 1) % sR σ
theorem dv_b {B : Nat} {σ : sg} (hw : WF B σ) {c r : Nat} (hc : c < sC σ) : dv σ c r ≤ 108 := by
  have b1 : sc σ 1 c ≤ 9 := hw.2.2.2.2.2.2.2.2.1 1 c hc (by decide)
  have b2 := (lvN_e 0 (sT σ 0) (sc σ 3 c) (sD σ) (sc σ 1 c)).2
  rw [if_pos rfl] at b2
  have b3 : sD σ % 2 * sc σ 1 c ≤ 1 * 9 := Nat.mul_le_mul (by omega) b1
  unfold dv
  split
  · omega
  · split
    · omega
    · split
      · omega
      · split <;> omega
theorem cellC {C : pm_M} {p B : Nat} {σ : sg} (hw : WF B σ) (h : VC C p σ) {c : Nat} (hc : c < sC σ) : C (p + 13 + 1) c = nI (sc σ 0 c) ∧ C (p + 13 + 2) c = nI (sc σ 1 c) ∧ C (p + 13 + 3) c = nI (sc σ 2 c) ∧ C (p + 13 + 4) c = nI (sc σ 3 c) := by
  have hv : ∀ w, w < 4 → C (p + 14 + w) c = nI (sc σ w c) := fun w hw => h.2.2.2.2.2.2.2.2.1 w c hw hc
  exact ⟨hv 0 (by decide), by have := hv 1 (by decide); rwa [show p + 14 + 1 = p + 13 + 2 by omega] at this, by have := hv 2 (by decide); rwa [show p + 14 + 2 = p + 13 + 3 by omega] at this, by have := hv 3 (by decide); rwa [show p + 14 + 3 = p + 13 + 4 by omega] at this⟩
theorem k7 {k : Nat} (h : k ≤ 6) : k = 0 ∨ k = 1 ∨ k = 2 ∨ k = 3 ∨ k = 4 ∨ k = 5 ∨ k = 6 := by omega
theorem x3_hasn {C : pm_M} {p n r : Nat} (h : C p 0 = nI n) (hn : n < 2 ^ 30) (hr : r < n) : f_X3_has p C (nI r) = some (1, C) := by
  rw [x3_has h hn, bi_t (by rw [nI_toInt (by omega)]; omega)]
theorem x5_dropsOn {C : pm_M} {p B : Nat} {σ : sg} (hB : B < 2 ^ 20) (hw : WF B σ) (h : VC C p σ) {c r : Nat} (hc : c < sC σ) (hr : r < sR σ) : ∃ C', f_X5_dropsOn p C (nI c) (nI r) = some (nI (dv σ c r), C') ∧ ∀ k, k ≠ p + 21 → k ≠ p + 24 → C' k = C k := by
  have h5 : sC σ ≤ 5 := hw.2.1
  have h6 : sR σ ≤ 6 := hw.1
  have hD : sD σ ≤ B := hw.2.2.2.1
  have b0 : sc σ 0 c ≤ 6 := hw.2.2.2.2.2.2.2.2.1 0 c hc (by decide)
  have b1 : sc σ 1 c ≤ 9 := hw.2.2.2.2.2.2.2.2.1 1 c hc (by decide)
  have b3 : sc σ 3 c ≤ 99 := hw.2.2.2.2.2.2.2.2.1 3 c hc (by decide)
  have bs : sr σ 0 r ≤ 99 := hw.2.2.2.2.1 0 r (by decide)
  obtain ⟨e0, e1, e2, e3⟩ := cellC hw h hc
  have ed : C p 3 = nI (sD σ) := h.2.2.1
  obtain ⟨C', g1, g2, g3⟩ := VC.given hw h (u := 0) (by decide) (nI (sc σ 3 c)) (nI (sD σ)) (nI (sc σ 1 c))
  obtain ⟨l1, l2⟩ := lvN_e 0 (sT σ 0) (sc σ 3 c) (sD σ) (sc σ 1 c)
  rw [if_pos rfl] at l2
  rw [l1] at g1
  obtain ⟨e0', -, -, -⟩ := cellC hw g3 hc
  have ed' : C' p 3 = nI (sD σ) := g3.2.2.1
  have es' : C' (p + 1 + 1) r = nI (sr σ 0 r) := g3.2.2.2.2.2.2.1 0 r (by decide) (by omega)
  refine ⟨C', ?_, g2⟩
  have so' : f_X3_sharesOf (p + 1) C' (nI r) = some (nI (sr σ 0 r), C') := by
    unfold f_X3_sharesOf
    rw [x3_hasn g3.1 (by omega) hr, b2_s, if_neg (show ¬ (1 : Int32) = 0 by decide), chk_t (in_nI (n := r) (by omega) (by decide)), nI_clamp (n := r) (by omega), es']
  unfold f_X5_dropsOn
  rw [chk_t (in_nI (n := c) (by omega) (by decide)), let_s, chk_t (in_nI (n := c) (by omega) (by decide)), let_s, nI_clamp (n := c) (by omega), e1, e3, ed, show f_X1_given (p + 19) C (nI (sc σ 3 c)) (nI (sD σ)) (nI (sc σ 1 c)) = some (nI (lvN 0 (sT σ 0) (sc σ 3 c) (sD σ) (sc σ 1 c)), C') from g1, b2_s, chk_t (in_nI (n := c) (by omega) (by decide)), let_s, e0', so', b2_s, b2_s, ed']
  have a1 : pm_max 0 (nI (lvN 0 (sT σ 0) (sc σ 3 c) (sD σ) (sc σ 1 c)) - nI (sc σ 3 c) / 10) = nI (lvN 0 (sT σ 0) (sc σ 3 c) (sD σ) (sc σ 1 c) - sc σ 3 c / 10) := by
    rw [show nI (sc σ 3 c) / 10 = nI (sc σ 3 c / 10) from pk_div (by omega) (by decide) (by decide)]
    exact max_sub (by omega) (by omega)
  have a2 : nI (lvN 0 (sT σ 0) (sc σ 3 c) (sD σ) (sc σ 1 c)) + pm_rem (nI (sD σ)) 2 * nI (sc σ 1 c) = nI (lvN 0 (sT σ 0) (sc σ 3 c) (sD σ) (sc σ 1 c) + sD σ % 2 * sc σ 1 c) := by
    rw [show pm_rem (nI (sD σ)) 2 = nI (sD σ % 2) from pk_rem (by omega) (by decide) (by decide), pk_mul, nI_add]
  have a3 : pm_min (nI (lvN 0 (sT σ 0) (sc σ 3 c) (sD σ) (sc σ 1 c))) (nI (sr σ 0 r)) = nI (min (lvN 0 (sT σ 0) (sc σ 3 c) (sD σ) (sc σ 1 c)) (sr σ 0 r)) := nI_min (by omega) (by omega)
  have a4 : nI (min (lvN 0 (sT σ 0) (sc σ 3 c) (sD σ) (sc σ 1 c)) (sr σ 0 r)) / 2 = nI (min (lvN 0 (sT σ 0) (sc σ 3 c) (sD σ) (sc σ 1 c)) (sr σ 0 r) / 2) := pk_div (by omega) (by decide) (by decide)
  rw [a1, a2, a3, a4]
  unfold dv
  rcases k7 b0 with hk | hk | hk | hk | hk | hk | hk <;> rw [hk] <;> rfl
theorem cellD {D : pm_M} {σ : sg} (h : VM (D 1) σ) {c : Nat} (hc : c < sC σ) : D 1 (66 + 4 * c + 0) = nI (sc σ 0 c) ∧ D 1 (66 + 4 * c + 1) = nI (sc σ 1 c) ∧ D 1 (66 + 4 * c + 2) = nI (sc σ 2 c) ∧ D 1 (66 + 4 * c + 3) = nI (sc σ 3 c) :=
  ⟨h.2.2.2.2.2.2.2.2.1 c 0 hc (by decide), h.2.2.2.2.2.2.2.2.1 c 1 hc (by decide), h.2.2.2.2.2.2.2.2.1 c 2 hc (by decide), h.2.2.2.2.2.2.2.2.1 c 3 hc (by decide)⟩
set_option maxHeartbeats 1000000 in
theorem x8_fallsOn {C D : pm_M} {p B : Nat} {σ : sg} (hB : B < 2 ^ 20) (hw : WF B σ) (h0 : VC C p σ) (h : VM (D 1) σ) {c r : Nat} (hc : c < sC σ) (hr : r < sR σ) : ∃ D', f_X8_fallsOn D (nI c) (nI r) = some (nI (dv σ c r), D') ∧ (∀ k, k ≠ 0 → k ≠ 5 → D' k = D k) ∧ ∀ j, (j < 5 ∨ 10 < j) → D' 0 j = D 0 j := by
  have h5 : sC σ ≤ 5 := hw.2.1
  have h6 : sR σ ≤ 6 := hw.1
  have hD : sD σ ≤ B := hw.2.2.2.1
  have b0 : sc σ 0 c ≤ 6 := hw.2.2.2.2.2.2.2.2.1 0 c hc (by decide)
  have b1 : sc σ 1 c ≤ 9 := hw.2.2.2.2.2.2.2.2.1 1 c hc (by decide)
  have b3 : sc σ 3 c ≤ 99 := hw.2.2.2.2.2.2.2.2.1 3 c hc (by decide)
  have bs : sr σ 0 r ≤ 99 := hw.2.2.2.2.1 0 r (by decide)
  obtain ⟨e0, e1, e2, e3⟩ := cellD h hc
  have ed : D 1 2 = nI (sD σ) := h.2.2.1
  obtain ⟨D', g1, g2, g3⟩ := VM.given hw h0 h (u := 0) (by decide) (nI (sc σ 3 c)) (nI (sD σ)) (nI (sc σ 1 c))
  obtain ⟨l1, l2⟩ := lvN_e 0 (sT σ 0) (sc σ 3 c) (sD σ) (sc σ 1 c)
  rw [if_pos rfl] at l2
  rw [l1] at g1
  have g4 : D' 1 = D 1 := g2 1 (by decide) (by decide)
  have es : D 1 (6 + 4 * r + 0) = nI (sr σ 0 r) := h.2.2.2.2.2.2.1 r 0 hr (by decide)
  refine ⟨D', ?_, g2, g3⟩
  have kof : ∀ w z, z = nI w → w < 4 → f_X8_of D' (nI c) z = some (D 1 (66 + 4 * c + w), D') := fun w z hz hw => by rw [x8_of hz (by omega) hw, g4]
  have kits : f_X8_its D' (nI r) 0 = some (nI (sr σ 0 r), D') := by rw [x8_its (w := 0) (z := 0) rfl (by omega) (by decide), g4, es]
  unfold f_X8_fallsOn
  rw [x8_of (w := 1) (z := 1) rfl (by omega) (by decide), b2_s, x8_of (w := 3) (z := 3) rfl (by omega) (by decide), b2_s, tn_2, ed, e1, e3, show f_X8_textGives D 0 (nI (sc σ 3 c)) (nI (sD σ)) (nI (sc σ 1 c)) = some (nI (lvN 0 (sT σ 0) (sc σ 3 c) (sD σ) (sc σ 1 c)), D') from g1, b2_s]
  have k0 : f_X8_of D' (nI c) 0 = some (nI (sc σ 0 c), D') := by rw [kof 0 0 rfl (by decide), e0]
  have k3 : f_X8_of D' (nI c) 3 = some (nI (sc σ 3 c), D') := by rw [kof 3 3 rfl (by decide), e3]
  have d2 : D' 1 2 = nI (sD σ) := by rw [g4, ed]
  simp only [kits, k0, k3, b2_s, d2]
  have q10 : nI (sc σ 3 c) / 10 = nI (sc σ 3 c / 10) := pk_div (by omega) (by decide) (by decide)
  have a1 : f_X8_held D' (nI (lvN 0 (sT σ 0) (sc σ 3 c) (sD σ) (sc σ 1 c)) - nI (sc σ 3 c) / 10) 0 99 = some (nI (lvN 0 (sT σ 0) (sc σ 3 c) (sD σ) (sc σ 1 c) - sc σ 3 c / 10), D') := by
    rw [q10]; exact held_sub (by omega) (by omega)
  have a2 : nI (lvN 0 (sT σ 0) (sc σ 3 c) (sD σ) (sc σ 1 c)) + pm_rem (nI (sD σ)) 2 * nI (sc σ 1 c) = nI (lvN 0 (sT σ 0) (sc σ 3 c) (sD σ) (sc σ 1 c) + sD σ % 2 * sc σ 1 c) := by
    rw [show pm_rem (nI (sD σ)) 2 = nI (sD σ % 2) from pk_rem (by omega) (by decide) (by decide), pk_mul, nI_add]
  have a3 : nI (lvN 0 (sT σ 0) (sc σ 3 c) (sD σ) (sc σ 1 c)) / 2 = nI (lvN 0 (sT σ 0) (sc σ 3 c) (sD σ) (sc σ 1 c) / 2) := pk_div (by omega) (by decide) (by decide)
  have a4 : nI (sr σ 0 r) / 2 = nI (sr σ 0 r / 2) := pk_div (by omega) (by decide) (by decide)
  simp only [a1, b2_s, a2, a3, a4]
  unfold dv
  by_cases le : lvN 0 (sT σ 0) (sc σ 3 c) (sD σ) (sc σ 1 c) ≤ sr σ 0 r
  · rw [if_pos (yle (by omega) (by omega) le), Nat.min_eq_left le]
    rcases k7 b0 with hk | hk | hk | hk | hk | hk | hk <;> rw [hk] <;> rfl
  · rw [if_neg (nle (a := lvN 0 (sT σ 0) (sc σ 3 c) (sD σ) (sc σ 1 c)) (b := sr σ 0 r) (by omega) (by omega) (by omega)), Nat.min_eq_right (by omega)]
    rcases k7 b0 with hk | hk | hk | hk | hk | hk | hk <;> rw [hk] <;> rfl
theorem x5_nextOver {C : pm_M} {p B : Nat} {σ : sg} (hB : B < 2 ^ 20) (hw : WF B σ) (h : VC C p σ) {c : Nat} (hc : c < sC σ) : f_X5_nextOver p C (nI c) = some (nI (nx σ c), C) := by
  have h5 : sC σ ≤ 5 := hw.2.1
  have h6 : sR σ ≤ 6 := hw.1
  have h0 : 0 < sR σ := hw.2.2.1 (by omega)
  have hD : sD σ ≤ B := hw.2.2.2.1
  have b0 : sc σ 0 c ≤ 6 := hw.2.2.2.2.2.2.2.2.1 0 c hc (by decide)
  have b1 : sc σ 1 c ≤ 9 := hw.2.2.2.2.2.2.2.2.1 1 c hc (by decide)
  have b2 : sc σ 2 c ≤ sR σ - 1 := hw.2.2.2.2.2.2.2.2.1 2 c hc (by decide)
  obtain ⟨e0, e1, e2, e3⟩ := cellC hw h hc
  have ed : C p 3 = nI (sD σ) := h.2.2.1
  have er : C (p + 1) 0 = nI (sR σ) := h.1
  have rest : ∀ g : Nat, g < 2 ^ 30 → f_X5_rest C (nI g) (nI (sR σ)) = some (nI (g % sR σ), C) := fun g hg => by
    unfold f_X5_rest
    rw [if_neg (show ¬ nI (sR σ) ≤ 0 from nle (b := 0) (by omega) (by decide) h0), chk_t (nz_t (nne (b := 0) (by omega) (by decide) (by omega))), show pm_rem (nI g) (nI (sR σ)) = nI (g % sR σ) from pk_rem (by omega) h0 (by omega)]
  unfold f_X5_nextOver
  rw [chk_t (in_nI (n := c) (by omega) (by decide)), let_s, nI_clamp (n := c) (by omega), e0, chk_t (in_nI (n := c) (by omega) (by decide)), let_s, chk_t (in_nI (n := c) (by omega) (by decide)), let_s, chk_t (in_nI (n := c) (by omega) (by decide)), chk_t (in_nI (n := c) (by omega) (by decide)), let_s, let_s, e1, e2, ed, er, nI_p1, nI_add, rest _ (by omega), rest _ (by omega), rest _ (by omega), rest _ (by omega)]
  unfold nx
  rcases k7 b0 with hk | hk | hk | hk | hk | hk | hk <;> rw [hk] <;> rfl
theorem x8_driftsTo {D : pm_M} {B : Nat} {σ : sg} (hB : B < 2 ^ 20) (hw : WF B σ) (h : VM (D 1) σ) {c : Nat} (hc : c < sC σ) : f_X8_driftsTo D (nI c) = some (nI (nx σ c), D) := by
  have h5 : sC σ ≤ 5 := hw.2.1
  have h6 : sR σ ≤ 6 := hw.1
  have h0 : 0 < sR σ := hw.2.2.1 (by omega)
  have hD : sD σ ≤ B := hw.2.2.2.1
  have b0 : sc σ 0 c ≤ 6 := hw.2.2.2.2.2.2.2.2.1 0 c hc (by decide)
  have b1 : sc σ 1 c ≤ 9 := hw.2.2.2.2.2.2.2.2.1 1 c hc (by decide)
  have b2 : sc σ 2 c ≤ sR σ - 1 := hw.2.2.2.2.2.2.2.2.1 2 c hc (by decide)
  obtain ⟨e0, e1, e2, e3⟩ := cellD h hc
  have ed : D 1 2 = nI (sD σ) := h.2.2.1
  have er : D 1 0 = nI (sR σ) := h.1
  have nz : pm_nz (nI (sR σ)) = true := nz_t (nne (b := 0) (by omega) (by decide) (by omega))
  have rm : ∀ g : Nat, g < 2 ^ 30 → pm_rem (nI g) (nI (sR σ)) = nI (g % sR σ) := fun g hg => pk_rem (by omega) h0 (by omega)
  unfold f_X8_driftsTo
  rw [x8_of (w := 2) (z := 2) rfl (by omega) (by decide), b2_s, let_s, x8_of (w := 0) (z := 0) rfl (by omega) (by decide), b2_s, x8_of (w := 1) (z := 1) rfl (by omega) (by decide), b2_s, let_s, b2_s, let_s, tn_0, tn_2, e0, e1, e2, ed, er, chk_t nz, chk_t nz, chk_t nz, chk_t nz, nI_p1, nI_add, rm _ (by omega), rm _ (by omega), rm _ (by omega), rm _ (by omega)]
  unfold nx
  rcases k7 b0 with hk | hk | hk | hk | hk | hk | hk <;> rw [hk] <;> rfl
