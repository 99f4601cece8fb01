theorem if_bi {α : Type} {p : Prop} [Decidable p] {A B : α} : (if bi p = 0 then A else B) = (if p then B else A) := by
  by_cases h : p
  · rw [bi_t h, if_neg (by decide), if_pos h]
  · rw [bi_f h, if_pos rfl, if_neg h]
theorem li0 : (0 : Int32).toInt = 0 := rfl
theorem li1 : (1 : Int32).toInt = 1 := rfl
theorem li2 : (2 : Int32).toInt = 2 := rfl
theorem li3 : (3 : Int32).toInt = 3 := rfl
theorem li5 : (5 : Int32).toInt = 5 := rfl
theorem li6 : (6 : Int32).toInt = 6 := rfl
theorem li20 : (20 : Int32).toInt = 20 := rfl
theorem li40 : (40 : Int32).toInt = 40 := rfl
theorem li60 : (60 : Int32).toInt = 60 := rfl
theorem li69 : (69 : Int32).toInt = 69 := rfl
theorem li8 : (8 : Int32).toInt = 8 := rfl
theorem li99 : (99 : Int32).toInt = 99 := rfl
theorem li999 : (999 : Int32).toInt = 999 := rfl
theorem li9999 : (9999 : Int32).toInt = 9999 := rfl
theorem ll0 : (0 : Int64).toInt = 0 := rfl
theorem ll1 : (1 : Int64).toInt = 1 := rfl
theorem ll2 : (2 : Int64).toInt = 2 := rfl
theorem ll3 : (3 : Int64).toInt = 3 := rfl
theorem ll5 : (5 : Int64).toInt = 5 := rfl
theorem ll6 : (6 : Int64).toInt = 6 := rfl
theorem ll7 : (7 : Int64).toInt = 7 := rfl
theorem ll8 : (8 : Int64).toInt = 8 := rfl
theorem ll20 : (20 : Int64).toInt = 20 := rfl
theorem ll40 : (40 : Int64).toInt = 40 := rfl
theorem ll60 : (60 : Int64).toInt = 60 := rfl
theorem ll69 : (69 : Int64).toInt = 69 := rfl
theorem ll99 : (99 : Int64).toInt = 99 := rfl
theorem ll999 : (999 : Int64).toInt = 999 := rfl
theorem ll9999 : (9999 : Int64).toInt = 9999 := rfl
/-- a number between lo and hi -/
theorem vx {x : Int32} {lo hi : Nat} (hh : hi < 2 ^ 31) (h : (lo : Int) ≤ x.toInt ∧ x.toInt ≤ (hi : Int)) : ∃ v : Nat, lo ≤ v ∧ v ≤ hi ∧ x = nI v := by
  refine ⟨x.toInt.toNat, by omega, by omega, Int32.toInt_inj.mp ?_⟩
  rw [nI_toInt (by omega)]; omega
theorem m1_toInt {n : Nat} (h : n < 2 ^ 30) : (nI n - 1).toInt = (n : Int) - 1 := by
  rw [show (1 : Int32) = nI 1 from rfl, pk_sub_toInt h (by decide)]; rfl
theorem x3_has {M : pm_M} {p n : Nat} {x : Int32} (h : M p 0 = nI n) (hn : n < 2 ^ 30) : f_X3_has p M x = some (bi (0 ≤ x.toInt ∧ x.toInt ≤ (n : Int) - 1), M) := by
  unfold f_X3_has
  rw [h]
  by_cases h1 : x < 0
  · have := Int32.lt_iff_toInt_lt.mp h1
    rw [li0] at this
    rw [if_pos h1, bi_f (by omega)]
  · have h1' : ¬ x.toInt < 0 := fun q => h1 (Int32.lt_iff_toInt_lt.mpr (by rw [li0]; exact q))
    rw [if_neg h1]
    by_cases h2 : nI n ≤ x
    · have := Int32.le_iff_toInt_le.mp h2
      rw [nI_toInt (by omega)] at this
      rw [if_pos h2, bi_f (by omega)]
    · have h2' : ¬ (n : Int) ≤ x.toInt := fun q => h2 (Int32.le_iff_toInt_le.mpr (by rw [nI_toInt (by omega)]; exact q))
      rw [if_neg h2, bi_t (by omega)]
theorem x8_isRoof {M : pm_M} {n : Nat} {x : Int32} (h : M 1 0 = nI n) (hn : n < 2 ^ 30) : f_X8_isRoof M x = some (bi (0 ≤ x.toInt ∧ x.toInt ≤ (n : Int) - 1), M) := by
  unfold f_X8_isRoof
  rw [tn_0, h, x8_in, b2_s, chk_bi, i64, i64, ll0, m1_toInt hn]
theorem x3_areTwo {M : pm_M} {p n : Nat} {x y : Int32} (h : M p 0 = nI n) (hn : n < 2 ^ 30) : f_X3_areTwo p M x y = some (bi ((0 ≤ x.toInt ∧ x.toInt ≤ (n : Int) - 1) ∧ (0 ≤ y.toInt ∧ y.toInt ≤ (n : Int) - 1) ∧ ¬ x = y), M) := by
  unfold f_X3_areTwo
  rw [x3_has h hn, b2_s, if_bi]
  by_cases h1 : 0 ≤ x.toInt ∧ x.toInt ≤ (n : Int) - 1
  · rw [if_pos h1, x3_has h hn, b2_s, if_bi]
    by_cases h2 : 0 ≤ y.toInt ∧ y.toInt ≤ (n : Int) - 1
    · rw [if_pos h2]
      by_cases h3 : x = y
      · rw [if_pos h3, bi_f (fun q => q.2.2 h3)]
      · rw [if_neg h3, bi_t ⟨h1, h2, h3⟩]
    · rw [if_neg h2, bi_f (fun q => h2 q.2.1)]
  · rw [if_neg h1, bi_f (fun q => h1 q.1)]
theorem x8_areTwo {M : pm_M} {n : Nat} {x y : Int32} (h : M 1 0 = nI n) (hn : n < 2 ^ 30) : f_X8_areTwo M x y = some (bi ((0 ≤ x.toInt ∧ x.toInt ≤ (n : Int) - 1) ∧ (0 ≤ y.toInt ∧ y.toInt ≤ (n : Int) - 1) ∧ ¬ x = y), M) := by
  unfold f_X8_areTwo
  rw [x8_isRoof h hn, b2_s, if_bi]
  by_cases h1 : 0 ≤ x.toInt ∧ x.toInt ≤ (n : Int) - 1
  · rw [if_pos h1, x8_isRoof h hn, b2_s, if_bi]
    by_cases h2 : 0 ≤ y.toInt ∧ y.toInt ≤ (n : Int) - 1
    · rw [if_pos h2]
      by_cases h3 : x = y
      · rw [if_pos h3, bi_f (fun q => q.2.2 h3)]
      · rw [if_neg h3, bi_t ⟨h1, h2, h3⟩]
    · rw [if_neg h2, bi_f (fun q => h2 q.2.1)]
  · rw [if_neg h1, bi_f (fun q => h1 q.1)]
theorem ix6 (r w : Nat) (z : Int32) (hz : z = nI w) : (6 + (4 * nI r)) + z = nI (6 + 4 * r + w) := by
  subst hz; show (nI 6 + nI 4 * nI r) + nI w = _; rw [pk_mul, nI_add, nI_add]
theorem ix66 (r w : Nat) (z : Int32) (hz : z = nI w) : (66 + (4 * nI r)) + z = nI (66 + 4 * r + w) := by
  subst hz; show (nI 66 + nI 4 * nI r) + nI w = _; rw [pk_mul, nI_add, nI_add]
theorem ix30 (a b : Nat) : (30 + (6 * nI a)) + nI b = nI (30 + 6 * a + b) := by
  show (nI 30 + nI 6 * nI a) + nI b = _; rw [pk_mul, nI_add, nI_add]
theorem x8_its {M : pm_M} {r w : Nat} {z : Int32} (hz : z = nI w) (hr : r < 6) (hw : w < 4) : f_X8_its M (nI r) z = some (M 1 (6 + 4 * r + w), M) := by
  unfold f_X8_its
  rw [ix6 r w z hz, chk_t (in_nI (by omega) (by decide)), nI_clamp (by omega)]
theorem x8_of {M : pm_M} {c w : Nat} {z : Int32} (hz : z = nI w) (hr : c < 5) (hw : w < 4) : f_X8_of M (nI c) z = some (M 1 (66 + 4 * c + w), M) := by
  unfold f_X8_of
  rw [ix66 c w z hz, chk_t (in_nI (by omega) (by decide)), nI_clamp (by omega)]
theorem sub_nI {a b : Nat} (h : b ≤ a) : nI a - nI b = nI (a - b) := pk_sub h
theorem wf_rf {B : Nat} {σ : sg} (h : WF B σ) {w r v : Nat} (hr : r < sR σ) (hw : w < 4) (hv : v ≤ rf_most w) : WF B (σ.1, f2 σ.2.1 w r v, σ.2.2) := by
  obtain ⟨b1, b2, b3, b4, b5, b6, b7, b8, b9, b10, b11, b12⟩ := h
  refine ⟨b1, b2, b3, b4, fun w' r' hw' => ?_, fun w' r' hr' => ?_, b7, b8, b9, b10, b11, b12⟩
  · show f2 σ.2.1 w r v w' r' ≤ _
    by_cases e : w' = w ∧ r' = r
    · obtain ⟨rfl, rfl⟩ := e; rw [f2_s]; exact hv
    · rw [f2_n e]; exact b5 w' r' hw'
  · show f2 σ.2.1 w r v w' r' = 0
    have hr' : sR σ ≤ r' := hr'
    rw [f2_n (fun e => by omega)]; exact b6 w' r' hr'
theorem wf_of {B : Nat} {σ : sg} (h : WF B σ) {a b v : Nat} (ha : a < sR σ) (hb : b < sR σ) (hab : a ≠ b) (hv : v ≤ 999) : WF B (σ.1, σ.2.1, f2 σ.2.2.1 a b v, σ.2.2.2) := by
  obtain ⟨b1, b2, b3, b4, b5, b6, b7, b8, b9, b10, b11, b12⟩ := h
  refine ⟨b1, b2, b3, b4, b5, b6, fun a' b' => ?_, fun a' b' hh => ?_, b9, b10, b11, b12⟩
  · show f2 σ.2.2.1 a b v a' b' ≤ _
    by_cases e : a' = a ∧ b' = b
    · obtain ⟨rfl, rfl⟩ := e; rw [f2_s]; exact hv
    · rw [f2_n e]; exact b7 a' b'
  · show f2 σ.2.2.1 a b v a' b' = 0
    have hh : sR σ ≤ a' ∨ sR σ ≤ b' ∨ a' = b' := hh
    rw [f2_n (fun e => by omega)]; exact b8 a' b' hh
theorem wf_cf {B : Nat} {σ : sg} (h : WF B σ) {w c v : Nat} (hc : c < sC σ) (hw : w < 4) (hv : v ≤ cf_most w (sR σ)) : WF B (σ.1, σ.2.1, σ.2.2.1, f2 σ.2.2.2.1 w c v, σ.2.2.2.2) := by
  obtain ⟨b1, b2, b3, b4, b5, b6, b7, b8, b9, b10, b11, b12⟩ := h
  refine ⟨b1, b2, b3, b4, b5, b6, b7, b8, fun w' c' hc' hw' => ?_, b10, b11, b12⟩
  show f2 σ.2.2.2.1 w c v w' c' ≤ _
  by_cases e : w' = w ∧ c' = c
  · obtain ⟨rfl, rfl⟩ := e; rw [f2_s]; exact hv
  · rw [f2_n e]; exact b9 w' c' hc' hw'
theorem e_seed {C D : pm_M} (h : RR C D) (x1 : Int32) : ∃ (r : Int32) (C' D' : pm_M), f_X7_seed C x1 = some (r, C') ∧ f_X8_seed D x1 = some (r, D') ∧ RR C' D' := by
  obtain ⟨⟨σ, h1, h2, h3⟩, h4⟩ := id h
  have hz : D 1 3 = C 1 4 := h3.2.2.2.1.trans h2.2.2.2.1.symm
  refine ⟨C 1 4, pm_up C 1 4 x1, pm_up D 1 3 x1, rfl, by rw [← hz]; rfl, ?_⟩
  exact h.now (σ := ((σ.1.1, σ.1.2.1, σ.1.2.2.1, x1), σ.2.1, σ.2.2.1, σ.2.2.2.1, σ.2.2.2.2.1, σ.2.2.2.2.2.1, σ.2.2.2.2.2.2)) h1 (h2.sz x1) (by rw [pm_up_s]; exact h3.sz x1 h1) (fun q hq => pm_up_o q (by omega)) (fun q hq => pm_up_o q hq)
theorem ow_eq {C D : pm_M} {σ : sg} (h2 : VC C 1 σ) (h3 : VM (D 1) σ) {a b : Nat} (ha : a < 6) (hb : b < 6) : C (1 + 1 + 6 + a) b = D 1 (30 + 6 * a + b) := by
  rw [show 1 + 1 + 6 + a = 1 + 7 + a by omega]
  exact (h2.2.2.2.2.2.2.2.1 a b ha hb).trans (h3.2.2.2.2.2.2.2.1 a b ha hb).symm
theorem rf_eq {C D : pm_M} {σ : sg} (h2 : VC C 1 σ) (h3 : VM (D 1) σ) {w r : Nat} (hw : w < 4) (hr : r < sR σ) (h6 : r < 6) : C (1 + 2 + w) r = D 1 (6 + 4 * r + w) := (h2.2.2.2.2.2.2.1 w r hw h6).trans (h3.2.2.2.2.2.2.1 r w hr hw).symm
theorem cf_eq {C D : pm_M} {σ : sg} (h2 : VC C 1 σ) (h3 : VM (D 1) σ) {w c : Nat} (hw : w < 4) (hc : c < sC σ) : C (1 + 14 + w) c = D 1 (66 + 4 * c + w) := (h2.2.2.2.2.2.2.2.2.1 w c hw hc).trans (h3.2.2.2.2.2.2.2.2.1 c w hc hw).symm
theorem x7_replace {M : pm_M} {n a i : Nat} {v most : Int32} (hi : i < n) (hn : n < 2 ^ 31) : f_X7_replace M n a (nI i) v most = (if 0 ≤ v.toInt ∧ v.toInt ≤ most.toInt then some (M a i, pm_up M a i v) else some (-1000000000 - 1, pm_up M 105 1 (M 105 1 + 1))) := by
  unfold f_X7_replace
  rw [x7_within, b2_s, if_bi, li0]
  by_cases h : 0 ≤ v.toInt ∧ v.toInt ≤ most.toInt
  · rw [if_pos h, if_pos h, chk_t (in_nI hi hn), let_s, chk_t (in_nI hi hn), let_s, nI_clamp (by omega)]
  · rw [if_neg h, if_neg h, x7_e1, b2_s]
set_option maxHeartbeats 2000000 in
theorem e_owed {C D : pm_M} (h : RR C D) (x1 : Int32) (x2 : Int32) : ∃ (r : Int32) (C' D' : pm_M), f_X7_owed C x1 x2 = some (r, C') ∧ f_X8_owed D x1 x2 = some (r, D') ∧ RR C' D' := by
  obtain ⟨⟨σ, h1, h2, h3⟩, h4⟩ := id h
  have hR : sR σ ≤ 6 := h1.1
  unfold f_X7_owed f_X8_owed
  rw [x3_areTwo (n := sR σ) h2.1 (by omega), x8_areTwo (n := sR σ) h3.1 (by omega), b2_s, b2_s, if_bi, if_bi]
  by_cases hc : (0 ≤ x1.toInt ∧ x1.toInt ≤ (sR σ : Int) - 1) ∧ (0 ≤ x2.toInt ∧ x2.toInt ≤ (sR σ : Int) - 1) ∧ ¬ x1 = x2
  · rw [if_pos hc, if_pos hc]
    obtain ⟨a, -, ha, rfl⟩ := vx (lo := 0) (hi := 5) (by decide) (x := x1) (by omega)
    obtain ⟨b, -, hb, rfl⟩ := vx (lo := 0) (hi := 5) (by decide) (x := x2) (by omega)
    rw [chk_t (in_nI (by omega) (by decide)), chk_t (in_nI (by omega) (by decide)), ix30, chk_t (in_nI (by omega) (by decide)), nI_clamp (by omega), nI_clamp (by omega), nI_clamp (by omega)]
    refine ⟨_, _, _, rfl, ?_, h⟩
    rw [ow_eq h2 h3 (by omega) (by omega)]
  · rw [if_neg hc, if_neg hc, x7_e1, x8_e1, b2_s, b2_s]
    exact ⟨_, _, _, rfl, rfl, h.err 1⟩

set_option maxHeartbeats 2000000 in
theorem e_owe {C D : pm_M} (h : RR C D) (x1 : Int32) (x2 : Int32) (x3 : Int32) : ∃ (r : Int32) (C' D' : pm_M), f_X7_owe C x1 x2 x3 = some (r, C') ∧ f_X8_owe D x1 x2 x3 = some (r, D') ∧ RR C' D' := by
  obtain ⟨⟨σ, h1, h2, h3⟩, h4⟩ := id h
  have hR : sR σ ≤ 6 := h1.1
  unfold f_X7_owe f_X8_owe
  rw [x3_areTwo (n := sR σ) h2.1 (by omega), x8_areTwo (n := sR σ) h3.1 (by omega), b2_s, b2_s, if_bi, if_bi]
  by_cases hc : (0 ≤ x1.toInt ∧ x1.toInt ≤ (sR σ : Int) - 1) ∧ (0 ≤ x2.toInt ∧ x2.toInt ≤ (sR σ : Int) - 1) ∧ ¬ x1 = x2
  · rw [if_pos hc, if_pos hc, x8_in, b2_s, if_bi, i64, ll0, ll999]
    obtain ⟨a, -, ha, rfl⟩ := vx (lo := 0) (hi := 5) (by decide) (x := x1) (by omega)
    obtain ⟨b, -, hb, rfl⟩ := vx (lo := 0) (hi := 5) (by decide) (x := x2) (by omega)
    have haR : a < sR σ := by have := hc.1.2; rw [nI_toInt (by omega)] at this; omega
    have hbR : b < sR σ := by have := hc.2.1.2; rw [nI_toInt (by omega)] at this; omega
    have hab : a ≠ b := fun e => hc.2.2 (by rw [e])
    rw [chk_t (in_nI (by omega) (by decide)), x7_replace (by omega) (by decide), li999, nI_clamp (by omega)]
    by_cases hv : 0 ≤ x3.toInt ∧ x3.toInt ≤ 999
    · rw [if_pos hv, if_pos hv, b2_s, ix30, chk_t (in_nI (by omega) (by decide)), let_s, chk_t (in_nI (by omega) (by decide)), let_s, nI_clamp (by omega), ow_eq h2 h3 (by omega) (by omega)]
      obtain ⟨v, -, hv2, rfl⟩ := vx (lo := 0) (hi := 999) (by decide) hv
      refine ⟨_, _, _, rfl, rfl, h.now (wf_of h1 haR hbR hab hv2) ?_ ?_ (fun q hq => pm_up_o q (by omega)) (fun q hq => pm_up_o q hq)⟩
      · rw [show 1 + 1 + 6 + a = 1 + 7 + a by omega]; exact h2.of a b v (by omega)
      · rw [pm_up_s]; exact h3.of a b v h1 (by omega) (by omega)
    · rw [if_neg hv, if_neg hv, x8_e1, b2_s, b2_s]
      exact ⟨_, _, _, rfl, rfl, h.err 1⟩
  · rw [if_neg hc, if_neg hc, x7_e1, x8_e1, b2_s, b2_s]
    exact ⟨_, _, _, rfl, rfl, h.err 1⟩
set_option maxHeartbeats 2000000 in
theorem e_pay {C D : pm_M} (h : RR C D) (x1 : Int32) (x2 : Int32) : ∃ (r : Int32) (C' D' : pm_M), f_X7_pay C x1 x2 = some (r, C') ∧ f_X8_pay D x1 x2 = some (r, D') ∧ RR C' D' := by
  obtain ⟨⟨σ, h1, h2, h3⟩, h4⟩ := id h
  have hR : sR σ ≤ 6 := h1.1
  unfold f_X7_pay f_X8_pay
  rw [x3_has (n := sR σ) h2.1 (by omega), x8_isRoof (n := sR σ) h3.1 (by omega), b2_s, b2_s, if_bi, if_bi]
  by_cases hc : 0 ≤ x1.toInt ∧ x1.toInt ≤ (sR σ : Int) - 1
  · rw [if_pos hc, if_pos hc, x7_within, x8_in, b2_s, b2_s, if_bi, if_bi, i64, li1, li9999, ll1, ll9999]
    obtain ⟨a, -, ha, rfl⟩ := vx (lo := 0) (hi := 5) (by decide) (x := x1) (by omega)
    have haR : a < sR σ := by have := hc.2; rw [nI_toInt (by omega)] at this; omega
    by_cases hv : 1 ≤ x2.toInt ∧ x2.toInt ≤ 9999
    · obtain ⟨v, hv1, hv2, rfl⟩ := vx (lo := 1) (hi := 9999) (by decide) hv
      have eC : C (1 + 1 + 2) a = nI (sr σ 1 a) := h2.2.2.2.2.2.2.1 1 a (by decide) (by omega)
      have eD : D 1 (6 + 4 * a + 1) = nI (sr σ 1 a) := h3.2.2.2.2.2.2.1 a 1 haR (by decide)
      have hb := h1.2.2.2.2.1 1 a (by decide)
      have hb : sr σ 1 a ≤ 9999 := hb
      rw [if_pos hv, if_pos hv, chk_t (in_nI (by omega) (by decide)), nI_clamp (by omega), x8_its (w := 1) (z := 1) rfl (by omega) (by decide), b2_s, eC, eD]
      by_cases hle : v ≤ sr σ 1 a
      · rw [if_pos ((nI_leI (by omega) (by omega)).mpr hle), if_pos ((nI_leI (by omega) (by omega)).mpr hle), chk_t (in_nI (by omega) (by decide)), chk_t (in_nI (by omega) (by decide)), let_s, chk_t (in_nI (by omega) (by decide)), up_s, ix6 a 1 1 rfl, let_s, chk_t (in_nI (by omega) (by decide)), chk_t (in_nI (by omega) (by decide)), let_s, nI_clamp (by omega), x8_its (w := 1) (z := 1) rfl (by omega) (by decide), b2_s, up_s, eD, sub_nI hle]
        refine ⟨_, _, _, rfl, rfl, h.now (wf_rf h1 haR (by decide : 1 < 4) (show sr σ 1 a - v ≤ 9999 by omega)) ?_ ?_ (fun q hq => pm_up_o q (by omega)) (fun q hq => pm_up_o q hq)⟩
        · exact h2.rf 1 a _ (by decide)
        · rw [pm_up_s]; exact h3.rf 1 a _ h1 haR (by decide)
      · rw [if_neg (fun q => hle ((nI_leI (by omega) (by omega)).mp q)), if_neg (fun q => hle ((nI_leI (by omega) (by omega)).mp q)), x7_e3, x8_e3, b2_s, b2_s]
        exact ⟨_, _, _, rfl, rfl, h.err 3⟩
    · rw [if_neg hv, if_neg hv, x7_e1, x8_e1, b2_s, b2_s]
      exact ⟨_, _, _, rfl, rfl, h.err 1⟩
  · rw [if_neg hc, if_neg hc, x7_e1, x8_e1, b2_s, b2_s]
    exact ⟨_, _, _, rfl, rfl, h.err 1⟩
