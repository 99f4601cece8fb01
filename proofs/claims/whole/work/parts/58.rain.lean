/-! rain -/
theorem zr_loop {pl : Nat} {lb : (Int32 → pm_M → Option pm_M) → Int32 → pm_M → Option pm_M} (hlb : ∀ ih l M, lb ih l M = (if 6 ≤ l then (some M) else (pm_chk (pm_in l 6) (pm_let (pm_up M pl l.toNatClampNeg 0) (fun M2 : pm_M => (ih (l + 1) M2)))))) : ∀ (d i : Nat) (C : pm_M), i + d = 6 → ∀ n : Nat, ∃ C' : pm_M, pm_it (fun _ _ => none) lb (n + d + 1) (nI i) C = some C' ∧ (∀ q, q ≠ pl → C' q = C q) ∧ (∀ k, i ≤ k → k < 6 → C' pl k = 0) ∧ (∀ k, k < i → C' pl k = C pl k) := by
  intro d
  induction d with
  | zero =>
    intro i C hi n
    refine ⟨C, ?_, fun _ _ => rfl, fun k a b => by omega, fun _ _ => rfl⟩
    show lb _ (nI i) C = _
    rw [hlb, if_pos (show (6 : Int32) ≤ nI i from yle (a := 6) (by decide) (by omega) (by omega))]
  | succ d ih =>
    intro i C hi n
    obtain ⟨C', e1, e2, e3, e4⟩ := ih (i + 1) (pm_up C pl i 0) (by omega) n
    refine ⟨C', ?_, fun q hq => (e2 q hq).trans (pm_up_o q hq), fun k a b => ?_, fun k hk => ?_⟩
    · show lb (pm_it (fun _ _ => none) lb (n + d + 1)) (nI i) C = _
      rw [hlb, if_neg (show ¬ (6 : Int32) ≤ nI i from nle (a := 6) (by decide) (by omega) (by omega)), chk_t (in_nI (n := i) (by omega) (by decide)), let_s, nI_clamp (n := i) (by omega), nI_p1]
      exact e1
    · by_cases c : k = i
      · subst c; rw [e4 k (by omega), up_s]
      · exact e3 k (by omega) b
    · rw [e4 k (by omega), up_i (by omega)]
theorem zr_all {pl : Nat} {lb : (Int32 → pm_M → Option pm_M) → Int32 → pm_M → Option pm_M} (hlb : ∀ ih l M, lb ih l M = (if 6 ≤ l then (some M) else (pm_chk (pm_in l 6) (pm_let (pm_up M pl l.toNatClampNeg 0) (fun M2 : pm_M => (ih (l + 1) M2)))))) (C : pm_M) : ∃ C' : pm_M, pm_it (fun _ _ => none) lb pm_F 0 C = some C' ∧ (∀ q, q ≠ pl → C' q = C q) ∧ (∀ k, k < 6 → C' pl k = nI 0) := by
  obtain ⟨C', e1, e2, e3, -⟩ := zr_loop hlb 6 0 C (by omega) 99993
  exact ⟨C', e1, e2, fun k hk => e3 k (Nat.zero_le _) hk⟩
def rq (i : Nat) (σ τ : sg) : Prop := τ.1 = σ.1 ∧ (∀ w r, w ≠ 2 → sr τ w r = sr σ w r) ∧ τ.2.2.1 = σ.2.2.1 ∧ (∀ w c, (w ≠ 3 ∨ i ≤ c) → sc τ w c = sc σ w c) ∧ τ.2.2.2.2 = σ.2.2.2.2
theorem rq.onE {i : Nat} {σ τ : sg} (h : rq i σ τ) {w c : Nat} : on τ w c = on σ w c := by
  obtain ⟨h1, h2, h3, h4, h5⟩ := h
  have e : sD τ = sD σ := by show τ.1.2.2.1 = _; rw [h1]
  unfold on
  rw [e, h4 2 c (Or.inl (by decide))]
theorem rq.dvE {i : Nat} {σ τ : sg} (h : rq i σ τ) {c r : Nat} (hc : i ≤ c) : dv τ c r = dv σ c r := by
  obtain ⟨h1, h2, h3, h4, h5⟩ := h
  have e : sD τ = sD σ := by show τ.1.2.2.1 = _; rw [h1]
  have eT : sT τ = sT σ := by show τ.2.2.2.2.1 = _; rw [h5]
  unfold dv
  rw [e, eT, h4 0 c (Or.inl (by decide)), h4 1 c (Or.inl (by decide)), h4 3 c (Or.inr hc), h2 0 r (by decide)]
theorem rq.sp {i : Nat} {σ τ : sg} (h : rq i σ τ) {c : Nat} (hc : i ≤ c) : spent τ c ↔ spent σ c := by
  obtain ⟨h1, h2, h3, h4, h5⟩ := h
  show lasts (sc τ 0 c) (sc τ 1 c) ≤ sc τ 3 c ↔ _
  rw [h4 0 c (Or.inl (by decide)), h4 1 c (Or.inl (by decide)), h4 3 c (Or.inr hc)]
def rs (σ : sg) (r v c u : Nat) : sg := (σ.1, f2 σ.2.1 2 r v, σ.2.2.1, f2 σ.2.2.2.1 3 c u, σ.2.2.2.2.1, σ.2.2.2.2.2.1, σ.2.2.2.2.2.2)
theorem rq.step {i : Nat} {σ τ : sg} (h : rq i σ τ) (r v u : Nat) : rq (i + 1) σ (rs τ r v i u) := by
  obtain ⟨h1, h2, h3, h4, h5⟩ := h
  refine ⟨h1, fun w r' hw => ?_, h3, fun w c hw => ?_, h5⟩
  · show f2 τ.2.1 2 r v w r' = _
    rw [f2_n (by omega)]; exact h2 w r' hw
  · show f2 τ.2.2.2.1 3 i u w c = _
    rw [f2_n (by omega)]; exact h4 w c (by omega)
theorem rq.keep {i : Nat} {σ τ : sg} (h : rq i σ τ) : rq (i + 1) σ τ := ⟨h.1, h.2.1, h.2.2.1, fun w c hw => h.2.2.2.1 w c (by omega), h.2.2.2.2⟩
def FDm (D D' : pm_M) : Prop := (∀ k, k ≠ 0 → k ≠ 1 → k ≠ 5 → k ≠ 6 → D' k = D k) ∧ (∀ j, (j < 5 ∨ 10 < j) → D' 0 j = D 0 j) ∧ ∀ k, 86 ≤ k → D' 1 k = D 1 k
theorem FDm.refl (D : pm_M) : FDm D D := ⟨fun _ _ _ _ _ => rfl, fun _ _ => rfl, fun _ _ => rfl⟩
theorem FDm.trans {D E F : pm_M} (h : FDm D E) (g : FDm E F) : FDm D F := ⟨fun k a b c d => (g.1 k a b c d).trans (h.1 k a b c d), fun j a => (g.2.1 j a).trans (h.2.1 j a), fun k a => (g.2.2 k a).trans (h.2.2 k a)⟩
theorem FDm.tx {D D' : pm_M} (h1 : ∀ k, k ≠ 0 → k ≠ 5 → D' k = D k) (h2 : ∀ j, (j < 5 ∨ 10 < j) → D' 0 j = D 0 j) : FDm D D' := ⟨fun k a _ b _ => h1 k a b, h2, fun k _ => by rw [h1 1 (by decide) (by decide)]⟩
theorem FDm.up1 {D : pm_M} {k : Nat} {x : Int32} (h : k < 86) : FDm D (pm_up D 1 k x) := ⟨fun q _ a _ _ => pm_up_o q a, fun j _ => by rw [pm_up_o 0 (by decide)], fun q a => up_i (by omega)⟩
theorem FDm.up6 {D : pm_M} {k : Nat} {x : Int32} : FDm D (pm_up D 6 k x) := ⟨fun q _ _ _ a => pm_up_o q a, fun j _ => by rw [pm_up_o 0 (by decide)], fun q a => by rw [pm_up_o 1 (by decide)]⟩
/-- both memories and the state between the clouds of a day's rain -/
def RN (p B : Nat) (σ : sg) (w i : Nat) (C0 D0 C D : pm_M) : Prop := ∃ (τ : sg) (f : Nat → Nat), WF B τ ∧ VC C p τ ∧ VM (D 1) τ ∧ rq i σ τ ∧ (∀ r, r < 6 → C (p + 27) r = nI (f r) ∧ D 6 r = nI (f r) ∧ f r ≤ 108 * i) ∧ aimed p σ w (sC σ) C ∧ (∀ q, (q < p ∨ p + 30 ≤ q) → C q = C0 q) ∧ FDm D0 D
set_option maxHeartbeats 4000000 in
theorem rn_loop {p B : Nat} {σ : sg} (hB : B < 2 ^ 20) {w : Nat} {r2 : Int32} (hr : 0 < sC σ → w < sR σ ∧ r2 = nI w) (h5 : sC σ ≤ 5) {C0 D0 : pm_M} : ∀ (d i : Nat) (C D : pm_M), i + d = sC σ → RN p B σ w i C0 D0 C D → ∀ n m : Nat, ∃ C' D', pm_it (fun _ _ => none) (lb_X5_rain_23 p) (n + d + 1) (nI i) C = some C' ∧ pm_it (fun _ _ => none) (lb_X8_dayGoes_28 r2) (m + d + 1) (nI i) D = some D' ∧ RN p B σ w (sC σ) C0 D0 C' D' := by
  intro d
  induction d with
  | zero =>
    intro i C D hi h n m
    have ei : i = sC σ := by omega
    obtain ⟨τ, f, h1, h2, h3, h4, h6, h7, h8, h9⟩ := id h
    have e1 : sC τ = sC σ := by show τ.1.2.1 = _; rw [h4.1]
    refine ⟨C, D, ?_, ?_, by rw [← ei]; exact h⟩
    · show lb_X5_rain_23 p _ (nI i) C = _
      rw [lb_X5_rain_23.eq_1, h2.2.1, if_pos (yle (by omega) (by omega) (by omega))]
    · show lb_X8_dayGoes_28 r2 _ (nI i) D = _
      rw [lb_X8_dayGoes_28.eq_1, tn_1, h3.2.1, if_pos (yle (by omega) (by omega) (by omega))]
  | succ d ih =>
    intro i C D hi h n m
    have hc : i < sC σ := by omega
    obtain ⟨hwR, hr2⟩ := hr (by omega)
    obtain ⟨τ, f, h1, h2, h3, h4, h6, h7, h8, h9⟩ := id h
    have eC : sC τ = sC σ := by show τ.1.2.1 = _; rw [h4.1]
    have eR : sR τ = sR σ := by show τ.1.1 = _; rw [h4.1]
    have eD : sD τ = sD σ := by show τ.1.2.2.1 = _; rw [h4.1]
    have hcτ : i < sC τ := by omega
    have hD : sD τ ≤ B := h1.2.2.2.1
    have h6R : sR τ ≤ 6 := h1.1
    have sp8 := x8_isSpent (D := D) B h1 h3 hcτ
    by_cases s : spent σ i
    · have sτ : spent τ i := (h4.sp (Nat.le_refl i)).mpr s
      obtain ⟨C', D', e1, e2, e3⟩ := ih (i + 1) C D (by omega) ⟨τ, f, h1, h2, h3, h4.keep, fun r hr6 => ⟨(h6 r hr6).1, (h6 r hr6).2.1, by have := (h6 r hr6).2.2; omega⟩, h7, h8, h9⟩ n m
      refine ⟨C', D', ?_, ?_, e3⟩
      · show lb_X5_rain_23 p (pm_it (fun _ _ => none) (lb_X5_rain_23 p) (n + d + 1)) (nI i) C = _
        rw [lb_X5_rain_23.eq_1, h2.2.1, if_neg (nle (a := sC τ) (b := i) (by omega) (by omega) hcτ), chk_t (in_nI (n := i) (by omega) (by decide)), let_s, nI_clamp (n := i) (by omega), ((h7 i hc).1 s).1, show f_X3_has (p + 1) C (-1) = some (0, C) from rfl, b2_s, if_pos rfl, nI_p1]
        exact e1
      · show lb_X8_dayGoes_28 r2 (pm_it (fun _ _ => none) (lb_X8_dayGoes_28 r2) (m + d + 1)) (nI i) D = _
        rw [lb_X8_dayGoes_28.eq_1, tn_1, h3.2.1, if_neg (nle (a := sC τ) (b := i) (by omega) (by omega) hcτ), sp8, b2_s, if_bi, if_pos sτ, nI_p1]
        exact e2
    · have sτ : ¬ spent τ i := fun q => s ((h4.sp (Nat.le_refl i)).mp q)
      obtain ⟨a28, a29⟩ := (h7 i hc).2 s
      have ho := on_b h1 (w := w) hcτ (by omega)
      have eon := h4.onE (w := w) (c := i)
      rw [eon] at ho
      have edv := h4.dvE (r := on σ w i) (Nat.le_refl i)
      have bdv := dv_b (r := on σ w i) h1 hcτ
      rw [edv] at bdv
      have ht : (if sD τ % 7 = 6 then w else sc τ 2 i) = on σ w i := eon
      generalize on σ w i = o at a28 a29 ho edv bdv ht
      generalize dv σ i o = v at a29 edv bdv
      have ho6 : o < 6 := by omega
      obtain ⟨f1, f2', f3⟩ := h6 o ho6
      have bg : sr τ 2 o ≤ 99999 := h1.2.2.2.2.1 2 o (by decide)
      have bw : sc τ 3 i ≤ 99 := h1.2.2.2.2.2.2.2.2.1 3 i hcτ (by decide)
      have vr := VC.rf (p := p) 2 o (min 99999 (sr τ 2 o + v)) (VC.congr (C' := pm_up C (p + 27) o (nI (f o + v))) h2 (fun q a b _ _ => pm_up_o q (by omega))) (by decide)
      have vc := VC.cf (p := p) 3 i (min 99 (sc τ 3 i + 1)) vr (by decide)
      have wr := wf_rf h1 (w := 2) (r := o) (v := min 99999 (sr τ 2 o + v)) (by omega) (by decide) (Nat.min_le_left _ _)
      have wc := wf_cf wr (w := 3) (c := i) (v := min 99 (sc τ 3 i + 1)) hcτ (by decide) (Nat.min_le_left _ _)
      obtain ⟨D1, k1, k2, k3⟩ := x8_fallsOn hB h1 h2 h3 (r := o) hcτ (by omega)
      rw [edv] at k1
      have D11 : D1 1 = D 1 := k2 1 (by decide) (by decide)
      have D16 : D1 6 = D 6 := k2 6 (by decide) (by decide)
      have mr := VM.rf 2 o (min 99999 (sr τ 2 o + v)) h3 h1 (by omega) (by decide)
      have mc := VM.cf 3 i (min 99 (sc τ 3 i + 1)) mr wr hcτ (by decide)
      have nxt : RN p B σ w (i + 1) C0 D0 (pm_up (pm_up (pm_up C (p + 27) o (nI (f o + v))) (p + 2 + 2) o (nI (min 99999 (sr τ 2 o + v)))) (p + 14 + 3) i (nI (min 99 (sc τ 3 i + 1)))) (pm_up (pm_up (pm_up D1 6 o (nI (f o + v))) 1 (6 + 4 * o + 2) (nI (min 99999 (sr τ 2 o + v)))) 1 (66 + 4 * i + 3) (nI (min 99 (sc τ 3 i + 1)))) := by
        refine ⟨rs τ o (min 99999 (sr τ 2 o + v)) i (min 99 (sc τ 3 i + 1)), fun r => if r = o then f o + v else f r, wc, vc, ?_, h4.step _ _ _, fun r hr6 => ?_, fun c hc' => ?_, fun q hq => ?_, ?_⟩
        · rw [pm_up_s, pm_up_s, pm_up_o 1 (by decide), D11]; exact mc
        · have q1 := h6 r hr6
          by_cases e : r = o
          · subst e
            refine ⟨?_, ?_, ?_⟩
            · show _ = nI (if r = r then f r + v else f r)
              rw [if_pos rfl, up_k (k' := p + 27) (by omega), up_k (k' := p + 27) (by omega), up_s]
            · show _ = nI (if r = r then f r + v else f r)
              rw [if_pos rfl, up_k (k' := 6) (by decide), up_k (k' := 6) (by decide), up_s]
            · show (if r = r then f r + v else f r) ≤ _
              rw [if_pos rfl]; omega
          · refine ⟨?_, ?_, ?_⟩
            · show _ = nI (if r = o then f o + v else f r)
              rw [if_neg e, up_k (k' := p + 27) (by omega), up_k (k' := p + 27) (by omega), up_i e]; exact q1.1
            · show _ = nI (if r = o then f o + v else f r)
              rw [if_neg e, up_k (k' := 6) (by decide), up_k (k' := 6) (by decide), up_i e, D16]; exact q1.2.1
            · show (if r = o then f o + v else f r) ≤ _
              rw [if_neg e]; have := q1.2.2; omega
        · rw [up_k (by omega), up_k (by omega), up_k (by omega), up_k (by omega), up_k (by omega), up_k (by omega)]; exact h7 c hc'
        · rw [pm_up_o q (by omega), pm_up_o q (by omega), pm_up_o q (by omega)]; exact h8 q hq
        · exact (((h9.trans (FDm.tx k2 k3)).trans FDm.up6).trans (FDm.up1 (by omega))).trans (FDm.up1 (by omega))
      obtain ⟨C', D', e1, e2, e3⟩ := ih (i + 1) _ _ (by omega) nxt n m
      refine ⟨C', D', ?_, ?_, e3⟩
      · show lb_X5_rain_23 p (pm_it (fun _ _ => none) (lb_X5_rain_23 p) (n + d + 1)) (nI i) C = _
        have c3 : C (p + 2 + 2) o = nI (sr τ 2 o) := h2.2.2.2.2.2.2.1 2 o (by decide) ho6
        have c4 : C (p + 14 + 3) i = nI (sc τ 3 i) := h2.2.2.2.2.2.2.2.2.1 3 i (by decide) hcτ
        rw [lb_X5_rain_23.eq_1, h2.2.1, if_neg (nle (a := sC τ) (b := i) (by omega) (by omega) hcτ), chk_t (in_nI (n := i) (by omega) (by decide)), let_s, nI_clamp (n := i) (by omega), a28, x3_hasn (r := o) h2.1 (by omega) (by omega), b2_s, if_neg (show ¬ (1 : Int32) = 0 by decide), chk_t (in_nI (n := o) (by omega) (by decide)), chk_t (in_nI (n := i) (by omega) (by decide)), chk_t (in_nI (n := o) (by omega) (by decide)), let_s, chk_t (in_nI (n := o) (by omega) (by decide)), chk_t (in_nI (n := i) (by omega) (by decide)), chk_t (in_nI (n := o) (by omega) (by decide)), let_s, chk_t (in_nI (n := i) (by omega) (by decide)), chk_t (in_nI (n := i) (by omega) (by decide)), let_s, nI_clamp (n := o) (by omega), f1, a29, nI_add, show p + 1 + 3 = p + 2 + 2 by omega, show p + 13 + 4 = p + 14 + 3 by omega, up_k (k := p + 27) (k' := p + 2 + 2) (by omega), up_k (k := p + 27) (k' := p + 29) (by omega), a29, c3, nI_add, show pm_min 99999 (nI (sr τ 2 o + v)) = nI (min 99999 (sr τ 2 o + v)) from nI_min (a := 99999) (by decide) (by omega), up_k (k := p + 2 + 2) (k' := p + 14 + 3) (by omega), up_k (k := p + 27) (k' := p + 14 + 3) (by omega), c4, nI_p1 (n := sc τ 3 i), show pm_min 99 (nI (sc τ 3 i + 1)) = nI (min 99 (sc τ 3 i + 1)) from nI_min (a := 99) (by decide) (by omega), nI_p1 (n := i)]
        exact e1
      · show lb_X8_dayGoes_28 r2 (pm_it (fun _ _ => none) (lb_X8_dayGoes_28 r2) (m + d + 1)) (nI i) D = _
        have d3 : D 1 (6 + 4 * o + 2) = nI (sr τ 2 o) := h3.2.2.2.2.2.2.1 o 2 (by omega) (by decide)
        have d4 : D 1 (66 + 4 * i + 3) = nI (sc τ 3 i) := h3.2.2.2.2.2.2.2.2.1 i 3 hcτ (by decide)
        have fw : f_X8_fallsWhere D (nI i) r2 = some (nI o, D) := by
          unfold f_X8_fallsWhere
          have r7 := rem7 (C := D 1 2) (d := sD τ) (by omega) h3.2.2.1
          rw [tn_2]
          by_cases sun : sD τ % 7 = 6
          · rw [if_pos (r7.mpr sun), hr2, ← ht, if_pos sun]
          · rw [if_neg (fun q => sun (r7.mp q)), x8_of (w := 2) (z := 2) rfl (by omega) (by decide), b2_s, ← ht, if_neg sun, (cellD h3 hcτ).2.2.1]
        have hg : f_X8_held (pm_up D1 6 o (nI (f o + v))) (nI (sr τ 2 o + v)) 0 99999 = some (nI (min 99999 (sr τ 2 o + v)), pm_up D1 6 o (nI (f o + v))) := held_nI (by omega) (by decide) _ rfl
        have hw2 : ∀ M, f_X8_held M (nI (sc τ 3 i + 1)) 0 99 = some (nI (min 99 (sc τ 3 i + 1)), M) := fun M => held_nI (by omega) (by decide) _ rfl
        rw [lb_X8_dayGoes_28.eq_1, tn_1, h3.2.1, if_neg (nle (a := sC τ) (b := i) (by omega) (by omega) hcτ), sp8, b2_s, if_bi, if_neg sτ, fw, b2_s, k1, b2_s, chk_t (in_nI (n := o) (by omega) (by decide)), chk_t (in_nI (n := o) (by omega) (by decide)), let_s, nI_clamp (n := o) (by omega), D16, f2', nI_add, x8_its (w := 2) (z := 2) rfl (by omega) (by decide), b2_s, up_k (by decide), D11, d3, nI_add, hg, b2_s, ix6 o 2 2 rfl, chk_t (in_nI (n := 6 + 4 * o + 2) (by omega) (by decide)), let_s, nI_clamp (n := 6 + 4 * o + 2) (by omega), x8_of (w := 3) (z := 3) rfl (by omega) (by decide), b2_s, up_i (by omega), up_k (by decide), D11, d4, nI_p1 (n := sc τ 3 i), hw2, b2_s, ix66 i 3 3 rfl, chk_t (in_nI (n := 66 + 4 * i + 3) (by omega) (by decide)), let_s, nI_clamp (n := 66 + 4 * i + 3) (by omega), nI_p1 (n := i)]
        exact e2
