def f2 (f : Nat → Nat → Nat) (a b v : Nat) : Nat → Nat → Nat := fun a' b' => if a' = a ∧ b' = b then v else f a' b'
theorem f2_s {f : Nat → Nat → Nat} {a b v : Nat} : f2 f a b v a b = v := if_pos ⟨rfl, rfl⟩
theorem f2_n {f : Nat → Nat → Nat} {a b v a' b' : Nat} (h : ¬ (a' = a ∧ b' = b)) : f2 f a b v a' b' = f a' b' := if_neg h
theorem upd_s {f : Nat → Int32} {k : Nat} {x : Int32} : upd f k x k = x := pk_us
theorem upd_n {f : Nat → Int32} {k j : Nat} {x : Int32} (h : j ≠ k) : upd f k x j = f j := pk_un h
theorem gD_l {l : List Int32} {x : Int32} {i : Nat} (h : i < l.length) : (l ++ [x]).getD i 0 = l.getD i 0 := by
  simp [List.getD, List.getElem?_append_left h]
theorem gD_r {l : List Int32} {x : Int32} : (l ++ [x]).getD l.length 0 = x := by
  simp [List.getD]

theorem VM.day {g : Nat → Int32} {σ : sg} (n : Nat) (h : VM g σ) {B : Nat} (hw : WF B σ) : VM (upd g (2) (nI n)) (((σ.1.1, σ.1.2.1, n, σ.1.2.2.2), σ.2.1, σ.2.2.1, σ.2.2.2.1, σ.2.2.2.2.1, σ.2.2.2.2.2.1, σ.2.2.2.2.2.2)) := by
  obtain ⟨h1, h2, h3, h4, h5, h6, h7, h8, h9, h10, h11, h12, h13⟩ := h
  obtain ⟨b1, b2, b3, b4, b6, b7, b8, b9, b10, b5, b11, b12⟩ := hw
  exact ⟨by rw [upd_n (by omega)]; exact h1, by rw [upd_n (by omega)]; exact h2, upd_s, by rw [upd_n (by omega)]; exact h4, by rw [upd_n (by omega)]; exact h5, by rw [upd_n (by omega)]; exact h6, fun r w hr hw => by have hr : r < sR σ := hr; rw [upd_n (by omega)]; exact h7 r w hr hw, fun a b ha hb => by rw [upd_n (by omega)]; exact h8 a b ha hb, fun c w hc hw => by have hc : c < sC σ := hc; rw [upd_n (by omega)]; exact h9 c w hc hw, fun u hu => by rw [upd_n (by omega)]; exact h10 u hu, fun i hi => by have hi : i < (sW σ).length := hi; rw [upd_n (by omega)]; exact h11 i hi, fun u i hu hi => by have hi : i < (sT σ u).length := hi; have := b5 u; rw [upd_n (by omega)]; exact h12 u i hu hi, fun i hi => by have hi : i < (sP σ).length := hi; rw [upd_n (by omega)]; exact h13 i hi⟩
theorem VM.sz {g : Nat → Int32} {σ : sg} (x : Int32) (h : VM g σ) {B : Nat} (hw : WF B σ) : VM (upd g (3) (x)) (((σ.1.1, σ.1.2.1, σ.1.2.2.1, x), σ.2.1, σ.2.2.1, σ.2.2.2.1, σ.2.2.2.2.1, σ.2.2.2.2.2.1, σ.2.2.2.2.2.2)) := by
  obtain ⟨h1, h2, h3, h4, h5, h6, h7, h8, h9, h10, h11, h12, h13⟩ := h
  obtain ⟨b1, b2, b3, b4, b6, b7, b8, b9, b10, b5, b11, b12⟩ := hw
  exact ⟨by rw [upd_n (by omega)]; exact h1, by rw [upd_n (by omega)]; exact h2, by rw [upd_n (by omega)]; exact h3, upd_s, by rw [upd_n (by omega)]; exact h5, by rw [upd_n (by omega)]; exact h6, fun r w hr hw => by have hr : r < sR σ := hr; rw [upd_n (by omega)]; exact h7 r w hr hw, fun a b ha hb => by rw [upd_n (by omega)]; exact h8 a b ha hb, fun c w hc hw => by have hc : c < sC σ := hc; rw [upd_n (by omega)]; exact h9 c w hc hw, fun u hu => by rw [upd_n (by omega)]; exact h10 u hu, fun i hi => by have hi : i < (sW σ).length := hi; rw [upd_n (by omega)]; exact h11 i hi, fun u i hu hi => by have hi : i < (sT σ u).length := hi; have := b5 u; rw [upd_n (by omega)]; exact h12 u i hu hi, fun i hi => by have hi : i < (sP σ).length := hi; rw [upd_n (by omega)]; exact h13 i hi⟩
theorem VM.pz {g : Nat → Int32} {σ : sg} (h : VM g σ) {B : Nat} (hw : WF B σ) : VM (upd g (4) (0)) ((σ.1, σ.2.1, σ.2.2.1, σ.2.2.2.1, σ.2.2.2.2.1, [], σ.2.2.2.2.2.2)) := by
  obtain ⟨h1, h2, h3, h4, h5, h6, h7, h8, h9, h10, h11, h12, h13⟩ := h
  obtain ⟨b1, b2, b3, b4, b6, b7, b8, b9, b10, b5, b11, b12⟩ := hw
  exact ⟨by rw [upd_n (by omega)]; exact h1, by rw [upd_n (by omega)]; exact h2, by rw [upd_n (by omega)]; exact h3, by rw [upd_n (by omega)]; exact h4, upd_s, by rw [upd_n (by omega)]; exact h6, fun r w hr hw => by have hr : r < sR σ := hr; rw [upd_n (by omega)]; exact h7 r w hr hw, fun a b ha hb => by rw [upd_n (by omega)]; exact h8 a b ha hb, fun c w hc hw => by have hc : c < sC σ := hc; rw [upd_n (by omega)]; exact h9 c w hc hw, fun u hu => by rw [upd_n (by omega)]; exact h10 u hu, fun i hi => by have hi : i < (sW σ).length := hi; rw [upd_n (by omega)]; exact h11 i hi, fun u i hu hi => by have hi : i < (sT σ u).length := hi; have := b5 u; rw [upd_n (by omega)]; exact h12 u i hu hi, fun i hi => absurd hi (Nat.not_lt_zero _)⟩
theorem VM.wz {g : Nat → Int32} {σ : sg} (h : VM g σ) {B : Nat} (hw : WF B σ) : VM (upd g (5) (0)) ((σ.1, σ.2.1, σ.2.2.1, σ.2.2.2.1, σ.2.2.2.2.1, σ.2.2.2.2.2.1, [])) := by
  obtain ⟨h1, h2, h3, h4, h5, h6, h7, h8, h9, h10, h11, h12, h13⟩ := h
  obtain ⟨b1, b2, b3, b4, b6, b7, b8, b9, b10, b5, b11, b12⟩ := hw
  exact ⟨by rw [upd_n (by omega)]; exact h1, by rw [upd_n (by omega)]; exact h2, by rw [upd_n (by omega)]; exact h3, by rw [upd_n (by omega)]; exact h4, by rw [upd_n (by omega)]; exact h5, upd_s, fun r w hr hw => by have hr : r < sR σ := hr; rw [upd_n (by omega)]; exact h7 r w hr hw, fun a b ha hb => by rw [upd_n (by omega)]; exact h8 a b ha hb, fun c w hc hw => by have hc : c < sC σ := hc; rw [upd_n (by omega)]; exact h9 c w hc hw, fun u hu => by rw [upd_n (by omega)]; exact h10 u hu, fun i hi => absurd hi (Nat.not_lt_zero _), fun u i hu hi => by have hi : i < (sT σ u).length := hi; have := b5 u; rw [upd_n (by omega)]; exact h12 u i hu hi, fun i hi => by have hi : i < (sP σ).length := hi; rw [upd_n (by omega)]; exact h13 i hi⟩
theorem VM.rf {g : Nat → Int32} {σ : sg} (w r v : Nat) (h : VM g σ) {B : Nat} (hw : WF B σ) (hr : r < sR σ) (hw4 : w < 4) : VM (upd g (6 + 4 * r + w) (nI v)) ((σ.1, f2 σ.2.1 w r v, σ.2.2.1, σ.2.2.2.1, σ.2.2.2.2.1, σ.2.2.2.2.2.1, σ.2.2.2.2.2.2)) := by
  obtain ⟨h1, h2, h3, h4, h5, h6, h7, h8, h9, h10, h11, h12, h13⟩ := h
  obtain ⟨b1, b2, b3, b4, b6, b7, b8, b9, b10, b5, b11, b12⟩ := hw
  exact ⟨by rw [upd_n (by omega)]; exact h1, by rw [upd_n (by omega)]; exact h2, by rw [upd_n (by omega)]; exact h3, by rw [upd_n (by omega)]; exact h4, by rw [upd_n (by omega)]; exact h5, by rw [upd_n (by omega)]; exact h6, fun r' w' hr' hw' => by
    have hr' : r' < sR σ := hr'
    by_cases e : w' = w ∧ r' = r
    · obtain ⟨rfl, rfl⟩ := e; rw [upd_s]; exact congrArg nI f2_s.symm
    · rw [upd_n (by omega)]; exact (h7 r' w' hr' hw').trans (congrArg nI (f2_n e).symm), fun a b ha hb => by rw [upd_n (by omega)]; exact h8 a b ha hb, fun c w hc hw => by have hc : c < sC σ := hc; rw [upd_n (by omega)]; exact h9 c w hc hw, fun u hu => by rw [upd_n (by omega)]; exact h10 u hu, fun i hi => by have hi : i < (sW σ).length := hi; rw [upd_n (by omega)]; exact h11 i hi, fun u i hu hi => by have hi : i < (sT σ u).length := hi; have := b5 u; rw [upd_n (by omega)]; exact h12 u i hu hi, fun i hi => by have hi : i < (sP σ).length := hi; rw [upd_n (by omega)]; exact h13 i hi⟩
theorem VM.of {g : Nat → Int32} {σ : sg} (a b v : Nat) (h : VM g σ) {B : Nat} (hw : WF B σ) (ha : a < 6) (hb : b < 6) : VM (upd g (30 + 6 * a + b) (nI v)) ((σ.1, σ.2.1, f2 σ.2.2.1 a b v, σ.2.2.2.1, σ.2.2.2.2.1, σ.2.2.2.2.2.1, σ.2.2.2.2.2.2)) := by
  obtain ⟨h1, h2, h3, h4, h5, h6, h7, h8, h9, h10, h11, h12, h13⟩ := h
  obtain ⟨b1, b2, b3, b4, b6, b7, b8, b9, b10, b5, b11, b12⟩ := hw
  exact ⟨by rw [upd_n (by omega)]; exact h1, by rw [upd_n (by omega)]; exact h2, by rw [upd_n (by omega)]; exact h3, by rw [upd_n (by omega)]; exact h4, by rw [upd_n (by omega)]; exact h5, by rw [upd_n (by omega)]; exact h6, fun r w hr hw => by have hr : r < sR σ := hr; rw [upd_n (by omega)]; exact h7 r w hr hw, fun a' b' ha' hb' => by
    by_cases e : a' = a ∧ b' = b
    · obtain ⟨rfl, rfl⟩ := e; rw [upd_s]; exact congrArg nI f2_s.symm
    · rw [upd_n (by omega)]; exact (h8 a' b' ha' hb').trans (congrArg nI (f2_n e).symm), fun c w hc hw => by have hc : c < sC σ := hc; rw [upd_n (by omega)]; exact h9 c w hc hw, fun u hu => by rw [upd_n (by omega)]; exact h10 u hu, fun i hi => by have hi : i < (sW σ).length := hi; rw [upd_n (by omega)]; exact h11 i hi, fun u i hu hi => by have hi : i < (sT σ u).length := hi; have := b5 u; rw [upd_n (by omega)]; exact h12 u i hu hi, fun i hi => by have hi : i < (sP σ).length := hi; rw [upd_n (by omega)]; exact h13 i hi⟩
theorem VM.cf {g : Nat → Int32} {σ : sg} (w c v : Nat) (h : VM g σ) {B : Nat} (hw : WF B σ) (hc : c < sC σ) (hw4 : w < 4) : VM (upd g (66 + 4 * c + w) (nI v)) ((σ.1, σ.2.1, σ.2.2.1, f2 σ.2.2.2.1 w c v, σ.2.2.2.2.1, σ.2.2.2.2.2.1, σ.2.2.2.2.2.2)) := by
  obtain ⟨h1, h2, h3, h4, h5, h6, h7, h8, h9, h10, h11, h12, h13⟩ := h
  obtain ⟨b1, b2, b3, b4, b6, b7, b8, b9, b10, b5, b11, b12⟩ := hw
  exact ⟨by rw [upd_n (by omega)]; exact h1, by rw [upd_n (by omega)]; exact h2, by rw [upd_n (by omega)]; exact h3, by rw [upd_n (by omega)]; exact h4, by rw [upd_n (by omega)]; exact h5, by rw [upd_n (by omega)]; exact h6, fun r w hr hw => by have hr : r < sR σ := hr; rw [upd_n (by omega)]; exact h7 r w hr hw, fun a b ha hb => by rw [upd_n (by omega)]; exact h8 a b ha hb, fun c' w' hc' hw' => by
    have hc' : c' < sC σ := hc'
    by_cases e : w' = w ∧ c' = c
    · obtain ⟨rfl, rfl⟩ := e; rw [upd_s]; exact congrArg nI f2_s.symm
    · rw [upd_n (by omega)]; exact (h9 c' w' hc' hw').trans (congrArg nI (f2_n e).symm), fun u hu => by rw [upd_n (by omega)]; exact h10 u hu, fun i hi => by have hi : i < (sW σ).length := hi; rw [upd_n (by omega)]; exact h11 i hi, fun u i hu hi => by have hi : i < (sT σ u).length := hi; have := b5 u; rw [upd_n (by omega)]; exact h12 u i hu hi, fun i hi => by have hi : i < (sP σ).length := hi; rw [upd_n (by omega)]; exact h13 i hi⟩
theorem VM.pp {g : Nat → Int32} {σ : sg} (x : Int32) (h : VM g σ) {B : Nat} (hw : WF B σ) (hl : (sP σ).length < 50) : VM (upd (upd g (208 + (sP σ).length) x) 4 (nI ((sP σ).length + 1))) ((σ.1, σ.2.1, σ.2.2.1, σ.2.2.2.1, σ.2.2.2.2.1, σ.2.2.2.2.2.1 ++ [x], σ.2.2.2.2.2.2)) := by
  obtain ⟨h1, h2, h3, h4, h5, h6, h7, h8, h9, h10, h11, h12, h13⟩ := h
  obtain ⟨b1, b2, b3, b4, b6, b7, b8, b9, b10, b5, b11, b12⟩ := hw
  exact ⟨by rw [upd_n (by omega), upd_n (by omega)]; exact h1, by rw [upd_n (by omega), upd_n (by omega)]; exact h2, by rw [upd_n (by omega), upd_n (by omega)]; exact h3, by rw [upd_n (by omega), upd_n (by omega)]; exact h4, by rw [upd_s]; exact congrArg nI (by simp [sP]), by rw [upd_n (by omega), upd_n (by omega)]; exact h6, fun r w hr hw => by have hr : r < sR σ := hr; rw [upd_n (by omega), upd_n (by omega)]; exact h7 r w hr hw, fun a b ha hb => by rw [upd_n (by omega), upd_n (by omega)]; exact h8 a b ha hb, fun c w hc hw => by have hc : c < sC σ := hc; rw [upd_n (by omega), upd_n (by omega)]; exact h9 c w hc hw, fun u hu => by rw [upd_n (by omega), upd_n (by omega)]; exact h10 u hu, fun i hi => by have hi : i < (sW σ).length := hi; rw [upd_n (by omega), upd_n (by omega)]; exact h11 i hi, fun u i hu hi => by have hi : i < (sT σ u).length := hi; have := b5 u; rw [upd_n (by omega), upd_n (by omega)]; exact h12 u i hu hi, fun i hi => by
    have hi : i < (sP σ ++ [x]).length := hi
    rw [List.length_append, List.length_singleton] at hi
    rw [upd_n (by omega)]
    by_cases e : i = (sP σ).length
    · subst e; rw [upd_s]; exact gD_r.symm
    · rw [upd_n (by omega)]; exact (h13 i (by omega)).trans (gD_l (by omega)).symm⟩
theorem VM.wp {g : Nat → Int32} {σ : sg} (x : Int32) (h : VM g σ) {B : Nat} (hw : WF B σ) (hl : (sW σ).length < 20) : VM (upd (upd g (88 + (sW σ).length) x) 5 (nI ((sW σ).length + 1))) ((σ.1, σ.2.1, σ.2.2.1, σ.2.2.2.1, σ.2.2.2.2.1, σ.2.2.2.2.2.1, σ.2.2.2.2.2.2 ++ [x])) := by
  obtain ⟨h1, h2, h3, h4, h5, h6, h7, h8, h9, h10, h11, h12, h13⟩ := h
  obtain ⟨b1, b2, b3, b4, b6, b7, b8, b9, b10, b5, b11, b12⟩ := hw
  exact ⟨by rw [upd_n (by omega), upd_n (by omega)]; exact h1, by rw [upd_n (by omega), upd_n (by omega)]; exact h2, by rw [upd_n (by omega), upd_n (by omega)]; exact h3, by rw [upd_n (by omega), upd_n (by omega)]; exact h4, by rw [upd_n (by omega), upd_n (by omega)]; exact h5, by rw [upd_s]; exact congrArg nI (by simp [sW]), fun r w hr hw => by have hr : r < sR σ := hr; rw [upd_n (by omega), upd_n (by omega)]; exact h7 r w hr hw, fun a b ha hb => by rw [upd_n (by omega), upd_n (by omega)]; exact h8 a b ha hb, fun c w hc hw => by have hc : c < sC σ := hc; rw [upd_n (by omega), upd_n (by omega)]; exact h9 c w hc hw, fun u hu => by rw [upd_n (by omega), upd_n (by omega)]; exact h10 u hu, fun i hi => by
    have hi : i < (sW σ ++ [x]).length := hi
    rw [List.length_append, List.length_singleton] at hi
    rw [upd_n (by omega)]
    by_cases e : i = (sW σ).length
    · subst e; rw [upd_s]; exact gD_r.symm
    · rw [upd_n (by omega)]; exact (h11 i (by omega)).trans (gD_l (by omega)).symm, fun u i hu hi => by have hi : i < (sT σ u).length := hi; have := b5 u; rw [upd_n (by omega), upd_n (by omega)]; exact h12 u i hu hi, fun i hi => by have hi : i < (sP σ).length := hi; rw [upd_n (by omega), upd_n (by omega)]; exact h13 i hi⟩
theorem VC.day {C : pm_M} {p : Nat} {σ : sg} (n : Nat) (h : VC C p σ) : VC (pm_up C (p) (3) (nI n)) p (((σ.1.1, σ.1.2.1, n, σ.1.2.2.2), σ.2.1, σ.2.2.1, σ.2.2.2.1, σ.2.2.2.2.1, σ.2.2.2.2.2.1, σ.2.2.2.2.2.2)) := by
  obtain ⟨h1, h2, h3, h4, h5, h6, h7, h8, h9, h10, h11, h12⟩ := h
  exact ⟨by rw [up_k (by omega)]; exact h1, by rw [up_k (by omega)]; exact h2, up_s, by rw [up_i (by omega)]; exact h4, by rw [up_i (by omega)]; exact h5, by rw [up_i (by omega)]; exact h6, fun w r hw hr => by rw [up_k (by omega)]; exact h7 w r hw hr, fun a b ha hb => by rw [up_k (by omega)]; exact h8 a b ha hb, fun w c hw hc => by rw [up_k (by omega)]; exact h9 w c hw hc, fun i hi => by rw [up_k (by omega)]; exact h10 i hi, fun i hi => by rw [up_k (by omega)]; exact h11 i hi, fun u hu => by
    obtain ⟨g1, g2, cd, g3, g4, g5, g6⟩ := h12 u hu
    exact ⟨by rw [up_k (by omega)]; exact g1, by rw [up_k (by omega)]; exact g2, cd, g3, g4, by rw [up_k (by omega)]; exact g5, fun i hi => by rw [up_k (by omega)]; exact g6 i hi⟩⟩
theorem VC.sz {C : pm_M} {p : Nat} {σ : sg} (x : Int32) (h : VC C p σ) : VC (pm_up C (p) (4) (x)) p (((σ.1.1, σ.1.2.1, σ.1.2.2.1, x), σ.2.1, σ.2.2.1, σ.2.2.2.1, σ.2.2.2.2.1, σ.2.2.2.2.2.1, σ.2.2.2.2.2.2)) := by
  obtain ⟨h1, h2, h3, h4, h5, h6, h7, h8, h9, h10, h11, h12⟩ := h
  exact ⟨by rw [up_k (by omega)]; exact h1, by rw [up_k (by omega)]; exact h2, by rw [up_i (by omega)]; exact h3, up_s, by rw [up_i (by omega)]; exact h5, by rw [up_i (by omega)]; exact h6, fun w r hw hr => by rw [up_k (by omega)]; exact h7 w r hw hr, fun a b ha hb => by rw [up_k (by omega)]; exact h8 a b ha hb, fun w c hw hc => by rw [up_k (by omega)]; exact h9 w c hw hc, fun i hi => by rw [up_k (by omega)]; exact h10 i hi, fun i hi => by rw [up_k (by omega)]; exact h11 i hi, fun u hu => by
    obtain ⟨g1, g2, cd, g3, g4, g5, g6⟩ := h12 u hu
    exact ⟨by rw [up_k (by omega)]; exact g1, by rw [up_k (by omega)]; exact g2, cd, g3, g4, by rw [up_k (by omega)]; exact g5, fun i hi => by rw [up_k (by omega)]; exact g6 i hi⟩⟩
theorem VC.pz {C : pm_M} {p : Nat} {σ : sg} (h : VC C p σ) : VC (pm_up C (p) (6) (0)) p ((σ.1, σ.2.1, σ.2.2.1, σ.2.2.2.1, σ.2.2.2.2.1, [], σ.2.2.2.2.2.2)) := by
  obtain ⟨h1, h2, h3, h4, h5, h6, h7, h8, h9, h10, h11, h12⟩ := h
  exact ⟨by rw [up_k (by omega)]; exact h1, by rw [up_k (by omega)]; exact h2, by rw [up_i (by omega)]; exact h3, by rw [up_i (by omega)]; exact h4, up_s, by rw [up_i (by omega)]; exact h6, fun w r hw hr => by rw [up_k (by omega)]; exact h7 w r hw hr, fun a b ha hb => by rw [up_k (by omega)]; exact h8 a b ha hb, fun w c hw hc => by rw [up_k (by omega)]; exact h9 w c hw hc, fun i hi => absurd hi (Nat.not_lt_zero _), fun i hi => by rw [up_k (by omega)]; exact h11 i hi, fun u hu => by
    obtain ⟨g1, g2, cd, g3, g4, g5, g6⟩ := h12 u hu
    exact ⟨by rw [up_k (by omega)]; exact g1, by rw [up_k (by omega)]; exact g2, cd, g3, g4, by rw [up_k (by omega)]; exact g5, fun i hi => by rw [up_k (by omega)]; exact g6 i hi⟩⟩
theorem VC.wz {C : pm_M} {p : Nat} {σ : sg} (h : VC C p σ) : VC (pm_up C (p) (8) (0)) p ((σ.1, σ.2.1, σ.2.2.1, σ.2.2.2.1, σ.2.2.2.2.1, σ.2.2.2.2.2.1, [])) := by
  obtain ⟨h1, h2, h3, h4, h5, h6, h7, h8, h9, h10, h11, h12⟩ := h
  exact ⟨by rw [up_k (by omega)]; exact h1, by rw [up_k (by omega)]; exact h2, by rw [up_i (by omega)]; exact h3, by rw [up_i (by omega)]; exact h4, by rw [up_i (by omega)]; exact h5, up_s, fun w r hw hr => by rw [up_k (by omega)]; exact h7 w r hw hr, fun a b ha hb => by rw [up_k (by omega)]; exact h8 a b ha hb, fun w c hw hc => by rw [up_k (by omega)]; exact h9 w c hw hc, fun i hi => by rw [up_k (by omega)]; exact h10 i hi, fun i hi => absurd hi (Nat.not_lt_zero _), fun u hu => by
    obtain ⟨g1, g2, cd, g3, g4, g5, g6⟩ := h12 u hu
    exact ⟨by rw [up_k (by omega)]; exact g1, by rw [up_k (by omega)]; exact g2, cd, g3, g4, by rw [up_k (by omega)]; exact g5, fun i hi => by rw [up_k (by omega)]; exact g6 i hi⟩⟩
theorem VC.rf {C : pm_M} {p : Nat} {σ : sg} (w r v : Nat) (h : VC C p σ) (hw4 : w < 4) : VC (pm_up C (p + 2 + w) (r) (nI v)) p ((σ.1, f2 σ.2.1 w r v, σ.2.2.1, σ.2.2.2.1, σ.2.2.2.2.1, σ.2.2.2.2.2.1, σ.2.2.2.2.2.2)) := by
  obtain ⟨h1, h2, h3, h4, h5, h6, h7, h8, h9, h10, h11, h12⟩ := h
  exact ⟨by rw [up_k (by omega)]; exact h1, by rw [up_k (by omega)]; exact h2, by rw [up_k (by omega)]; exact h3, by rw [up_k (by omega)]; exact h4, by rw [up_k (by omega)]; exact h5, by rw [up_k (by omega)]; exact h6, fun w' r' hw' hr' => by
    by_cases e : w' = w ∧ r' = r
    · obtain ⟨rfl, rfl⟩ := e; rw [up_s]; exact congrArg nI f2_s.symm
    · have e2 : pm_up C (p + 2 + w) r (nI v) (p + 2 + w') r' = C (p + 2 + w') r' := by
        by_cases e3 : w' = w
        · rw [up_i (by omega)]
        · rw [up_k (by omega)]
      rw [e2]; exact (h7 w' r' hw' hr').trans (congrArg nI (f2_n e).symm), fun a b ha hb => by rw [up_k (by omega)]; exact h8 a b ha hb, fun w c hw hc => by rw [up_k (by omega)]; exact h9 w c hw hc, fun i hi => by rw [up_k (by omega)]; exact h10 i hi, fun i hi => by rw [up_k (by omega)]; exact h11 i hi, fun u hu => by
    obtain ⟨g1, g2, cd, g3, g4, g5, g6⟩ := h12 u hu
    exact ⟨by rw [up_k (by omega)]; exact g1, by rw [up_k (by omega)]; exact g2, cd, g3, g4, by rw [up_k (by omega)]; exact g5, fun i hi => by rw [up_k (by omega)]; exact g6 i hi⟩⟩
theorem VC.of {C : pm_M} {p : Nat} {σ : sg} (a b v : Nat) (h : VC C p σ) (ha : a < 6) : VC (pm_up C (p + 7 + a) (b) (nI v)) p ((σ.1, σ.2.1, f2 σ.2.2.1 a b v, σ.2.2.2.1, σ.2.2.2.2.1, σ.2.2.2.2.2.1, σ.2.2.2.2.2.2)) := by
  obtain ⟨h1, h2, h3, h4, h5, h6, h7, h8, h9, h10, h11, h12⟩ := h
  exact ⟨by rw [up_k (by omega)]; exact h1, by rw [up_k (by omega)]; exact h2, by rw [up_k (by omega)]; exact h3, by rw [up_k (by omega)]; exact h4, by rw [up_k (by omega)]; exact h5, by rw [up_k (by omega)]; exact h6, fun w r hw hr => by rw [up_k (by omega)]; exact h7 w r hw hr, fun a' b' ha' hb' => by
    by_cases e : a' = a ∧ b' = b
    · obtain ⟨rfl, rfl⟩ := e; rw [up_s]; exact congrArg nI f2_s.symm
    · have e2 : pm_up C (p + 7 + a) b (nI v) (p + 7 + a') b' = C (p + 7 + a') b' := by
        by_cases e3 : a' = a
        · rw [up_i (by omega)]
        · rw [up_k (by omega)]
      rw [e2]; exact (h8 a' b' ha' hb').trans (congrArg nI (f2_n e).symm), fun w c hw hc => by rw [up_k (by omega)]; exact h9 w c hw hc, fun i hi => by rw [up_k (by omega)]; exact h10 i hi, fun i hi => by rw [up_k (by omega)]; exact h11 i hi, fun u hu => by
    obtain ⟨g1, g2, cd, g3, g4, g5, g6⟩ := h12 u hu
    exact ⟨by rw [up_k (by omega)]; exact g1, by rw [up_k (by omega)]; exact g2, cd, g3, g4, by rw [up_k (by omega)]; exact g5, fun i hi => by rw [up_k (by omega)]; exact g6 i hi⟩⟩
theorem VC.cf {C : pm_M} {p : Nat} {σ : sg} (w c v : Nat) (h : VC C p σ) (hw4 : w < 4) : VC (pm_up C (p + 14 + w) (c) (nI v)) p ((σ.1, σ.2.1, σ.2.2.1, f2 σ.2.2.2.1 w c v, σ.2.2.2.2.1, σ.2.2.2.2.2.1, σ.2.2.2.2.2.2)) := by
  obtain ⟨h1, h2, h3, h4, h5, h6, h7, h8, h9, h10, h11, h12⟩ := h
  exact ⟨by rw [up_k (by omega)]; exact h1, by rw [up_k (by omega)]; exact h2, by rw [up_k (by omega)]; exact h3, by rw [up_k (by omega)]; exact h4, by rw [up_k (by omega)]; exact h5, by rw [up_k (by omega)]; exact h6, fun w r hw hr => by rw [up_k (by omega)]; exact h7 w r hw hr, fun a b ha hb => by rw [up_k (by omega)]; exact h8 a b ha hb, fun w' c' hw' hc' => by
    by_cases e : w' = w ∧ c' = c
    · obtain ⟨rfl, rfl⟩ := e; rw [up_s]; exact congrArg nI f2_s.symm
    · have e2 : pm_up C (p + 14 + w) c (nI v) (p + 14 + w') c' = C (p + 14 + w') c' := by
        by_cases e3 : w' = w
        · rw [up_i (by omega)]
        · rw [up_k (by omega)]
      rw [e2]; exact (h9 w' c' hw' hc').trans (congrArg nI (f2_n e).symm), fun i hi => by rw [up_k (by omega)]; exact h10 i hi, fun i hi => by rw [up_k (by omega)]; exact h11 i hi, fun u hu => by
    obtain ⟨g1, g2, cd, g3, g4, g5, g6⟩ := h12 u hu
    exact ⟨by rw [up_k (by omega)]; exact g1, by rw [up_k (by omega)]; exact g2, cd, g3, g4, by rw [up_k (by omega)]; exact g5, fun i hi => by rw [up_k (by omega)]; exact g6 i hi⟩⟩
theorem VC.pp {C : pm_M} {p : Nat} {σ : sg} (x : Int32) (h : VC C p σ) : VC (pm_up (pm_up C (p + 25) (sP σ).length x) p 6 (nI ((sP σ).length + 1))) p ((σ.1, σ.2.1, σ.2.2.1, σ.2.2.2.1, σ.2.2.2.2.1, σ.2.2.2.2.2.1 ++ [x], σ.2.2.2.2.2.2)) := by
  obtain ⟨h1, h2, h3, h4, h5, h6, h7, h8, h9, h10, h11, h12⟩ := h
  exact ⟨by rw [up_k (by omega), up_k (by omega)]; exact h1, by rw [up_k (by omega), up_k (by omega)]; exact h2, by rw [up_i (by omega), up_k (by omega)]; exact h3, by rw [up_i (by omega), up_k (by omega)]; exact h4, by rw [up_s]; exact congrArg nI (by simp [sP]), by rw [up_i (by omega), up_k (by omega)]; exact h6, fun w r hw hr => by rw [up_k (by omega), up_k (by omega)]; exact h7 w r hw hr, fun a b ha hb => by rw [up_k (by omega), up_k (by omega)]; exact h8 a b ha hb, fun w c hw hc => by rw [up_k (by omega), up_k (by omega)]; exact h9 w c hw hc, fun i hi => by
    have hi : i < (sP σ ++ [x]).length := hi
    rw [List.length_append, List.length_singleton] at hi
    rw [up_k (by omega)]
    by_cases e : i = (sP σ).length
    · subst e; rw [up_s]; exact gD_r.symm
    · rw [up_i (by omega)]; exact (h10 i (by omega)).trans (gD_l (by omega)).symm, fun i hi => by rw [up_k (by omega), up_k (by omega)]; exact h11 i hi, fun u hu => by
    obtain ⟨g1, g2, cd, g3, g4, g5, g6⟩ := h12 u hu
    exact ⟨by rw [up_k (by omega), up_k (by omega)]; exact g1, by rw [up_k (by omega), up_k (by omega)]; exact g2, cd, g3, g4, by rw [up_k (by omega), up_k (by omega)]; exact g5, fun i hi => by rw [up_k (by omega), up_k (by omega)]; exact g6 i hi⟩⟩
theorem VC.wp {C : pm_M} {p : Nat} {σ : sg} (x : Int32) (h : VC C p σ) : VC (pm_up (pm_up C (p + 26) (sW σ).length x) p 8 (nI ((sW σ).length + 1))) p ((σ.1, σ.2.1, σ.2.2.1, σ.2.2.2.1, σ.2.2.2.2.1, σ.2.2.2.2.2.1, σ.2.2.2.2.2.2 ++ [x])) := by
  obtain ⟨h1, h2, h3, h4, h5, h6, h7, h8, h9, h10, h11, h12⟩ := h
  exact ⟨by rw [up_k (by omega), up_k (by omega)]; exact h1, by rw [up_k (by omega), up_k (by omega)]; exact h2, by rw [up_i (by omega), up_k (by omega)]; exact h3, by rw [up_i (by omega), up_k (by omega)]; exact h4, by rw [up_i (by omega), up_k (by omega)]; exact h5, by rw [up_s]; exact congrArg nI (by simp [sW]), fun w r hw hr => by rw [up_k (by omega), up_k (by omega)]; exact h7 w r hw hr, fun a b ha hb => by rw [up_k (by omega), up_k (by omega)]; exact h8 a b ha hb, fun w c hw hc => by rw [up_k (by omega), up_k (by omega)]; exact h9 w c hw hc, fun i hi => by rw [up_k (by omega), up_k (by omega)]; exact h10 i hi, fun i hi => by
    have hi : i < (sW σ ++ [x]).length := hi
    rw [List.length_append, List.length_singleton] at hi
    rw [up_k (by omega)]
    by_cases e : i = (sW σ).length
    · subst e; rw [up_s]; exact gD_r.symm
    · rw [up_i (by omega)]; exact (h11 i (by omega)).trans (gD_l (by omega)).symm, fun u hu => by
    obtain ⟨g1, g2, cd, g3, g4, g5, g6⟩ := h12 u hu
    exact ⟨by rw [up_k (by omega), up_k (by omega)]; exact g1, by rw [up_k (by omega), up_k (by omega)]; exact g2, cd, g3, g4, by rw [up_k (by omega), up_k (by omega)]; exact g5, fun i hi => by rw [up_k (by omega), up_k (by omega)]; exact g6 i hi⟩⟩
