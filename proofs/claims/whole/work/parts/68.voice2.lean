section VO
variable {k0 m c : Nat}
theorem vp_00 : VP k0 m c 0 0 1 := by
  refine VP.own (b := 10) (by decide) (by decide) (by decide) (by decide) (fun C D x dep n N w h1 h2 h3 => ?_) (by decide)
  obtain ⟨w1, w2, w3, w4, w5, w6, w7, w8, w9, w10⟩ := id w
  refine ⟨x + nI c, C, D, ?_, ⟨fun _ _ _ => rfl, fun _ _ => rfl, fun _ _ _ => rfl, fun _ _ => rfl, w10⟩, fun D0 e => ?_⟩
  · show some (x + C 94 3, C) = _
    rw [w5]
  · show pm_b1 (f_X8_ran D0 (nI 10)) (fun M1 : pm_M => (some ((x + (M1 0 15)), M1))) = _
    rw [e, b1_s, w7]
theorem vp_02 : VP k0 m c 0 2 2 := by
  refine VP.own (b := 30) (by decide) (by decide) (by decide) (by decide) (fun C D x dep n N w h1 h2 h3 => ?_) (by decide)
  obtain ⟨v, C', D', e1, e2, e3⟩ := vp_00 (k0 := k0) (m := m) (c := c) C D x dep n N w (by omega) (by omega) (by have := h3; rw [show lvl 2 = 2 from rfl] at this; rw [show lvl 0 = 1 from rfl]; omega)
  refine ⟨v * 3, C', D', ?_, e3, fun D0 e => ?_⟩
  · show pm_b2 ((fG_X6_say n).1 94 C (nI 0) (nI 0) x (nI dep)) (fun (r10 : Int32) (M9 : pm_M) => (some ((r10 * 3), M9))) = _
    rw [e1, b2_s]
  · show pm_b1 (f_X8_ran D0 (nI 30)) (fun M2 : pm_M => (pm_b2 (f_X8_above M2 (nI 2)) (fun (r4 : Int32) (M3 : pm_M) => (pm_b2 (rf 0 N M3 r4 x) (fun (r6 : Int32) (M5 : pm_M) => (some ((r6 * 3), M5))))))) = _
    rw [e, b1_s, above_e 2 (by decide), b2_s, show abv 2 = 0 from rfl, e2, b2_s]
theorem vp_0 : ∀ k, k < 7 → VP k0 m c 0 k 2 := by
  have a0 : VP k0 m c 0 0 2 := vp_00.mono (by decide)
  have a1 : VP k0 m c 0 1 2 := VP.up (by decide) (by decide) (by decide) (by decide) a0
  have a2 : VP k0 m c 0 2 2 := vp_02
  have a3 : VP k0 m c 0 3 2 := VP.up (by decide) (by decide) (by decide) (by decide) a0
  have a4 : VP k0 m c 0 4 2 := VP.up (by decide) (by decide) (by decide) (by decide) a1
  have a5 : VP k0 m c 0 5 2 := VP.up (by decide) (by decide) (by decide) (by decide) a2
  have a6 : VP k0 m c 0 6 2 := VP.up (by decide) (by decide) (by decide) (by decide) a3
  intro k hk
  rcases k7 (show k ≤ 6 by omega) with rfl | rfl | rfl | rfl | rfl | rfl | rfl
  · exact a0
  · exact a1
  · exact a2
  · exact a3
  · exact a4
  · exact a5
  · exact a6
theorem vp_20 : VP k0 m c 2 0 1 := by
  refine VP.own (b := 12) (by decide) (by decide) (by decide) (by decide) (fun C D x dep n N w h1 h2 h3 => ?_) (by decide)
  obtain ⟨w1, w2, w3, w4, w5, w6, w7, w8, w9, w10⟩ := id w
  refine ⟨x - nI m, C, D, ?_, ⟨fun _ _ _ => rfl, fun _ _ => rfl, fun _ _ _ => rfl, fun _ _ => rfl, w10⟩, fun D0 e => ?_⟩
  · show some (x - C 94 4, C) = _
    rw [w6]
  · show pm_b1 (f_X8_ran D0 (nI 12)) (fun M5 : pm_M => (pm_b2 (f_X8_of M5 (M5 0 15) 1) (fun (r7 : Int32) (M6 : pm_M) => (some ((x - r7), M6))))) = _
    rw [e, b1_s, w7, x8_of (w := 1) (z := 1) rfl w3 (by decide), b2_s, w9]
theorem vp_21 : VP k0 m c 2 1 2 := by
  refine VP.own (b := 20) (by decide) (by decide) (by decide) (by decide) (fun C D x dep n N w h1 h2 h3 => ?_) (by decide)
  obtain ⟨v, C', D', e1, e2, e3⟩ := vp_20 (k0 := k0) (m := m) (c := c) C D x dep n N w (by omega) (by omega) (by have := h3; rw [show lvl 1 = 2 from rfl] at this; rw [show lvl 0 = 1 from rfl]; omega)
  refine ⟨-v, C', D', ?_, e3, fun D0 e => ?_⟩
  · show pm_b2 ((fG_X6_say n).1 94 C (nI 0) (nI 2) x (nI dep)) (fun (r8 : Int32) (M7 : pm_M) => (some ((-r8), M7))) = _
    rw [e1, b2_s]
  · show pm_b1 (f_X8_ran D0 (nI 20)) (fun M8 : pm_M => (pm_b2 (f_X8_above M8 (nI 1)) (fun (r10 : Int32) (M9 : pm_M) => (pm_b2 (rf 2 N M9 r10 x) (fun (r12 : Int32) (M11 : pm_M) => (some ((-r12), M11))))))) = _
    rw [e, b1_s, above_e 1 (by decide), b2_s, show abv 1 = 0 from rfl, e2, b2_s]
theorem vp_24 : VP k0 m c 2 4 3 := by
  refine VP.own (b := 50) (by decide) (by decide) (by decide) (by decide) (fun C D x dep n N w h1 h2 h3 => ?_) (by decide)
  obtain ⟨v, C', D', e1, e2, e3⟩ := vp_21 (k0 := k0) (m := m) (c := c) C D x dep n N w (by omega) (by omega) (by have := h3; rw [show lvl 4 = 3 from rfl] at this; rw [show lvl 1 = 2 from rfl]; omega)
  have w' := w.q e3
  refine ⟨v ^^^ nI c, C', D', ?_, e3, fun D0 e => ?_⟩
  · show pm_b2 ((fG_X6_say n).1 94 C (nI 1) (nI 2) x (nI dep)) (fun (r16 : Int32) (M15 : pm_M) => (some ((r16 ^^^ (M15 94 3)), M15))) = _
    rw [e1, b2_s, w'.2.2.2.2.1]
  · show pm_b1 (f_X8_ran D0 (nI 50)) (fun M21 : pm_M => (pm_b2 (f_X8_above M21 (nI 4)) (fun (r23 : Int32) (M22 : pm_M) => (pm_b2 (rf 2 N M22 r23 x) (fun (r25 : Int32) (M24 : pm_M) => (some ((r25 ^^^ (M24 0 15)), M24))))))) = _
    rw [e, b1_s, above_e 4 (by decide), b2_s, show abv 4 = 1 from rfl, e2, b2_s, w'.2.2.2.2.2.2.1]
theorem vp_2 : ∀ k, k < 7 → VP k0 m c 2 k 3 := by
  have a0 : VP k0 m c 2 0 3 := vp_20.mono (by decide)
  have a1 : VP k0 m c 2 1 3 := vp_21.mono (by decide)
  have a2 : VP k0 m c 2 2 3 := VP.up (by decide) (by decide) (by decide) (by decide) a0
  have a3 : VP k0 m c 2 3 3 := VP.up (by decide) (by decide) (by decide) (by decide) a0
  have a4 : VP k0 m c 2 4 3 := vp_24
  have a5 : VP k0 m c 2 5 3 := VP.up (by decide) (by decide) (by decide) (by decide) a2
  have a6 : VP k0 m c 2 6 3 := VP.up (by decide) (by decide) (by decide) (by decide) a3
  intro k hk
  rcases k7 (show k ≤ 6 by omega) with rfl | rfl | rfl | rfl | rfl | rfl | rfl
  · exact a0
  · exact a1
  · exact a2
  · exact a3
  · exact a4
  · exact a5
  · exact a6
theorem lvl_3 (k : Nat) : lvl k ≤ 100 := by unfold lvl; split; omega; split <;> omega
theorem vp_10 : VP k0 m c 1 0 3 := by
  refine VP.own (b := 11) (by decide) (by decide) (by decide) (by decide) (fun C D x dep n N w h1 h2 h3 => ?_) (by decide)
  obtain ⟨w1, w2, w3, w4, w5, w6, w7, w8, w9, w10⟩ := id w
  obtain ⟨v, C', D', e1, e2, e3⟩ := vp_0 k0 (by omega) C D x dep n pm_D w (by omega) (by omega) (lvl_3 _)
  refine ⟨v * 2, C', D', ?_, e3, fun D0 e => ?_⟩
  · show pm_b2 ((fG_X6_say n).1 94 C (C 94 2) (nI 0) x (nI dep)) (fun (r2 : Int32) (M1 : pm_M) => (some ((r2 * 2), M1))) = _
    rw [w4, e1, b2_s]
  · show pm_b1 (f_X8_ran D0 (nI 11)) (fun M1 : pm_M => (pm_b2 (f_X8_of M1 (M1 0 15) 0) (fun (r3 : Int32) (M2 : pm_M) => (pm_b2 (rf 0 pm_D M2 r3 x) (fun (r5 : Int32) (M4 : pm_M) => (some ((r5 * 2), M4))))))) = _
    rw [e, b1_s, w7, x8_of (w := 0) (z := 0) rfl w3 (by decide), b2_s, w8, e2, b2_s]
theorem vp_13 : VP k0 m c 1 3 4 := by
  refine VP.own (b := 40) (by decide) (by decide) (by decide) (by decide) (fun C D x dep n N w h1 h2 h3 => ?_) (by decide)
  obtain ⟨v, C', D', e1, e2, e3⟩ := vp_10 (k0 := k0) (m := m) (c := c) C D x dep n N w (by omega) (by omega) (by have := h3; rw [show lvl 3 = 2 from rfl] at this; rw [show lvl 0 = 1 from rfl]; omega)
  have w' := w.q e3
  obtain ⟨w1, w2, w3, w4, w5, w6, w7, w8, w9, w10⟩ := id w'
  obtain ⟨v2, C2, D2, f1, f2, f3⟩ := vp_2 k0 (by omega) C' D' 1 dep n pm_D w' (by omega) (by omega) (lvl_3 _)
  refine ⟨v - v2, C2, D2, ?_, e3.trans f3, fun D0 e => ?_⟩
  · show pm_b2 ((fG_X6_say n).1 94 C (nI 0) (nI 1) x (nI dep)) (fun (r12 : Int32) (M11 : pm_M) => (pm_b2 ((fG_X6_say n).1 94 M11 (M11 94 2) (nI 2) 1 (nI dep)) (fun (r14 : Int32) (M13 : pm_M) => (some ((r12 - r14), M13))))) = _
    rw [e1, b2_s, w4, f1, b2_s]
  · show pm_b1 (f_X8_ran D0 (nI 40)) (fun M6 : pm_M => (pm_b2 (f_X8_above M6 (nI 3)) (fun (r8 : Int32) (M7 : pm_M) => (pm_b2 (rf 1 N M7 r8 x) (fun (r10 : Int32) (M9 : pm_M) => (pm_b2 (f_X8_of M9 (M9 0 15) 0) (fun (r12 : Int32) (M11 : pm_M) => (pm_b2 (rf 2 pm_D M11 r12 1) (fun (r14 : Int32) (M13 : pm_M) => (some ((r10 - r14), M13))))))))))) = _
    rw [e, b1_s, above_e 3 (by decide), b2_s, show abv 3 = 0 from rfl, e2, b2_s, w7, x8_of (w := 0) (z := 0) rfl w3 (by decide), b2_s, w8, f2, b2_s]
theorem vp_16 : VP k0 m c 1 6 5 := by
  refine VP.own (b := 70) (by decide) (by decide) (by decide) (by decide) (fun C D x dep n N w h1 h2 h3 => ?_) (by decide)
  obtain ⟨v, C', D', e1, e2, e3⟩ := vp_13 (k0 := k0) (m := m) (c := c) C D (x + 1) dep n N w (by omega) (by omega) (by have := h3; rw [show lvl 6 = 3 from rfl] at this; rw [show lvl 3 = 2 from rfl]; omega)
  refine ⟨v, C', D', ?_, e3, fun D0 e => ?_⟩
  · show pm_b2 ((fG_X6_say n).1 94 C (nI 3) (nI 1) (x + 1) (nI dep)) (fun (r26 : Int32) (M25 : pm_M) => (some (r26, M25))) = _
    rw [e1, b2_s]
  · show pm_b1 (f_X8_ran D0 (nI 70)) (fun M15 : pm_M => (pm_b2 (f_X8_above M15 (nI 6)) (fun (r17 : Int32) (M16 : pm_M) => (pm_b2 (rf 1 N M16 r17 (x + 1)) (fun (r19 : Int32) (M18 : pm_M) => (some (r19, M18))))))) = _
    rw [e, b1_s, above_e 6 (by decide), b2_s, show abv 6 = 3 from rfl, e2, b2_s]
theorem vp_1 : ∀ k, k < 7 → VP k0 m c 1 k 5 := by
  have a0 : VP k0 m c 1 0 5 := vp_10.mono (by decide)
  have a1 : VP k0 m c 1 1 5 := VP.up (by decide) (by decide) (by decide) (by decide) a0
  have a2 : VP k0 m c 1 2 5 := VP.up (by decide) (by decide) (by decide) (by decide) a0
  have a3 : VP k0 m c 1 3 5 := vp_13.mono (by decide)
  have a4 : VP k0 m c 1 4 5 := VP.up (by decide) (by decide) (by decide) (by decide) a1
  have a5 : VP k0 m c 1 5 5 := VP.up (by decide) (by decide) (by decide) (by decide) a2
  have a6 : VP k0 m c 1 6 5 := vp_16
  intro k hk
  rcases k7 (show k ≤ 6 by omega) with rfl | rfl | rfl | rfl | rfl | rfl | rfl
  · exact a0
  · exact a1
  · exact a2
  · exact a3
  · exact a4
  · exact a5
  · exact a6
theorem vp_30 : VP k0 m c 3 0 6 := by
  refine VP.own (b := 13) (by decide) (by decide) (by decide) (by decide) (fun C D x dep n N w h1 h2 h3 => ?_) (by decide)
  obtain ⟨w1, w2, w3, w4, w5, w6, w7, w8, w9, w10⟩ := id w
  obtain ⟨v, C', D', e1, e2, e3⟩ := vp_1 k0 (by omega) C D x dep n pm_D w (by omega) (by omega) (lvl_3 _)
  have w' := w.q e3
  obtain ⟨u1, u2, u3, u4, u5, u6, u7, u8, u9, u10⟩ := id w'
  obtain ⟨v2, C2, D2, f1, f2, f3⟩ := vp_2 k0 (by omega) C' D' x dep n pm_D w' (by omega) (by omega) (lvl_3 _)
  refine ⟨v ^^^ v2, C2, D2, ?_, e3.trans f3, fun D0 e => ?_⟩
  · show pm_b2 ((fG_X6_say n).1 94 C (C 94 2) (nI 1) x (nI dep)) (fun (r4 : Int32) (M3 : pm_M) => (pm_b2 ((fG_X6_say n).1 94 M3 (M3 94 2) (nI 2) x (nI dep)) (fun (r6 : Int32) (M5 : pm_M) => (some ((r4 ^^^ r6), M5))))) = _
    rw [w4, e1, b2_s, u4, f1, b2_s]
  · show pm_b1 (f_X8_ran D0 (nI 13)) (fun M1 : pm_M => (pm_b2 (f_X8_of M1 (M1 0 15) 0) (fun (r3 : Int32) (M2 : pm_M) => (pm_b2 (rf 1 pm_D M2 r3 x) (fun (r5 : Int32) (M4 : pm_M) => (pm_b2 (f_X8_of M4 (M4 0 15) 0) (fun (r7 : Int32) (M6 : pm_M) => (pm_b2 (rf 2 pm_D M6 r7 x) (fun (r9 : Int32) (M8 : pm_M) => (some ((r5 ^^^ r9), M8))))))))))) = _
    rw [e, b1_s, w7, x8_of (w := 0) (z := 0) rfl w3 (by decide), b2_s, w8, e2, b2_s, u7, x8_of (w := 0) (z := 0) rfl w3 (by decide), b2_s, u8, f2, b2_s]
theorem vp_31 : VP k0 m c 3 1 6 := VP.up (by decide) (by decide) (by decide) (by decide) vp_30
theorem vp_32 : VP k0 m c 3 2 6 := VP.up (by decide) (by decide) (by decide) (by decide) vp_30
theorem vp_34 : VP k0 m c 3 4 7 := by
  refine VP.own (b := 51) (by decide) (by decide) (by decide) (by decide) (fun C D x dep n N w h1 h2 h3 => ?_) (by decide)
  obtain ⟨w1, w2, w3, w4, w5, w6, w7, w8, w9, w10⟩ := id w
  obtain ⟨v, C', D', e1, e2, e3⟩ := vp_1 k0 (by omega) C D x dep n pm_D w (by omega) (by omega) (lvl_3 _)
  have w' := w.q e3
  obtain ⟨v2, C2, D2, f1, f2, f3⟩ := vp_31 (k0 := k0) (m := m) (c := c) C' D' x dep n N w' (by omega) (by omega) (by have := h3; rw [show lvl 4 = 3 from rfl] at this; rw [show lvl 1 = 2 from rfl]; omega)
  refine ⟨v - v2, C2, D2, ?_, e3.trans f3, fun D0 e => ?_⟩
  · show pm_b2 ((fG_X6_say n).1 94 C (C 94 2) (nI 1) x (nI dep)) (fun (r18 : Int32) (M17 : pm_M) => (pm_b2 ((fG_X6_say n).1 94 M17 (nI 1) (nI 3) x (nI dep)) (fun (r20 : Int32) (M19 : pm_M) => (some ((r18 - r20), M19))))) = _
    rw [w4, e1, b2_s, f1, b2_s]
  · show pm_b1 (f_X8_ran D0 (nI 51)) (fun M10 : pm_M => (pm_b2 (f_X8_of M10 (M10 0 15) 0) (fun (r12 : Int32) (M11 : pm_M) => (pm_b2 (rf 1 pm_D M11 r12 x) (fun (r14 : Int32) (M13 : pm_M) => (pm_b2 (f_X8_above M13 (nI 4)) (fun (r16 : Int32) (M15 : pm_M) => (pm_b2 (rf 3 N M15 r16 x) (fun (r18 : Int32) (M17 : pm_M) => (some ((r14 - r18), M17))))))))))) = _
    rw [e, b1_s, w7, x8_of (w := 0) (z := 0) rfl w3 (by decide), b2_s, w8, e2, b2_s, above_e 4 (by decide), b2_s, show abv 4 = 1 from rfl, f2, b2_s]
theorem vp_35 : VP k0 m c 3 5 7 := by
  refine VP.own (b := 60) (by decide) (by decide) (by decide) (by decide) (fun C D x dep n N w h1 h2 h3 => ?_) (by decide)
  obtain ⟨v, C', D', e1, e2, e3⟩ := vp_32 (k0 := k0) (m := m) (c := c) C D x dep n N w (by omega) (by omega) (by have := h3; rw [show lvl 5 = 3 from rfl] at this; rw [show lvl 2 = 2 from rfl]; omega)
  have w' := w.q e3
  obtain ⟨w1, w2, w3, w4, w5, w6, w7, w8, w9, w10⟩ := id w'
  obtain ⟨v2, C2, D2, f1, f2, f3⟩ := vp_0 k0 (by omega) C' D' 2 dep n pm_D w' (by omega) (by omega) (lvl_3 _)
  refine ⟨v - v2, C2, D2, ?_, e3.trans f3, fun D0 e => ?_⟩
  · show pm_b2 ((fG_X6_say n).1 94 C (nI 2) (nI 3) x (nI dep)) (fun (r22 : Int32) (M21 : pm_M) => (pm_b2 ((fG_X6_say n).1 94 M21 (M21 94 2) (nI 0) 2 (nI dep)) (fun (r24 : Int32) (M23 : pm_M) => (some ((r22 - r24), M23))))) = _
    rw [e1, b2_s, w4, f1, b2_s]
  · show pm_b1 (f_X8_ran D0 (nI 60)) (fun M19 : pm_M => (pm_b2 (f_X8_above M19 (nI 5)) (fun (r21 : Int32) (M20 : pm_M) => (pm_b2 (rf 3 N M20 r21 x) (fun (r23 : Int32) (M22 : pm_M) => (pm_b2 (f_X8_of M22 (M22 0 15) 0) (fun (r25 : Int32) (M24 : pm_M) => (pm_b2 (rf 0 pm_D M24 r25 2) (fun (r27 : Int32) (M26 : pm_M) => (some ((r23 - r27), M26))))))))))) = _
    rw [e, b1_s, above_e 5 (by decide), b2_s, show abv 5 = 2 from rfl, e2, b2_s, w7, x8_of (w := 0) (z := 0) rfl w3 (by decide), b2_s, w8, f2, b2_s]
theorem vp_3 : ∀ k, k < 7 → VP k0 m c 3 k 7 := by
  have a0 : VP k0 m c 3 0 7 := vp_30.mono (by decide)
  have a1 : VP k0 m c 3 1 7 := vp_31.mono (by decide)
  have a2 : VP k0 m c 3 2 7 := vp_32.mono (by decide)
  have a3 : VP k0 m c 3 3 7 := VP.up (by decide) (by decide) (by decide) (by decide) a0
  have a4 : VP k0 m c 3 4 7 := vp_34
  have a5 : VP k0 m c 3 5 7 := vp_35
  have a6 : VP k0 m c 3 6 7 := VP.up (by decide) (by decide) (by decide) (by decide) a3
  intro k hk
  rcases k7 (show k ≤ 6 by omega) with rfl | rfl | rfl | rfl | rfl | rfl | rfl
  · exact a0
  · exact a1
  · exact a2
  · exact a3
  · exact a4
  · exact a5
  · exact a6
theorem vp_a {a k : Nat} (ha : a < 4) (hk : k < 7) : VP k0 m c a k 7 := by
  have a4 : a = 0 ∨ a = 1 ∨ a = 2 ∨ a = 3 := by omega
  rcases a4 with rfl | rfl | rfl | rfl
  · exact (vp_0 k hk).mono (by decide)
  · exact (vp_1 k hk).mono (by decide)
  · exact (vp_2 k hk).mono (by decide)
  · exact vp_3 k hk
end VO
theorem e_voice {C D : pm_M} (h : RR C D) (x1 : Int32) (x2 : Int32) (x3 : Int32) : ∃ (r : Int32) (C' D' : pm_M), f_X7_voice C x1 x2 x3 = some (r, C') ∧ f_X8_voice D x1 x2 x3 = some (r, D') ∧ RR C' D' := by
  obtain ⟨⟨σ, h1, h2, h3⟩, h4⟩ := id h
  have h5 : sC σ ≤ 5 := h1.2.1
  unfold f_X7_voice f_X8_voice
  rw [x0_has (n := sC σ) h2.2.1 (by omega), x8_isCloud (n := sC σ) h3.2.1 (by omega), b2_s, b2_s, if_bi, if_bi]
  by_cases hr : 0 ≤ x1.toInt ∧ x1.toInt ≤ (sC σ : Int) - 1
  · obtain ⟨c, -, hc0, rfl⟩ := vx (lo := 0) (hi := sC σ - 1) (by omega) (x := x1) (by omega)
    have hc : c < sC σ := by have := hr.2; rw [nI_toInt (by omega)] at this; omega
    rw [if_pos hr, if_pos hr, x7_within, x8_in, b2_s, b2_s, if_bi, if_bi, i64, li0, li3, ll0, ll3]
    by_cases hw : 0 ≤ x2.toInt ∧ x2.toInt ≤ 3
    · obtain ⟨a, -, ha3, rfl⟩ := vx (lo := 0) (hi := 3) (by decide) hw
      obtain ⟨e0, e1, e2, e3⟩ := cellC h1 h2 hc
      obtain ⟨d0, d1, d2, d3⟩ := cellD h3 hc
      have b0 : sc σ 0 c ≤ 6 := h1.2.2.2.2.2.2.2.2.1 0 c hc (by decide)
      have bm : sc σ 1 c ≤ 9 := h1.2.2.2.2.2.2.2.2.1 1 c hc (by decide)
      generalize hC4 : pm_up (pm_up (pm_up (pm_up C 94 2 (nI (sc σ 0 c))) 94 3 (nI c)) 94 4 (nI (sc σ 1 c))) 94 1 0 = C4
      generalize hD4 : pm_up (pm_up D 0 15 (nI c)) 0 14 0 = D4
      have kC : ∀ q, q ≠ 94 → C4 q = C q := fun q hq => by subst hC4; rw [pm_up_o q hq, pm_up_o q hq, pm_up_o q hq, pm_up_o q hq]
      have kD : ∀ q, q ≠ 0 → D4 q = D q := fun q hq => by subst hD4; rw [pm_up_o q hq, pm_up_o q hq]
      have jD : ∀ j, j ≠ 14 → j ≠ 15 → D4 0 j = D 0 j := fun j a b => by subst hD4; rw [up_i a, up_i b]
      have w : VW (sc σ 0 c) (sc σ 1 c) c C4 D4 := by
        refine ⟨b0, bm, by omega, ?_, ?_, ?_, ?_, by rw [kD 1 (by decide)]; exact d0, by rw [kD 1 (by decide)]; exact d1, 0, by decide, ?_, ?_, fun i hi => absurd hi (Nat.not_lt_zero i)⟩
        · subst hC4; rw [up_i (by decide), up_i (by decide), up_i (by decide), up_s]
        · subst hC4; rw [up_i (by decide), up_i (by decide), up_s]
        · subst hC4; rw [up_i (by decide), up_s]
        · subst hD4; rw [up_i (by decide), up_s]
        · subst hC4; rw [up_s]; rfl
        · subst hD4; rw [up_s]; rfl
      obtain ⟨v, C5, D5, g1, g2, g3⟩ := vp_a (k0 := sc σ 0 c) (m := sc σ 1 c) (c := c) (a := a) (k := sc σ 0 c) (by omega) (by omega) C4 D4 x3 0 pm_D pm_D w (by omega) (by unfold pm_D; omega) (lvl_3 _)
      obtain ⟨q1, q2, q3, q4, q5⟩ := g3
      have c2 : C4 94 2 = nI (sc σ 0 c) := w.2.2.2.1
      have fC : ∀ q, q ≠ 94 → q ≠ 95 → C5 q = C q := fun q a b => (q1 q a b).trans (kC q a)
      have fD : ∀ q, q ≠ 0 → q ≠ 7 → D5 q = D q := fun q a b => (q3 q a b).trans (kD q a)
      have hR : RR C5 D5 := by
        obtain ⟨-, k4, k5, k6, k8, k9, k10⟩ := h
        exact ⟨⟨σ, h1, h2.congr (fun q a b _ _ => fC q (by omega) (by omega)), by rw [fD 1 (by decide) (by decide)]; exact h3⟩, k4.congr (fun q hq => fC q (by omega) (by omega)), k5.congr (fun q hq => fC q (by omega) (by omega)), k6.congr (fC 0 (by decide) (by decide)) (fun q a b => fC q (by omega) (by omega)) (by rw [q4 2 (by decide), jD 2 (by decide) (by decide)]) (fD 2 (by decide) (by decide)), k8.congr (fun q a b => fC q (by omega) (by omega)) (fD 8 (by decide) (by decide)) (fD 9 (by decide) (by decide)) (fD 10 (by decide) (by decide)), q5, k10.congr (fC 105 (by decide) (by decide)) (fD 3 (by decide) (by decide))⟩
      have an : f_X6_answer 94 C (nI (sc σ 0 c)) (nI c) (nI (sc σ 1 c)) (nI a) x3 = some (v, C5) := by
        unfold f_X6_answer
        rw [let_s, let_s, let_s, let_s, hC4, c2, show f_X6_say 94 C4 (nI (sc σ 0 c)) (nI a) x3 0 = some (v, C5) from g1, b2_s]
      have kof : f_X8_of D4 (nI c) 0 = some (nI (sc σ 0 c), D4) := by rw [x8_of (w := 0) (z := 0) rfl (by omega) (by decide), w.2.2.2.2.2.2.2.1]
      rw [if_pos hw, if_pos hw, chk_t (in_nI (n := c) (by omega) (by decide)), chk_t (in_nI (n := c) (by omega) (by decide)), nI_clamp (n := c) (by omega), e0, e1, an, b2_s, let_s, let_s, hD4, w.2.2.2.2.2.2.1, kof, b2_s]
      refine ⟨v, C5, D5, rfl, ?_, hR⟩
      have a4 : a = 0 ∨ a = 1 ∨ a = 2 ∨ a = 3 := by omega
      rcases a4 with rfl | rfl | rfl | rfl
      · rw [if_pos (show nI 0 = 0 from rfl), show f_X8_rainsBy D4 (nI (sc σ 0 c)) x3 = some (v, D5) from g2, b2_s]
      · rw [if_neg (show ¬ nI 1 = 0 by decide), if_pos (show nI 1 = 1 from rfl), show f_X8_driftsBy D4 (nI (sc σ 0 c)) x3 = some (v, D5) from g2, b2_s]
      · rw [if_neg (show ¬ nI 2 = 0 by decide), if_neg (show ¬ nI 2 = 1 by decide), if_pos (show nI 2 = 2 from rfl), show f_X8_wearsBy D4 (nI (sc σ 0 c)) x3 = some (v, D5) from g2, b2_s]
      · rw [if_neg (show ¬ nI 3 = 0 by decide), if_neg (show ¬ nI 3 = 1 by decide), if_neg (show ¬ nI 3 = 2 by decide), show f_X8_tellsBy D4 (nI (sc σ 0 c)) x3 = some (v, D5) from g2, b2_s]
    · rw [if_neg hw, if_neg hw, x7_e1, x8_e1, b2_s, b2_s]
      exact ⟨_, _, _, rfl, rfl, h.err 1⟩
  · rw [if_neg hr, if_neg hr, x7_e1, x8_e1, b2_s, b2_s]
    exact ⟨_, _, _, rfl, rfl, h.err 1⟩
