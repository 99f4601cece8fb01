/-! THE CLAIM OUT OF ONE WALK OF THE LAW'S BODY. Your part is whole_start (and what it stands on); all else here is the same for every law, but numbers. -/
def R_law : String := "RainSharesLaw"
def lw_P (b : Addr) (xs : List Int32) (args : Array Value) (s : State) : Prop := args = #[.ref b] ∧ s.IntsAt b xs ∧ xs.length ≤ 3072 ∧ (Jvm.Cond.and given_1 narrow_1).before args s = true
def lw_Q (_ : Array Value) (s : State) (o : Outcome) (t : State) : Prop := o = .returned (some (.int 1)) ∧ Framed s o t [] 600000 7302249
def lw_Z (below : List Frame) (a : Array Value) (s : State) : State → Prop := fun t => ∃ o, t.status = .running ∧ Ended t below o ∧ lw_Q a s o t
/-- the law's own end, with 1 on the stack, nothing written that was there before, its room as the claim has it -/
theorem lw_ret {p : Program} {l : Launch} {e : Env} {s : State} {m : MethodId} {below : List Frame} {meth : Method} {c : Code} {b : Nat} (hx : p.tables.exec = Jvm.exec) (hb : c.code = code) (hr : meth.sig.returnType = ret) (hlocks : meth.locks = false) {pc : Nat} {H : Heap} {ls : Array Slot} (hdg : decode code pc = .ok (.ireturn, 1)) : W p l e room_1 s m #[Value.ref b] below meth c H [] 600000 7302249 (lw_Z below #[Value.ref b] s) (F0 m pc ls [.int 1]) := by
  intro T hT X
  obtain ⟨fs, hret, hrun, hended, hW, hframe⟩ := X.leave (v := some (.int 1)) (hlocks := hlocks) (fun h => by rw [hr] at h; cases h)
  have hmeth' : T.vm.method? m = some meth := X.method'
  refine ⟨T.setFrames fs, ?_, .returned (some (.int 1)), hrun, hended, rfl, ⟨_, rfl⟩, hW, hframe⟩
  jvm_step X.here [X.here.top, hx, hb, hdg, hmeth', hr, ret, narrow_b1]
  (try refine ⟨rfl, ?_⟩); (try refine ⟨rfl, ?_⟩)
  first | (intro acts; rw [hret _ acts rfl rfl rfl]) | rw [hret _ _ rfl rfl rfl]
  exact Steps.refl _
/-- what holds at the law's entry: the machine, the code, the tables' words (any of lw_tbl by 'hts w (by decide +kernel)'), the script of L ints xs at the cell b, what the Statement gives of the start (any of its parts by flat_of_before) -/
def lw_At (p : Program) (s : State) (m : MethodId) (meth : Method) (c : Code) (b L : Nat) (xs : Nat → Int32) : Prop :=
  p.tables.exec = Jvm.exec ∧ c.code = code ∧ meth.sig.returnType = ret ∧ c.maxLocals = 4 ∧ s.vm.findClass R_law = some m.cls ∧ (∀ w ∈ lw_tbl, w.before #[Value.ref b] s = true) ∧ va_X b L xs s s.heap ∧ b < s.heap.size ∧ meth.locks = false ∧ (Jvm.Cond.and given_1 narrow_1).before #[Value.ref b] s = true
theorem st_ABOVE {b : Nat} {s : State} {A : Nat → Prop} (hts : ∀ w ∈ lw_tbl, w.before #[Value.ref b] s = true) (hgv : (Jvm.Cond.and given_1 narrow_1).before #[Value.ref b] s = true) (hA : ∀ a : Nat, a < s.heap.size → ¬ A a) : ∃ t : Nat, va_Z "RainShares" "ABOVE" "[I" (.ref t) A s s.heap ∧ va_T .int t 7 (fun j => .int (pm_ABOVE j)) A s s.heap := by
  have hs := flat_of_before _ hgv
  have h1 : (Cond.arrayOf (.static "RainShares" "ABOVE" "[I") .int).before #[Value.ref b] s = true := hs _ (by decide +kernel)
  have h2 : (Cond.eq (.length (.static "RainShares" "ABOVE" "[I")) (.int 7)).before #[Value.ref b] s = true := hs _ (by decide +kernel)
  have hel : ∀ j, j < 7 → (Cond.eq (.elem (.static "RainShares" "ABOVE" "[I") (.int (Int32.ofNat j))) (.int (pm_ABOVE j))).before #[Value.ref b] s = true := fun j hj => hs _ ((by decide +kernel : ∀ j, j < 7 → (Cond.eq (.elem (.static "RainShares" "ABOVE" "[I") (.int (Int32.ofNat j))) (.int (pm_ABOVE j))) ∈ flatC (Jvm.Cond.and given_1 narrow_1)) j hj)
  obtain ⟨t, ht, hT⟩ := va_Tof (N := 7) (f := fun j => .int (pm_ABOVE j)) (A := A) (by decide) h1 (va_eqt h2) (fun j hj => va_eqt (hel j hj)) hA
  exact ⟨t, va_Zof (hts _ (List.mem_of_getElem? (i := 469) (by decide +kernel))) (hts _ (List.mem_of_getElem? (i := 60) (by decide +kernel))) ht hA, hT⟩
theorem st_NAMES {b : Nat} {s : State} {A : Nat → Prop} (hts : ∀ w ∈ lw_tbl, w.before #[Value.ref b] s = true) (hgv : (Jvm.Cond.and given_1 narrow_1).before #[Value.ref b] s = true) (hA : ∀ a : Nat, a < s.heap.size → ¬ A a) : ∃ t : Nat, va_Z "RainShares" "NAMES" "[C" (.ref t) A s s.heap ∧ va_T .char t 6 (fun j => .int (pm_NAMES j)) A s s.heap := by
  have hs := flat_of_before _ hgv
  have h1 : (Cond.arrayOf (.static "RainShares" "NAMES" "[C") .char).before #[Value.ref b] s = true := hs _ (by decide +kernel)
  have h2 : (Cond.eq (.length (.static "RainShares" "NAMES" "[C")) (.int 6)).before #[Value.ref b] s = true := hs _ (by decide +kernel)
  have hel : ∀ j, j < 6 → (Cond.eq (.elem (.static "RainShares" "NAMES" "[C") (.int (Int32.ofNat j))) (.int (pm_NAMES j))).before #[Value.ref b] s = true := fun j hj => hs _ ((by decide +kernel : ∀ j, j < 6 → (Cond.eq (.elem (.static "RainShares" "NAMES" "[C") (.int (Int32.ofNat j))) (.int (pm_NAMES j))) ∈ flatC (Jvm.Cond.and given_1 narrow_1)) j hj)
  obtain ⟨t, ht, hT⟩ := va_Tof (N := 6) (f := fun j => .int (pm_NAMES j)) (A := A) (by decide) h1 (va_eqt h2) (fun j hj => va_eqt (hel j hj)) hA
  exact ⟨t, va_Zof (hts _ (List.mem_of_getElem? (i := 506) (by decide +kernel))) (hts _ (List.mem_of_getElem? (i := 60) (by decide +kernel))) ht hA, hT⟩
theorem st_BODIES {b : Nat} {s : State} {A : Nat → Prop} (hts : ∀ w ∈ lw_tbl, w.before #[Value.ref b] s = true) (hgv : (Jvm.Cond.and given_1 narrow_1).before #[Value.ref b] s = true) (hA : ∀ a : Nat, a < s.heap.size → ¬ A a) : ∃ t : Nat, va_Z "RainShares$Voices" "BODIES" "[I" (.ref t) A s s.heap ∧ va_T .int t 28 (fun j => .int (pm_BODIES j)) A s s.heap := by
  have hs := flat_of_before _ hgv
  have h1 : (Cond.arrayOf (.static "RainShares$Voices" "BODIES" "[I") .int).before #[Value.ref b] s = true := hs _ (by decide +kernel)
  have h2 : (Cond.eq (.length (.static "RainShares$Voices" "BODIES" "[I")) (.int 28)).before #[Value.ref b] s = true := hs _ (by decide +kernel)
  have hel : ∀ j, j < 28 → (Cond.eq (.elem (.static "RainShares$Voices" "BODIES" "[I") (.int (Int32.ofNat j))) (.int (pm_BODIES j))).before #[Value.ref b] s = true := fun j hj => hs _ ((by decide +kernel : ∀ j, j < 28 → (Cond.eq (.elem (.static "RainShares$Voices" "BODIES" "[I") (.int (Int32.ofNat j))) (.int (pm_BODIES j))) ∈ flatC (Jvm.Cond.and given_1 narrow_1)) j hj)
  obtain ⟨t, ht, hT⟩ := va_Tof (N := 28) (f := fun j => .int (pm_BODIES j)) (A := A) (by decide) h1 (va_eqt h2) (fun j hj => va_eqt (hel j hj)) hA
  exact ⟨t, va_Zof (hts _ (List.mem_of_getElem? (i := 721) (by decide +kernel))) (hts _ (List.mem_of_getElem? (i := 66) (by decide +kernel))) ht hA, hT⟩
theorem law_K {b : Nat} {s : State} (hts : ∀ w ∈ lw_tbl, w.before #[Value.ref b] s = true) : ∃ w : (Nat → ClassId) × va_G, ∀ q : Nat → Nat, va_K w.2 pm_cls (pm_tys (q, w)) s := by
  obtain ⟨k0, i0, hk0⟩ := u_known (C := RX0) (T := TX0) (N := 5) (n := 5) hts (by decide +kernel : ∀ w ∈ u_ws RX0 TX0 5, w ∈ lw_tbl) (hts (.instantiable RX0 5) (List.mem_of_getElem? (i := 126) (by decide +kernel)))
  obtain ⟨k1, i1, hk1⟩ := u_known (C := RX1) (T := TX1) (N := 5) (n := 5) hts (by decide +kernel : ∀ w ∈ u_ws RX1 TX1 5, w ∈ lw_tbl) (hts (.instantiable RX1 5) (List.mem_of_getElem? (i := 159) (by decide +kernel)))
  obtain ⟨k2, i2, hk2⟩ := u_known (C := RX2) (T := TX2) (N := 7) (n := 7) hts (by decide +kernel : ∀ w ∈ u_ws RX2 TX2 7, w ∈ lw_tbl) (hts (.instantiable RX2 7) (List.mem_of_getElem? (i := 230) (by decide +kernel)))
  obtain ⟨k3, i3, hk3⟩ := u_known (C := RX3) (T := TX3) (N := 6) (n := 6) hts (by decide +kernel : ∀ w ∈ u_ws RX3 TX3 6, w ∈ lw_tbl) (hts (.instantiable RX3 6) (List.mem_of_getElem? (i := 87) (by decide +kernel)))
  obtain ⟨k4, i4, hk4⟩ := u_known (C := RX4) (T := TX4) (N := 3) (n := 3) hts (by decide +kernel : ∀ w ∈ u_ws RX4 TX4 3, w ∈ lw_tbl) (hts (.instantiable RX4 3) (List.mem_of_getElem? (i := 285) (by decide +kernel)))
  obtain ⟨k5, i5, hk5⟩ := u_known (C := RX5) (T := TX5) (N := 12) (n := 12) hts (by decide +kernel : ∀ w ∈ u_ws RX5 TX5 12, w ∈ lw_tbl) (hts (.instantiable RX5 12) (List.mem_of_getElem? (i := 81) (by decide +kernel)))
  obtain ⟨k6, i6, hk6⟩ := u_known (C := RX6) (T := TX6) (N := 5) (n := 5) hts (by decide +kernel : ∀ w ∈ u_ws RX6 TX6 5, w ∈ lw_tbl) (hts (.instantiable RX6 5) (List.mem_of_getElem? (i := 260) (by decide +kernel)))
  obtain ⟨k7, i7, hk7⟩ := u_known (C := RX7) (T := TX7) (N := 8) (n := 8) hts (by decide +kernel : ∀ w ∈ u_ws RX7 TX7 8, w ∈ lw_tbl) (hts (.instantiable RX7 8) (List.mem_of_getElem? (i := 73) (by decide +kernel)))
  obtain ⟨k8, i8, hk8⟩ := u_known (C := RX8) (T := TX8) (N := 20) (n := 20) hts (by decide +kernel : ∀ w ∈ u_ws RX8 TX8 20, w ∈ lw_tbl) (hts (.instantiable RX8 20) (List.mem_of_getElem? (i := 799) (by decide +kernel)))
  obtain ⟨c0, kk0, comp0, f0, g0, h0⟩ := Cond.arrayClass_spec (type := .int) (hts _ (List.mem_of_getElem? (i := 124) (by decide +kernel)))
  obtain ⟨comp1, c1, kk1, e1, -, g1, h1, f1⟩ := Cond.arrayOver_spec (n := "RainShares$Law") (hts _ (List.mem_of_getElem? (i := 158) (by decide +kernel)))
  obtain ⟨comp2, c2, kk2, e2, -, g2, h2, f2⟩ := Cond.arrayOver_spec (n := "RainShares$Sheet") (hts _ (List.mem_of_getElem? (i := 284) (by decide +kernel)))
  obtain ⟨comp3, c3, kk3, e3, g3, h3, f3⟩ := Cond.arrayOver_specA (t := .int) (hts _ (List.mem_of_getElem? (i := 93) (by decide +kernel)))
  refine ⟨(fun k => if k = 0 then c0 else if k = 1 then c1 else if k = 2 then c2 else c3, (fun k => if k = 0 then k0 else if k = 1 then k1 else if k = 2 then k2 else if k = 3 then k3 else if k = 4 then k4 else if k = 5 then k5 else if k = 6 then k6 else if k = 7 then k7 else k8, fun k => if k = 0 then i0 else if k = 1 then i1 else if k = 2 then i2 else if k = 3 then i3 else if k = 4 then i4 else if k = 5 then i5 else if k = 6 then i6 else if k = 7 then i7 else i8)), fun q => ⟨?_, ?_⟩⟩
  · intro k q hq
    match k, hq with
    | 0, hq => cases hq; exact hk0
    | 1, hq => cases hq; exact hk1
    | 2, hq => cases hq; exact hk2
    | 3, hq => cases hq; exact hk3
    | 4, hq => cases hq; exact hk4
    | 5, hq => cases hq; exact hk5
    | 6, hq => cases hq; exact hk6
    | 7, hq => cases hq; exact hk7
    | 8, hq => cases hq; exact hk8
    | k + 9, hq => simp [pm_cls] at hq
  · intro k q hq
    match k, hq with
    | 0, hq => cases hq; exact ⟨fun n z => ⟨fun k h => (by cases h), kk0, g0, comp0, h0⟩, f0⟩
    | 1, hq => cases hq; exact ⟨fun n z => ⟨fun k h => (by cases h), kk1, g1, comp1, h1⟩, kk1, comp1, g1, h1, e1, f1⟩
    | 2, hq => cases hq; exact ⟨fun n z => ⟨fun k h => (by cases h), kk2, g2, comp2, h2⟩, kk2, comp2, g2, h2, e2, f2⟩
    | 3, hq => cases hq; exact ⟨fun n z => ⟨fun k h => (by cases h), kk3, g3, comp3, h3⟩, f3⟩
    | k + 4, hq => simp [pm_tys] at hq
theorem law_ext {b : Nat} {s : State} (hts : ∀ w ∈ lw_tbl, w.before #[Value.ref b] s = true) : pm_ext s ∧ pm_nst s := by
  refine ⟨⟨⟨va_Nw.of rfl (hts _ (List.mem_of_getElem? (i := 82) (by decide +kernel))), va_Nw.of rfl (hts _ (List.mem_of_getElem? (i := 88) (by decide +kernel))), va_Nw.of rfl (hts _ (List.mem_of_getElem? (i := 127) (by decide +kernel))), va_Nw.of rfl (hts _ (List.mem_of_getElem? (i := 231) (by decide +kernel))), va_Nw.of rfl (hts _ (List.mem_of_getElem? (i := 261) (by decide +kernel))), va_Nw.of rfl (hts _ (List.mem_of_getElem? (i := 286) (by decide +kernel)))⟩, va_AO.of (hts _ (List.mem_of_getElem? (i := 158) (by decide +kernel))), va_AO.of (hts _ (List.mem_of_getElem? (i := 284) (by decide +kernel))), va_AOA.of (hts _ (List.mem_of_getElem? (i := 93) (by decide +kernel)))⟩, va_Nw.of rfl (hts _ (List.mem_of_getElem? (i := 468) (by decide +kernel))), va_Nw.of rfl (hts _ (List.mem_of_getElem? (i := 505) (by decide +kernel))), va_Nw.of rfl (hts _ (List.mem_of_getElem? (i := 722) (by decide +kernel)))⟩
theorem pm_reQ {q Q : Nat → Nat} {w : (Nat → ClassId) × va_G} {sk sk' : List pm_Sh} {M : pm_M} (hq : ∀ i, i < sk.length → q i = Q i) (hp : sk.all (pm_shk sk.length) = true) (hs : sk.map (pm_shp 0) = sk') : pm_wld (q, w) sk M = pm_wld (Q, w) sk' M := by
  rw [pm_wF_eq, pm_wF_eq, pm_chunk (Q := Q) (M := M) (M0 := M) (o := 0) (fun i hi => by rw [Nat.zero_add]; exact hq i hi) (fun i hi => by rw [Nat.zero_add]) hp, hs]
theorem mg_RS : s0_RS.map (pm_shp 0) = skC := by decide +kernel
theorem mg_MO : s0_MO.map (pm_shp 0) = skD := by decide +kernel
set_option maxHeartbeats 4000000 in
set_option maxRecDepth 100000 in
/-- from the entry, for every script of at most 3072 ints, the law comes to its end with true -/
theorem whole_start {p : Program} {e : Env} {s : State} {m : MethodId} {below : List Frame} {meth : Method} {c : Code} (l : Launch) (hflags : l.flags = flags0) {b L : Nat} {xs : Nat → Int32} (hL : L ≤ 3072) (C0 : lw_At p s m meth c b L xs) : W p l e room_1 s m #[Value.ref b] below meth c s.heap [] 0 0 (lw_Z below #[Value.ref b] s) (entryFrame m ([Value.ref b] : List Value).toArray 4) := by
  obtain ⟨hx, hb, hr, hml, hown, hts, hX, hbl, hlocks, hgv⟩ := id C0
  have htb : ∀ w ∈ pm_tb, w.before #[Value.ref b] s = true := fun w hw => hts w (List.mem_filter.mp hw).1
  have hA0 : ∀ a : Nat, a < s.heap.size → ¬ s.heap.size ≤ a := fun a h => Nat.not_le.mpr h
  obtain ⟨t1, hz1, hT1⟩ := st_ABOVE (A := fun q : Nat => s.heap.size ≤ q) hts hgv hA0
  obtain ⟨t2, hz2, hT2⟩ := st_NAMES (A := fun q : Nat => s.heap.size ≤ q) hts hgv hA0
  obtain ⟨t3, hz3, hT3⟩ := st_BODIES (A := fun q : Nat => s.heap.size ≤ q) hts hgv hA0
  obtain ⟨w, hK⟩ := law_K hts
  obtain ⟨hext, hnst⟩ := law_ext hts
  obtain ⟨V0, hV0⟩ : ∃ V0 : pm_V, V0 = (fun k => if k = 900 then t1 else if k = 901 then t2 else t3, w) := ⟨_, rfl⟩
  have hst : pm_stat V0 (fun q : Nat => s.heap.size ≤ q) s s.heap := by subst hV0; exact ⟨⟨hz1, hT1⟩, ⟨hz2, hT2⟩, hz3, hT3⟩
  have hK0 : va_K V0.2.2 pm_cls (pm_tys V0) s := by subst hV0; exact hK _
  obtain ⟨Z, hZ⟩ : ∃ Z : pm_Z, Z = (p, l, e, room_1, s, m, #[Value.ref b], below, meth, c, lw_Z below #[Value.ref b] s, fun q : Nat => s.heap.size ≤ q) := ⟨_, rfl⟩
  have hz : pm_cx Z 600000 7302249 := by subst hZ; exact ⟨rfl, rfl, fun _ h => h, hext⟩
  have hsc : ∀ k n, pm_sc (pm_Y Z k n) b L xs := by subst hZ; exact fun _ _ => ⟨hX, hbl, hA0 b hbl⟩
  have hl := lv_entry ([.ref b]) (n := 4) (Nat.le_of_ble_eq_true rfl)
  rw [lg_entry_eq]
  generalize (lg_sl ([.ref b]) ++ List.replicate (4 - (lg_sl ([.ref b])).length) Slot.unset).toArray = ls at hl ⊢
  have main : pm_J (pm_Y Z 0 0) V0 mL 1300 [] 0 [(0, .ref b)] [] := by
    refine nr_new (ws := []) (ci := 7) (ty := tyX7) [.null, .null, .null, .int 0, .null, .null, .null, .null] hz dL_law_0 rfl iX7 tyX7_ok lcL_7 li_7.1 li_7.2 (fun j hj => by rcases (show j = 0 ∨ j = 1 ∨ j = 2 ∨ j = 3 ∨ j = 4 ∨ j = 5 ∨ j = 6 ∨ j = 7 by omega) with rfl | rfl | rfl | rfl | rfl | rfl | rfl | rfl <;> rfl) (Nat.le_of_ble_eq_true rfl) (Nat.le_of_ble_eq_true rfl) ?_
    intro q1
    refine jr_dup dL_law_3 rfl ?_
    refine nr_call (ws := []) (y := yX7_init) (mi' := mX7_init) (ht' := 3) (a := q1) (ci := 7) (mc' := 105) (ms' := 1555) (fs0 := [.null, .null, .null, .int 0, .null, .null, .null, .null]) (As := []) (sk := s0_RS) (M0 := m0_RS) hz dL_law_4 (Or.inl lkL_9) ky_X7_init np_X7_init (Nat.le_of_ble_eq_true rfl) (Nat.le_of_ble_eq_true rfl) rfl (Nat.le_of_ble_eq_true rfl) (Nat.le_of_ble_eq_true rfl) (fun l => cn_X7_init l V0) ?_
    intro f1 e1
    subst e1
    rw [List.nil_append]
    refine jr_astoren (L' := [(1, .ref (f1 0)), (0, .ref b)]) dL_law_7 (Nat.le_of_ble_eq_true rfl) rfl ?_
    refine nr_new (ci := 8) (ty := tyX8) [.null, .null, .int 0, .null, .null, .int 0, .int 0, .int 0, .int 0, .int 0, .int 0, .null, .null, .null, .int 0, .int 0, .null, .null, .null, .null] hz dL_law_8 rfl iX8 tyX8_ok lcL_10 li_8.1 li_8.2 (fun j hj => by rcases (show j = 0 ∨ j = 1 ∨ j = 2 ∨ j = 3 ∨ j = 4 ∨ j = 5 ∨ j = 6 ∨ j = 7 ∨ j = 8 ∨ j = 9 ∨ j = 10 ∨ j = 11 ∨ j = 12 ∨ j = 13 ∨ j = 14 ∨ j = 15 ∨ j = 16 ∨ j = 17 ∨ j = 18 ∨ j = 19 by omega) with rfl | rfl | rfl | rfl | rfl | rfl | rfl | rfl | rfl | rfl | rfl | rfl | rfl | rfl | rfl | rfl | rfl | rfl | rfl | rfl <;> rfl) (Nat.le_of_ble_eq_true rfl) (Nat.le_of_ble_eq_true rfl) ?_
    intro q2
    refine jr_dup dL_law_11 rfl ?_
    refine nr_call (ws := pm_wld (f1, V0.2) s0_RS m0_RS) (y := yX8_init) (mi' := mX8_init) (ht' := 1) (a := q2) (ci := 8) (mc' := 11) (ms' := 865) (fs0 := [.null, .null, .int 0, .null, .null, .int 0, .int 0, .int 0, .int 0, .int 0, .int 0, .null, .null, .null, .int 0, .int 0, .null, .null, .null, .null]) (As := []) (sk := s0_MO) (M0 := m0_MO) hz dL_law_12 (Or.inl lkL_12) ky_X8_init np_X8_init (Nat.le_of_ble_eq_true rfl) (Nat.le_of_ble_eq_true rfl) rfl (Nat.le_of_ble_eq_true rfl) (Nat.le_of_ble_eq_true rfl) (fun l => cn_X8_init l V0) ?_
    intro f2 e2
    subst e2
    refine jr_astoren (L' := [(2, .ref (f2 0)), (1, .ref (f1 0)), (0, .ref b)]) dL_law_15 (Nat.le_of_ble_eq_true rfl) rfl ?_
    refine jr_iconst (v := 0) dL_law_16 (by decide) ?_
    refine jr_istoren (L' := [(3, .int 0), (2, .ref (f2 0)), (1, .ref (f1 0)), (0, .ref b)]) dL_law_17 (Nat.le_of_ble_eq_true rfl) rfl ?_
    obtain ⟨VC, hVC⟩ : ∃ VC : pm_V, VC = (fun k => if k < 106 then f1 k else V0.1 k, V0.2) := ⟨_, rfl⟩
    obtain ⟨VD, hVD⟩ : ∃ VD : pm_V, VD = (fun k => if k < 106 then f2 k else V0.1 k, V0.2) := ⟨_, rfl⟩
    have w1 : pm_wld (f1, V0.2) s0_RS m0_RS = pm_wld VC skC m0_RS := by
      subst hVC
      exact pm_reQ (fun i hi => by have hi : i < 106 := hi; exact (if_pos hi).symm) (by decide +kernel) mg_RS
    have w2 : pm_wld (f2, V0.2) s0_MO m0_MO = pm_wld VD skD m0_MO := by
      subst hVD
      exact pm_reQ (fun i hi => by have hi : i < 12 := hi; exact (if_pos (show i < 106 by omega)).symm) (by decide +kernel) mg_MO
    rw [w1, w2, ← List.append_nil (pm_wld VD skD m0_MO)]
    have a1 : f1 0 = VC.1 0 := by subst hVC; rfl
    have a2 : f2 0 = VD.1 0 := by subst hVD; rfl
    rw [a1, a2]
    refine jr_sub [3, 2, 1, 0] rfl ?_
    have hv : VD.2 = VC.2 := by subst hVC; subst hVD; rfl
    have hs : VD.1 900 = VC.1 900 ∧ VD.1 901 = VC.1 901 ∧ VD.1 902 = VC.1 902 := by subst hVC; subst hVD; exact ⟨rfl, rfl, rfl⟩
    have hloop := law_loop (X := pm_Y Z (0 + 1 + 105 + 1 + 11) (0 + 8 + 1555 + 20 + 865)) (VC := VC) (VD := VD) (b := b) (n := L) (xs := xs) (hsc _ _) hL hv hs (by
      intro C D L9
      subst hZ
      intro ok H locs ls9 hP hD hS hl9
      refine va_forget (fun q hq => hS.2.2 q hq) ?_
      refine W.widen (k := 600000) (n := 7302249) (Nat.le_of_ble_eq_true rfl) (Nat.le_of_ble_eq_true rfl) ?_
      exact lw_ret hx hb hr hlocks dL_law_1502.1) (L + 1) 0 m0_RS m0_MO (Nat.zero_le _) (by omega) rr_0
    have h9 : ∀ (ws : va_W) (L9 : List (Nat × Value)), pm_J (pm_Y Z (0 + 1 + 105 + 1 + 11) (0 + 8 + 1555 + 20 + 865)) VC mL 1300 ws 18 L9 [] → pm_J (pm_Y Z (0 + 1 + 105 + 1 + 11) (0 + 8 + 1555 + 20 + 865)) V0 mL 1300 ws 18 L9 [] := by
      subst hVC
      intro ws L9 h
      exact h
    exact h9 _ _ hloop
  subst hZ
  exact main ⟨hx, hb, hml, hown, htb, hK0, ⟨hst, hnst⟩, ⟨Nat.zero_le _, Nat.zero_le _⟩, by show 1300 + 1 ≤ 2048; omega, by show 64 * (1300 + 1) ≤ 84000; omega⟩ s.heap [] ls (fun k q h => by simp at h) ⟨fun i j p q h => by simp at h, fun k q h => by simp at h⟩ va_S.rf hl
-- ===== YOUR PART ENDS =====
set_option maxHeartbeats 4000000 in
theorem lw_walk (l : Launch) (hflags : l.flags = flags0) (b : Addr) (xs : List Int32) : MetFree l x (headSpec (Jvm.Cond.code x code maxLocals ret :: tables_1) room_1) (lw_P b xs) (fun _ _ _ _ _ => True) lw_Q := by
  refine MetFree.of_bodyS (code := code) (maxLocals := maxLocals) (ret := ret) (by decide) ?_ ?_
  · intro args s m h hn
    obtain ⟨meth, c, h1, h2, h3, h4, h5, h6, -, -⟩ := Cond.code_spec hn (atoms_spec (ws := Jvm.Cond.code x code maxLocals ret :: tables_1) h _ List.mem_cons_self)
    exact ⟨meth, c, h1, h2, h3, h4, h5, h6⟩
  · intro p e s m args below meth c s₁ B hml0 hP _
    obtain ⟨rfl, hx, hbd, hgv⟩ := hP
    obtain ⟨scr, harrAt, hlist, hof, hsmall⟩ := hx
    obtain ⟨hcb, hkn, -, -⟩ := State.arrayAt?_spec harrAt
    have hown : s.vm.findClass R_law = some m.cls := findClass_of_methodNamed B.named
    have hts0 : ∀ c ∈ (Jvm.Cond.code x code maxLocals ret :: tables_1), c.before #[Value.ref b] s = true := atoms_spec (ws := Jvm.Cond.code x code maxLocals ret :: tables_1) B.pre
    have hts : ∀ w ∈ lw_tbl, w.before #[Value.ref b] s = true := k2_hts_sels lw_privs (fun w hw => hts0 w (List.mem_cons_of_mem _ hw)) lw_privs_ok
    have hml : c.maxLocals = 4 := B.maxLocals_eq (hts0 _ List.mem_cons_self)
    have X₀ : Stand p l e room_1 s m #[Value.ref b] below meth c s₁ [] 0 0 := Stand.of_body B
    have hh0 : s₁.heap = s.heap := by rw [B.state]; rfl
    have hsz : scr.slots.size = xs.length := by rw [← Array.length_toList, hlist, List.length_map]
    have hval : ∀ j : Nat, j < xs.length → scr.slots[j]? = some (.int (xs.getD j 0)) := fun j hj => by
      rw [← Array.getElem?_toList, hlist]
      simp [hj]
    have hbl : b < s.heap.size := (Array.getElem?_eq_some_iff.mp hcb).1
    have hX : va_X b xs.length (fun j => xs.getD j 0) s s.heap := ⟨scr, hcb, hof, hkn, hsz, hval⟩
    have K : W p l e room_1 s m #[Value.ref b] below meth c s₁.heap [] 0 0 (lw_Z below #[Value.ref b] s) (entryFrame m ([Value.ref b] : List Value).toArray 4) := by
      rw [hh0]
      exact whole_start l hflags hbd ⟨B.exec, B.bytes, B.returns, hml, hown, hts, hX, hbl, B.notSynchronized, hgv⟩
    obtain ⟨t, a1, o, b1, b2, b3⟩ := K s₁ rfl X₀
    exact ⟨t, o, a1, b1, b2, b3⟩
theorem lw_pre_spec {args : Array Value} {s : State} (h : (Jvm.Cond.and given_1 narrow_1).before args s = true) (hr : rest_1_c.before args s = true) : ∃ (b : Addr) (xs : List Int32), lw_P b xs args s := by
  have hs := flat_of_before _ h
  have hq := flat_of_before _ hr
  have hc : (Cond.count 1).before args s = true := hs _ (by decide +kernel)
  have harr : (Cond.arrayOf (.arg 0) .int).before args s = true := hs _ (by decide +kernel)
  have hle : (Cond.le (.length (.arg 0)) (.int 3072)).before args s = true := hs _ (by decide +kernel)
  have hlen : (Cond.isInt (.length (.arg 0))).before args s = true := hq _ (by decide +kernel)
  have hall : (Cond.all (.arg 0) (.isInt (.elem (.arg 0) (.index 0)))).before args s = true := hq _ (by decide +kernel)
  obtain ⟨b, xs, hb, hx⟩ := State.ints_of_pre rfl harr hlen hall
  have hsm : xs.length < 2 ^ 31 := hx.choose_spec.2.2.2
  have hev : (Term.length (.arg 0)).eval args s none [] s = some (.int xs.length.toInt32) := hx.length_eval hb
  have hv := Cond.le_ints hev (show (Term.int 3072).eval args s none [] s = some (.int 3072) from rfl)
  have hd : xs.length.toInt32 ≤ 3072 := by
    simpa [Cond.before, Cond.holds, hv] using hle
  have hN : xs.length ≤ 3072 := (Int32.ofNat_le_ofNat hsm (by decide)).mp (show Int32.ofNat xs.length ≤ Int32.ofNat 3072 from hd)
  exact ⟨b, xs, Cond.one_arg hc (show args[0]? = some (.ref b) from hb), hx, hN, h⟩
theorem lw_comes (l : Launch) (hflags : l.flags = flags0) : Comes l x (Jvm.Cond.code x code maxLocals ret :: tables_1) room_1 (fun tb e args s => Calls_1 tb e args s ∧ rest_1 tb e args s ∧ Pre_1 tb e args s)
    (fun _ _ args s o t => lw_Q args s o t) := by
  intro p e ha hc hk s m args below hf hfit hheap happ hpre
  obtain ⟨b, xs, hP⟩ := lw_pre_spec hpre.2.2 hpre.2.1
  obtain ⟨k, o, h1, h2, h3, hQ⟩ := lw_walk l hflags b xs p e ha hc hk s m args below hf ((Spec.applies_iff_loose hf).mp happ).1 hP trivial
  exact ⟨k, o, h1, h2, h3, hQ⟩
theorem lw_frame {s t : State} {o : Outcome} {args : Array Value} (h : Framed s o t [] 600000 7302249) :
    Framed s o t (fieldLocs frame_1_writes args s ++ arrayLocs frame_1_arrays args s ++ staticLocs frame_1_statics s) 600000 7302249 := h
theorem lw_limb (L : Cond) (hL : ∀ (args : Array Value) (s t : State), L.after args s (.returned (some (.int 1))) t = true) :
    ArmFor flags0 classFile x code maxLocals ret World_1 tables_1 room_1 Calls_1 rest_1 Pre_1
      (fun tb e a s o t => postC L tb e a s o t ∧ Framed s o t (fieldLocs frame_1_writes a s ++ arrayLocs frame_1_arrays a s ++ staticLocs frame_1_statics s) 600000 7302249) := by
  intro l hflags _ _ p e ha hc hk s m args below hf hfit hheap happ hpre
  obtain ⟨k, o, h1, h2, h3, rfl, hF⟩ := lw_comes l hflags p e ha hc hk s m args below hf hfit hheap happ hpre
  exact ⟨k, _, h1, h2, h3, hL args s _, lw_frame hF⟩
theorem i_vc : Claimed_1_1 ∧ Claimed_1_2 := ⟨lw_limb limb_1_1 (fun args s t => by simp [limb_1_1, Cond.after, Cond.holds, Cond.value]), lw_limb limb_1_2 (fun args s t => Cond.after_iff.mpr (by
  first | (rw [show limb_1_2 = Cond.eq .result (.int 1) from rfl, Cond.eq_ints (x := 1) (y := 1) rfl rfl]; simp; done) | (simp [limb_1_2, Cond.value, Term.eval]; done)))⟩

