/-- the tables' words that stay true -/
def pm_tb : List Cond := lw_tbl.filter goodWord
theorem pm_w {w : Cond} (i : Nat) (h : lw_tbl[i]? = some w) (hg : goodWord w = true) : w ∈ pm_tb := List.mem_filter.mpr ⟨List.mem_of_getElem? h, hg⟩
theorem pm_goodw {w : Cond} (h : w ∈ pm_tb) : w ∈ pm_tb ∧ ((w.onTables && w.keeps) = true ∨ ∃ ty, w = .arrayClass ty) := ⟨h, good_of_word (List.mem_filter.mp h).2⟩
/-! the pure memory: a place (a cell of the world), an index in it -/
abbrev pm_M : Type := Nat → Nat → Int32
def pm_up (M : pm_M) (k i : Nat) (x : Int32) : pm_M := fun k' j => if k' = k then (if j = i then x else M k' j) else M k' j
def pm_cpy (M : pm_M) (k0 sp k1 dp n : Nat) : pm_M := fun k' j => if k' = k1 then (if dp ≤ j ∧ j < dp + n then M k0 (sp + (j - dp)) else M k' j) else M k' j
def pm_chk {α : Type} (b : Bool) (E : Option α) : Option α := match b with
  | true => E
  | false => none
def pm_in (i : Int32) (n : Nat) : Bool := decide (0 ≤ i.toInt) && decide (i.toInt < (n : Int))
def pm_nz (y : Int32) : Bool := !(decide (y = 0))
def pm_zo (y : Int32) : Bool := decide (y = 0) || decide (y = 1)
def pm_cin (sp dp n : Int32) (n0 n1 : Nat) : Bool := decide (0 ≤ sp.toInt) && (decide (0 ≤ dp.toInt) && (decide (0 ≤ n.toInt) && (decide (sp.toNatClampNeg + n.toNatClampNeg ≤ n0) && decide (dp.toNatClampNeg + n.toNatClampNeg ≤ n1))))
theorem pm_in_iff {i : Int32} {n : Nat} : pm_in i n = true ↔ vp_in i n := by
  rw [vp_in_iff]; simp [pm_in]
/-- a loop, or a group of methods that call one another: n rounds -/
def pm_it {A : Type} (bot : A) (g : A → A) : Nat → A
  | 0 => bot
  | n + 1 => g (pm_it bot g n)
/-! shapes: a prim array (kind of array, length); an array of references (kind, places); an object (class, its fields: none a number, some p the place that it names) -/
abbrev pm_Sh : Type := (Nat × Nat) ⊕ ((Nat × List Nat) ⊕ (Nat × List (Option Nat)))
/-- the world's addresses, the array classes, the classes -/
abbrev pm_V : Type := (Nat → Nat) × (Nat → ClassId) × va_G
def pm_fv (V : pm_V) (M : pm_M) (k j : Nat) (f : Option Nat) : Value := match f with
  | none => .int (M k j)
  | some p => .ref (V.1 p)
def pm_cell (V : pm_V) (M : pm_M) (k : Nat) (sh : pm_Sh) : va_E := match sh with
  | .inl q => .inl (V.2.1 q.1, (q.2, .inl (M k)))
  | .inr (.inl q) => .inl (V.2.1 q.1, (q.2.length, .inr (.inr (.inr (.inr (fun i => (q.2[i]?).map V.1))))))
  | .inr (.inr q) => .inr (q.1, q.2.mapIdx (fun j f => pm_fv V M k j f))
def pm_wld (V : pm_V) (sk : List pm_Sh) (M : pm_M) : va_W := sk.mapIdx (fun k sh => (V.1 k, pm_cell V M k sh))
theorem pm_wld_at {V : pm_V} {sk : List pm_Sh} {M : pm_M} {k : Nat} {sh : pm_Sh} (h : sk[k]? = some sh) : (pm_wld V sk M)[k]? = some (V.1 k, pm_cell V M k sh) := by
  unfold pm_wld
  rw [List.getElem?_mapIdx, h]
  rfl
theorem pm_fv_congr {V : pm_V} {M M' : pm_M} {k : Nat} (h : M k = M' k) : pm_fv V M k = pm_fv V M' k := by
  funext j f
  cases f with
  | none => show Value.int (M k j) = .int (M' k j); rw [h]
  | some p => rfl
theorem pm_cell_congr {V : pm_V} {M M' : pm_M} {k : Nat} (h : M k = M' k) (sh : pm_Sh) : pm_cell V M k sh = pm_cell V M' k sh := by
  rcases sh with q | q | q
  · show Sum.inl (_, (_, Sum.inl (M k))) = Sum.inl (_, (_, Sum.inl (M' k))); rw [h]
  · rfl
  · show Sum.inr (q.1, q.2.mapIdx (fun j f => pm_fv V M k j f)) = Sum.inr (q.1, q.2.mapIdx (fun j f => pm_fv V M' k j f))
    rw [pm_fv_congr h]
theorem pm_wld_set {V : pm_V} {sk : List pm_Sh} {M M' : pm_M} {k : Nat} {sh : pm_Sh} {e : va_E} (h : sk[k]? = some sh) (ho : ∀ k', k' ≠ k → M' k' = M k') (he : pm_cell V M' k sh = e) : (pm_wld V sk M).set k (V.1 k, e) = pm_wld V sk M' := by
  apply List.ext_getElem?
  intro j
  have hl : k < sk.length := (List.getElem?_eq_some_iff.mp h).1
  by_cases hj : j = k
  · subst hj
    rw [List.getElem?_set_self (by unfold pm_wld; rw [List.length_mapIdx]; exact hl), pm_wld_at h, he]
  · rw [List.getElem?_set_ne (Ne.symm hj)]
    unfold pm_wld
    rw [List.getElem?_mapIdx, List.getElem?_mapIdx]
    cases hs : sk[j]? with
    | none => rfl
    | some s => show some (V.1 j, pm_cell V M j s) = some (V.1 j, pm_cell V M' j s); rw [pm_cell_congr (ho j hj) s]
theorem pm_up_o {M : pm_M} {k i : Nat} {x : Int32} (k' : Nat) (h : k' ≠ k) : pm_up M k i x k' = M k' := by
  funext j; simp [pm_up, h]
theorem pm_up_s {M : pm_M} {k i : Nat} {x : Int32} : pm_up M k i x k = upd (M k) i x := by
  funext j; simp [pm_up, upd]
theorem pm_cpy_o {M : pm_M} {k0 sp k1 dp n : Nat} (k' : Nat) (h : k' ≠ k1) : pm_cpy M k0 sp k1 dp n k' = M k' := by
  funext j; simp [pm_cpy, h]
theorem pm_cpy_s {M : pm_M} {k0 sp k1 dp n : Nat} : pm_cpy M k0 sp k1 dp n k1 = va_cpy (M k0) (M k1) sp dp n := by
  funext j; simp [pm_cpy, va_cpy]
theorem pm_wld_ast {V : pm_V} {sk : List pm_Sh} {M : pm_M} {k i t n : Nat} {x : Int32} (h : sk[k]? = some (.inl (t, n))) : (pm_wld V sk M).set k (V.1 k, .inl (V.2.1 t, (n, .inl (upd (M k) i x)))) = pm_wld V sk (pm_up M k i x) :=
  pm_wld_set h (fun k' h' => pm_up_o k' h') (by show Sum.inl (_, (_, Sum.inl (pm_up M k i x k))) = _; rw [pm_up_s])
theorem pm_wld_cpy {V : pm_V} {sk : List pm_Sh} {M : pm_M} {k0 sp k1 dp n0 t n : Nat} (h : sk[k1]? = some (.inl (t, n))) : (pm_wld V sk M).set k1 (V.1 k1, .inl (V.2.1 t, (n, .inl (va_cpy (M k0) (M k1) sp dp n0)))) = pm_wld V sk (pm_cpy M k0 sp k1 dp n0) :=
  pm_wld_set h (fun k' h' => pm_cpy_o k' h') (by show Sum.inl (_, (_, Sum.inl (pm_cpy M k0 sp k1 dp n0 k1))) = _; rw [pm_cpy_s])
theorem pm_wld_put {V : pm_V} {sk : List pm_Sh} {M : pm_M} {k j ci : Nat} {fs : List (Option Nat)} {x : Int32} (h : sk[k]? = some (.inr (.inr (ci, fs)))) (hj : fs[j]? = some none) : (pm_wld V sk M).set k (V.1 k, .inr (ci, (fs.mapIdx (fun j f => pm_fv V M k j f)).set j (.int x))) = pm_wld V sk (pm_up M k j x) := by
  refine pm_wld_set h (fun k' h' => pm_up_o k' h') ?_
  show (Sum.inr (ci, fs.mapIdx (fun j9 f => pm_fv V (pm_up M k j x) k j9 f)) : va_E) = _
  refine congrArg (fun z => (Sum.inr (ci, z) : va_E)) ?_
  apply List.ext_getElem?
  intro i
  by_cases hi : i = j
  · subst hi
    rw [List.getElem?_set_self (by rw [List.length_mapIdx]; exact (List.getElem?_eq_some_iff.mp hj).1), List.getElem?_mapIdx, hj]
    show some (Value.int (pm_up M k i x k i)) = some (Value.int x)
    simp [pm_up]
  · rw [List.getElem?_set_ne (Ne.symm hi), List.getElem?_mapIdx, List.getElem?_mapIdx]
    cases fs[i]? with
    | none => rfl
    | some f =>
      cases f with
      | none => show some (Value.int (pm_up M k j x k i)) = some (Value.int (M k i)); simp [pm_up, hi]
      | some p => rfl
/-! the classes whose objects the worlds hold, the kinds of arrays -/
def pm_cls : List vw_C := [(RX0, TX0, 5), (RX1, TX1, 5), (RX2, TX2, 7), (RX3, TX3, 6), (RX4, TX4, 3), (RX5, TX5, 12), (RX6, TX6, 5), (RX7, TX7, 8), (RX8, TX8, 20)]
def pm_tys (V : pm_V) : List (ClassId × FieldType) := [(V.2.1 0, .int), (V.2.1 1, .object "RainShares$Law"), (V.2.1 2, .object "RainShares$Sheet"), (V.2.1 3, .array .int)]
/-! static arrays: places 900, 901, 902 -/
def pm_ABOVE (j : Nat) : Int32 := ([-1, 0, 0, 0, 1, 2, 3] : List Int32).getD j 0
def pm_NAMES (j : Nat) : Int32 := ([119, 100, 109, 115, 114, 100] : List Int32).getD j 0
def pm_BODIES (j : Nat) : Int32 := ([10, 11, 12, 13, 0, 0, 20, 0, 30, 0, 0, 0, 0, 40, 0, 0, 0, 0, 50, 51, 0, 0, 0, 60, 0, 70, 0, 0] : List Int32).getD j 0
def pm_stat (V : pm_V) (A : Nat → Prop) (U : State) (H : Heap) : Prop :=
  (va_Z "RainShares" "ABOVE" "[I" (.ref (V.1 900)) A U H ∧ va_T .int (V.1 900) 7 (fun j => .int (pm_ABOVE j)) A U H) ∧
  (va_Z "RainShares" "NAMES" "[C" (.ref (V.1 901)) A U H ∧ va_T .char (V.1 901) 6 (fun j => .int (pm_NAMES j)) A U H) ∧
  (va_Z "RainShares$Voices" "BODIES" "[I" (.ref (V.1 902)) A U H ∧ va_T .int (V.1 902) 28 (fun j => .int (pm_BODIES j)) A U H)
theorem pm_stat_kept {V : pm_V} {A B : Nat → Prop} {u U : State} {H H1 : Heap} (h : pm_stat V A u H) (hvm : u.vm.Alike U.vm) (hq : ∀ a : Nat, a < H.size → ¬ A a → H1[a]? = H[a]?) (hAB : ∀ q, B q → A q) : pm_stat V B U H1 := by
  obtain ⟨⟨a1, a2⟩, ⟨b1, b2⟩, c1, c2⟩ := h
  exact ⟨⟨((a1.kept hq).moved hvm).narrow hAB, ((a2.kept hq).moved hvm).narrow hAB⟩, ⟨((b1.kept hq).moved hvm).narrow hAB, ((b2.kept hq).moved hvm).narrow hAB⟩, ((c1.kept hq).moved hvm).narrow hAB, ((c2.kept hq).moved hvm).narrow hAB⟩
/-- links of a nest mate to a private static -/
def pm_nst (U : State) : Prop := va_Nw (.fieldLinkNest "RainShares$Clouds" 38 "RainShares" "ABOVE" "[I" "RainShares") U ∧ va_Nw (.fieldLinkNest "RainShares$Reader" 74 "RainShares" "NAMES" "[C" "RainShares") U ∧ va_Nw (.fieldLinkNest "RainShares$Voices" 35 "RainShares" "ABOVE" "[I" "RainShares") U
theorem pm_nst_warm {s U : State} (hW : s.WarmedH U.vm) (h : pm_nst s) : pm_nst U := ⟨va_Nw.warmF hW h.1, va_Nw.warmF hW h.2.1, va_Nw.warmF hW h.2.2⟩
theorem pm_nst_vm {u U : State} (e : u.vm = U.vm) (h : pm_nst u) : pm_nst U := ⟨va_tabs rfl e h.1, va_tabs rfl e h.2.1, va_tabs rfl e h.2.2⟩
/-! the judgement -/
abbrev pm_X : Type := Program × Launch × Env × Room × State × MethodId × Array Value × List Frame × Method × Code × (State → Prop) × (Nat × Nat) × (Nat → Prop)
/-- a method: its bytes, its class, its locals, what it returns -/
abbrev pm_I : Type := ByteArray × String × Nat × Option FieldType
def pm_DC (b : ByteArray) (pc pc' n : Nat) (i : Instr) : Prop := decode b pc = .ok (i, n) ∧ pc + n = pc'
def pm_ok0 (V : pm_V) (mi : pm_I) (ht : Nat) (p : Program) (R : Room) (s : State) (m : MethodId) (args : Array Value) (meth : Method) (c : Code) (cells slots : Nat) (A : Nat → Prop) : Prop :=
  p.tables.exec = Jvm.exec ∧ c.code = mi.1 ∧ c.maxLocals = mi.2.2.1 ∧ s.vm.findClass mi.2.1 = some m.cls ∧ (∀ w ∈ pm_tb, w.before args s = true) ∧ va_K V.2.2 pm_cls (pm_tys V) s ∧ (pm_stat V A s s.heap ∧ pm_nst s) ∧ (cells ≤ R.cells ∧ slots ≤ R.slots) ∧ (ht + 1 ≤ R.frames ∧ 64 * (ht + 1) ≤ R.locals)
def pm_J0 (V : pm_V) (mi : pm_I) (ht : Nat) (ws : va_W) (pc : Nat) (L : List (Nat × Value)) (st : List Value) (p : Program) (l : Launch) (e : Env) (R : Room) (s : State) (m : MethodId) (args : Array Value) (below : List Frame) (meth : Method) (c : Code) (Q : State → Prop) (cells slots : Nat) (A : Nat → Prop) : Prop :=
  pm_ok0 V mi ht p R s m args meth c cells slots A → ∀ (H : Heap) (locs : List Loc) (ls : Array Slot), va_P V.2.2 pm_cls ws H → va_D A ws → va_S A s.heap H locs → lv_has ls mi.2.2.1 L → W p l e R s m args below meth c H locs cells slots Q (F0 m pc ls st)
def pm_J (X : pm_X) (V : pm_V) (mi : pm_I) (ht : Nat) (ws : va_W) (pc : Nat) (L : List (Nat × Value)) (st : List Value) : Prop := match X with
  | (p, l, e, R, s, m, args, below, meth, c, Q, (cells, slots), A) => pm_J0 V mi ht ws pc L st p l e R s m args below meth c Q cells slots A
/-! rows that ask nothing of the world -/
section PMR
variable {X : pm_X} {V : pm_V} {mi : pm_I} {ht : Nat} {ws : va_W} {pc pc' : Nat} {L L' : List (Nat × Value)} {st : List Value}
theorem jr_sub (ks : List Nat) (hl : lv_pick L ks = L') (k : pm_J X V mi ht ws pc L' st) : pm_J X V mi ht ws pc L st := by
  obtain ⟨p, l, e, R, s, m, args, below, meth, c, Q, ⟨cells, slots⟩, A⟩ := X
  intro ok H locs ls hP hD hS hl0
  exact k ok H locs ls hP hD hS (lv_sub hl0 ks hl)
theorem jr_iconst {n : Int} {v : Int32} (hd : pm_DC mi.1 pc pc' 1 (.iconst n)) (hv : Int32.ofInt n = v) (k : pm_J X V mi ht ws pc' L (.int v :: st)) : pm_J X V mi ht ws pc L st := by
  obtain ⟨p, l, e, R, s, m, args, below, meth, c, Q, ⟨cells, slots⟩, A⟩ := X
  intro ok H locs ls hP hD hS hl
  obtain ⟨hd, rfl⟩ := hd
  exact lv_iconst ok.1 ok.2.1 hd hv (k ok H locs ls hP hD hS hl)
theorem jr_bipush {n : Int} {v : Int32} (hd : pm_DC mi.1 pc pc' 2 (.bipush n)) (hv : (Int8.ofInt n).toInt32 = v) (k : pm_J X V mi ht ws pc' L (.int v :: st)) : pm_J X V mi ht ws pc L st := by
  obtain ⟨p, l, e, R, s, m, args, below, meth, c, Q, ⟨cells, slots⟩, A⟩ := X
  intro ok H locs ls hP hD hS hl
  obtain ⟨hd, rfl⟩ := hd
  exact lv_bipush ok.1 ok.2.1 hd hv (k ok H locs ls hP hD hS hl)
theorem jr_sipush {n : Int} {v : Int32} (hd : pm_DC mi.1 pc pc' 3 (.sipush n)) (hv : (Int16.ofInt n).toInt32 = v) (k : pm_J X V mi ht ws pc' L (.int v :: st)) : pm_J X V mi ht ws pc L st := by
  obtain ⟨p, l, e, R, s, m, args, below, meth, c, Q, ⟨cells, slots⟩, A⟩ := X
  intro ok H locs ls hP hD hS hl
  obtain ⟨hd, rfl⟩ := hd
  exact lv_sipush ok.1 ok.2.1 hd hv (k ok H locs ls hP hD hS hl)
theorem jr_lconst {n : Fin 2} {v : Int64} (hd : pm_DC mi.1 pc pc' 1 (.lconst n)) (hv : Int64.ofNat (n : Nat) = v) (k : pm_J X V mi ht ws pc' L (.long v :: st)) : pm_J X V mi ht ws pc L st := by
  obtain ⟨p, l, e, R, s, m, args, below, meth, c, Q, ⟨cells, slots⟩, A⟩ := X
  intro ok H locs ls hP hD hS hl
  obtain ⟨hd, rfl⟩ := hd
  exact lv_lconst ok.1 ok.2.1 hd hv (k ok H locs ls hP hD hS hl)
theorem jr_ldc {idx : Nat} {v : Int32} (hd : pm_DC mi.1 pc pc' 2 (.ldc idx)) (hw : Cond.constant mi.2.1 idx v ∈ pm_tb) (k : pm_J X V mi ht ws pc' L (.int v :: st)) : pm_J X V mi ht ws pc L st := by
  obtain ⟨p, l, e, R, s, m, args, below, meth, c, Q, ⟨cells, slots⟩, A⟩ := X
  intro ok H locs ls hP hD hS hl
  obtain ⟨hd, rfl⟩ := hd
  exact lv_ldc ok.1 ok.2.1 ok.2.2.2.1 (ok.2.2.2.2.1 _ hw) hd (k ok H locs ls hP hD hS hl)
theorem jr_ldcw {idx : Nat} {v : Int32} (hd : pm_DC mi.1 pc pc' 3 (.ldc_w idx)) (hw : Cond.constant mi.2.1 idx v ∈ pm_tb) (k : pm_J X V mi ht ws pc' L (.int v :: st)) : pm_J X V mi ht ws pc L st := by
  obtain ⟨p, l, e, R, s, m, args, below, meth, c, Q, ⟨cells, slots⟩, A⟩ := X
  intro ok H locs ls hP hD hS hl
  obtain ⟨hd, rfl⟩ := hd
  exact lv_ldcw ok.1 ok.2.1 ok.2.2.2.1 (ok.2.2.2.2.1 _ hw) hd (k ok H locs ls hP hD hS hl)
theorem jr_ldc2 {idx : Nat} {v : Int64} (hd : pm_DC mi.1 pc pc' 3 (.ldc2_w idx)) (hw : Cond.constantLong mi.2.1 idx v ∈ pm_tb) (k : pm_J X V mi ht ws pc' L (.long v :: st)) : pm_J X V mi ht ws pc L st := by
  obtain ⟨p, l, e, R, s, m, args, below, meth, c, Q, ⟨cells, slots⟩, A⟩ := X
  intro ok H locs ls hP hD hS hl
  obtain ⟨hd, rfl⟩ := hd
  exact lv_ldc2 ok.1 ok.2.1 ok.2.2.2.1 (ok.2.2.2.2.1 _ hw) hd (k ok H locs ls hP hD hS hl)
theorem jr_iload {i j : Nat} {x : Int32} (hd : pm_DC mi.1 pc pc' 2 (.iload i)) (hl : L[j]? = some (i, .int x)) (k : pm_J X V mi ht ws pc' L (.int x :: st)) : pm_J X V mi ht ws pc L st := by
  obtain ⟨p, l, e, R, s, m, args, below, meth, c, Q, ⟨cells, slots⟩, A⟩ := X
  intro ok H locs ls hP hD hS hl0
  obtain ⟨hd, rfl⟩ := hd
  exact lv_iload ok.1 ok.2.1 hd (lv_at hl0 j hl) (k ok H locs ls hP hD hS hl0)
theorem jr_iloadn {i : Fin 4} {j : Nat} {x : Int32} (hd : pm_DC mi.1 pc pc' 1 (.iload_n i)) (hl : L[j]? = some (i.val, .int x)) (k : pm_J X V mi ht ws pc' L (.int x :: st)) : pm_J X V mi ht ws pc L st := by
  obtain ⟨p, l, e, R, s, m, args, below, meth, c, Q, ⟨cells, slots⟩, A⟩ := X
  intro ok H locs ls hP hD hS hl0
  obtain ⟨hd, rfl⟩ := hd
  exact lv_iload_n ok.1 ok.2.1 hd rfl (lv_at hl0 j hl) (k ok H locs ls hP hD hS hl0)
theorem jr_lload {i j : Nat} {x : Int64} (hd : pm_DC mi.1 pc pc' 2 (.lload i)) (hl : L[j]? = some (i, .long x)) (k : pm_J X V mi ht ws pc' L (.long x :: st)) : pm_J X V mi ht ws pc L st := by
  obtain ⟨p, l, e, R, s, m, args, below, meth, c, Q, ⟨cells, slots⟩, A⟩ := X
  intro ok H locs ls hP hD hS hl0
  obtain ⟨hd, rfl⟩ := hd
  exact lv_lload ok.1 ok.2.1 hd (lv_at hl0 j hl) (k ok H locs ls hP hD hS hl0)
theorem jr_lloadn {i : Fin 4} {j : Nat} {x : Int64} (hd : pm_DC mi.1 pc pc' 1 (.lload_n i)) (hl : L[j]? = some (i.val, .long x)) (k : pm_J X V mi ht ws pc' L (.long x :: st)) : pm_J X V mi ht ws pc L st := by
  obtain ⟨p, l, e, R, s, m, args, below, meth, c, Q, ⟨cells, slots⟩, A⟩ := X
  intro ok H locs ls hP hD hS hl0
  obtain ⟨hd, rfl⟩ := hd
  exact lv_lload_n ok.1 ok.2.1 hd rfl (lv_at hl0 j hl) (k ok H locs ls hP hD hS hl0)
theorem jr_aload {i j : Nat} {x : Nat} (hd : pm_DC mi.1 pc pc' 2 (.aload i)) (hl : L[j]? = some (i, .ref x)) (k : pm_J X V mi ht ws pc' L (.ref x :: st)) : pm_J X V mi ht ws pc L st := by
  obtain ⟨p, l, e, R, s, m, args, below, meth, c, Q, ⟨cells, slots⟩, A⟩ := X
  intro ok H locs ls hP hD hS hl0
  obtain ⟨hd, rfl⟩ := hd
  exact lv_aload ok.1 ok.2.1 hd (lv_at hl0 j hl) (k ok H locs ls hP hD hS hl0)
theorem jr_aloadn {i : Fin 4} {j : Nat} {x : Nat} (hd : pm_DC mi.1 pc pc' 1 (.aload_n i)) (hl : L[j]? = some (i.val, .ref x)) (k : pm_J X V mi ht ws pc' L (.ref x :: st)) : pm_J X V mi ht ws pc L st := by
  obtain ⟨p, l, e, R, s, m, args, below, meth, c, Q, ⟨cells, slots⟩, A⟩ := X
  intro ok H locs ls hP hD hS hl0
  obtain ⟨hd, rfl⟩ := hd
  exact lv_aload_n ok.1 ok.2.1 hd rfl (lv_at hl0 j hl) (k ok H locs ls hP hD hS hl0)
theorem jr_istore {i : Nat} {x : Int32} (hd : pm_DC mi.1 pc pc' 2 (.istore i)) (hn : i < mi.2.2.1) (hl : (i, Value.int x) :: L.filter (fun q => !(q.1 == i) && !(q.1 + 1 == i && q.2.category == 2)) = L') (k : pm_J X V mi ht ws pc' L' st) : pm_J X V mi ht ws pc L (.int x :: st) := by
  obtain ⟨p, l, e, R, s, m, args, below, meth, c, Q, ⟨cells, slots⟩, A⟩ := X
  intro ok H locs ls hP hD hS hl0
  obtain ⟨hd, rfl⟩ := hd
  exact lv_istore ok.1 ok.2.1 hd hl0 hn hl (fun ls' hl' => k ok H locs ls' hP hD hS hl')
theorem jr_istoren {i : Fin 4} {x : Int32} (hd : pm_DC mi.1 pc pc' 1 (.istore_n i)) (hn : i.val < mi.2.2.1) (hl : (i.val, Value.int x) :: L.filter (fun q => !(q.1 == i.val) && !(q.1 + 1 == i.val && q.2.category == 2)) = L') (k : pm_J X V mi ht ws pc' L' st) : pm_J X V mi ht ws pc L (.int x :: st) := by
  obtain ⟨p, l, e, R, s, m, args, below, meth, c, Q, ⟨cells, slots⟩, A⟩ := X
  intro ok H locs ls hP hD hS hl0
  obtain ⟨hd, rfl⟩ := hd
  exact lv_istore_n ok.1 ok.2.1 hd rfl hl0 hn hl (fun ls' hl' => k ok H locs ls' hP hD hS hl')
theorem jr_astore {i : Nat} {x : Nat} (hd : pm_DC mi.1 pc pc' 2 (.astore i)) (hn : i < mi.2.2.1) (hl : (i, Value.ref x) :: L.filter (fun q => !(q.1 == i) && !(q.1 + 1 == i && q.2.category == 2)) = L') (k : pm_J X V mi ht ws pc' L' st) : pm_J X V mi ht ws pc L (.ref x :: st) := by
  obtain ⟨p, l, e, R, s, m, args, below, meth, c, Q, ⟨cells, slots⟩, A⟩ := X
  intro ok H locs ls hP hD hS hl0
  obtain ⟨hd, rfl⟩ := hd
  exact lv_astore ok.1 ok.2.1 hd hl0 hn hl (fun ls' hl' => k ok H locs ls' hP hD hS hl')
theorem jr_astoren {i : Fin 4} {x : Nat} (hd : pm_DC mi.1 pc pc' 1 (.astore_n i)) (hn : i.val < mi.2.2.1) (hl : (i.val, Value.ref x) :: L.filter (fun q => !(q.1 == i.val) && !(q.1 + 1 == i.val && q.2.category == 2)) = L') (k : pm_J X V mi ht ws pc' L' st) : pm_J X V mi ht ws pc L (.ref x :: st) := by
  obtain ⟨p, l, e, R, s, m, args, below, meth, c, Q, ⟨cells, slots⟩, A⟩ := X
  intro ok H locs ls hP hD hS hl0
  obtain ⟨hd, rfl⟩ := hd
  exact lv_astore_n ok.1 ok.2.1 hd rfl hl0 hn hl (fun ls' hl' => k ok H locs ls' hP hD hS hl')
theorem jr_iinc {i j : Nat} {n : Int} {x v : Int32} (hd : pm_DC mi.1 pc pc' 3 (.iinc i n)) (hk : L[j]? = some (i, .int x)) (hv : x + Int32.ofInt n = v) (hn : i < mi.2.2.1) (hl : (i, Value.int v) :: L.filter (fun q => !(q.1 == i) && !(q.1 + 1 == i && q.2.category == 2)) = L') (k : pm_J X V mi ht ws pc' L' st) : pm_J X V mi ht ws pc L st := by
  obtain ⟨p, l, e, R, s, m, args, below, meth, c, Q, ⟨cells, slots⟩, A⟩ := X
  intro ok H locs ls hP hD hS hl0
  obtain ⟨hd, rfl⟩ := hd
  exact lv_iinc ok.1 ok.2.1 hd hl0 hk hv hn hl (fun ls' hl' => k ok H locs ls' hP hD hS hl')
theorem jr_goto {off : Int} {tgt n : Nat} (hd : pm_DC mi.1 pc n 3 (.goto off)) (h9 : (pc : Int) + off = (tgt : Int)) (k : pm_J X V mi ht ws tgt L st) : pm_J X V mi ht ws pc L st := by
  obtain ⟨p, l, e, R, s, m, args, below, meth, c, Q, ⟨cells, slots⟩, A⟩ := X
  intro ok H locs ls hP hD hS hl
  exact lv_goto ok.1 ok.2.1 hd.1 h9 (k ok H locs ls hP hD hS hl)
theorem jr_dup {v : Value} (hd : pm_DC mi.1 pc pc' 1 .dup) (hv : v.category = 1) (k : pm_J X V mi ht ws pc' L (v :: v :: st)) : pm_J X V mi ht ws pc L (v :: st) := by
  obtain ⟨p, l, e, R, s, m, args, below, meth, c, Q, ⟨cells, slots⟩, A⟩ := X
  intro ok H locs ls hP hD hS hl
  obtain ⟨hd, rfl⟩ := hd
  exact lv_dup ok.1 ok.2.1 hd hv (k ok H locs ls hP hD hS hl)
theorem jr_pop {v : Value} (hd : pm_DC mi.1 pc pc' 1 .pop) (hv : v.category = 1) (k : pm_J X V mi ht ws pc' L st) : pm_J X V mi ht ws pc L (v :: st) := by
  obtain ⟨p, l, e, R, s, m, args, below, meth, c, Q, ⟨cells, slots⟩, A⟩ := X
  intro ok H locs ls hP hD hS hl
  obtain ⟨hd, rfl⟩ := hd
  exact lv_pop ok.1 ok.2.1 hd hv (k ok H locs ls hP hD hS hl)
theorem jr_dupx1 {v w : Value} (hd : pm_DC mi.1 pc pc' 1 .dup_x1) (hv : v.category = 1) (hw : w.category = 1) (k : pm_J X V mi ht ws pc' L (v :: w :: v :: st)) : pm_J X V mi ht ws pc L (v :: w :: st) := by
  obtain ⟨p, l, e, R, s, m, args, below, meth, c, Q, ⟨cells, slots⟩, A⟩ := X
  intro ok H locs ls hP hD hS hl
  obtain ⟨hd, rfl⟩ := hd
  exact lv_dup_x1 ok.1 ok.2.1 hd hv hw (k ok H locs ls hP hD hS hl)
theorem jr_dup2 {v w : Value} (hd : pm_DC mi.1 pc pc' 1 .dup2) (hv : v.category = 1) (hw : w.category = 1) (k : pm_J X V mi ht ws pc' L (v :: w :: v :: w :: st)) : pm_J X V mi ht ws pc L (v :: w :: st) := by
  obtain ⟨p, l, e, R, s, m, args, below, meth, c, Q, ⟨cells, slots⟩, A⟩ := X
  intro ok H locs ls hP hD hS hl
  obtain ⟨hd, rfl⟩ := hd
  exact lv_dup2_11 ok.1 ok.2.1 hd hv hw (k ok H locs ls hP hD hS hl)
theorem jr_iadd {x y : Int32} (hd : pm_DC mi.1 pc pc' 1 .iadd) (k : pm_J X V mi ht ws pc' L (.int (x + y) :: st)) : pm_J X V mi ht ws pc L (.int y :: .int x :: st) := by
  obtain ⟨p, l, e, R, s, m, args, below, meth, c, Q, ⟨cells, slots⟩, A⟩ := X
  intro ok H locs ls hP hD hS hl
  obtain ⟨hd, rfl⟩ := hd
  exact lv_iadd ok.1 ok.2.1 hd (k ok H locs ls hP hD hS hl)
theorem jr_isub {x y : Int32} (hd : pm_DC mi.1 pc pc' 1 .isub) (k : pm_J X V mi ht ws pc' L (.int (x - y) :: st)) : pm_J X V mi ht ws pc L (.int y :: .int x :: st) := by
  obtain ⟨p, l, e, R, s, m, args, below, meth, c, Q, ⟨cells, slots⟩, A⟩ := X
  intro ok H locs ls hP hD hS hl
  obtain ⟨hd, rfl⟩ := hd
  exact lv_isub ok.1 ok.2.1 hd (k ok H locs ls hP hD hS hl)
theorem jr_imul {x y : Int32} (hd : pm_DC mi.1 pc pc' 1 .imul) (k : pm_J X V mi ht ws pc' L (.int (x * y) :: st)) : pm_J X V mi ht ws pc L (.int y :: .int x :: st) := by
  obtain ⟨p, l, e, R, s, m, args, below, meth, c, Q, ⟨cells, slots⟩, A⟩ := X
  intro ok H locs ls hP hD hS hl
  obtain ⟨hd, rfl⟩ := hd
  exact lv_imul ok.1 ok.2.1 hd (k ok H locs ls hP hD hS hl)
theorem jr_iand {x y : Int32} (hd : pm_DC mi.1 pc pc' 1 .iand) (k : pm_J X V mi ht ws pc' L (.int (x &&& y) :: st)) : pm_J X V mi ht ws pc L (.int y :: .int x :: st) := by
  obtain ⟨p, l, e, R, s, m, args, below, meth, c, Q, ⟨cells, slots⟩, A⟩ := X
  intro ok H locs ls hP hD hS hl
  obtain ⟨hd, rfl⟩ := hd
  exact lv_iand ok.1 ok.2.1 hd (k ok H locs ls hP hD hS hl)
theorem jr_ior {x y : Int32} (hd : pm_DC mi.1 pc pc' 1 .ior) (k : pm_J X V mi ht ws pc' L (.int (x ||| y) :: st)) : pm_J X V mi ht ws pc L (.int y :: .int x :: st) := by
  obtain ⟨p, l, e, R, s, m, args, below, meth, c, Q, ⟨cells, slots⟩, A⟩ := X
  intro ok H locs ls hP hD hS hl
  obtain ⟨hd, rfl⟩ := hd
  exact lv_ior ok.1 ok.2.1 hd (k ok H locs ls hP hD hS hl)
theorem jr_ixor {x y : Int32} (hd : pm_DC mi.1 pc pc' 1 .ixor) (k : pm_J X V mi ht ws pc' L (.int (x ^^^ y) :: st)) : pm_J X V mi ht ws pc L (.int y :: .int x :: st) := by
  obtain ⟨p, l, e, R, s, m, args, below, meth, c, Q, ⟨cells, slots⟩, A⟩ := X
  intro ok H locs ls hP hD hS hl
  obtain ⟨hd, rfl⟩ := hd
  exact lv_ixor ok.1 ok.2.1 hd (k ok H locs ls hP hD hS hl)
theorem jr_idiv {x y : Int32} (hd : pm_DC mi.1 pc pc' 1 .idiv) (hne : ¬ y = 0) (k : pm_J X V mi ht ws pc' L (.int (x / y) :: st)) : pm_J X V mi ht ws pc L (.int y :: .int x :: st) := by
  obtain ⟨p, l, e, R, s, m, args, below, meth, c, Q, ⟨cells, slots⟩, A⟩ := X
  intro ok H locs ls hP hD hS hl
  obtain ⟨hd, rfl⟩ := hd
  exact lv_idiv ok.1 ok.2.1 hd hne (k ok H locs ls hP hD hS hl)
theorem jr_irem {x y : Int32} (hd : pm_DC mi.1 pc pc' 1 .irem) (hne : ¬ y = 0) (k : pm_J X V mi ht ws pc' L (.int (x - x / y * y) :: st)) : pm_J X V mi ht ws pc L (.int y :: .int x :: st) := by
  obtain ⟨p, l, e, R, s, m, args, below, meth, c, Q, ⟨cells, slots⟩, A⟩ := X
  intro ok H locs ls hP hD hS hl
  obtain ⟨hd, rfl⟩ := hd
  exact lv_irem ok.1 ok.2.1 hd hne (k ok H locs ls hP hD hS hl)
theorem jr_ineg {x : Int32} (hd : pm_DC mi.1 pc pc' 1 .ineg) (k : pm_J X V mi ht ws pc' L (.int (-x) :: st)) : pm_J X V mi ht ws pc L (.int x :: st) := by
  obtain ⟨p, l, e, R, s, m, args, below, meth, c, Q, ⟨cells, slots⟩, A⟩ := X
  intro ok H locs ls hP hD hS hl
  obtain ⟨hd, rfl⟩ := hd
  exact lv_ineg ok.1 ok.2.1 hd (k ok H locs ls hP hD hS hl)
theorem jr_ishl {x y : Int32} (hd : pm_DC mi.1 pc pc' 1 .ishl) (k : pm_J X V mi ht ws pc' L (.int (x <<< (y &&& 31)) :: st)) : pm_J X V mi ht ws pc L (.int y :: .int x :: st) := by
  obtain ⟨p, l, e, R, s, m, args, below, meth, c, Q, ⟨cells, slots⟩, A⟩ := X
  intro ok H locs ls hP hD hS hl
  obtain ⟨hd, rfl⟩ := hd
  exact lv_ishl ok.1 ok.2.1 hd (k ok H locs ls hP hD hS hl)
theorem jr_ishr {x y : Int32} (hd : pm_DC mi.1 pc pc' 1 .ishr) (k : pm_J X V mi ht ws pc' L (.int (x >>> (y &&& 31)) :: st)) : pm_J X V mi ht ws pc L (.int y :: .int x :: st) := by
  obtain ⟨p, l, e, R, s, m, args, below, meth, c, Q, ⟨cells, slots⟩, A⟩ := X
  intro ok H locs ls hP hD hS hl
  obtain ⟨hd, rfl⟩ := hd
  exact lv_ishr ok.1 ok.2.1 hd (k ok H locs ls hP hD hS hl)
theorem jr_iushr {x y : Int32} (hd : pm_DC mi.1 pc pc' 1 .iushr) (k : pm_J X V mi ht ws pc' L (.int ((x.toUInt32 >>> (y.toUInt32 &&& Int32.toUInt32 31)).toInt32) :: st)) : pm_J X V mi ht ws pc L (.int y :: .int x :: st) := by
  obtain ⟨p, l, e, R, s, m, args, below, meth, c, Q, ⟨cells, slots⟩, A⟩ := X
  intro ok H locs ls hP hD hS hl
  obtain ⟨hd, rfl⟩ := hd
  exact lv_iushr ok.1 ok.2.1 hd rfl (k ok H locs ls hP hD hS hl)
theorem jr_i2l {x : Int32} (hd : pm_DC mi.1 pc pc' 1 .i2l) (k : pm_J X V mi ht ws pc' L (.long x.toInt64 :: st)) : pm_J X V mi ht ws pc L (.int x :: st) := by
  obtain ⟨p, l, e, R, s, m, args, below, meth, c, Q, ⟨cells, slots⟩, A⟩ := X
  intro ok H locs ls hP hD hS hl
  obtain ⟨hd, rfl⟩ := hd
  exact lv_i2l ok.1 ok.2.1 hd rfl (k ok H locs ls hP hD hS hl)
theorem jr_l2i {x : Int64} (hd : pm_DC mi.1 pc pc' 1 .l2i) (k : pm_J X V mi ht ws pc' L (.int x.toInt32 :: st)) : pm_J X V mi ht ws pc L (.long x :: st) := by
  obtain ⟨p, l, e, R, s, m, args, below, meth, c, Q, ⟨cells, slots⟩, A⟩ := X
  intro ok H locs ls hP hD hS hl
  obtain ⟨hd, rfl⟩ := hd
  exact lv_l2i ok.1 ok.2.1 hd rfl (k ok H locs ls hP hD hS hl)
theorem jr_i2b {x : Int32} (hd : pm_DC mi.1 pc pc' 1 .i2b) (k : pm_J X V mi ht ws pc' L (.int x.toInt8.toInt32 :: st)) : pm_J X V mi ht ws pc L (.int x :: st) := by
  obtain ⟨p, l, e, R, s, m, args, below, meth, c, Q, ⟨cells, slots⟩, A⟩ := X
  intro ok H locs ls hP hD hS hl
  obtain ⟨hd, rfl⟩ := hd
  exact lv_i2b ok.1 ok.2.1 hd rfl (k ok H locs ls hP hD hS hl)
theorem jr_i2s {x : Int32} (hd : pm_DC mi.1 pc pc' 1 .i2s) (k : pm_J X V mi ht ws pc' L (.int x.toInt16.toInt32 :: st)) : pm_J X V mi ht ws pc L (.int x :: st) := by
  obtain ⟨p, l, e, R, s, m, args, below, meth, c, Q, ⟨cells, slots⟩, A⟩ := X
  intro ok H locs ls hP hD hS hl
  obtain ⟨hd, rfl⟩ := hd
  exact lv_i2s ok.1 ok.2.1 hd rfl (k ok H locs ls hP hD hS hl)
theorem jr_land {x y : Int64} (hd : pm_DC mi.1 pc pc' 1 .land) (k : pm_J X V mi ht ws pc' L (.long (x &&& y) :: st)) : pm_J X V mi ht ws pc L (.long y :: .long x :: st) := by
  obtain ⟨p, l, e, R, s, m, args, below, meth, c, Q, ⟨cells, slots⟩, A⟩ := X
  intro ok H locs ls hP hD hS hl
  obtain ⟨hd, rfl⟩ := hd
  exact lv_land ok.1 ok.2.1 hd (k ok H locs ls hP hD hS hl)
theorem jr_lor {x y : Int64} (hd : pm_DC mi.1 pc pc' 1 .lor) (k : pm_J X V mi ht ws pc' L (.long (x ||| y) :: st)) : pm_J X V mi ht ws pc L (.long y :: .long x :: st) := by
  obtain ⟨p, l, e, R, s, m, args, below, meth, c, Q, ⟨cells, slots⟩, A⟩ := X
  intro ok H locs ls hP hD hS hl
  obtain ⟨hd, rfl⟩ := hd
  exact lv_lor ok.1 ok.2.1 hd (k ok H locs ls hP hD hS hl)
theorem jr_lshl {x : Int64} {y : Int32} (hd : pm_DC mi.1 pc pc' 1 .lshl) (k : pm_J X V mi ht ws pc' L (.long (x <<< (y.toInt64 &&& 63)) :: st)) : pm_J X V mi ht ws pc L (.int y :: .long x :: st) := by
  obtain ⟨p, l, e, R, s, m, args, below, meth, c, Q, ⟨cells, slots⟩, A⟩ := X
  intro ok H locs ls hP hD hS hl
  obtain ⟨hd, rfl⟩ := hd
  exact lv_lshl ok.1 ok.2.1 hd rfl (k ok H locs ls hP hD hS hl)
theorem jr_lshr {x : Int64} {y : Int32} (hd : pm_DC mi.1 pc pc' 1 .lshr) (k : pm_J X V mi ht ws pc' L (.long (x >>> (y.toInt64 &&& 63)) :: st)) : pm_J X V mi ht ws pc L (.int y :: .long x :: st) := by
  obtain ⟨p, l, e, R, s, m, args, below, meth, c, Q, ⟨cells, slots⟩, A⟩ := X
  intro ok H locs ls hP hD hS hl
  obtain ⟨hd, rfl⟩ := hd
  exact lv_lshr ok.1 ok.2.1 hd rfl (k ok H locs ls hP hD hS hl)
theorem jr_lushr {x : Int64} {y : Int32} (hd : pm_DC mi.1 pc pc' 1 .lushr) (k : pm_J X V mi ht ws pc' L (.long ((x.toUInt64 >>> (y.toInt64.toUInt64 &&& Int64.toUInt64 63)).toInt64) :: st)) : pm_J X V mi ht ws pc L (.int y :: .long x :: st) := by
  obtain ⟨p, l, e, R, s, m, args, below, meth, c, Q, ⟨cells, slots⟩, A⟩ := X
  intro ok H locs ls hP hD hS hl
  obtain ⟨hd, rfl⟩ := hd
  exact lv_lushr ok.1 ok.2.1 hd rfl (k ok H locs ls hP hD hS hl)
theorem jr_lcmp {x y : Int64} (hd : pm_DC mi.1 pc pc' 1 .lcmp) (k : pm_J X V mi ht ws pc' L (.int (lg_cmp x y) :: st)) : pm_J X V mi ht ws pc L (.long y :: .long x :: st) := by
  obtain ⟨p, l, e, R, s, m, args, below, meth, c, Q, ⟨cells, slots⟩, A⟩ := X
  intro ok H locs ls hP hD hS hl
  obtain ⟨hd, rfl⟩ := hd
  exact W.lcmp ok.1 ok.2.1 hd (k ok H locs ls hP hD hS hl)
theorem jr_if_eq {x : Int32} {off : Int} {tgt : Nat} (hd : pm_DC mi.1 pc pc' 3 (.ifCond .eq off)) (h9 : (pc : Int) + off = (tgt : Int)) (kt : x = 0 → pm_J X V mi ht ws tgt L st) (kf : ¬ x = 0 → pm_J X V mi ht ws pc' L st) : pm_J X V mi ht ws pc L (.int x :: st) := by
  obtain ⟨p, l, e, R, s, m, args, below, meth, c, Q, ⟨cells, slots⟩, A⟩ := X
  intro ok H locs ls hP hD hS hl
  obtain ⟨hd, rfl⟩ := hd
  exact lv_if_eq ok.1 ok.2.1 hd h9 (fun h => kt h ok H locs ls hP hD hS hl) (fun h => kf h ok H locs ls hP hD hS hl)
theorem jr_ic_eq {x y : Int32} {off : Int} {tgt : Nat} (hd : pm_DC mi.1 pc pc' 3 (.if_icmp .eq off)) (h9 : (pc : Int) + off = (tgt : Int)) (kt : x = y → pm_J X V mi ht ws tgt L st) (kf : ¬ x = y → pm_J X V mi ht ws pc' L st) : pm_J X V mi ht ws pc L (.int y :: .int x :: st) := by
  obtain ⟨p, l, e, R, s, m, args, below, meth, c, Q, ⟨cells, slots⟩, A⟩ := X
  intro ok H locs ls hP hD hS hl
  obtain ⟨hd, rfl⟩ := hd
  exact lv_icmp_eq ok.1 ok.2.1 hd h9 (fun h => kt h ok H locs ls hP hD hS hl) (fun h => kf h ok H locs ls hP hD hS hl)
theorem jr_if_ne {x : Int32} {off : Int} {tgt : Nat} (hd : pm_DC mi.1 pc pc' 3 (.ifCond .ne off)) (h9 : (pc : Int) + off = (tgt : Int)) (kf : x = 0 → pm_J X V mi ht ws pc' L st) (kt : ¬ x = 0 → pm_J X V mi ht ws tgt L st) : pm_J X V mi ht ws pc L (.int x :: st) := by
  obtain ⟨p, l, e, R, s, m, args, below, meth, c, Q, ⟨cells, slots⟩, A⟩ := X
  intro ok H locs ls hP hD hS hl
  obtain ⟨hd, rfl⟩ := hd
  exact lv_if_ne ok.1 ok.2.1 hd h9 (fun h => kt h ok H locs ls hP hD hS hl) (fun h => kf h ok H locs ls hP hD hS hl)
theorem jr_ic_ne {x y : Int32} {off : Int} {tgt : Nat} (hd : pm_DC mi.1 pc pc' 3 (.if_icmp .ne off)) (h9 : (pc : Int) + off = (tgt : Int)) (kf : x = y → pm_J X V mi ht ws pc' L st) (kt : ¬ x = y → pm_J X V mi ht ws tgt L st) : pm_J X V mi ht ws pc L (.int y :: .int x :: st) := by
  obtain ⟨p, l, e, R, s, m, args, below, meth, c, Q, ⟨cells, slots⟩, A⟩ := X
  intro ok H locs ls hP hD hS hl
  obtain ⟨hd, rfl⟩ := hd
  exact lv_icmp_ne ok.1 ok.2.1 hd h9 (fun h => kt h ok H locs ls hP hD hS hl) (fun h => kf h ok H locs ls hP hD hS hl)
theorem jr_if_lt {x : Int32} {off : Int} {tgt : Nat} (hd : pm_DC mi.1 pc pc' 3 (.ifCond .lt off)) (h9 : (pc : Int) + off = (tgt : Int)) (kt : x < 0 → pm_J X V mi ht ws tgt L st) (kf : ¬ x < 0 → pm_J X V mi ht ws pc' L st) : pm_J X V mi ht ws pc L (.int x :: st) := by
  obtain ⟨p, l, e, R, s, m, args, below, meth, c, Q, ⟨cells, slots⟩, A⟩ := X
  intro ok H locs ls hP hD hS hl
  obtain ⟨hd, rfl⟩ := hd
  exact lv_if_lt ok.1 ok.2.1 hd h9 (fun h => kt h ok H locs ls hP hD hS hl) (fun h => kf h ok H locs ls hP hD hS hl)
theorem jr_ic_lt {x y : Int32} {off : Int} {tgt : Nat} (hd : pm_DC mi.1 pc pc' 3 (.if_icmp .lt off)) (h9 : (pc : Int) + off = (tgt : Int)) (kt : x < y → pm_J X V mi ht ws tgt L st) (kf : ¬ x < y → pm_J X V mi ht ws pc' L st) : pm_J X V mi ht ws pc L (.int y :: .int x :: st) := by
  obtain ⟨p, l, e, R, s, m, args, below, meth, c, Q, ⟨cells, slots⟩, A⟩ := X
  intro ok H locs ls hP hD hS hl
  obtain ⟨hd, rfl⟩ := hd
  exact lv_icmp_lt ok.1 ok.2.1 hd h9 (fun h => kt h ok H locs ls hP hD hS hl) (fun h => kf h ok H locs ls hP hD hS hl)
theorem jr_if_ge {x : Int32} {off : Int} {tgt : Nat} (hd : pm_DC mi.1 pc pc' 3 (.ifCond .ge off)) (h9 : (pc : Int) + off = (tgt : Int)) (kt : 0 ≤ x → pm_J X V mi ht ws tgt L st) (kf : ¬ 0 ≤ x → pm_J X V mi ht ws pc' L st) : pm_J X V mi ht ws pc L (.int x :: st) := by
  obtain ⟨p, l, e, R, s, m, args, below, meth, c, Q, ⟨cells, slots⟩, A⟩ := X
  intro ok H locs ls hP hD hS hl
  obtain ⟨hd, rfl⟩ := hd
  exact lv_if_ge ok.1 ok.2.1 hd h9 (fun h => kt h ok H locs ls hP hD hS hl) (fun h => kf h ok H locs ls hP hD hS hl)
theorem jr_ic_ge {x y : Int32} {off : Int} {tgt : Nat} (hd : pm_DC mi.1 pc pc' 3 (.if_icmp .ge off)) (h9 : (pc : Int) + off = (tgt : Int)) (kt : y ≤ x → pm_J X V mi ht ws tgt L st) (kf : ¬ y ≤ x → pm_J X V mi ht ws pc' L st) : pm_J X V mi ht ws pc L (.int y :: .int x :: st) := by
  obtain ⟨p, l, e, R, s, m, args, below, meth, c, Q, ⟨cells, slots⟩, A⟩ := X
  intro ok H locs ls hP hD hS hl
  obtain ⟨hd, rfl⟩ := hd
  exact lv_icmp_ge ok.1 ok.2.1 hd h9 (fun h => kt h ok H locs ls hP hD hS hl) (fun h => kf h ok H locs ls hP hD hS hl)
theorem jr_if_gt {x : Int32} {off : Int} {tgt : Nat} (hd : pm_DC mi.1 pc pc' 3 (.ifCond .gt off)) (h9 : (pc : Int) + off = (tgt : Int)) (kt : 0 < x → pm_J X V mi ht ws tgt L st) (kf : ¬ 0 < x → pm_J X V mi ht ws pc' L st) : pm_J X V mi ht ws pc L (.int x :: st) := by
  obtain ⟨p, l, e, R, s, m, args, below, meth, c, Q, ⟨cells, slots⟩, A⟩ := X
  intro ok H locs ls hP hD hS hl
  obtain ⟨hd, rfl⟩ := hd
  exact lv_if_gt ok.1 ok.2.1 hd h9 (fun h => kt h ok H locs ls hP hD hS hl) (fun h => kf h ok H locs ls hP hD hS hl)
theorem jr_ic_gt {x y : Int32} {off : Int} {tgt : Nat} (hd : pm_DC mi.1 pc pc' 3 (.if_icmp .gt off)) (h9 : (pc : Int) + off = (tgt : Int)) (kt : y < x → pm_J X V mi ht ws tgt L st) (kf : ¬ y < x → pm_J X V mi ht ws pc' L st) : pm_J X V mi ht ws pc L (.int y :: .int x :: st) := by
  obtain ⟨p, l, e, R, s, m, args, below, meth, c, Q, ⟨cells, slots⟩, A⟩ := X
  intro ok H locs ls hP hD hS hl
  obtain ⟨hd, rfl⟩ := hd
  exact lv_icmp_gt ok.1 ok.2.1 hd h9 (fun h => kt h ok H locs ls hP hD hS hl) (fun h => kf h ok H locs ls hP hD hS hl)
theorem jr_if_le {x : Int32} {off : Int} {tgt : Nat} (hd : pm_DC mi.1 pc pc' 3 (.ifCond .le off)) (h9 : (pc : Int) + off = (tgt : Int)) (kt : x ≤ 0 → pm_J X V mi ht ws tgt L st) (kf : ¬ x ≤ 0 → pm_J X V mi ht ws pc' L st) : pm_J X V mi ht ws pc L (.int x :: st) := by
  obtain ⟨p, l, e, R, s, m, args, below, meth, c, Q, ⟨cells, slots⟩, A⟩ := X
  intro ok H locs ls hP hD hS hl
  obtain ⟨hd, rfl⟩ := hd
  exact lv_if_le ok.1 ok.2.1 hd h9 (fun h => kt h ok H locs ls hP hD hS hl) (fun h => kf h ok H locs ls hP hD hS hl)
theorem jr_ic_le {x y : Int32} {off : Int} {tgt : Nat} (hd : pm_DC mi.1 pc pc' 3 (.if_icmp .le off)) (h9 : (pc : Int) + off = (tgt : Int)) (kt : x ≤ y → pm_J X V mi ht ws tgt L st) (kf : ¬ x ≤ y → pm_J X V mi ht ws pc' L st) : pm_J X V mi ht ws pc L (.int y :: .int x :: st) := by
  obtain ⟨p, l, e, R, s, m, args, below, meth, c, Q, ⟨cells, slots⟩, A⟩ := X
  intro ok H locs ls hP hD hS hl
  obtain ⟨hd, rfl⟩ := hd
  exact lv_icmp_le ok.1 ok.2.1 hd h9 (fun h => kt h ok H locs ls hP hD hS hl) (fun h => kf h ok H locs ls hP hD hS hl)
theorem jr_tin {dflt lo hi off : Int} {offs : Array Int} {len tgt n : Nat} {x v : Int32} (hd : pm_DC mi.1 pc n len (.tableswitch dflt lo hi offs)) (hx : x = v) (h1 : ¬ v.toInt < lo) (h2 : ¬ hi < v.toInt) (ho : offs[(v.toInt - lo).toNat]? = some off) (h9 : (pc : Int) + off = (tgt : Int)) (k : pm_J X V mi ht ws tgt L st) : pm_J X V mi ht ws pc L (.int x :: st) := by
  subst hx
  obtain ⟨p, l, e, R, s, m, args, below, meth, c, Q, ⟨cells, slots⟩, A⟩ := X
  intro ok H locs ls hP hD hS hl
  exact lv_tableIn ok.1 ok.2.1 hd.1 h1 h2 ho h9 (k ok H locs ls hP hD hS hl)
theorem jr_tout {dflt lo hi : Int} {offs : Array Int} {len tgt n : Nat} {x : Int32} (hd : pm_DC mi.1 pc n len (.tableswitch dflt lo hi offs)) (h : x.toInt < lo ∨ hi < x.toInt) (h9 : (pc : Int) + dflt = (tgt : Int)) (k : pm_J X V mi ht ws tgt L st) : pm_J X V mi ht ws pc L (.int x :: st) := by
  obtain ⟨p, l, e, R, s, m, args, below, meth, c, Q, ⟨cells, slots⟩, A⟩ := X
  intro ok H locs ls hP hD hS hl
  exact lv_tableOut ok.1 ok.2.1 hd.1 h h9 (k ok H locs ls hP hD hS hl)
theorem jr_lin {dflt off : Int} {ps : Array (Int × Int)} {len tgt n : Nat} {x v : Int32} (hd : pm_DC mi.1 pc n len (.lookupswitch dflt ps)) (hx : x = v) (hp : (ps.toList.zip (ps.toList.drop 1)).all (fun (a, next) => a.1 < next.1) = true) (ho : Op.lookupswitch.offset ps.toList dflt v.toInt = off) (h9 : (pc : Int) + off = (tgt : Int)) (k : pm_J X V mi ht ws tgt L st) : pm_J X V mi ht ws pc L (.int x :: st) := by
  subst hx
  obtain ⟨p, l, e, R, s, m, args, below, meth, c, Q, ⟨cells, slots⟩, A⟩ := X
  intro ok H locs ls hP hD hS hl
  exact lv_lookup ok.1 ok.2.1 hd.1 hp ho h9 (k ok H locs ls hP hD hS hl)
theorem pm_lkd : ∀ (ps : List (Int × Int)) (d : Int) (x : Int), (∀ q ∈ ps, ¬ q.1 = x) → Op.lookupswitch.offset ps d x = d := by
  intro ps d x
  induction ps with
  | nil => intro _; rfl
  | cons q l ih =>
    intro h
    obtain ⟨a, o⟩ := q
    rw [Op.lookupswitch.offset_cons, if_neg (h (a, o) List.mem_cons_self)]
    exact ih (fun q hq => h q (List.mem_cons_of_mem _ hq))
theorem jr_lout {dflt : Int} {ps : Array (Int × Int)} {len tgt n : Nat} {x : Int32} (hd : pm_DC mi.1 pc n len (.lookupswitch dflt ps)) (hx : ∀ q ∈ ps.toList, ¬ q.1 = x.toInt) (hp : (ps.toList.zip (ps.toList.drop 1)).all (fun (a, next) => a.1 < next.1) = true) (h9 : (pc : Int) + dflt = (tgt : Int)) (k : pm_J X V mi ht ws tgt L st) : pm_J X V mi ht ws pc L (.int x :: st) := by
  obtain ⟨p, l, e, R, s, m, args, below, meth, c, Q, ⟨cells, slots⟩, A⟩ := X
  intro ok H locs ls hP hD hS hl
  exact lv_lookup ok.1 ok.2.1 hd.1 hp (pm_lkd _ _ _ hx) h9 (k ok H locs ls hP hD hS hl)
end PMR
