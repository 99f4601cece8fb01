def pm_ws (y : MethodName) (mi : pm_I) : List Cond := Cond.code y mi.1 mi.2.2.1 mi.2.2.2 :: pm_tb
def pm_R (ht : Nat) : Room := { frames := ht + 1, cells := 0, slots := 0, locals := 64 * (ht + 1) }
def pm_AQ (V : pm_V) (sk : List pm_Sh) : Nat → Prop := fun a => ∃ k, k < sk.length ∧ a = V.1 k
def pm_B (V : pm_V) (sk : List pm_Sh) (M : pm_M) (U : State) : Prop := va_P V.2.2 pm_cls (pm_wld V sk M) U.heap ∧ va_K V.2.2 pm_cls (pm_tys V) U ∧ va_D (pm_AQ V sk) (pm_wld V sk M) ∧ pm_stat V (pm_AQ V sk) U U.heap ∧ pm_nst U
/-- the contract of a method: from the world with M, the answer r, and the world with M' -/
def pm_Ci (l : Launch) (V : pm_V) (sk : List pm_Sh) (y : MethodName) (mi : pm_I) (ht : Nat) (As : List Value) (M : pm_M) (r : Int32) (M' : pm_M) : Prop :=
  Met l y (pm_ws y mi) (pm_R ht) (va_Pc As (pm_B V sk M)) (va_Qi (fun (x : Int32) (_ : Unit) => x = r) (fun _ t => pm_B V sk M' t) (pm_AQ V sk)) 0 0 (pm_AQ V sk)
def pm_Cv (l : Launch) (V : pm_V) (sk : List pm_Sh) (y : MethodName) (mi : pm_I) (ht : Nat) (As : List Value) (M : pm_M) (M' : pm_M) : Prop :=
  Met l y (pm_ws y mi) (pm_R ht) (va_Pc As (pm_B V sk M)) (va_Qv (fun (_ : Unit) => True) (fun _ t => pm_B V sk M' t) (pm_AQ V sk)) 0 0 (pm_AQ V sk)
theorem pm_B_moved {V : pm_V} {sk : List pm_Sh} {M : pm_M} {u U : State} (h : pm_B V sk M u) (hh : U.heap = u.heap) (hvm : u.vm = U.vm) : pm_B V sk M U := by
  obtain ⟨h1, h2, h3, h4, h5⟩ := h
  have ha : u.vm.Alike U.vm := by rw [hvm]; exact Vm.Alike.refl _
  refine ⟨by rw [hh]; exact h1, h2.moved ha, h3, pm_stat_kept h4 ha (fun a _ _ => by rw [hh]) (fun _ h => h), pm_nst_vm hvm h5⟩
theorem pm_blind {V : pm_V} {sk : List pm_Sh} {M : pm_M} {As : List Value} : FrameBlind (va_Pc As (pm_B V sk M)) := by
  intro a U g mk q
  exact ⟨q.1, pm_B_moved q.2 rfl rfl⟩
theorem pm_AQ_of {V : pm_V} {sk : List pm_Sh} {M : pm_M} {A : Nat → Prop} (h : va_D A (pm_wld V sk M)) : ∀ q, pm_AQ V sk q → A q := by
  rintro q ⟨k, hk, rfl⟩
  exact h.2 k _ (pm_wld_at (List.getElem?_eq_getElem hk))
theorem pm_D_self {V : pm_V} {sk : List pm_Sh} {M : pm_M} {A : Nat → Prop} (h : va_D A (pm_wld V sk M)) : va_D (pm_AQ V sk) (pm_wld V sk M) := by
  refine h.weaken (fun k q hk _ => ?_)
  have hl : k < sk.length := by
    have := (List.getElem?_eq_some_iff.mp hk).1
    unfold pm_wld at this
    rwa [List.length_mapIdx] at this
  rw [pm_wld_at (List.getElem?_eq_getElem hl)] at hk
  cases hk
  exact ⟨k, hl, rfl⟩
/-- what a call needs of the tables -/
def pm_cv (y : MethodName) (mi : pm_I) : Prop := Cond.instanceMethod y ∈ pm_tb ∧ Cond.selects y.cls y y ∈ pm_tb ∧ Cond.initialized y.cls ∈ pm_tb ∧ Cond.code y mi.1 mi.2.2.1 mi.2.2.2 ∈ pm_tb ∧ y.cls ≠ "java/lang/invoke/MethodHandle" ∧ y.cls ≠ "java/lang/invoke/VarHandle" ∧ mi.2.2.1 ≤ 40
def pm_cs (y : MethodName) (mi : pm_I) : Prop := Cond.static y ∈ pm_tb ∧ Cond.initialized y.cls ∈ pm_tb ∧ Cond.code y mi.1 mi.2.2.1 mi.2.2.2 ∈ pm_tb ∧ y.cls ≠ "java/lang/invoke/MethodHandle" ∧ y.cls ≠ "java/lang/invoke/VarHandle" ∧ mi.2.2.1 ≤ 40
def pm_np (y : MethodName) (n : Nat) : Prop := (parseMethodDescriptor y.desc).map (fun d => d.parameters.length) = some n
/-- a field: of class ci its slot j, named by the entry idx of own -/
def pm_fl (own : String) (idx ci j : Nat) : Prop := ∃ (C : String) (T : u_T) (N : Nat), pm_cls[ci]? = some (C, T, N) ∧ (∀ w ∈ u_ws C T N, w ∈ pm_tb) ∧ j < N ∧ Cond.fieldLink own idx (T j).1 (T j).2.1 (T j).2.2.1 ∈ pm_tb
def pm_fp (own : String) (idx ci j : Nat) (ty : FieldType) : Prop := ∃ (C : String) (T : u_T) (N : Nat) (ty0 : Nat → FieldType), pm_cls[ci]? = some (C, T, N) ∧ (∀ w ∈ u_ws C T N, w ∈ pm_tb) ∧ j < N ∧ Cond.fieldLink own idx (T j).1 (T j).2.1 (T j).2.2.1 ∈ pm_tb ∧
  (∀ k, k < N → parseFieldDescriptor (T k).2.2.1 = some (ty0 k)) ∧ (∀ a, a < N → ∀ b, b < N → a ≠ b → (T a).2.1 ≠ (T b).2.1) ∧ (T j).2.2.2 = false ∧ parseFieldDescriptor (T j).2.2.1 = some ty
section PMH
variable {X : pm_X} {V : pm_V} {mi : pm_I} {ht : Nat} {sk : List pm_Sh} {M M' : pm_M} {pc pc' : Nat} {L L' : List (Nat × Value)} {st stk : List Value}
theorem hr_getI {ci j idx k : Nat} {fs : List (Option Nat)} (hd : pm_DC mi.1 pc pc' 3 (.getfield idx)) (hf : pm_fl mi.2.1 idx ci j) (hs : sk[k]? = some (.inr (.inr (ci, fs)))) (hj : fs[j]? = some none)
    (kk : pm_J X V mi ht (pm_wld V sk M) pc' L (.int (M k j) :: st)) : pm_J X V mi ht (pm_wld V sk M) pc L (.ref (V.1 k) :: st) := by
  obtain ⟨p, l, e, R, s, m, args, below, meth, c, Q, ⟨cells, slots⟩, A⟩ := X
  intro ok H locs ls hP hD hS hl
  obtain ⟨hd, rfl⟩ := hd
  obtain ⟨C, T, N, f1, f2, f3, f4⟩ := hf
  exact va_get (v := .int (M k j)) ok.1 ok.2.1 ok.2.2.2.2.1 f2 ok.2.2.2.1 ok.2.2.2.2.2.1 hP k (pm_wld_at hs) f1 j f3 (ok.2.2.2.2.1 _ f4) (fun _ h => h) (by rw [List.getElem?_mapIdx, hj]; rfl) hd (kk ok H locs ls hP hD hS hl)
theorem hr_getR {ci j idx k q : Nat} {fs : List (Option Nat)} (hd : pm_DC mi.1 pc pc' 3 (.getfield idx)) (hf : pm_fl mi.2.1 idx ci j) (hs : sk[k]? = some (.inr (.inr (ci, fs)))) (hj : fs[j]? = some (some q))
    (kk : pm_J X V mi ht (pm_wld V sk M) pc' L (.ref (V.1 q) :: st)) : pm_J X V mi ht (pm_wld V sk M) pc L (.ref (V.1 k) :: st) := by
  obtain ⟨p, l, e, R, s, m, args, below, meth, c, Q, ⟨cells, slots⟩, A⟩ := X
  intro ok H locs ls hP hD hS hl
  obtain ⟨hd, rfl⟩ := hd
  obtain ⟨C, T, N, f1, f2, f3, f4⟩ := hf
  exact va_get (v := .ref (V.1 q)) ok.1 ok.2.1 ok.2.2.2.2.1 f2 ok.2.2.2.1 ok.2.2.2.2.2.1 hP k (pm_wld_at hs) f1 j f3 (ok.2.2.2.2.1 _ f4) (fun _ h => h) (by rw [List.getElem?_mapIdx, hj]; rfl) hd (kk ok H locs ls hP hD hS hl)
theorem hr_put {ci j idx k : Nat} {fs : List (Option Nat)} {x : Int32} {ty : FieldType} (hd : pm_DC mi.1 pc pc' 3 (.putfield idx)) (hf : pm_fp mi.2.1 idx ci j ty) (hs : sk[k]? = some (.inr (.inr (ci, fs)))) (hj : fs[j]? = some none) (hn : narrow ty (.int x) = .int x) (hfit : fits ty (.int x) = true)
    (kk : pm_J X V mi ht (pm_wld V sk (pm_up M k j x)) pc' L st) : pm_J X V mi ht (pm_wld V sk M) pc L (.int x :: .ref (V.1 k) :: st) := by
  obtain ⟨p, l, e, R, s, m, args, below, meth, c, Q, ⟨cells, slots⟩, A⟩ := X
  intro ok H locs ls hP hD hS hl
  obtain ⟨hd, rfl⟩ := hd
  obtain ⟨C, T, N, ty0, f1, f2, f3, f4, f5, f6, f7, f8⟩ := hf
  refine va_put (v := .int x) ok.1 ok.2.1 ok.2.2.2.2.1 f2 ty0 f5 f6 ok.2.2.2.1 ok.2.2.2.2.2.1 hP hD hS k (pm_wld_at hs) f1 j f3 (ok.2.2.2.2.1 _ f4) (fun _ h => h) f7 f8 hn hfit (by rw [List.length_mapIdx]; exact (List.getElem?_eq_some_iff.mp hj).1) hd (fun H1 locs1 hP1 hD1 hS1 => ?_)
  rw [pm_wld_put hs hj] at hP1 hD1
  exact kk ok H1 locs1 ls hP1 hD1 hS1 hl
theorem hr_iald {k n : Nat} {i : Int32} (hd : pm_DC mi.1 pc pc' 1 .iaload) (hs : sk[k]? = some (.inl (0, n))) (hin : pm_in i n = true)
    (kk : pm_J X V mi ht (pm_wld V sk M) pc' L (.int (M k i.toNatClampNeg) :: st)) : pm_J X V mi ht (pm_wld V sk M) pc L (.int i :: .ref (V.1 k) :: st) := by
  obtain ⟨p, l, e, R, s, m, args, below, meth, c, Q, ⟨cells, slots⟩, A⟩ := X
  intro ok H locs ls hP hD hS hl
  obtain ⟨hd, rfl⟩ := hd
  exact va_iald (tys := pm_tys V) (f := M k) ok.1 ok.2.1 ok.2.2.2.2.2.1 hP k 0 (pm_wld_at hs) rfl (pm_in_iff.mp hin) hd (kk ok H locs ls hP hD hS hl)
theorem hr_iast {k n : Nat} {i x : Int32} (hd : pm_DC mi.1 pc pc' 1 .iastore) (hs : sk[k]? = some (.inl (0, n))) (hin : pm_in i n = true)
    (kk : pm_J X V mi ht (pm_wld V sk (pm_up M k i.toNatClampNeg x)) pc' L st) : pm_J X V mi ht (pm_wld V sk M) pc L (.int x :: .int i :: .ref (V.1 k) :: st) := by
  obtain ⟨p, l, e, R, s, m, args, below, meth, c, Q, ⟨cells, slots⟩, A⟩ := X
  intro ok H locs ls hP hD hS hl
  obtain ⟨hd, rfl⟩ := hd
  refine va_iast (tys := pm_tys V) (f := M k) ok.1 ok.2.1 ok.2.2.2.2.2.1 hP hD hS k 0 (pm_wld_at hs) rfl (pm_in_iff.mp hin) hd (fun H1 locs1 hP1 hD1 hS1 => ?_)
  rw [pm_wld_ast hs] at hP1 hD1
  exact kk ok H1 locs1 ls hP1 hD1 hS1 hl
theorem hr_aald {k t q : Nat} {ps : List Nat} {i : Int32} {ty : FieldType} (hd : pm_DC mi.1 pc pc' 1 .aaload) (hs : sk[k]? = some (.inr (.inl (t, ps)))) (htt : ∀ V : pm_V, (pm_tys V)[t]? = some (V.2.1 t, ty)) (hr : ty.isReference = true) (hin : pm_in i ps.length = true) (hq : ps[i.toNatClampNeg]? = some q)
    (kk : pm_J X V mi ht (pm_wld V sk M) pc' L (.ref (V.1 q) :: st)) : pm_J X V mi ht (pm_wld V sk M) pc L (.int i :: .ref (V.1 k) :: st) := by
  obtain ⟨p, l, e, R, s, m, args, below, meth, c, Q, ⟨cells, slots⟩, A⟩ := X
  intro ok H locs ls hP hD hS hl
  obtain ⟨hd, rfl⟩ := hd
  have hin' := pm_in_iff.mp hin
  have hlt : i.toNatClampNeg < ps.length := Nat.not_le.mp fun q => hin' (Or.inr q)
  have hK := ok.2.2.2.2.2.1
  have e1 : va_rf ((ps[i.toNatClampNeg]?).map V.1) = .ref (V.1 q) := by rw [hq]; rfl
  exact W.aald (v := .ref (V.1 q)) (ty := ty) ok.1 ok.2.1 (hP k _ (pm_wld_at hs)) ((hK.2 t _ (htt V)).1 ps.length (fun j => va_rf ((ps[j]?).map V.1))) hr (fun q => by cases q) (by show ¬ (i < 0 ∨ (arrV _ _ _).slots.size ≤ _); rw [arrV_size]; exact hin') (by show (arrV _ _ (fun j => va_rf ((ps[j]?).map V.1))).slots[_]? = _; rw [arrV_read _ _ hlt, e1]) rfl rfl hd (kk ok H locs ls hP hD hS hl)
theorem hr_getsB {idx : Nat} {ws : va_W} (hd : pm_DC mi.1 pc pc' 3 (.getstatic idx)) (hw : Cond.fieldLink mi.2.1 idx "RainShares$Voices" "BODIES" "[I" ∈ pm_tb) (kk : pm_J X V mi ht ws pc' L (.ref (V.1 902) :: st)) : pm_J X V mi ht ws pc L st := by
  obtain ⟨p, l, e, R, s, m, args, below, meth, c, Q, ⟨cells, slots⟩, A⟩ := X
  intro ok H locs ls hP hD hS hl
  obtain ⟨hd, rfl⟩ := hd
  exact va_gets ok.1 ok.2.1 ok.2.2.2.2.2.2.1.1.2.2.1 hS ok.2.2.2.1 (ok.2.2.2.2.1 _ hw) (fun _ h => h) hd (kk ok H locs ls hP hD hS hl)
theorem hr_getsN {own : String} {idx q : Nat} {ws : va_W} (hq : (own = "RainShares$Clouds" ∧ idx = 38 ∧ q = 900) ∨ (own = "RainShares$Reader" ∧ idx = 74 ∧ q = 901) ∨ (own = "RainShares$Voices" ∧ idx = 35 ∧ q = 900)) (ho : mi.2.1 = own) (hd : pm_DC mi.1 pc pc' 3 (.getstatic idx)) (kk : pm_J X V mi ht ws pc' L (.ref (V.1 q) :: st)) : pm_J X V mi ht ws pc L st := by
  obtain ⟨p, l, e, R, s, m, args, below, meth, c, Q, ⟨cells, slots⟩, A⟩ := X
  intro ok H locs ls hP hD hS hl
  obtain ⟨hd, rfl⟩ := hd
  have hst := ok.2.2.2.2.2.2.1.1
  have hn := ok.2.2.2.2.2.2.1.2
  have how : s.vm.findClass own = some m.cls := by rw [← ho]; exact ok.2.2.2.1
  rcases hq with ⟨rfl, rfl, rfl⟩ | ⟨rfl, rfl, rfl⟩ | ⟨rfl, rfl, rfl⟩
  · exact va_getsN ok.1 ok.2.1 hst.1.1 hS how (va_Nw.use (A := args) rfl hn.1) (fun _ h => h) hd (kk ok H locs ls hP hD hS hl)
  · exact va_getsN ok.1 ok.2.1 hst.2.1.1 hS how (va_Nw.use (A := args) rfl hn.2.1) (fun _ h => h) hd (kk ok H locs ls hP hD hS hl)
  · exact va_getsN ok.1 ok.2.1 hst.1.1 hS how (va_Nw.use (A := args) rfl hn.2.2) (fun _ h => h) hd (kk ok H locs ls hP hD hS hl)
theorem hr_tA {i : Int32} {ws : va_W} (hd : pm_DC mi.1 pc pc' 1 .iaload) (hin : pm_in i 7 = true) (kk : pm_J X V mi ht ws pc' L (.int (pm_ABOVE i.toNatClampNeg) :: st)) : pm_J X V mi ht ws pc L (.int i :: .ref (V.1 900) :: st) := by
  obtain ⟨p, l, e, R, s, m, args, below, meth, c, Q, ⟨cells, slots⟩, A⟩ := X
  intro ok H locs ls hP hD hS hl
  obtain ⟨hd, rfl⟩ := hd
  exact va_ti ok.1 ok.2.1 ok.2.2.2.2.2.2.1.1.1.2 hS (pm_in_iff.mp hin) rfl hd (kk ok H locs ls hP hD hS hl)
theorem hr_tN {i : Int32} {ws : va_W} (hd : pm_DC mi.1 pc pc' 1 .caload) (hin : pm_in i 6 = true) (kk : pm_J X V mi ht ws pc' L (.int (pm_NAMES i.toNatClampNeg) :: st)) : pm_J X V mi ht ws pc L (.int i :: .ref (V.1 901) :: st) := by
  obtain ⟨p, l, e, R, s, m, args, below, meth, c, Q, ⟨cells, slots⟩, A⟩ := X
  intro ok H locs ls hP hD hS hl
  obtain ⟨hd, rfl⟩ := hd
  exact va_tc ok.1 ok.2.1 ok.2.2.2.2.2.2.1.1.2.1.2 hS (pm_in_iff.mp hin) rfl hd (kk ok H locs ls hP hD hS hl)
theorem hr_tB {i : Int32} {ws : va_W} (hd : pm_DC mi.1 pc pc' 1 .iaload) (hin : pm_in i 28 = true) (kk : pm_J X V mi ht ws pc' L (.int (pm_BODIES i.toNatClampNeg) :: st)) : pm_J X V mi ht ws pc L (.int i :: .ref (V.1 902) :: st) := by
  obtain ⟨p, l, e, R, s, m, args, below, meth, c, Q, ⟨cells, slots⟩, A⟩ := X
  intro ok H locs ls hP hD hS hl
  obtain ⟨hd, rfl⟩ := hd
  exact va_ti ok.1 ok.2.1 ok.2.2.2.2.2.2.1.1.2.2.2 hS (pm_in_iff.mp hin) rfl hd (kk ok H locs ls hP hD hS hl)
theorem pm_cat (v : List Value) (h : (v.map fun v => v.category).sum ≤ 8) (ht : Nat) {R : Room} (hR : 64 * (ht + 1) ≤ R.locals) : (v.map fun v => v.category).sum + 13 ≤ R.locals := by omega
theorem hr_max {idx : Nat} {x y : Int32} {ws : va_W} (hd : pm_DC mi.1 pc pc' 3 (.invokestatic idx)) (h1 : Cond.methodLink mi.2.1 idx Lib.Math.max.name ∈ pm_tb) (h2 : Cond.static Lib.Math.max.name ∈ pm_tb) (h3 : Cond.initialized "java/lang/Math" ∈ pm_tb) (h4 : Cond.code Lib.Math.max.name Lib.Math.max.code 2 (some .int) ∈ pm_tb) (hrest : (st.map fun v => v.category).sum ≤ 8)
    (kk : pm_J X V mi ht ws pc' L (.int (if x < y then y else x) :: st)) : pm_J X V mi ht ws pc L (.int y :: .int x :: st) := by
  obtain ⟨p, l, e, R, s, m, args, below, meth, c, Q, ⟨cells, slots⟩, A⟩ := X
  intro ok H locs ls hP hD hS hl
  obtain ⟨hd, rfl⟩ := hd
  have hts := ok.2.2.2.2.1
  obtain ⟨hc, hR1, hR2⟩ := ok.2.2.2.2.2.2.2
  exact va_mmax ok.1 ok.2.1 (ok.2.2.1.trans hl.1.symm) ok.2.2.2.1 (hts _ h1) (hts _ h2) (hts _ h3) (hts _ h4) (by omega) (pm_cat _ hrest ht hR2) hc.1 hc.2 hd (kk ok H locs ls hP hD hS hl)
theorem hr_min {idx : Nat} {x y : Int32} {ws : va_W} (hd : pm_DC mi.1 pc pc' 3 (.invokestatic idx)) (h1 : Cond.methodLink mi.2.1 idx Lib.Math.min.name ∈ pm_tb) (h2 : Cond.static Lib.Math.min.name ∈ pm_tb) (h3 : Cond.initialized "java/lang/Math" ∈ pm_tb) (h4 : Cond.code Lib.Math.min.name Lib.Math.min.code 2 (some .int) ∈ pm_tb) (hrest : (st.map fun v => v.category).sum ≤ 8)
    (kk : pm_J X V mi ht ws pc' L (.int (if y < x then y else x) :: st)) : pm_J X V mi ht ws pc L (.int y :: .int x :: st) := by
  obtain ⟨p, l, e, R, s, m, args, below, meth, c, Q, ⟨cells, slots⟩, A⟩ := X
  intro ok H locs ls hP hD hS hl
  obtain ⟨hd, rfl⟩ := hd
  have hts := ok.2.2.2.2.1
  obtain ⟨hc, hR1, hR2⟩ := ok.2.2.2.2.2.2.2
  exact va_mmin ok.1 ok.2.1 (ok.2.2.1.trans hl.1.symm) ok.2.2.2.1 (hts _ h1) (hts _ h2) (hts _ h3) (hts _ h4) (by omega) (pm_cat _ hrest ht hR2) hc.1 hc.2 hd (kk ok H locs ls hP hD hS hl)
theorem pm_nw : nativeFrameWords "java/lang/System" "arraycopy" 5 + 11 ≤ 56 := by decide +kernel
theorem hr_copy {idx k0 k1 n0 n1 : Nat} {sp dp n : Int32} (hd : pm_DC mi.1 pc pc' 3 (.invokestatic idx)) (h1 : Cond.methodLink mi.2.1 idx arraycopyName ∈ pm_tb) (h2 : Cond.native arraycopyName ∈ pm_tb) (h3 : Cond.static arraycopyName ∈ pm_tb) (h4 : Cond.initialized "java/lang/System" ∈ pm_tb) (hrest : (st.map fun v => v.category).sum ≤ 8)
    (hs0 : sk[k0]? = some (.inl (0, n0))) (hs1 : sk[k1]? = some (.inl (0, n1))) (hin : pm_cin sp dp n n0 n1 = true)
    (kk : pm_J X V mi ht (pm_wld V sk (pm_cpy M k0 sp.toNatClampNeg k1 dp.toNatClampNeg n.toNatClampNeg)) pc' L st) : pm_J X V mi ht (pm_wld V sk M) pc L (.int n :: .int dp :: .ref (V.1 k1) :: .int sp :: .ref (V.1 k0) :: st) := by
  obtain ⟨p, l, e, R, s, m, args, below, meth, c, Q, ⟨cells, slots⟩, A⟩ := X
  intro ok H locs ls hP hD hS hl
  obtain ⟨hd, rfl⟩ := hd
  have hts := ok.2.2.2.2.1
  obtain ⟨hc, hR1, hR2⟩ := ok.2.2.2.2.2.2.2
  simp only [pm_cin, Bool.and_eq_true, decide_eq_true_eq] at hin
  obtain ⟨g1, g2, g3, g4, g5⟩ := hin
  have z : ∀ x : Int32, 0 ≤ x.toInt → ¬ x < 0 := fun x h q => by
    have := Int32.lt_iff_toInt_lt.mp q
    simp at this
    omega
  refine va_copyi (tys := pm_tys V) (f := M k0) (g := M k1) ok.1 ok.2.1 (ok.2.2.1.trans hl.1.symm) ok.2.2.2.1 (hts _ h1) (hts _ h2) (hts _ h3) (hts _ h4) ok.2.2.2.2.2.1 hP hD hS k0 k1 0 0 (pm_wld_at hs0) (pm_wld_at hs1) rfl rfl rfl (z _ g1) (z _ g2) (z _ g3) g4 g5 (fun _ _ => rfl) (by omega) (by have := pm_nw; omega) hd (fun H1 locs1 hP1 hD1 hS1 => ?_)
  rw [pm_wld_cpy hs1] at hP1 hD1
  exact kk ok H1 locs1 ls hP1 hD1 hS1 hl
/-! calls -/
theorem hr_callI {y : MethodName} {mi' : pm_I} {ht' idx b ci : Nat} {fs : List (Option Nat)} {q : vw_C} {As : List Value} {r : Int32} (hd : pm_DC mi.1 pc pc' 3 (.invokevirtual idx)) (hl : Cond.methodLink mi.2.1 idx y ∈ pm_tb) (hy : pm_cv y mi') (hn : pm_np y As.length) (hh : ht' + 1 ≤ ht) (hrest : (st.map fun v => v.category).sum ≤ 8) (hb : sk[b]? = some (.inr (.inr (ci, fs)))) (hc : pm_cls[ci]? = some q) (hq : q.1 = y.cls) (hst : stk = As.reverse ++ .ref (V.1 b) :: st)
    (hM : ∀ l : Launch, pm_Ci l V sk y mi' ht' (.ref (V.1 b) :: As) M r M') (kk : pm_J X V mi ht (pm_wld V sk M') pc' L (.int r :: st)) : pm_J X V mi ht (pm_wld V sk M) pc L stk := by
  obtain ⟨p, l, e, R, s, m, args, below, meth, c, Q, ⟨cells, slots⟩, A⟩ := X
  intro ok H locs ls hP hD hS hl0
  obtain ⟨hd, rfl⟩ := hd
  have hts := ok.2.2.2.2.1
  have hK := ok.2.2.2.2.2.1
  obtain ⟨hc0, hR1, hR2⟩ := ok.2.2.2.2.2.2.2
  have hAQ := pm_AQ_of hD
  obtain ⟨y1, y2, y3, y4, y5, y6, y7⟩ := hy
  have hg : GoodIn pm_tb (wsV mi.2.1 idx y.cls y (pm_ws y mi')) := by
    intro w hw
    simp only [wsV, pm_ws, List.cons_append, List.nil_append, List.mem_cons] at hw
    rcases hw with rfl | rfl | rfl | rfl | rfl | hw
    · exact pm_goodw hl
    · exact pm_goodw y1
    · exact pm_goodw y2
    · exact pm_goodw y3
    · exact pm_goodw y4
    · exact pm_goodw hw
  refine va_calli (va_runV (C := y.cls) (As := As) (rest := st) ⟨ok.1, ok.2.1, ok.2.2.1, ok.2.2.2.1, hts⟩ (hM l) (cwV As.length hts hg rfl rfl rfl ⟨rfl, y5, y6, hn⟩ ⟨by show ht' + 1 + 1 ≤ _; omega, by show 8 + (mi'.2.2.1 + 11) + 64 * (ht' + 1) ≤ _; omega⟩) ⟨pm_blind, ?_, fun U hU hW => ⟨rfl, ?_⟩⟩ rfl rfl hl0.1 hst (lv_room hrest) hd ⟨hc0.1, hc0.2⟩) hS (fun q _ h => hAQ q h) hAQ (fun r' u t H1 locs1 h1 hvm hw hB hz1 hk1 hS1 => ?_)
  · have := va_recv hK hP hc (pm_wld_at hb)
    rw [hq] at this
    exact this
  · exact ⟨by rw [hU]; exact hP, va_K.moved hW.alike hK, pm_D_self hD, pm_stat_kept ok.2.2.2.2.2.2.1.1 hW.alike (fun a h1 h2 => by rw [hU]; exact hS.2.1 a h1 h2) hAQ, pm_nst_warm hW ok.2.2.2.2.2.2.1.2⟩
  · subst hw
    obtain ⟨b1, b2, b3, b4, b5⟩ := hB
    rw [h1] at b1
    exact kk ok H1 locs1 ls b1 (b3.weaken (fun _ q _ h => hAQ q.1 h)) hS1 hl0
theorem hr_callV {y : MethodName} {mi' : pm_I} {ht' idx b ci : Nat} {fs : List (Option Nat)} {q : vw_C} {As : List Value} (hd : pm_DC mi.1 pc pc' 3 (.invokevirtual idx)) (hl : Cond.methodLink mi.2.1 idx y ∈ pm_tb) (hy : pm_cv y mi') (hn : pm_np y As.length) (hh : ht' + 1 ≤ ht) (hrest : (st.map fun v => v.category).sum ≤ 8) (hb : sk[b]? = some (.inr (.inr (ci, fs)))) (hc : pm_cls[ci]? = some q) (hq : q.1 = y.cls) (hst : stk = As.reverse ++ .ref (V.1 b) :: st)
    (hM : ∀ l : Launch, pm_Cv l V sk y mi' ht' (.ref (V.1 b) :: As) M M') (kk : pm_J X V mi ht (pm_wld V sk M') pc' L st) : pm_J X V mi ht (pm_wld V sk M) pc L stk := by
  obtain ⟨p, l, e, R, s, m, args, below, meth, c, Q, ⟨cells, slots⟩, A⟩ := X
  intro ok H locs ls hP hD hS hl0
  obtain ⟨hd, rfl⟩ := hd
  have hts := ok.2.2.2.2.1
  have hK := ok.2.2.2.2.2.1
  obtain ⟨hc0, hR1, hR2⟩ := ok.2.2.2.2.2.2.2
  have hAQ := pm_AQ_of hD
  obtain ⟨y1, y2, y3, y4, y5, y6, y7⟩ := hy
  have hg : GoodIn pm_tb (wsV mi.2.1 idx y.cls y (pm_ws y mi')) := by
    intro w hw
    simp only [wsV, pm_ws, List.cons_append, List.nil_append, List.mem_cons] at hw
    rcases hw with rfl | rfl | rfl | rfl | rfl | hw
    · exact pm_goodw hl
    · exact pm_goodw y1
    · exact pm_goodw y2
    · exact pm_goodw y3
    · exact pm_goodw y4
    · exact pm_goodw hw
  refine va_callv (va_runV (C := y.cls) (As := As) (rest := st) ⟨ok.1, ok.2.1, ok.2.2.1, ok.2.2.2.1, hts⟩ (hM l) (cwV As.length hts hg rfl rfl rfl ⟨rfl, y5, y6, hn⟩ ⟨by show ht' + 1 + 1 ≤ _; omega, by show 8 + (mi'.2.2.1 + 11) + 64 * (ht' + 1) ≤ _; omega⟩) ⟨pm_blind, ?_, fun U hU hW => ⟨rfl, ?_⟩⟩ rfl rfl hl0.1 hst (lv_room hrest) hd ⟨hc0.1, hc0.2⟩) hS (fun q _ h => hAQ q h) hAQ (fun u t H1 locs1 h1 hvm hw hB hz1 hk1 hS1 => ?_)
  · have := va_recv hK hP hc (pm_wld_at hb)
    rw [hq] at this
    exact this
  · exact ⟨by rw [hU]; exact hP, va_K.moved hW.alike hK, pm_D_self hD, pm_stat_kept ok.2.2.2.2.2.2.1.1 hW.alike (fun a h1 h2 => by rw [hU]; exact hS.2.1 a h1 h2) hAQ, pm_nst_warm hW ok.2.2.2.2.2.2.1.2⟩
  · obtain ⟨b1, b2, b3, b4, b5⟩ := hB
    rw [h1] at b1
    exact kk ok H1 locs1 ls b1 (b3.weaken (fun _ q _ h => hAQ q.1 h)) hS1 hl0
theorem hr_callS {y : MethodName} {mi' : pm_I} {ht' idx : Nat} {As : List Value} {r : Int32} (hd : pm_DC mi.1 pc pc' 3 (.invokestatic idx)) (hl : Cond.methodLink mi.2.1 idx y ∈ pm_tb) (hy : pm_cs y mi') (hn : pm_np y As.length) (hh : ht' + 1 ≤ ht) (hrest : (st.map fun v => v.category).sum ≤ 8) (hst : stk = As.reverse ++ st)
    (hM : ∀ l : Launch, pm_Ci l V sk y mi' ht' As M r M') (kk : pm_J X V mi ht (pm_wld V sk M') pc' L (.int r :: st)) : pm_J X V mi ht (pm_wld V sk M) pc L stk := by
  obtain ⟨p, l, e, R, s, m, args, below, meth, c, Q, ⟨cells, slots⟩, A⟩ := X
  intro ok H locs ls hP hD hS hl0
  obtain ⟨hd, rfl⟩ := hd
  have hts := ok.2.2.2.2.1
  have hK := ok.2.2.2.2.2.1
  obtain ⟨hc0, hR1, hR2⟩ := ok.2.2.2.2.2.2.2
  have hAQ := pm_AQ_of hD
  obtain ⟨y1, y3, y4, y5, y6, y7⟩ := hy
  have hg : GoodIn pm_tb (va_wsS mi.2.1 idx y (pm_ws y mi')) := by
    intro w hw
    simp only [va_wsS, pm_ws, List.cons_append, List.nil_append, List.mem_cons] at hw
    rcases hw with rfl | rfl | rfl | rfl | hw
    · exact pm_goodw hl
    · exact pm_goodw y1
    · exact pm_goodw y3
    · exact pm_goodw y4
    · exact pm_goodw hw
  refine va_calli (va_runS (As := As) (rest := st) ⟨ok.1, ok.2.1, ok.2.2.1, ok.2.2.2.1, hts⟩ (hM l) (va_cwS As.length hts hg rfl rfl rfl ⟨y5, y6, hn⟩ ⟨by show ht' + 1 + 1 ≤ _; omega, by show 8 + (mi'.2.2.1 + 11) + 64 * (ht' + 1) ≤ _; omega⟩) ⟨pm_blind, fun U hU hW => ⟨rfl, ?_⟩⟩ rfl rfl hl0.1 hst (lv_room hrest) hd ⟨hc0.1, hc0.2⟩) hS (fun q _ h => hAQ q h) hAQ (fun r' u t H1 locs1 h1 hvm hw hB hz1 hk1 hS1 => ?_)
  · exact ⟨by rw [hU]; exact hP, va_K.moved hW.alike hK, pm_D_self hD, pm_stat_kept ok.2.2.2.2.2.2.1.1 hW.alike (fun a h1 h2 => by rw [hU]; exact hS.2.1 a h1 h2) hAQ, pm_nst_warm hW ok.2.2.2.2.2.2.1.2⟩
  · subst hw
    obtain ⟨b1, b2, b3, b4, b5⟩ := hB
    rw [h1] at b1
    exact kk ok H1 locs1 ls b1 (b3.weaken (fun _ q _ h => hAQ q.1 h)) hS1 hl0
end PMH
/-! the walk beside the pure function: E is what is still to be worked out -/
def pm_VF {α : Type} (E : Option α) (Kt : α → Prop) (G : Prop) : Prop := ∀ a, E = some a → Kt a → G
section PMV
variable {α β : Type} {E E1 E2 : Option α} {Kt : α → Prop} {G G' G1 G2 : Prop}
theorem vf_j (row : G' → G) (k : pm_VF E Kt G') : pm_VF E Kt G := fun a h q => row (k a h q)
theorem vf_end {a : α} (h : Kt a → G) : pm_VF (some a) Kt G := fun b e q => h (by cases e; exact q)
theorem vf_none : pm_VF (none : Option α) Kt G := fun b e _ => by cases e
theorem vf_chk {b : Bool} (k : b = true → pm_VF E Kt G) : pm_VF (pm_chk b E) Kt G := by
  intro a h q
  cases b with
  | true => exact k rfl a h q
  | false => cases h
theorem vf_br {c : Prop} [Decidable c] (row : (c → G1) → (¬ c → G2) → G) (k1 : c → pm_VF E1 Kt G1) (k2 : ¬ c → pm_VF E2 Kt G2) : pm_VF (if c then E1 else E2) Kt G := by
  intro a h q
  refine row (fun hc => ?_) (fun hc => ?_)
  · rw [if_pos hc] at h; exact k1 hc a h q
  · rw [if_neg hc] at h; exact k2 hc a h q
theorem vf_case {c : Prop} [Decidable c] (k1 : c → pm_VF E1 Kt G) (k2 : ¬ c → pm_VF E2 Kt G) : pm_VF (if c then E1 else E2) Kt G := vf_br (fun a b => if h : c then a h else b h) k1 k2
/-- a call, or an inner loop: what it gives, then the rest -/
theorem vf_bind {x : Option β} {f : β → Option α} {P : β → Prop} (row : ∀ b, x = some b → P b → G) (k : ∀ b, pm_VF (f b) Kt (P b)) : pm_VF (x.bind f) Kt G := by
  intro a h q
  cases x with
  | none => cases h
  | some b => exact row b rfl (k b a h q)
/-- behind an inner loop: its walk, then the rest -/
theorem vf_loop {x : Option β} {f : β → Option α} {P : β → Prop} (w : pm_VF x P G) (k : ∀ b, pm_VF (f b) Kt (P b)) : pm_VF (x.bind f) Kt G := vf_bind (fun b hb hP => w b hb hP) k
end PMV
theorem pm_it_ind {A : Type} {bot : A} {g : A → A} {P : A → Prop} (h0 : P bot) (h1 : ∀ f, P f → P (g f)) : ∀ n, P (pm_it bot g n)
  | 0 => h0
  | n + 1 => h1 _ (pm_it_ind h0 h1 n)
/-! the ends of a method -/
def pm_K (X : pm_X) (V : pm_V) (mi : pm_I) (ht : Nat) (sk : List pm_Sh) : Int32 × pm_M → Prop := fun a =>
  ∀ (pc pc' : Nat) (L : List (Nat × Value)), pm_DC mi.1 pc pc' 1 .ireturn → (mi.2.2.2 = some .int ∨ (mi.2.2.2 = some .boolean ∧ (a.1 = 0 ∨ a.1 = 1))) → pm_J X V mi ht (pm_wld V sk a.2) pc L [.int a.1]
def pm_Kv (X : pm_X) (V : pm_V) (mi : pm_I) (ht : Nat) (sk : List pm_Sh) : pm_M → Prop := fun a =>
  ∀ (pc pc' : Nat) (L : List (Nat × Value)), pm_DC mi.1 pc pc' 1 .return_ → pm_J X V mi ht (pm_wld V sk a) pc L []
theorem vf_ret {X : pm_X} {V : pm_V} {mi : pm_I} {ht : Nat} {sk : List pm_Sh} {pc pc' : Nat} {L : List (Nat × Value)} {r : Int32} {M : pm_M} (hd : pm_DC mi.1 pc pc' 1 .ireturn) (hr : mi.2.2.2 = some .int) : pm_VF (some (r, M)) (pm_K X V mi ht sk) (pm_J X V mi ht (pm_wld V sk M) pc L [.int r]) :=
  vf_end (fun h => h pc pc' L hd (Or.inl hr))
theorem vf_zret {X : pm_X} {V : pm_V} {mi : pm_I} {ht : Nat} {sk : List pm_Sh} {pc pc' : Nat} {L : List (Nat × Value)} {r : Int32} {M : pm_M} (hd : pm_DC mi.1 pc pc' 1 .ireturn) (hr : mi.2.2.2 = some .boolean) (hz : pm_zo r = true) : pm_VF (some (r, M)) (pm_K X V mi ht sk) (pm_J X V mi ht (pm_wld V sk M) pc L [.int r]) :=
  vf_end (fun h => h pc pc' L hd (Or.inr ⟨hr, by simpa [pm_zo] using hz⟩))
theorem vf_vret {X : pm_X} {V : pm_V} {mi : pm_I} {ht : Nat} {sk : List pm_Sh} {pc pc' : Nat} {L : List (Nat × Value)} {M : pm_M} (hd : pm_DC mi.1 pc pc' 1 .return_) : pm_VF (some M) (pm_Kv X V mi ht sk) (pm_J X V mi ht (pm_wld V sk M) pc L []) :=
  vf_end (fun h => h pc pc' L hd)
theorem pm_metI {l : Launch} {V : pm_V} {sk : List pm_Sh} {y : MethodName} {mi : pm_I} {ht : Nat} {As : List Value} {M : pm_M} {E : Option (Int32 × pm_M)} {r : Int32} {M' : pm_M} (hy : plainName y.cls = true) (hcl : mi.2.1 = y.cls) (hent : (lg_sl As).length ≤ mi.2.2.1) (hE : E = some (r, M'))
    (h : ∀ X, pm_VF E (pm_K X V mi ht sk) (pm_J X V mi ht (pm_wld V sk M) 0 (lv_args 0 As) [])) : pm_Ci l V sk y mi ht As M r M' := by
  refine Met.ofW (cc := mi.1) (maxL := mi.2.2.1) (ret := mi.2.2.2) hy rfl ?_
  intro p e s m args below meth c s₁ B hml hv
  obtain ⟨rfl, hB⟩ := hv
  have hx := B.exec
  have hb := B.bytes
  have hr := B.returns
  have hts0 := atoms_spec (ws := pm_ws y mi) B.pre
  have hts : ∀ w ∈ pm_tb, w.before As.toArray s = true := fun w hw => hts0 w (List.mem_cons_of_mem _ hw)
  have hown : s.vm.findClass mi.2.1 = some m.cls := by rw [hcl]; exact findClass_of_methodNamed B.named
  have hlocks := B.notSynchronized
  obtain ⟨hP, hK, hD, hst, hnst⟩ := hB
  have hl := lv_entry As (n := mi.2.2.1) hent
  rw [lg_entry_eq]
  generalize (lg_sl As ++ List.replicate (mi.2.2.1 - (lg_sl As).length) Slot.unset).toArray = ls at hl ⊢
  refine h (p, l, e, (headSpec (pm_ws y mi) (pm_R ht)).room, s, m, As.toArray, below, meth, c, MQ below (va_Qi (fun (x : Int32) (_ : Unit) => x = r) (fun _ t => pm_B V sk M' t) (pm_AQ V sk)) As.toArray s 0 0 (pm_AQ V sk), (0, 0), pm_AQ V sk) (r, M') hE ?_ ⟨hx, hb, hml, hown, hts, hK, ⟨hst, hnst⟩, ⟨Nat.zero_le _, Nat.zero_le _⟩, Nat.le_refl _, Nat.le_refl _⟩ s.heap [] ls hP hD va_S.rf hl
  intro pc pc' L hd hret ok H locs ls hP hD hS hl
  rcases hret with hret | ⟨hret, hz⟩
  · exact W.iret (v := r) hx hb (hr.trans hret) (fun t ht hW => ⟨⟨r, (), rfl, rfl, by rw [ht]; exact hP, va_K.moved hW.alike hK, hD, pm_stat_kept hst hW.alike (fun a h1 h2 => by rw [ht]; exact hS.2.1 a h1 h2) (fun _ h => h), pm_nst_warm hW hnst⟩, hS.F ht⟩) hS.2.2 hd.1 hlocks
  · exact W.zret (v := r) (ty := .boolean) hx hb (hr.trans hret) (by rcases hz with hz | hz <;> (simp only at hz; subst hz; rfl)) (fun t ht hW => ⟨⟨r, (), rfl, rfl, by rw [ht]; exact hP, va_K.moved hW.alike hK, hD, pm_stat_kept hst hW.alike (fun a h1 h2 => by rw [ht]; exact hS.2.1 a h1 h2) (fun _ h => h), pm_nst_warm hW hnst⟩, hS.F ht⟩) hS.2.2 hd.1 hlocks
theorem pm_metV {l : Launch} {V : pm_V} {sk : List pm_Sh} {y : MethodName} {mi : pm_I} {ht : Nat} {As : List Value} {M : pm_M} {E : Option pm_M} {M' : pm_M} (hy : plainName y.cls = true) (hcl : mi.2.1 = y.cls) (hent : (lg_sl As).length ≤ mi.2.2.1) (hret : mi.2.2.2 = none) (hE : E = some M')
    (h : ∀ X, pm_VF E (pm_Kv X V mi ht sk) (pm_J X V mi ht (pm_wld V sk M) 0 (lv_args 0 As) [])) : pm_Cv l V sk y mi ht As M M' := by
  refine Met.ofW (cc := mi.1) (maxL := mi.2.2.1) (ret := mi.2.2.2) hy rfl ?_
  intro p e s m args below meth c s₁ B hml hv
  obtain ⟨rfl, hB⟩ := hv
  have hx := B.exec
  have hb := B.bytes
  have hr := B.returns
  have hts0 := atoms_spec (ws := pm_ws y mi) B.pre
  have hts : ∀ w ∈ pm_tb, w.before As.toArray s = true := fun w hw => hts0 w (List.mem_cons_of_mem _ hw)
  have hown : s.vm.findClass mi.2.1 = some m.cls := by rw [hcl]; exact findClass_of_methodNamed B.named
  have hlocks := B.notSynchronized
  obtain ⟨hP, hK, hD, hst, hnst⟩ := hB
  have hl := lv_entry As (n := mi.2.2.1) hent
  rw [lg_entry_eq]
  generalize (lg_sl As ++ List.replicate (mi.2.2.1 - (lg_sl As).length) Slot.unset).toArray = ls at hl ⊢
  refine h (p, l, e, (headSpec (pm_ws y mi) (pm_R ht)).room, s, m, As.toArray, below, meth, c, MQ below (va_Qv (fun (_ : Unit) => True) (fun _ t => pm_B V sk M' t) (pm_AQ V sk)) As.toArray s 0 0 (pm_AQ V sk), (0, 0), pm_AQ V sk) M' hE ?_ ⟨hx, hb, hml, hown, hts, hK, ⟨hst, hnst⟩, ⟨Nat.zero_le _, Nat.zero_le _⟩, Nat.le_refl _, Nat.le_refl _⟩ s.heap [] ls hP hD va_S.rf hl
  intro pc pc' L hd ok H locs ls hP hD hS hl
  exact W.vret hx hb (hr.trans hret) (fun t ht hW => ⟨⟨(), rfl, trivial, by rw [ht]; exact hP, va_K.moved hW.alike hK, hD, pm_stat_kept hst hW.alike (fun a h1 h2 => by rw [ht]; exact hS.2.1 a h1 h2) (fun _ h => h), pm_nst_warm hW hnst⟩, hS.F ht⟩) hS.2.2 hd.1 hlocks
