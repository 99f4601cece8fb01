/-! constructors: the world grows at its end -/
theorem va_AOA.spec {t : FieldType} {s : State} (h : va_AOA t s) :
    ∃ comp c k, s.vm.findClass (FieldType.array t).toString = some comp ∧ (s.vm.classes.findIdx? fun x => match x.kind with | .array component _ => component == comp | _ => false) = some c ∧ s.vm.classes[c]? = some k ∧ k.kind = .array comp (.array t) ∧ s.vm.findClass ("[" ++ (FieldType.array t).toString) = some c := by
  unfold va_AOA Cond.before at h
  simp only [Cond.holds, Cond.value, beq_iff_eq] at h
  cases hc : s.vm.findClass (FieldType.array t).toString with
  | none => simp [hc] at h
  | some comp =>
    simp only [hc, Option.bind_some, Option.bind_eq_some_iff, Option.map_eq_some_iff] at h
    obtain ⟨c, hi, k, hk, hb⟩ := h
    obtain ⟨hlt, hp, -⟩ := Array.findIdx?_eq_some_iff_getElem.mp hi
    have hkk : s.vm.classes[c] = k := (Array.getElem?_eq_some_iff.mp hk).2
    rw [hkk] at hp
    cases hkind : k.kind with
    | array component ty =>
      rw [hkind] at hb hp
      simp at hb hp
      exact ⟨comp, c, k, rfl, hi, hk, by rw [hkind, hp, hb.1], hb.2⟩
    | _ => rw [hkind] at hb; simp at hb
theorem va_AOA.moved {t : FieldType} {u U : State} (hvm : u.vm.Alike U.vm) (h : va_AOA t u) : va_AOA t U := by
  obtain ⟨comp, c, k, h1, h2, h3, h4, h5⟩ := va_AOA.spec h
  obtain ⟨k', hk', he⟩ := hvm.2.2 _ _ h3
  have hi : (U.vm.classes.findIdx? fun (x : Class) => match x.kind with | .array component _ => component == comp | _ => false) = some c := by
    have hb : U.vm.bare = u.vm.bare := by first | exact hvm.bare_eq | exact hvm.bare_eq.symm
    have e := va_idx_bare U.vm comp
    have e2 := va_idx_bare u.vm comp
    rw [hb] at e
    exact e.symm.trans (e2.trans h2)
  have hkind : k'.kind = .array comp (.array t) := by rw [he]; exact h4
  have f1 : U.vm.findClass (FieldType.array t).toString = some comp := by rw [hvm.findClass]; exact h1
  have f2 : U.vm.findClass ("[" ++ (FieldType.array t).toString) = some c := by rw [hvm.findClass]; exact h5
  unfold va_AOA Cond.before Cond.holds
  simp only [Cond.value]
  rw [f1, Option.bind_some]
  refine (congrArg (fun o : Option Nat => (o.bind (fun c => (U.vm.classes[c]?).map fun (k : Class) => match k.kind with | .array _ ty => decide (ty = FieldType.array t) && decide (U.vm.findClass ("[" ++ (FieldType.array t).toString) = some c) | _ => false) == some true)) hi).trans ?_
  simp [hk', hkind, f2]
def pm_ext (U : State) : Prop :=
  (va_Nw (.methodLinkNest "RainShares" 9 yX5_init "RainShares") U ∧ va_Nw (.methodLinkNest "RainShares$Valley" 11 yX3_init "RainShares") U ∧ va_Nw (.methodLinkNest "RainShares$Valley" 20 yX0_init "RainShares") U ∧ va_Nw (.methodLinkNest "RainShares" 28 yX2_init "RainShares") U ∧ va_Nw (.methodLinkNest "RainShares" 35 yX6_init "RainShares") U ∧ va_Nw (.methodLinkNest "RainShares" 50 yX4_init "RainShares") U) ∧
  va_AO "RainShares$Law" U ∧ va_AO "RainShares$Sheet" U ∧ va_AOA .int U
theorem pm_ext_warm {s U : State} (hW : s.WarmedH U.vm) (h : pm_ext s) : pm_ext U := by
  obtain ⟨⟨a1, a2, a3, a4, a5, a6⟩, b1, b2, b3⟩ := h
  exact ⟨⟨va_Nw.warmM hW a1, va_Nw.warmM hW a2, va_Nw.warmM hW a3, va_Nw.warmM hW a4, va_Nw.warmM hW a5, va_Nw.warmM hW a6⟩, b1.moved hW.alike, b2.moved hW.alike, b3.moved hW.alike⟩
theorem pm_ext_vm {u U : State} (e : u.vm = U.vm) (h : pm_ext u) : pm_ext U := by
  have ha : u.vm.Alike U.vm := by rw [e]; exact Vm.Alike.refl _
  obtain ⟨⟨a1, a2, a3, a4, a5, a6⟩, b1, b2, b3⟩ := h
  exact ⟨⟨va_tabs rfl e a1, va_tabs rfl e a2, va_tabs rfl e a3, va_tabs rfl e a4, va_tabs rfl e a5, va_tabs rfl e a6⟩, b1.moved ha, b2.moved ha, b3.moved ha⟩
abbrev pm_Z : Type := Program × Launch × Env × Room × State × MethodId × Array Value × List Frame × Method × Code × (State → Prop) × (Nat → Prop)
def pm_Y (Z : pm_Z) (k n : Nat) : pm_X := (Z.1, Z.2.1, Z.2.2.1, Z.2.2.2.1, Z.2.2.2.2.1, Z.2.2.2.2.2.1, Z.2.2.2.2.2.2.1, Z.2.2.2.2.2.2.2.1, Z.2.2.2.2.2.2.2.2.1, Z.2.2.2.2.2.2.2.2.2.1, Z.2.2.2.2.2.2.2.2.2.2.1, (k, n), Z.2.2.2.2.2.2.2.2.2.2.2)
def pm_cx (Z : pm_Z) (mc ms : Nat) : Prop := match Z with
  | (_, _, _, R, s, _, _, _, _, _, _, A) => R.cells = mc ∧ R.slots = ms ∧ (∀ q : Nat, s.heap.size ≤ q → A q) ∧ pm_ext s
def pm_nm (Z : pm_Z) : Prop := match Z with
  | (_, _, _, _, _, _, _, _, meth, _, _, _) => meth.name = "<init>"
/-- a world from explicit shapes -/
def pm_wF (V : pm_V) (M : pm_M) : Nat → List pm_Sh → va_W
  | _, [] => []
  | k, sh :: l => (V.1 k, pm_cell V M k sh) :: pm_wF V M (k + 1) l
theorem pm_wF_at {V : pm_V} {M : pm_M} : ∀ (l : List pm_Sh) (k j : Nat), (pm_wF V M k l)[j]? = (l[j]?).map (fun sh => (V.1 (k + j), pm_cell V M (k + j) sh))
  | [], k, j => by simp [pm_wF]
  | sh :: l, k, 0 => by simp [pm_wF]
  | sh :: l, k, j + 1 => by
    simp only [pm_wF, List.getElem?_cons_succ]
    rw [pm_wF_at l (k + 1) j, show k + 1 + j = k + (j + 1) by omega]
theorem pm_wF_eq (V : pm_V) (sk : List pm_Sh) (M : pm_M) : pm_wld V sk M = pm_wF V M 0 sk := by
  apply List.ext_getElem?
  intro j
  rw [pm_wF_at]
  unfold pm_wld
  rw [List.getElem?_mapIdx, Nat.zero_add]
theorem pm_Kint {V : pm_V} {s : State} {cA : ClassId} (hK : va_K V.2.2 pm_cls (pm_tys V ++ [(cA, .int)]) s) : cA = V.2.1 0 := by
  have h1 : s.vm.findClass ("[" ++ (FieldType.int).toString) = some (V.2.1 0) := (hK.2 0 (V.2.1 0, .int) rfl).2
  have h2 : s.vm.findClass ("[" ++ (FieldType.int).toString) = some cA := (hK.2 4 (cA, .int) rfl).2
  exact Option.some.inj (h2.symm.trans h1)
theorem pm_Kobj {V : pm_V} {s : State} {cA : ClassId} {C : String} {t : Nat} (ht : t < 4) (hC : (pm_tys V)[t]? = some (V.2.1 t, .object C)) (hK : va_K V.2.2 pm_cls (pm_tys V ++ [(cA, .object C)]) s) : cA = V.2.1 t := by
  obtain ⟨_, _, _, _, _, h1⟩ := (hK.2 t (V.2.1 t, .object C) (by rw [List.getElem?_append_left (by exact ht)]; exact hC)).2
  obtain ⟨_, _, _, _, _, h2⟩ := (hK.2 4 (cA, .object C) rfl).2
  exact Option.some.inj (h2.symm.trans h1)
theorem pm_Karr {V : pm_V} {s : State} {cA : ClassId} (hK : va_K V.2.2 pm_cls (pm_tys V ++ [(cA, .array .int)]) s) : cA = V.2.1 3 := by
  have h1 : s.vm.findClass ("[" ++ (FieldType.array .int).toString) = some (V.2.1 3) := (hK.2 3 (V.2.1 3, .array .int) rfl).2
  have h2 : s.vm.findClass ("[" ++ (FieldType.array .int).toString) = some cA := (hK.2 4 (cA, .array .int) rfl).2
  exact Option.some.inj (h2.symm.trans h1)
theorem pm_Kdrop {V : pm_V} {s : State} {x : ClassId × FieldType} (hK : va_K V.2.2 pm_cls (pm_tys V ++ [x]) s) : va_K V.2.2 pm_cls (pm_tys V) s := hK.sub [0, 1, 2, 3] rfl
section PMN
variable {Z : pm_Z} {V : pm_V} {mi : pm_I} {ht : Nat} {ws : va_W} {pc pc' k n mc ms : Nat} {L : List (Nat × Value)} {st stk : List Value}
theorem nr_new {ci N idx : Nat} {C : String} {T : u_T} {ty : Nat → FieldType} (fs : List Value) (hz : pm_cx Z mc ms) (hd : pm_DC mi.1 pc pc' 3 (.new idx)) (hc : pm_cls[ci]? = some (C, T, N)) (hw : ∀ w ∈ u_ws C T N, w ∈ pm_tb) (hty : ∀ k, k < N → parseFieldDescriptor (T k).2.2.1 = some (ty k)) (h1 : Cond.classLink mi.2.1 idx C ∈ pm_tb) (h2 : Cond.instantiable C N ∈ pm_tb) (h3 : Cond.initialized C ∈ pm_tb) (hfs : ∀ j, j < N → defaultValue (ty j) = vp_V fs j) (hk : k + 1 ≤ mc) (hn : n + N ≤ ms)
    (kk : ∀ q : Nat, pm_J (pm_Y Z (k + 1) (n + N)) V mi ht (ws ++ [(q, .inr (ci, fs))]) pc' L (.ref q :: st)) : pm_J (pm_Y Z k n) V mi ht ws pc L st := by
  obtain ⟨p, l, e, R, s, m, args, below, meth, c, Q, A⟩ := Z
  obtain ⟨z1, z2, z3, z4⟩ := hz
  intro ok H locs ls hP hD hS hl
  obtain ⟨hd, rfl⟩ := hd
  have hts := ok.2.2.2.2.1
  refine va_new ok.1 ok.2.1 hts hw ty hty ok.2.2.2.1 (hts _ h1) (hts _ h2) (hts _ h3) ok.2.2.2.2.2.1 hP hD hS z3 hc hfs (by show k + 1 ≤ R.cells; omega) (by show n + N ≤ R.slots; omega) hd (fun q H1 hP1 hD1 hS1 => ?_)
  exact kk q ⟨ok.1, ok.2.1, ok.2.2.1, ok.2.2.2.1, ok.2.2.2.2.1, ok.2.2.2.2.2.1, ok.2.2.2.2.2.2.1, ⟨by show k + 1 ≤ R.cells; omega, by show n + N ≤ R.slots; omega⟩, ok.2.2.2.2.2.2.2.2⟩ H1 locs ls hP1 hD1 hS1 hl
theorem nr_newa {N : Nat} {x : Int32} (hz : pm_cx Z mc ms) (hd : pm_DC mi.1 pc pc' 2 (.newarray .int)) (h1 : Cond.arrayClass .int ∈ pm_tb) (h0 : ¬ x < 0) (hx : x.toNatClampNeg = N) (hN : N ≤ 1000) (hk : k + 1 ≤ mc) (hn : n + N ≤ ms)
    (kk : ∀ q : Nat, pm_J (pm_Y Z (k + 1) (n + N)) V mi ht (ws ++ [(q, .inl (V.2.1 0, (N, .inl (fun _ => 0))))]) pc' L (.ref q :: st)) : pm_J (pm_Y Z k n) V mi ht ws pc L (.int x :: st) := by
  obtain ⟨p, l, e, R, s, m, args, below, meth, c, Q, A⟩ := Z
  obtain ⟨z1, z2, z3, z4⟩ := hz
  intro ok H locs ls hP hD hS hl
  obtain ⟨hd, rfl⟩ := hd
  have hts := ok.2.2.2.2.1
  refine va_newa (atype := .int) (ty := .int) (a0 := (N, .inl (fun _ => 0))) (tys := pm_tys V) ok.1 ok.2.1 (hts _ h1) rfl ok.2.2.2.2.2.1 hP hD hS z3 (fun _ => rfl) h0 hx (by show N * 4 ≤ _; omega) (by show k + 1 ≤ R.cells; omega) (by show n + N ≤ R.slots; omega) hd (fun q cA H1 hK1 hP1 hD1 hS1 => ?_)
  have hcA := pm_Kint hK1
  subst hcA
  exact kk q ⟨ok.1, ok.2.1, ok.2.2.1, ok.2.2.2.1, ok.2.2.2.2.1, ok.2.2.2.2.2.1, ok.2.2.2.2.2.2.1, ⟨by show k + 1 ≤ R.cells; omega, by show n + N ≤ R.slots; omega⟩, ok.2.2.2.2.2.2.2.2⟩ H1 locs ls hP1 hD1 hS1 hl
theorem nr_newq {N t idx : Nat} {x : Int32} {C : String} (hz : pm_cx Z mc ms) (hd : pm_DC mi.1 pc pc' 3 (.anewarray idx)) (h1 : Cond.classLink mi.2.1 idx C ∈ pm_tb) (hq : (C = "RainShares$Law" ∧ t = 1) ∨ (C = "RainShares$Sheet" ∧ t = 2)) (h0 : ¬ x < 0) (hx : x.toNatClampNeg = N) (hN : N ≤ 1000) (hk : k + 1 ≤ mc) (hn : n + N ≤ ms)
    (kk : ∀ q : Nat, pm_J (pm_Y Z (k + 1) (n + N)) V mi ht (ws ++ [(q, .inl (V.2.1 t, (N, .inr (.inr (.inr (.inr (fun _ => none)))))))]) pc' L (.ref q :: st)) : pm_J (pm_Y Z k n) V mi ht ws pc L (.int x :: st) := by
  obtain ⟨p, l, e, R, s, m, args, below, meth, c, Q, A⟩ := Z
  obtain ⟨z1, z2, z3, z4⟩ := hz
  intro ok H locs ls hP hD hS hl
  obtain ⟨hd, rfl⟩ := hd
  have hts := ok.2.2.2.2.1
  have hov : va_AO C s := by
    rcases hq with ⟨rfl, -⟩ | ⟨rfl, -⟩
    · exact z4.2.1
    · exact z4.2.2.1
  refine va_newq (tys := pm_tys V) ok.1 ok.2.1 ok.2.2.2.1 (hts _ h1) hov ok.2.2.2.2.2.1 hP hD hS z3 h0 hx (by omega) (by show k + 1 ≤ R.cells; omega) (by show n + N ≤ R.slots; omega) hd (fun q cA H1 hK1 hP1 hD1 hS1 => ?_)
  have hcA : cA = V.2.1 t := by
    rcases hq with ⟨rfl, rfl⟩ | ⟨rfl, rfl⟩
    · exact pm_Kobj (by decide) rfl hK1
    · exact pm_Kobj (by decide) rfl hK1
  subst hcA
  exact kk q ⟨ok.1, ok.2.1, ok.2.2.1, ok.2.2.2.1, ok.2.2.2.2.1, ok.2.2.2.2.2.1, ok.2.2.2.2.2.2.1, ⟨by show k + 1 ≤ R.cells; omega, by show n + N ≤ R.slots; omega⟩, ok.2.2.2.2.2.2.2.2⟩ H1 locs ls hP1 hD1 hS1 hl
theorem nr_mna {idx : Nat} (hz : pm_cx Z mc ms) (hd : pm_DC mi.1 pc pc' 4 (.multianewarray idx 2)) (h1 : Cond.classLink mi.2.1 idx "[[I" ∈ pm_tb) (h2 : Cond.arrayClass .int ∈ pm_tb) (hk : k + 7 ≤ mc) (hn : n + 42 ≤ ms)
    (kk : ∀ (q : Nat) (r : Nat → Nat), pm_J (pm_Y Z (k + 7) (n + 42)) V mi ht (ws ++ ((q, .inl (V.2.1 3, (6, .inr (.inr (.inr (.inr (fun i => if i < 6 then some (r i) else none))))))) :: (List.range 6).map (fun i => (r i, .inl (V.2.1 0, (6, .inl (fun _ => 0))))))) pc' L (.ref q :: st)) : pm_J (pm_Y Z k n) V mi ht ws pc L (.int 6 :: .int 6 :: st) := by
  obtain ⟨p, l, e, R, s, m, args, below, meth, c, Q, A⟩ := Z
  obtain ⟨z1, z2, z3, z4⟩ := hz
  intro ok H locs ls hP hD hS hl
  obtain ⟨hd, rfl⟩ := hd
  have hts := ok.2.2.2.2.1
  have hK := ok.2.2.2.2.2.1
  have hcy : s.vm.findClass (FieldType.array .int).toString = some (V.2.1 0) := (hK.2 0 (V.2.1 0, .int) rfl).2
  refine va_mna (X := ws) (L := []) (f := fun _ => .inr (0, [])) (tys := pm_tys V) (ty := .int) (cy := V.2.1 0) (N' := 6) (K' := 6) (z := (6, .inl (fun _ => 0))) ok.1 ok.2.1 ok.2.2.2.1 (hts _ h1) z4.2.2.2 (hts _ h2) hcy hK (by show va_P _ _ (ws ++ []) _; rw [List.append_nil]; exact hP) (by show va_D _ (ws ++ []); rw [List.append_nil]; exact hD) hS z3 (by decide) (by decide) (by decide) (by decide) (by decide) (by decide) (by decide) rfl rfl (by show k + (1 + 6) ≤ R.cells; omega) (by show n + (6 + 6 * 6) ≤ R.slots; omega) (fun _ => rfl) hd (fun q r cA H1 hr hr2 hK1 hP1 hD1 hS1 => ?_)
  have hcA := pm_Karr hK1
  subst hcA
  have e9 : va_pl ([] ++ (List.range 6).map r) (vr_up (fun _ => .inr (0, [])) ((List.range 6).map r) (.inl (V.2.1 0, (6, .inl (fun _ => 0))))) = (List.range 6).map (fun i => (r i, (.inl (V.2.1 0, (6, .inl (fun _ => 0))) : va_E))) := by
    unfold va_pl
    rw [List.nil_append, List.map_map]
    apply List.map_congr_left
    intro i hi
    show (r i, vr_up _ _ _ (r i)) = _
    rw [vr_up_in (List.mem_map.mpr ⟨i, hi, rfl⟩)]
  rw [e9, List.append_assoc] at hP1 hD1
  exact kk q r ⟨ok.1, ok.2.1, ok.2.2.1, ok.2.2.2.1, ok.2.2.2.2.1, ok.2.2.2.2.2.1, ok.2.2.2.2.2.2.1, ⟨by show k + 7 ≤ R.cells; omega, by show n + 42 ≤ R.slots; omega⟩, ok.2.2.2.2.2.2.2.2⟩ H1 locs ls hP1 hD1 hS1 hl
def pm_ff (own : String) (idx ci j : Nat) (ty : FieldType) : Prop := ∃ (C : String) (T : u_T) (N : Nat) (ty0 : Nat → FieldType), pm_cls[ci]? = some (C, T, N) ∧ (∀ w ∈ u_ws C T N, w ∈ pm_tb) ∧ j < N ∧ Cond.fieldLink own idx (T j).1 (T j).2.1 (T j).2.2.1 ∈ pm_tb ∧
  (∀ k, k < N → parseFieldDescriptor (T k).2.2.1 = some (ty0 k)) ∧ (∀ a, a < N → ∀ b, b < N → a ≠ b → (T a).2.1 ≠ (T b).2.1) ∧ (T j).2.2.2 = true ∧ (T j).1 = own ∧ parseFieldDescriptor (T j).2.2.1 = some ty
theorem nr_putF {ci j idx q0 a : Nat} {fs : List Value} {v : Value} {ty : FieldType} {ws' : va_W} (hm : pm_nm Z) (hd : pm_DC mi.1 pc pc' 3 (.putfield idx)) (hf : pm_ff mi.2.1 idx ci j ty) (he : ws[q0]? = some (a, .inr (ci, fs))) (hn : narrow ty v = v) (hfit : fits ty v = true) (hl : j < fs.length) (hs : ws.set q0 (a, .inr (ci, fs.set j v)) = ws')
    (kk : pm_J (pm_Y Z k n) V mi ht ws' pc' L st) : pm_J (pm_Y Z k n) V mi ht ws pc L (v :: .ref a :: st) := by
  obtain ⟨p, l, e, R, s, m, args, below, meth, c, Q, A⟩ := Z
  intro ok H locs ls hP hD hS hl0
  obtain ⟨hd, rfl⟩ := hd
  obtain ⟨C, T, N, ty0, f1, f2, f3, f4, f5, f6, f7, f8, f9⟩ := hf
  subst hs
  exact va_putF ok.1 ok.2.1 ok.2.2.2.2.1 f2 ty0 f5 f6 ok.2.2.2.1 ok.2.2.2.2.2.1 hP hD hS q0 he f1 j f3 (ok.2.2.2.2.1 _ f4) (fun _ h => h) f7 hm f8 f9 hn hfit hl hd (fun H1 locs1 hP1 hD1 hS1 => kk ok H1 locs1 ls hP1 hD1 hS1 hl0)
theorem nr_putV {ci j idx q0 a : Nat} {fs : List Value} {v : Value} {ty : FieldType} {ws' : va_W} (hd : pm_DC mi.1 pc pc' 3 (.putfield idx)) (hf : pm_fp mi.2.1 idx ci j ty) (he : ws[q0]? = some (a, .inr (ci, fs))) (hn : narrow ty v = v) (hfit : fits ty v = true) (hl : j < fs.length) (hs : ws.set q0 (a, .inr (ci, fs.set j v)) = ws')
    (kk : pm_J (pm_Y Z k n) V mi ht ws' pc' L st) : pm_J (pm_Y Z k n) V mi ht ws pc L (v :: .ref a :: st) := by
  obtain ⟨p, l, e, R, s, m, args, below, meth, c, Q, A⟩ := Z
  intro ok H locs ls hP hD hS hl0
  obtain ⟨hd, rfl⟩ := hd
  obtain ⟨C, T, N, ty0, f1, f2, f3, f4, f5, f6, f7, f8⟩ := hf
  subst hs
  exact va_put ok.1 ok.2.1 ok.2.2.2.2.1 f2 ty0 f5 f6 ok.2.2.2.1 ok.2.2.2.2.2.1 hP hD hS q0 he f1 j f3 (ok.2.2.2.2.1 _ f4) (fun _ h => h) f7 f8 hn hfit hl hd (fun H1 locs1 hP1 hD1 hS1 => kk ok H1 locs1 ls hP1 hD1 hS1 hl0)
theorem nr_get {ci j idx q0 a : Nat} {fs : List Value} {v : Value} (hd : pm_DC mi.1 pc pc' 3 (.getfield idx)) (hf : pm_fl mi.2.1 idx ci j) (he : ws[q0]? = some (a, .inr (ci, fs))) (hv : fs[j]? = some v)
    (kk : pm_J (pm_Y Z k n) V mi ht ws pc' L (v :: st)) : pm_J (pm_Y Z k n) V mi ht ws pc L (.ref a :: st) := by
  obtain ⟨p, l, e, R, s, m, args, below, meth, c, Q, A⟩ := Z
  intro ok H locs ls hP hD hS hl0
  obtain ⟨hd, rfl⟩ := hd
  obtain ⟨C, T, N, f1, f2, f3, f4⟩ := hf
  exact va_get ok.1 ok.2.1 ok.2.2.2.2.1 f2 ok.2.2.2.1 ok.2.2.2.2.2.1 hP q0 he f1 j f3 (ok.2.2.2.2.1 _ f4) (fun _ h => h) hv hd (kk ok H locs ls hP hD hS hl0)
theorem nr_iast {q0 a N : Nat} {f : Nat → Int32} {i x : Int32} {ws' : va_W} (hd : pm_DC mi.1 pc pc' 1 .iastore) (ha : ws[q0]? = some (a, .inl (V.2.1 0, (N, .inl f)))) (hin : pm_in i N = true) (hs : ws.set q0 (a, .inl (V.2.1 0, (N, .inl (upd f i.toNatClampNeg x)))) = ws')
    (kk : pm_J (pm_Y Z k n) V mi ht ws' pc' L st) : pm_J (pm_Y Z k n) V mi ht ws pc L (.int x :: .int i :: .ref a :: st) := by
  obtain ⟨p, l, e, R, s, m, args, below, meth, c, Q, A⟩ := Z
  intro ok H locs ls hP hD hS hl0
  obtain ⟨hd, rfl⟩ := hd
  subst hs
  exact va_iast (tys := pm_tys V) ok.1 ok.2.1 ok.2.2.2.2.2.1 hP hD hS q0 0 ha rfl (pm_in_iff.mp hin) hd (fun H1 locs1 hP1 hD1 hS1 => kk ok H1 locs1 ls hP1 hD1 hS1 hl0)
theorem nr_aast {q0 qk ci a v t N : Nat} {r : vw_C} {vs : List Value} {f : Nat → Option Nat} {i : Int32} {ws' : va_W} (hd : pm_DC mi.1 pc pc' 1 .aastore) (ha : ws[q0]? = some (a, .inl (V.2.1 t, (N, .inr (.inr (.inr (.inr f))))))) (htt : (pm_tys V)[t]? = some (V.2.1 t, .object r.1)) (hv : ws[qk]? = some (v, .inr (ci, vs))) (hc : pm_cls[ci]? = some r) (hin : pm_in i N = true) (hs : ws.set q0 (a, .inl (V.2.1 t, (N, .inr (.inr (.inr (.inr (va_up f i.toNatClampNeg (some v)))))))) = ws')
    (kk : pm_J (pm_Y Z k n) V mi ht ws' pc' L st) : pm_J (pm_Y Z k n) V mi ht ws pc L (.ref v :: .int i :: .ref a :: st) := by
  obtain ⟨p, l, e, R, s, m, args, below, meth, c, Q, A⟩ := Z
  intro ok H locs ls hP hD hS hl0
  obtain ⟨hd, rfl⟩ := hd
  subst hs
  exact va_astq (tys := pm_tys V) ok.1 ok.2.1 ok.2.2.2.2.2.1 hP hD hS q0 t qk ci ha htt hv hc (pm_in_iff.mp hin) hd (fun H1 locs1 hP1 hD1 hS1 => kk ok H1 locs1 ls hP1 hD1 hS1 hl0)
theorem nr_alen {q0 a t : Nat} {x : vp_A} {ty : FieldType} {v : Int32} (hd : pm_DC mi.1 pc pc' 1 .arraylength) (ha : ws[q0]? = some (a, .inl (V.2.1 t, x))) (htt : (pm_tys V)[t]? = some (V.2.1 t, ty)) (hv : Int32.ofNat x.1 = v)
    (kk : pm_J (pm_Y Z k n) V mi ht ws pc' L (.int v :: st)) : pm_J (pm_Y Z k n) V mi ht ws pc L (.ref a :: st) := by
  obtain ⟨p, l, e, R, s, m, args, below, meth, c, Q, A⟩ := Z
  intro ok H locs ls hP hD hS hl0
  obtain ⟨hd, rfl⟩ := hd
  exact va_alen (tys := pm_tys V) ok.1 ok.2.1 ok.2.2.2.2.2.1 hP q0 t ha htt hv hd (kk ok H locs ls hP hD hS hl0)
theorem nr_obj {idx a : Nat} (hd : pm_DC mi.1 pc pc' 3 (.invokespecial idx)) (h1 : Cond.methodLink mi.2.1 idx Lib.objectInit ∈ pm_tb) (h2 : Cond.instanceMethod Lib.objectInit ∈ pm_tb) (h3 : Cond.code Lib.objectInit ⟨#[0xb1]⟩ 1 none ∈ pm_tb) (hrest : (st.map fun v => v.category).sum ≤ 8)
    (kk : pm_J (pm_Y Z k n) V mi ht ws pc' L st) : pm_J (pm_Y Z k n) V mi ht ws pc L (.ref a :: st) := by
  obtain ⟨p, l, e, R, s, m, args, below, meth, c, Q, A⟩ := Z
  intro ok H locs ls hP hD hS hl0
  obtain ⟨hd, rfl⟩ := hd
  have hts := ok.2.2.2.2.1
  obtain ⟨hc, hR1, hR2⟩ := ok.2.2.2.2.2.2.2
  have hR1' : ht + 1 ≤ R.frames := hR1
  have hR2' : 64 * (ht + 1) ≤ R.locals := hR2
  refine W.objInit ok.1 ok.2.1 ok.2.2.2.1 (hts _ h1) (hts _ h2) (hts _ h3) rfl (hl0.1.trans ok.2.2.1.symm) rfl hd (by show 1 ≤ R.frames; omega) (by show 2 * 0 + _ + 12 ≤ R.locals; omega) ?_
  exact W.eq (g2 := F0 m (pc + 3) ls st) rfl (kk ok H locs ls hP hD hS hl0)
/-! the contract of a constructor: a new object of class ci with default fields becomes the world of sk with M0 -/
def pm_RN (ht mc ms : Nat) : Room := { frames := ht + 1, cells := mc, slots := ms, locals := 64 * (ht + 1) }
abbrev pm_one (a ci : Nat) (fs0 : List Value) : va_W := [(a, .inr (ci, fs0))]
def pm_BN (V : pm_V) (a sz ci : Nat) (fs0 : List Value) (U : State) : Prop := U.heap.size = sz ∧ va_P V.2.2 pm_cls (pm_one a ci fs0) U.heap ∧ va_K V.2.2 pm_cls (pm_tys V) U ∧ va_D (fun _ => True) (pm_one a ci fs0) ∧ (pm_stat V (va_A (pm_one a ci fs0) sz) U U.heap ∧ pm_nst U) ∧ pm_ext U
def pm_Nc (l : Launch) (V : pm_V) (y : MethodName) (mi : pm_I) (ht : Nat) (As : List Value) (ci : Nat) (fs0 : List Value) (sk : List pm_Sh) (M0 : pm_M) (mc ms : Nat) : Prop := ∀ a sz : Nat,
  Met l y (pm_ws y mi) (pm_RN ht mc ms) (va_Pc (.ref a :: As) (pm_BN V a sz ci fs0)) (va_Qv (fun q : Nat → Nat => q 0 = a) (fun q t => va_P V.2.2 pm_cls (pm_wld (q, V.2) sk M0) t.heap ∧ va_D (va_A (pm_one a ci fs0) sz) (pm_wld (q, V.2) sk M0)) (va_A (pm_one a ci fs0) sz)) mc ms (va_A (pm_one a ci fs0) sz)
theorem pm_blindN {V : pm_V} {a sz ci : Nat} {fs0 As : List Value} : FrameBlind (va_Pc As (pm_BN V a sz ci fs0)) := by
  intro w U g mk q
  obtain ⟨h0, h1, h2, h3, h4, ⟨h5, h6⟩, h7⟩ := q
  exact ⟨h0, h1, h2, va_K.moved (u := U) (U := U.calling g mk w) (Vm.Alike.refl U.vm) h3, h4, ⟨pm_stat_kept h5 (Vm.Alike.refl U.vm) (fun _ _ _ => rfl) (fun _ h => h), pm_nst_vm rfl h6⟩, pm_ext_vm rfl h7⟩
theorem pm_joinL {A0 : Nat → Prop} {D : va_G} {cl : List vw_C} {ws0 wc w1 : va_W} {H H1 : Heap} (hP : va_P D cl (ws0 ++ wc) H) (hD : va_D A0 (ws0 ++ wc)) (hk : ∀ q : Nat, q < H.size → ¬ va_A wc H.size q → H1[q]? = H[q]?) (hF : ∀ q, va_A wc H.size q → A0 q) (hP1 : va_P D cl w1 H1) (hD1 : va_D (va_A wc H.size) w1) : va_P D cl (ws0 ++ w1) H1 ∧ va_D A0 (ws0 ++ w1) := by
  have kl : ∀ (k : Nat) (q : Nat × va_E), ws0[k]? = some q → (ws0 ++ wc)[k]? = some q := fun k q hq => by
    rw [List.getElem?_append_left ((List.getElem?_eq_some_iff.mp hq).1)]; exact hq
  have kr : ∀ (k : Nat) (q : Nat × va_E), wc[k]? = some q → (ws0 ++ wc)[ws0.length + k]? = some q := fun k q hq => by
    rw [List.getElem?_append_right (by omega), show ws0.length + k - ws0.length = k by omega]; exact hq
  have apart : ∀ (k : Nat) (q : Nat × va_E), ws0[k]? = some q → q.1 < H.size ∧ ¬ va_A wc H.size q.1 := by
    intro k q hq
    have hlt := (hP k q (kl k q hq)).lt
    refine ⟨hlt, fun h => ?_⟩
    rcases h with ⟨k2, e2, h⟩ | h
    · have := hD.1 _ _ _ _ (kl k q hq) (kr k2 _ h) rfl
      have h5 := (List.getElem?_eq_some_iff.mp hq).1
      omega
    · omega
  refine ⟨va_P.app (fun k q hq => (hP k q (kl k q hq)).kept (hk q.1 (apart k q hq).1 (apart k q hq).2)) hP1, va_D.app ⟨fun i j x y hx hy hxy => hD.1 i j x y (kl i x hx) (kl j y hy) hxy, fun k q hq => hD.2 k q (kl k q hq)⟩ (hD1.weaken (fun k q _ h => hF q.1 h)) (fun i j x y hx hy hxy => ?_)⟩
  exact (apart i x hx).2 (by rw [hxy]; exact hD1.2 j y hy)
theorem nr_call {y : MethodName} {mi' : pm_I} {ht' idx a ci mc' ms' : Nat} {fs0 As : List Value} {sk : List pm_Sh} {M0 : pm_M} (hz : pm_cx Z mc ms) (hd : pm_DC mi.1 pc pc' 3 (.invokespecial idx)) (hl : (Cond.methodLink mi.2.1 idx y ∈ pm_tb) ∨ (∀ U, pm_ext U → va_Nw (.methodLinkNest mi.2.1 idx y "RainShares") U)) (hy : Cond.instanceMethod y ∈ pm_tb ∧ Cond.initialized y.cls ∈ pm_tb ∧ Cond.code y mi'.1 mi'.2.2.1 none ∈ pm_tb ∧ y.cls ≠ "java/lang/invoke/MethodHandle" ∧ y.cls ≠ "java/lang/invoke/VarHandle" ∧ mi'.2.2.1 ≤ 40 ∧ mi'.2.2.2 = none ∧ y.name = "<init>") (hnp : pm_np y As.length) (hh : ht' + 1 ≤ ht) (hrest : (st.map fun v => v.category).sum ≤ 8) (hst : stk = As.reverse ++ .ref a :: st) (hkc : k + mc' ≤ mc) (hns : n + ms' ≤ ms)
    (hM : ∀ l : Launch, pm_Nc l V y mi' ht' As ci fs0 sk M0 mc' ms') (kk : ∀ q : Nat → Nat, q 0 = a → pm_J (pm_Y Z (k + mc') (n + ms')) V mi ht (ws ++ pm_wld (q, V.2) sk M0) pc' L st) : pm_J (pm_Y Z k n) V mi ht (ws ++ pm_one a ci fs0) pc L stk := by
  obtain ⟨p, l, e, R, s, m, args, below, meth, c, Q, A⟩ := Z
  obtain ⟨z1, z2, z3, z4⟩ := hz
  intro ok H locs ls hP hD hS hl0
  obtain ⟨hd, rfl⟩ := hd
  have hts := ok.2.2.2.2.1
  have hK := ok.2.2.2.2.2.1
  obtain ⟨hc0, hR1, hR2⟩ := ok.2.2.2.2.2.2.2
  have hR1' : ht + 1 ≤ R.frames := hR1
  have hR2' : 64 * (ht + 1) ≤ R.locals := hR2
  obtain ⟨y1, y3, y4, y5, y6, y7, y8, y9⟩ := hy
  have hws : pm_ws y mi' = Cond.code y mi'.1 mi'.2.2.1 none :: pm_tb := by unfold pm_ws; rw [y8]
  have hg : GoodIn pm_tb (pm_ws y mi') := by
    intro w hw
    rw [hws] at hw
    rcases List.mem_cons.mp hw with rfl | hw
    · exact pm_goodw y4
    · exact pm_goodw hw
  have kr : ∀ (k : Nat) (q : Nat × va_E), (pm_one a ci fs0)[k]? = some q → (ws ++ pm_one a ci fs0)[ws.length + k]? = some q := fun k q hq => by
    rw [List.getElem?_append_right (by omega), show ws.length + k - ws.length = k by omega]; exact hq
  have hPc : va_P V.2.2 pm_cls (pm_one a ci fs0) H := fun k q hq => hP _ q (kr k q hq)
  have hFc : ∀ q, va_A (pm_one a ci fs0) H.size q → A q := by
    intro q h
    rcases h with ⟨k, e, h⟩ | h
    · exact hD.2 _ (q, e) (kr k _ h)
    · exact z3 q (Nat.le_trans hS.1 h)
  have pre : ∀ U : State, U.heap = H → s.WarmedH U.vm → va_Pc (.ref a :: As) (pm_BN V a H.size ci fs0) (Value.ref a :: As).toArray U := fun U hU hW => ⟨rfl, by rw [hU], by rw [hU]; exact hPc, va_K.moved hW.alike hK, ⟨fun i j x y hx hy _ => by
      have h1 := (List.getElem?_eq_some_iff.mp hx).1
      have h2 := (List.getElem?_eq_some_iff.mp hy).1
      simp at h1 h2
      omega, fun _ _ _ => trivial⟩, ⟨pm_stat_kept ok.2.2.2.2.2.2.1.1 hW.alike (fun a h1 h2 => by rw [hU]; exact hS.2.1 a h1 h2) hFc, pm_nst_warm hW ok.2.2.2.2.2.2.1.2⟩, pm_ext_warm hW z4⟩
  have hrun : va_Run p l e R s m args below meth c H locs k n mc' ms' (F0 m pc ls stk) st (va_Qv (fun q : Nat → Nat => q 0 = a) (fun q t => va_P V.2.2 pm_cls (pm_wld (q, V.2) sk M0) t.heap ∧ va_D (va_A (pm_one a ci fs0) H.size) (pm_wld (q, V.2) sk M0)) (va_A (pm_one a ci fs0) H.size) (Value.ref a :: As).toArray) (va_A (pm_one a ci fs0) H.size) := by
    rcases hl with hl | hl
    · exact va_runI (As := As) (rest := st) ⟨ok.1, ok.2.1, ok.2.2.1, ok.2.2.2.1, hts⟩ (hM l a H.size) (cwI As.length hts hg hws rfl rfl (hts _ y3) (hts _ hl) (hts _ y1) y9 ⟨y5, y6, hnp⟩ ⟨by show ht' + 1 + 1 ≤ R.frames; omega, by show 8 + (mi'.2.2.1 + 11) + 64 * (ht' + 1) ≤ R.locals; omega⟩) ⟨pm_blindN, pre⟩ rfl rfl hl0.1 hst (lv_room hrest) hd ⟨by show k + mc' ≤ R.cells; omega, by show n + ms' ≤ R.slots; omega⟩
    · exact va_runIN (As := As) (rest := st) ⟨ok.1, ok.2.1, ok.2.2.1, ok.2.2.2.1, hts⟩ (hM l a H.size) ⟨va_cnB As.length hts hg hws rfl rfl (hl s z4) (hts _ y3) ⟨y5, y6, hnp⟩ ⟨by show ht' + 1 + 1 ≤ R.frames; omega, by show 8 + (mi'.2.2.1 + 11) + 64 * (ht' + 1) ≤ R.locals; omega⟩, y9, hts _ y1⟩ ⟨pm_blindN, pre⟩ rfl rfl hl0.1 hst (lv_room hrest) hd ⟨by show k + mc' ≤ R.cells; omega, by show n + ms' ≤ R.slots; omega⟩
  refine va_callv hrun hS (fun q _ h => hFc q h) hFc (fun u t H1 locs1 h1 hvm hw hB hz1 hk1 hS1 => ?_)
  obtain ⟨b1, b2⟩ := hB
  rw [h1] at b1
  obtain ⟨hP3, hD3⟩ := pm_joinL hP hD hk1 hFc b1 b2
  exact kk u hw ⟨ok.1, ok.2.1, ok.2.2.1, ok.2.2.2.1, ok.2.2.2.2.1, ok.2.2.2.2.2.1, ok.2.2.2.2.2.2.1, ⟨by show k + mc' ≤ R.cells; omega, by show n + ms' ≤ R.slots; omega⟩, ok.2.2.2.2.2.2.2.2⟩ H1 locs1 ls hP3 hD3 hS1 hl0
end PMN
theorem pm_metN {l : Launch} {V : pm_V} {y : MethodName} {mi : pm_I} {ht ci mc ms : Nat} {As fs0 : List Value} {sk : List pm_Sh} {M0 : pm_M} (hy : plainName y.cls = true) (hcl : mi.2.1 = y.cls) (hin : y.name = "<init>") (hret : mi.2.2.2 = none)
    (h : ∀ (Z : pm_Z) (a : Nat), pm_cx Z mc ms → pm_nm Z → (∀ (pc pc' : Nat) (L : List (Nat × Value)) (q : Nat → Nat), q 0 = a → pm_DC mi.1 pc pc' 1 .return_ → pm_J (pm_Y Z mc ms) V mi ht (pm_wld (q, V.2) sk M0) pc L []) → (lg_sl (.ref a :: As)).length ≤ mi.2.2.1 ∧ pm_J (pm_Y Z 0 0) V mi ht (pm_one a ci fs0) 0 (lv_args 0 (.ref a :: As)) []) : pm_Nc l V y mi ht As ci fs0 sk M0 mc ms := by
  intro a sz
  refine Met.ofW (cc := mi.1) (maxL := mi.2.2.1) (ret := mi.2.2.2) hy rfl ?_
  intro p e s m args below meth c s₁ B hml hv
  obtain ⟨rfl, hsz, hP, hK, hD0, ⟨hstt, hnst⟩, hext⟩ := hv
  have hx := B.exec
  have hb := B.bytes
  have hr := B.returns
  have hts0 := atoms_spec (ws := pm_ws y mi) B.pre
  have hts : ∀ w ∈ pm_tb, w.before (Value.ref a :: As).toArray s = true := fun w hw => hts0 w (List.mem_cons_of_mem _ hw)
  have hown : s.vm.findClass mi.2.1 = some m.cls := by rw [hcl]; exact findClass_of_methodNamed B.named
  have hlocks := B.notSynchronized
  have hnm : meth.name = y.name := (name_of_methodNamed B.named B.method).1
  subst hsz
  have hD := hD0.self (sz := s.heap.size)
  have hA : ∀ q : Nat, s.heap.size ≤ q → va_A (pm_one a ci fs0) s.heap.size q := fun q h => Or.inr h
  obtain ⟨hent, hJ⟩ := h (p, l, e, (headSpec (pm_ws y mi) (pm_RN ht mc ms)).room, s, m, (Value.ref a :: As).toArray, below, meth, c, MQ below (va_Qv (fun q : Nat → Nat => q 0 = a) (fun q t => va_P V.2.2 pm_cls (pm_wld (q, V.2) sk M0) t.heap ∧ va_D (va_A (pm_one a ci fs0) s.heap.size) (pm_wld (q, V.2) sk M0)) (va_A (pm_one a ci fs0) s.heap.size)) (Value.ref a :: As).toArray s mc ms (va_A (pm_one a ci fs0) s.heap.size), va_A (pm_one a ci fs0) s.heap.size) a ⟨rfl, rfl, hA, hext⟩ (hnm.trans hin) (by
    intro pc pc' L q hq hd ok H locs ls hP hD hS hl
    exact W.vret hx hb (hr.trans hret) (fun t ht hW => ⟨⟨q, rfl, hq, by rw [ht]; exact hP, hD⟩, hS.F ht⟩) hS.2.2 hd.1 hlocks)
  have hl := lv_entry (.ref a :: As) (n := mi.2.2.1) hent
  rw [lg_entry_eq]
  generalize (lg_sl (.ref a :: As) ++ List.replicate (mi.2.2.1 - (lg_sl (.ref a :: As)).length) Slot.unset).toArray = ls at hl ⊢
  exact hJ ⟨hx, hb, hml, hown, hts, hK, ⟨hstt, hnst⟩, ⟨Nat.zero_le _, Nat.zero_le _⟩, Nat.le_refl _, Nat.le_refl _⟩ s.heap [] ls hP hD va_S.rf hl
