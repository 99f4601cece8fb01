def pm_let {α β : Type} (v : α) (f : α → β) : β := f v
def pm_b1 {a1 β : Type} (x : Option a1) (f : a1 → Option β) : Option β := match x with
  | some b => f b
  | none => none
def pm_b2 {a1 a2 β : Type} (x : Option (a1 × a2)) (f : a1 → a2 → Option β) : Option β := match x with
  | some b => f b.1 b.2
  | none => none
def pm_b3 {a1 a2 a3 β : Type} (x : Option (a1 × a2 × a3)) (f : a1 → a2 → a3 → Option β) : Option β := match x with
  | some b => f b.1 b.2.1 b.2.2
  | none => none
def pm_b4 {a1 a2 a3 a4 β : Type} (x : Option (a1 × a2 × a3 × a4)) (f : a1 → a2 → a3 → a4 → Option β) : Option β := match x with
  | some b => f b.1 b.2.1 b.2.2.1 b.2.2.2
  | none => none
def pm_b5 {a1 a2 a3 a4 a5 β : Type} (x : Option (a1 × a2 × a3 × a4 × a5)) (f : a1 → a2 → a3 → a4 → a5 → Option β) : Option β := match x with
  | some b => f b.1 b.2.1 b.2.2.1 b.2.2.2.1 b.2.2.2.2
  | none => none
/-- behind a loop that may return: the first kind goes on, the second is the method's answer -/
def pm_s1 {a1 β : Type} (x : Option (a1 ⊕ β)) (f : a1 → Option β) : Option β := match x with
  | some (.inl b) => f b
  | some (.inr r) => some r
  | none => none
def pm_s2 {a1 a2 β : Type} (x : Option ((a1 × a2) ⊕ β)) (f : a1 → a2 → Option β) : Option β := match x with
  | some (.inl b) => f b.1 b.2
  | some (.inr r) => some r
  | none => none
def pm_s3 {a1 a2 a3 β : Type} (x : Option ((a1 × a2 × a3) ⊕ β)) (f : a1 → a2 → a3 → Option β) : Option β := match x with
  | some (.inl b) => f b.1 b.2.1 b.2.2
  | some (.inr r) => some r
  | none => none
def pm_max (x y : Int32) : Int32 := if x < y then y else x
def pm_min (x y : Int32) : Int32 := if y < x then y else x
def pm_rem (x y : Int32) : Int32 := x - x / y * y
def pm_ushr (x y : Int32) : Int32 := (x.toUInt32 >>> (y.toUInt32 &&& Int32.toUInt32 31)).toInt32
def pm_shl (x y : Int32) : Int32 := x <<< (y &&& 31)
def pm_shr (x y : Int32) : Int32 := x >>> (y &&& 31)
def pm_F : Nat := 100000
def pm_D : Nat := 100
section PMW
variable {α β : Type} {E E1 E2 : Option α} {Kt : α → Prop} {X : pm_X} {V : pm_V} {mi : pm_I} {ht : Nat} {ws : va_W} {sk : List pm_Sh} {M M' : pm_M} {pc pc' : Nat} {L L' : List (Nat × Value)} {st stk : List Value}
theorem vf_letM {v : pm_M} {f : pm_M → Option α} (k : ∀ M1, pm_VF (f M1) Kt (pm_J X V mi ht (pm_wld V sk M1) pc L st)) : pm_VF (pm_let v f) Kt (pm_J X V mi ht (pm_wld V sk v) pc L st) := k v
theorem vf_letS {v : Int32} {f : Int32 → Option α} (k : ∀ x, pm_VF (f x) Kt (pm_J X V mi ht ws pc L (.int x :: st))) : pm_VF (pm_let v f) Kt (pm_J X V mi ht ws pc L (.int v :: st)) := k v
theorem vf_letL {v : Int64} {f : Int64 → Option α} (k : ∀ x, pm_VF (f x) Kt (pm_J X V mi ht ws pc L (.long x :: st))) : pm_VF (pm_let v f) Kt (pm_J X V mi ht ws pc L (.long v :: st)) := k v
theorem jv_sub (ks : List Nat) (hl : lv_pick L ks = L') (kz : pm_VF E Kt (pm_J X V mi ht ws pc L' st)) : pm_VF E Kt (pm_J X V mi ht ws pc L st) := vf_j (fun g => jr_sub ks hl g) kz
theorem jv_iconst {n : Int} {v : Int32} (hd : pm_DC mi.1 pc pc' 1 (.iconst n)) (hv : Int32.ofInt n = v) (kz : pm_VF E Kt (pm_J X V mi ht ws pc' L (.int v :: st))) : pm_VF E Kt (pm_J X V mi ht ws pc L st) := vf_j (fun g => jr_iconst hd hv g) kz
theorem jv_bipush {n : Int} {v : Int32} (hd : pm_DC mi.1 pc pc' 2 (.bipush n)) (hv : (Int8.ofInt n).toInt32 = v) (kz : pm_VF E Kt (pm_J X V mi ht ws pc' L (.int v :: st))) : pm_VF E Kt (pm_J X V mi ht ws pc L st) := vf_j (fun g => jr_bipush hd hv g) kz
theorem jv_sipush {n : Int} {v : Int32} (hd : pm_DC mi.1 pc pc' 3 (.sipush n)) (hv : (Int16.ofInt n).toInt32 = v) (kz : pm_VF E Kt (pm_J X V mi ht ws pc' L (.int v :: st))) : pm_VF E Kt (pm_J X V mi ht ws pc L st) := vf_j (fun g => jr_sipush hd hv g) kz
theorem jv_lconst {n : Fin 2} {v : Int64} (hd : pm_DC mi.1 pc pc' 1 (.lconst n)) (hv : Int64.ofNat (n : Nat) = v) (kz : pm_VF E Kt (pm_J X V mi ht ws pc' L (.long v :: st))) : pm_VF E Kt (pm_J X V mi ht ws pc L st) := vf_j (fun g => jr_lconst hd hv g) kz
theorem jv_ldc {idx : Nat} {v : Int32} (hd : pm_DC mi.1 pc pc' 2 (.ldc idx)) (hw : Cond.constant mi.2.1 idx v ∈ pm_tb) (kz : pm_VF E Kt (pm_J X V mi ht ws pc' L (.int v :: st))) : pm_VF E Kt (pm_J X V mi ht ws pc L st) := vf_j (fun g => jr_ldc hd hw g) kz
theorem jv_ldcw {idx : Nat} {v : Int32} (hd : pm_DC mi.1 pc pc' 3 (.ldc_w idx)) (hw : Cond.constant mi.2.1 idx v ∈ pm_tb) (kz : pm_VF E Kt (pm_J X V mi ht ws pc' L (.int v :: st))) : pm_VF E Kt (pm_J X V mi ht ws pc L st) := vf_j (fun g => jr_ldcw hd hw g) kz
theorem jv_ldc2 {idx : Nat} {v : Int64} (hd : pm_DC mi.1 pc pc' 3 (.ldc2_w idx)) (hw : Cond.constantLong mi.2.1 idx v ∈ pm_tb) (kz : pm_VF E Kt (pm_J X V mi ht ws pc' L (.long v :: st))) : pm_VF E Kt (pm_J X V mi ht ws pc L st) := vf_j (fun g => jr_ldc2 hd hw g) kz
theorem jv_iload {i j : Nat} {x : Int32} (hd : pm_DC mi.1 pc pc' 2 (.iload i)) (hl : L[j]? = some (i, .int x)) (kz : pm_VF E Kt (pm_J X V mi ht ws pc' L (.int x :: st))) : pm_VF E Kt (pm_J X V mi ht ws pc L st) := vf_j (fun g => jr_iload hd hl g) kz
theorem jv_iloadn {i : Fin 4} {j : Nat} {x : Int32} (hd : pm_DC mi.1 pc pc' 1 (.iload_n i)) (hl : L[j]? = some (i.val, .int x)) (kz : pm_VF E Kt (pm_J X V mi ht ws pc' L (.int x :: st))) : pm_VF E Kt (pm_J X V mi ht ws pc L st) := vf_j (fun g => jr_iloadn hd hl g) kz
theorem jv_lload {i j : Nat} {x : Int64} (hd : pm_DC mi.1 pc pc' 2 (.lload i)) (hl : L[j]? = some (i, .long x)) (kz : pm_VF E Kt (pm_J X V mi ht ws pc' L (.long x :: st))) : pm_VF E Kt (pm_J X V mi ht ws pc L st) := vf_j (fun g => jr_lload hd hl g) kz
theorem jv_lloadn {i : Fin 4} {j : Nat} {x : Int64} (hd : pm_DC mi.1 pc pc' 1 (.lload_n i)) (hl : L[j]? = some (i.val, .long x)) (kz : pm_VF E Kt (pm_J X V mi ht ws pc' L (.long x :: st))) : pm_VF E Kt (pm_J X V mi ht ws pc L st) := vf_j (fun g => jr_lloadn hd hl g) kz
theorem jv_aload {i j : Nat} {x : Nat} (hd : pm_DC mi.1 pc pc' 2 (.aload i)) (hl : L[j]? = some (i, .ref x)) (kz : pm_VF E Kt (pm_J X V mi ht ws pc' L (.ref x :: st))) : pm_VF E Kt (pm_J X V mi ht ws pc L st) := vf_j (fun g => jr_aload hd hl g) kz
theorem jv_aloadn {i : Fin 4} {j : Nat} {x : Nat} (hd : pm_DC mi.1 pc pc' 1 (.aload_n i)) (hl : L[j]? = some (i.val, .ref x)) (kz : pm_VF E Kt (pm_J X V mi ht ws pc' L (.ref x :: st))) : pm_VF E Kt (pm_J X V mi ht ws pc L st) := vf_j (fun g => jr_aloadn hd hl g) kz
theorem jv_istore {i : Nat} {x : Int32} (hd : pm_DC mi.1 pc pc' 2 (.istore i)) (hn : i < mi.2.2.1) (hl : (i, Value.int x) :: L.filter (fun q => !(q.1 == i) && !(q.1 + 1 == i && q.2.category == 2)) = L') (kz : pm_VF E Kt (pm_J X V mi ht ws pc' L' st)) : pm_VF E Kt (pm_J X V mi ht ws pc L (.int x :: st)) := vf_j (fun g => jr_istore hd hn hl g) kz
theorem jv_istoren {i : Fin 4} {x : Int32} (hd : pm_DC mi.1 pc pc' 1 (.istore_n i)) (hn : i.val < mi.2.2.1) (hl : (i.val, Value.int x) :: L.filter (fun q => !(q.1 == i.val) && !(q.1 + 1 == i.val && q.2.category == 2)) = L') (kz : pm_VF E Kt (pm_J X V mi ht ws pc' L' st)) : pm_VF E Kt (pm_J X V mi ht ws pc L (.int x :: st)) := vf_j (fun g => jr_istoren hd hn hl g) kz
theorem jv_astore {i : Nat} {x : Nat} (hd : pm_DC mi.1 pc pc' 2 (.astore i)) (hn : i < mi.2.2.1) (hl : (i, Value.ref x) :: L.filter (fun q => !(q.1 == i) && !(q.1 + 1 == i && q.2.category == 2)) = L') (kz : pm_VF E Kt (pm_J X V mi ht ws pc' L' st)) : pm_VF E Kt (pm_J X V mi ht ws pc L (.ref x :: st)) := vf_j (fun g => jr_astore hd hn hl g) kz
theorem jv_astoren {i : Fin 4} {x : Nat} (hd : pm_DC mi.1 pc pc' 1 (.astore_n i)) (hn : i.val < mi.2.2.1) (hl : (i.val, Value.ref x) :: L.filter (fun q => !(q.1 == i.val) && !(q.1 + 1 == i.val && q.2.category == 2)) = L') (kz : pm_VF E Kt (pm_J X V mi ht ws pc' L' st)) : pm_VF E Kt (pm_J X V mi ht ws pc L (.ref x :: st)) := vf_j (fun g => jr_astoren hd hn hl g) kz
theorem jv_iinc {i j : Nat} {n : Int} {x v : Int32} (hd : pm_DC mi.1 pc pc' 3 (.iinc i n)) (hk : L[j]? = some (i, .int x)) (hv : x + Int32.ofInt n = v) (hn : i < mi.2.2.1) (hl : (i, Value.int v) :: L.filter (fun q => !(q.1 == i) && !(q.1 + 1 == i && q.2.category == 2)) = L') (kz : pm_VF E Kt (pm_J X V mi ht ws pc' L' st)) : pm_VF E Kt (pm_J X V mi ht ws pc L st) := vf_j (fun g => jr_iinc hd hk hv hn hl g) kz
theorem jv_goto {off : Int} {tgt n : Nat} (hd : pm_DC mi.1 pc n 3 (.goto off)) (h9 : (pc : Int) + off = (tgt : Int)) (kz : pm_VF E Kt (pm_J X V mi ht ws tgt L st)) : pm_VF E Kt (pm_J X V mi ht ws pc L st) := vf_j (fun g => jr_goto hd h9 g) kz
theorem jv_dup {v : Value} (hd : pm_DC mi.1 pc pc' 1 .dup) (hv : v.category = 1) (kz : pm_VF E Kt (pm_J X V mi ht ws pc' L (v :: v :: st))) : pm_VF E Kt (pm_J X V mi ht ws pc L (v :: st)) := vf_j (fun g => jr_dup hd hv g) kz
theorem jv_pop {v : Value} (hd : pm_DC mi.1 pc pc' 1 .pop) (hv : v.category = 1) (kz : pm_VF E Kt (pm_J X V mi ht ws pc' L st)) : pm_VF E Kt (pm_J X V mi ht ws pc L (v :: st)) := vf_j (fun g => jr_pop hd hv g) kz
theorem jv_dupx1 {v w : Value} (hd : pm_DC mi.1 pc pc' 1 .dup_x1) (hv : v.category = 1) (hw : w.category = 1) (kz : pm_VF E Kt (pm_J X V mi ht ws pc' L (v :: w :: v :: st))) : pm_VF E Kt (pm_J X V mi ht ws pc L (v :: w :: st)) := vf_j (fun g => jr_dupx1 hd hv hw g) kz
theorem jv_dup2 {v w : Value} (hd : pm_DC mi.1 pc pc' 1 .dup2) (hv : v.category = 1) (hw : w.category = 1) (kz : pm_VF E Kt (pm_J X V mi ht ws pc' L (v :: w :: v :: w :: st))) : pm_VF E Kt (pm_J X V mi ht ws pc L (v :: w :: st)) := vf_j (fun g => jr_dup2 hd hv hw g) kz
theorem jv_iadd {x y : Int32} (hd : pm_DC mi.1 pc pc' 1 .iadd) (kz : pm_VF E Kt (pm_J X V mi ht ws pc' L (.int (x + y) :: st))) : pm_VF E Kt (pm_J X V mi ht ws pc L (.int y :: .int x :: st)) := vf_j (fun g => jr_iadd hd g) kz
theorem jv_isub {x y : Int32} (hd : pm_DC mi.1 pc pc' 1 .isub) (kz : pm_VF E Kt (pm_J X V mi ht ws pc' L (.int (x - y) :: st))) : pm_VF E Kt (pm_J X V mi ht ws pc L (.int y :: .int x :: st)) := vf_j (fun g => jr_isub hd g) kz
theorem jv_imul {x y : Int32} (hd : pm_DC mi.1 pc pc' 1 .imul) (kz : pm_VF E Kt (pm_J X V mi ht ws pc' L (.int (x * y) :: st))) : pm_VF E Kt (pm_J X V mi ht ws pc L (.int y :: .int x :: st)) := vf_j (fun g => jr_imul hd g) kz
theorem jv_iand {x y : Int32} (hd : pm_DC mi.1 pc pc' 1 .iand) (kz : pm_VF E Kt (pm_J X V mi ht ws pc' L (.int (x &&& y) :: st))) : pm_VF E Kt (pm_J X V mi ht ws pc L (.int y :: .int x :: st)) := vf_j (fun g => jr_iand hd g) kz
theorem jv_ior {x y : Int32} (hd : pm_DC mi.1 pc pc' 1 .ior) (kz : pm_VF E Kt (pm_J X V mi ht ws pc' L (.int (x ||| y) :: st))) : pm_VF E Kt (pm_J X V mi ht ws pc L (.int y :: .int x :: st)) := vf_j (fun g => jr_ior hd g) kz
theorem jv_ixor {x y : Int32} (hd : pm_DC mi.1 pc pc' 1 .ixor) (kz : pm_VF E Kt (pm_J X V mi ht ws pc' L (.int (x ^^^ y) :: st))) : pm_VF E Kt (pm_J X V mi ht ws pc L (.int y :: .int x :: st)) := vf_j (fun g => jr_ixor hd g) kz
theorem jv_idiv {x y : Int32} (hd : pm_DC mi.1 pc pc' 1 .idiv) (hne : ¬ y = 0) (kz : pm_VF E Kt (pm_J X V mi ht ws pc' L (.int (x / y) :: st))) : pm_VF E Kt (pm_J X V mi ht ws pc L (.int y :: .int x :: st)) := vf_j (fun g => jr_idiv hd hne g) kz
theorem jv_idivC {x y : Int32} (hd : pm_DC mi.1 pc pc' 1 .idiv)  (kz : pm_VF E Kt (pm_J X V mi ht ws pc' L (.int (x / y) :: st))) : pm_VF (pm_chk (pm_nz y) E) Kt (pm_J X V mi ht ws pc L (.int y :: .int x :: st)) := vf_chk (fun h => vf_j (fun g => jr_idiv hd (by simpa [pm_nz] using h) g) kz)
theorem jv_irem {x y : Int32} (hd : pm_DC mi.1 pc pc' 1 .irem) (hne : ¬ y = 0) (kz : pm_VF E Kt (pm_J X V mi ht ws pc' L (.int (pm_rem x y) :: st))) : pm_VF E Kt (pm_J X V mi ht ws pc L (.int y :: .int x :: st)) := vf_j (fun g => jr_irem hd hne g) kz
theorem jv_iremC {x y : Int32} (hd : pm_DC mi.1 pc pc' 1 .irem)  (kz : pm_VF E Kt (pm_J X V mi ht ws pc' L (.int (pm_rem x y) :: st))) : pm_VF (pm_chk (pm_nz y) E) Kt (pm_J X V mi ht ws pc L (.int y :: .int x :: st)) := vf_chk (fun h => vf_j (fun g => jr_irem hd (by simpa [pm_nz] using h) g) kz)
theorem jv_ineg {x : Int32} (hd : pm_DC mi.1 pc pc' 1 .ineg) (kz : pm_VF E Kt (pm_J X V mi ht ws pc' L (.int (-x) :: st))) : pm_VF E Kt (pm_J X V mi ht ws pc L (.int x :: st)) := vf_j (fun g => jr_ineg hd g) kz
theorem jv_ishl {x y : Int32} (hd : pm_DC mi.1 pc pc' 1 .ishl) (kz : pm_VF E Kt (pm_J X V mi ht ws pc' L (.int (pm_shl x y) :: st))) : pm_VF E Kt (pm_J X V mi ht ws pc L (.int y :: .int x :: st)) := vf_j (fun g => jr_ishl hd g) kz
theorem jv_ishr {x y : Int32} (hd : pm_DC mi.1 pc pc' 1 .ishr) (kz : pm_VF E Kt (pm_J X V mi ht ws pc' L (.int (pm_shr x y) :: st))) : pm_VF E Kt (pm_J X V mi ht ws pc L (.int y :: .int x :: st)) := vf_j (fun g => jr_ishr hd g) kz
theorem jv_iushr {x y : Int32} (hd : pm_DC mi.1 pc pc' 1 .iushr) (kz : pm_VF E Kt (pm_J X V mi ht ws pc' L (.int (pm_ushr x y) :: st))) : pm_VF E Kt (pm_J X V mi ht ws pc L (.int y :: .int x :: st)) := vf_j (fun g => jr_iushr hd g) kz
theorem jv_i2l {x : Int32} (hd : pm_DC mi.1 pc pc' 1 .i2l) (kz : pm_VF E Kt (pm_J X V mi ht ws pc' L (.long x.toInt64 :: st))) : pm_VF E Kt (pm_J X V mi ht ws pc L (.int x :: st)) := vf_j (fun g => jr_i2l hd g) kz
theorem jv_l2i {x : Int64} (hd : pm_DC mi.1 pc pc' 1 .l2i) (kz : pm_VF E Kt (pm_J X V mi ht ws pc' L (.int x.toInt32 :: st))) : pm_VF E Kt (pm_J X V mi ht ws pc L (.long x :: st)) := vf_j (fun g => jr_l2i hd g) kz
theorem jv_i2b {x : Int32} (hd : pm_DC mi.1 pc pc' 1 .i2b) (kz : pm_VF E Kt (pm_J X V mi ht ws pc' L (.int x.toInt8.toInt32 :: st))) : pm_VF E Kt (pm_J X V mi ht ws pc L (.int x :: st)) := vf_j (fun g => jr_i2b hd g) kz
theorem jv_i2s {x : Int32} (hd : pm_DC mi.1 pc pc' 1 .i2s) (kz : pm_VF E Kt (pm_J X V mi ht ws pc' L (.int x.toInt16.toInt32 :: st))) : pm_VF E Kt (pm_J X V mi ht ws pc L (.int x :: st)) := vf_j (fun g => jr_i2s hd g) kz
theorem jv_land {x y : Int64} (hd : pm_DC mi.1 pc pc' 1 .land) (kz : pm_VF E Kt (pm_J X V mi ht ws pc' L (.long (x &&& y) :: st))) : pm_VF E Kt (pm_J X V mi ht ws pc L (.long y :: .long x :: st)) := vf_j (fun g => jr_land hd g) kz
theorem jv_lor {x y : Int64} (hd : pm_DC mi.1 pc pc' 1 .lor) (kz : pm_VF E Kt (pm_J X V mi ht ws pc' L (.long (x ||| y) :: st))) : pm_VF E Kt (pm_J X V mi ht ws pc L (.long y :: .long x :: st)) := vf_j (fun g => jr_lor hd g) kz
theorem jv_lshl {x : Int64} {y : Int32} (hd : pm_DC mi.1 pc pc' 1 .lshl) (kz : pm_VF E Kt (pm_J X V mi ht ws pc' L (.long (x <<< (y.toInt64 &&& 63)) :: st))) : pm_VF E Kt (pm_J X V mi ht ws pc L (.int y :: .long x :: st)) := vf_j (fun g => jr_lshl hd g) kz
theorem jv_lshr {x : Int64} {y : Int32} (hd : pm_DC mi.1 pc pc' 1 .lshr) (kz : pm_VF E Kt (pm_J X V mi ht ws pc' L (.long (x >>> (y.toInt64 &&& 63)) :: st))) : pm_VF E Kt (pm_J X V mi ht ws pc L (.int y :: .long x :: st)) := vf_j (fun g => jr_lshr hd g) kz
theorem jv_lushr {x : Int64} {y : Int32} (hd : pm_DC mi.1 pc pc' 1 .lushr) (kz : pm_VF E Kt (pm_J X V mi ht ws pc' L (.long ((x.toUInt64 >>> (y.toInt64.toUInt64 &&& Int64.toUInt64 63)).toInt64) :: st))) : pm_VF E Kt (pm_J X V mi ht ws pc L (.int y :: .long x :: st)) := vf_j (fun g => jr_lushr hd g) kz
theorem jv_lcmp {x y : Int64} (hd : pm_DC mi.1 pc pc' 1 .lcmp) (kz : pm_VF E Kt (pm_J X V mi ht ws pc' L (.int (lg_cmp x y) :: st))) : pm_VF E Kt (pm_J X V mi ht ws pc L (.long y :: .long x :: st)) := vf_j (fun g => jr_lcmp hd g) kz
theorem jv_if_eq {x : Int32} {off : Int} {tgt : Nat} (hd : pm_DC mi.1 pc pc' 3 (.ifCond .eq off)) (h9 : (pc : Int) + off = (tgt : Int)) {dc : Decidable (x = 0)} (k1 : x = 0 → pm_VF E1 Kt (pm_J X V mi ht ws tgt L st)) (k2 : ¬ x = 0 → pm_VF E2 Kt (pm_J X V mi ht ws pc' L st)) : pm_VF (@ite _ (x = 0) dc E1 E2) Kt (pm_J X V mi ht ws pc L (.int x :: st)) := vf_br (fun a b => jr_if_eq hd h9 a b) k1 k2
theorem jv_ic_eq {x y : Int32} {off : Int} {tgt : Nat} (hd : pm_DC mi.1 pc pc' 3 (.if_icmp .eq off)) (h9 : (pc : Int) + off = (tgt : Int)) {dc : Decidable (x = y)} (k1 : x = y → pm_VF E1 Kt (pm_J X V mi ht ws tgt L st)) (k2 : ¬ x = y → pm_VF E2 Kt (pm_J X V mi ht ws pc' L st)) : pm_VF (@ite _ (x = y) dc E1 E2) Kt (pm_J X V mi ht ws pc L (.int y :: .int x :: st)) := vf_br (fun a b => jr_ic_eq hd h9 a b) k1 k2
theorem jv_if_ne {x : Int32} {off : Int} {tgt : Nat} (hd : pm_DC mi.1 pc pc' 3 (.ifCond .ne off)) (h9 : (pc : Int) + off = (tgt : Int)) {dc : Decidable (x = 0)} (k1 : x = 0 → pm_VF E1 Kt (pm_J X V mi ht ws pc' L st)) (k2 : ¬ x = 0 → pm_VF E2 Kt (pm_J X V mi ht ws tgt L st)) : pm_VF (@ite _ (x = 0) dc E1 E2) Kt (pm_J X V mi ht ws pc L (.int x :: st)) := vf_br (fun a b => jr_if_ne hd h9 a b) k1 k2
theorem jv_ic_ne {x y : Int32} {off : Int} {tgt : Nat} (hd : pm_DC mi.1 pc pc' 3 (.if_icmp .ne off)) (h9 : (pc : Int) + off = (tgt : Int)) {dc : Decidable (x = y)} (k1 : x = y → pm_VF E1 Kt (pm_J X V mi ht ws pc' L st)) (k2 : ¬ x = y → pm_VF E2 Kt (pm_J X V mi ht ws tgt L st)) : pm_VF (@ite _ (x = y) dc E1 E2) Kt (pm_J X V mi ht ws pc L (.int y :: .int x :: st)) := vf_br (fun a b => jr_ic_ne hd h9 a b) k1 k2
theorem jv_if_lt {x : Int32} {off : Int} {tgt : Nat} (hd : pm_DC mi.1 pc pc' 3 (.ifCond .lt off)) (h9 : (pc : Int) + off = (tgt : Int)) {dc : Decidable (x < 0)} (k1 : x < 0 → pm_VF E1 Kt (pm_J X V mi ht ws tgt L st)) (k2 : ¬ x < 0 → pm_VF E2 Kt (pm_J X V mi ht ws pc' L st)) : pm_VF (@ite _ (x < 0) dc E1 E2) Kt (pm_J X V mi ht ws pc L (.int x :: st)) := vf_br (fun a b => jr_if_lt hd h9 a b) k1 k2
theorem jv_ic_lt {x y : Int32} {off : Int} {tgt : Nat} (hd : pm_DC mi.1 pc pc' 3 (.if_icmp .lt off)) (h9 : (pc : Int) + off = (tgt : Int)) {dc : Decidable (x < y)} (k1 : x < y → pm_VF E1 Kt (pm_J X V mi ht ws tgt L st)) (k2 : ¬ x < y → pm_VF E2 Kt (pm_J X V mi ht ws pc' L st)) : pm_VF (@ite _ (x < y) dc E1 E2) Kt (pm_J X V mi ht ws pc L (.int y :: .int x :: st)) := vf_br (fun a b => jr_ic_lt hd h9 a b) k1 k2
theorem jv_if_ge {x : Int32} {off : Int} {tgt : Nat} (hd : pm_DC mi.1 pc pc' 3 (.ifCond .ge off)) (h9 : (pc : Int) + off = (tgt : Int)) {dc : Decidable (0 ≤ x)} (k1 : 0 ≤ x → pm_VF E1 Kt (pm_J X V mi ht ws tgt L st)) (k2 : ¬ 0 ≤ x → pm_VF E2 Kt (pm_J X V mi ht ws pc' L st)) : pm_VF (@ite _ (0 ≤ x) dc E1 E2) Kt (pm_J X V mi ht ws pc L (.int x :: st)) := vf_br (fun a b => jr_if_ge hd h9 a b) k1 k2
theorem jv_ic_ge {x y : Int32} {off : Int} {tgt : Nat} (hd : pm_DC mi.1 pc pc' 3 (.if_icmp .ge off)) (h9 : (pc : Int) + off = (tgt : Int)) {dc : Decidable (y ≤ x)} (k1 : y ≤ x → pm_VF E1 Kt (pm_J X V mi ht ws tgt L st)) (k2 : ¬ y ≤ x → pm_VF E2 Kt (pm_J X V mi ht ws pc' L st)) : pm_VF (@ite _ (y ≤ x) dc E1 E2) Kt (pm_J X V mi ht ws pc L (.int y :: .int x :: st)) := vf_br (fun a b => jr_ic_ge hd h9 a b) k1 k2
theorem jv_if_gt {x : Int32} {off : Int} {tgt : Nat} (hd : pm_DC mi.1 pc pc' 3 (.ifCond .gt off)) (h9 : (pc : Int) + off = (tgt : Int)) {dc : Decidable (0 < x)} (k1 : 0 < x → pm_VF E1 Kt (pm_J X V mi ht ws tgt L st)) (k2 : ¬ 0 < x → pm_VF E2 Kt (pm_J X V mi ht ws pc' L st)) : pm_VF (@ite _ (0 < x) dc E1 E2) Kt (pm_J X V mi ht ws pc L (.int x :: st)) := vf_br (fun a b => jr_if_gt hd h9 a b) k1 k2
theorem jv_ic_gt {x y : Int32} {off : Int} {tgt : Nat} (hd : pm_DC mi.1 pc pc' 3 (.if_icmp .gt off)) (h9 : (pc : Int) + off = (tgt : Int)) {dc : Decidable (y < x)} (k1 : y < x → pm_VF E1 Kt (pm_J X V mi ht ws tgt L st)) (k2 : ¬ y < x → pm_VF E2 Kt (pm_J X V mi ht ws pc' L st)) : pm_VF (@ite _ (y < x) dc E1 E2) Kt (pm_J X V mi ht ws pc L (.int y :: .int x :: st)) := vf_br (fun a b => jr_ic_gt hd h9 a b) k1 k2
theorem jv_if_le {x : Int32} {off : Int} {tgt : Nat} (hd : pm_DC mi.1 pc pc' 3 (.ifCond .le off)) (h9 : (pc : Int) + off = (tgt : Int)) {dc : Decidable (x ≤ 0)} (k1 : x ≤ 0 → pm_VF E1 Kt (pm_J X V mi ht ws tgt L st)) (k2 : ¬ x ≤ 0 → pm_VF E2 Kt (pm_J X V mi ht ws pc' L st)) : pm_VF (@ite _ (x ≤ 0) dc E1 E2) Kt (pm_J X V mi ht ws pc L (.int x :: st)) := vf_br (fun a b => jr_if_le hd h9 a b) k1 k2
theorem jv_ic_le {x y : Int32} {off : Int} {tgt : Nat} (hd : pm_DC mi.1 pc pc' 3 (.if_icmp .le off)) (h9 : (pc : Int) + off = (tgt : Int)) {dc : Decidable (x ≤ y)} (k1 : x ≤ y → pm_VF E1 Kt (pm_J X V mi ht ws tgt L st)) (k2 : ¬ x ≤ y → pm_VF E2 Kt (pm_J X V mi ht ws pc' L st)) : pm_VF (@ite _ (x ≤ y) dc E1 E2) Kt (pm_J X V mi ht ws pc L (.int y :: .int x :: st)) := vf_br (fun a b => jr_ic_le hd h9 a b) k1 k2
theorem jv_tin {dflt lo hi off : Int} {offs : Array Int} {len tgt n : Nat} {x v : Int32} (hd : pm_DC mi.1 pc n len (.tableswitch dflt lo hi offs)) (hx : x = v) (h1 : ¬ v.toInt < lo) (h2 : ¬ hi < v.toInt) (ho : offs[(v.toInt - lo).toNat]? = some off) (h9 : (pc : Int) + off = (tgt : Int)) (kz : pm_VF E Kt (pm_J X V mi ht ws tgt L st)) : pm_VF E Kt (pm_J X V mi ht ws pc L (.int x :: st)) := vf_j (fun g => jr_tin hd hx h1 h2 ho h9 g) kz
theorem jv_tout {dflt lo hi : Int} {offs : Array Int} {len tgt n : Nat} {x : Int32} (hd : pm_DC mi.1 pc n len (.tableswitch dflt lo hi offs)) (h : x.toInt < lo ∨ hi < x.toInt) (h9 : (pc : Int) + dflt = (tgt : Int)) (kz : pm_VF E Kt (pm_J X V mi ht ws tgt L st)) : pm_VF E Kt (pm_J X V mi ht ws pc L (.int x :: st)) := vf_j (fun g => jr_tout hd h h9 g) kz
theorem jv_lin {dflt off : Int} {ps : Array (Int × Int)} {len tgt n : Nat} {x v : Int32} (hd : pm_DC mi.1 pc n len (.lookupswitch dflt ps)) (hx : x = v) (hp : (ps.toList.zip (ps.toList.drop 1)).all (fun (a, next) => a.1 < next.1) = true) (ho : Op.lookupswitch.offset ps.toList dflt v.toInt = off) (h9 : (pc : Int) + off = (tgt : Int)) (kz : pm_VF E Kt (pm_J X V mi ht ws tgt L st)) : pm_VF E Kt (pm_J X V mi ht ws pc L (.int x :: st)) := vf_j (fun g => jr_lin hd hx hp ho h9 g) kz
theorem jv_lout {dflt : Int} {ps : Array (Int × Int)} {len tgt n : Nat} {x : Int32} (hd : pm_DC mi.1 pc n len (.lookupswitch dflt ps)) (hx : ∀ q ∈ ps.toList, ¬ q.1 = x.toInt) (hp : (ps.toList.zip (ps.toList.drop 1)).all (fun (a, next) => a.1 < next.1) = true) (h9 : (pc : Int) + dflt = (tgt : Int)) (kz : pm_VF E Kt (pm_J X V mi ht ws tgt L st)) : pm_VF E Kt (pm_J X V mi ht ws pc L (.int x :: st)) := vf_j (fun g => jr_lout hd hx hp h9 g) kz
theorem hv_getI {ci j idx k : Nat} {fs : List (Option Nat)} (hd : pm_DC mi.1 pc pc' 3 (.getfield idx)) (hf : pm_fl mi.2.1 idx ci j) (hs : sk[k]? = some (.inr (.inr (ci, fs)))) (hj : fs[j]? = some none) (kz : pm_VF E Kt (pm_J X V mi ht (pm_wld V sk M) pc' L (.int (M k j) :: st))) : pm_VF E Kt (pm_J X V mi ht (pm_wld V sk M) pc L (.ref (V.1 k) :: st)) := vf_j (fun g => hr_getI hd hf hs hj g) kz
theorem hv_getR {ci j idx k q : Nat} {fs : List (Option Nat)} (hd : pm_DC mi.1 pc pc' 3 (.getfield idx)) (hf : pm_fl mi.2.1 idx ci j) (hs : sk[k]? = some (.inr (.inr (ci, fs)))) (hj : fs[j]? = some (some q)) (kz : pm_VF E Kt (pm_J X V mi ht (pm_wld V sk M) pc' L (.ref (V.1 q) :: st))) : pm_VF E Kt (pm_J X V mi ht (pm_wld V sk M) pc L (.ref (V.1 k) :: st)) := vf_j (fun g => hr_getR hd hf hs hj g) kz
theorem hv_put {ci j idx k : Nat} {fs : List (Option Nat)} {x : Int32} {ty : FieldType} (hd : pm_DC mi.1 pc pc' 3 (.putfield idx)) (hf : pm_fp mi.2.1 idx ci j ty) (hs : sk[k]? = some (.inr (.inr (ci, fs)))) (hj : fs[j]? = some none) (hn : narrow ty (.int x) = .int x) (hfit : fits ty (.int x) = true) (kz : pm_VF E Kt (pm_J X V mi ht (pm_wld V sk (pm_up M k j x)) pc' L st)) : pm_VF E Kt (pm_J X V mi ht (pm_wld V sk M) pc L (.int x :: .ref (V.1 k) :: st)) := vf_j (fun g => hr_put hd hf hs hj hn hfit g) kz
theorem hv_iald {k n : Nat} {i : Int32} (hd : pm_DC mi.1 pc pc' 1 .iaload) (hs : sk[k]? = some (.inl (0, n))) (hin : pm_in i n = true) (kz : pm_VF E Kt (pm_J X V mi ht (pm_wld V sk M) pc' L (.int (M k i.toNatClampNeg) :: st))) : pm_VF E Kt (pm_J X V mi ht (pm_wld V sk M) pc L (.int i :: .ref (V.1 k) :: st)) := vf_j (fun g => hr_iald hd hs hin g) kz
theorem hv_ialdC {k n : Nat} {i : Int32} (hd : pm_DC mi.1 pc pc' 1 .iaload) (hs : sk[k]? = some (.inl (0, n)))  (kz : pm_in i n = true → pm_VF E Kt (pm_J X V mi ht (pm_wld V sk M) pc' L (.int (M k i.toNatClampNeg) :: st))) : pm_VF (pm_chk (pm_in i n) E) Kt (pm_J X V mi ht (pm_wld V sk M) pc L (.int i :: .ref (V.1 k) :: st)) := vf_chk (fun hin => vf_j (fun g => hr_iald hd hs hin g) (kz hin))
theorem hv_iast {k n : Nat} {i x : Int32} (hd : pm_DC mi.1 pc pc' 1 .iastore) (hs : sk[k]? = some (.inl (0, n))) (hin : pm_in i n = true) (kz : pm_VF E Kt (pm_J X V mi ht (pm_wld V sk (pm_up M k i.toNatClampNeg x)) pc' L st)) : pm_VF E Kt (pm_J X V mi ht (pm_wld V sk M) pc L (.int x :: .int i :: .ref (V.1 k) :: st)) := vf_j (fun g => hr_iast hd hs hin g) kz
theorem hv_iastC {k n : Nat} {i x : Int32} (hd : pm_DC mi.1 pc pc' 1 .iastore) (hs : sk[k]? = some (.inl (0, n)))  (kz : pm_in i n = true → pm_VF E Kt (pm_J X V mi ht (pm_wld V sk (pm_up M k i.toNatClampNeg x)) pc' L st)) : pm_VF (pm_chk (pm_in i n) E) Kt (pm_J X V mi ht (pm_wld V sk M) pc L (.int x :: .int i :: .ref (V.1 k) :: st)) := vf_chk (fun hin => vf_j (fun g => hr_iast hd hs hin g) (kz hin))
theorem hv_aald {k t q : Nat} {ps : List Nat} {i : Int32} {ty : FieldType} (hd : pm_DC mi.1 pc pc' 1 .aaload) (hs : sk[k]? = some (.inr (.inl (t, ps)))) (htt : ∀ V : pm_V, (pm_tys V)[t]? = some (V.2.1 t, ty)) (hr : ty.isReference = true) (hin : pm_in i ps.length = true) (hq : ps[i.toNatClampNeg]? = some q) (kz : pm_VF E Kt (pm_J X V mi ht (pm_wld V sk M) pc' L (.ref (V.1 q) :: st))) : pm_VF E Kt (pm_J X V mi ht (pm_wld V sk M) pc L (.int i :: .ref (V.1 k) :: st)) := vf_j (fun g => hr_aald hd hs htt hr hin hq g) kz
theorem hv_getsB {idx : Nat} {ws : va_W} (hd : pm_DC mi.1 pc pc' 3 (.getstatic idx)) (hw : Cond.fieldLink mi.2.1 idx "RainShares$Voices" "BODIES" "[I" ∈ pm_tb) (kz : pm_VF E Kt (pm_J X V mi ht ws pc' L (.ref (V.1 902) :: st))) : pm_VF E Kt (pm_J X V mi ht ws pc L st) := vf_j (fun g => hr_getsB hd hw g) kz
theorem hv_getsN {own : String} {idx q : Nat} {ws : va_W} (hq : (own = "RainShares$Clouds" ∧ idx = 38 ∧ q = 900) ∨ (own = "RainShares$Reader" ∧ idx = 74 ∧ q = 901) ∨ (own = "RainShares$Voices" ∧ idx = 35 ∧ q = 900)) (ho : mi.2.1 = own) (hd : pm_DC mi.1 pc pc' 3 (.getstatic idx)) (kz : pm_VF E Kt (pm_J X V mi ht ws pc' L (.ref (V.1 q) :: st))) : pm_VF E Kt (pm_J X V mi ht ws pc L st) := vf_j (fun g => hr_getsN hq ho hd g) kz
theorem hv_tA {i : Int32} {ws : va_W} (hd : pm_DC mi.1 pc pc' 1 .iaload) (hin : pm_in i 7 = true) (kz : pm_VF E Kt (pm_J X V mi ht ws pc' L (.int (pm_ABOVE i.toNatClampNeg) :: st))) : pm_VF E Kt (pm_J X V mi ht ws pc L (.int i :: .ref (V.1 900) :: st)) := vf_j (fun g => hr_tA hd hin g) kz
theorem hv_tAC {i : Int32} {ws : va_W} (hd : pm_DC mi.1 pc pc' 1 .iaload)  (kz : pm_in i 7 = true → pm_VF E Kt (pm_J X V mi ht ws pc' L (.int (pm_ABOVE i.toNatClampNeg) :: st))) : pm_VF (pm_chk (pm_in i 7) E) Kt (pm_J X V mi ht ws pc L (.int i :: .ref (V.1 900) :: st)) := vf_chk (fun hin => vf_j (fun g => hr_tA hd hin g) (kz hin))
theorem hv_tN {i : Int32} {ws : va_W} (hd : pm_DC mi.1 pc pc' 1 .caload) (hin : pm_in i 6 = true) (kz : pm_VF E Kt (pm_J X V mi ht ws pc' L (.int (pm_NAMES i.toNatClampNeg) :: st))) : pm_VF E Kt (pm_J X V mi ht ws pc L (.int i :: .ref (V.1 901) :: st)) := vf_j (fun g => hr_tN hd hin g) kz
theorem hv_tNC {i : Int32} {ws : va_W} (hd : pm_DC mi.1 pc pc' 1 .caload)  (kz : pm_in i 6 = true → pm_VF E Kt (pm_J X V mi ht ws pc' L (.int (pm_NAMES i.toNatClampNeg) :: st))) : pm_VF (pm_chk (pm_in i 6) E) Kt (pm_J X V mi ht ws pc L (.int i :: .ref (V.1 901) :: st)) := vf_chk (fun hin => vf_j (fun g => hr_tN hd hin g) (kz hin))
theorem hv_tB {i : Int32} {ws : va_W} (hd : pm_DC mi.1 pc pc' 1 .iaload) (hin : pm_in i 28 = true) (kz : pm_VF E Kt (pm_J X V mi ht ws pc' L (.int (pm_BODIES i.toNatClampNeg) :: st))) : pm_VF E Kt (pm_J X V mi ht ws pc L (.int i :: .ref (V.1 902) :: st)) := vf_j (fun g => hr_tB hd hin g) kz
theorem hv_tBC {i : Int32} {ws : va_W} (hd : pm_DC mi.1 pc pc' 1 .iaload)  (kz : pm_in i 28 = true → pm_VF E Kt (pm_J X V mi ht ws pc' L (.int (pm_BODIES i.toNatClampNeg) :: st))) : pm_VF (pm_chk (pm_in i 28) E) Kt (pm_J X V mi ht ws pc L (.int i :: .ref (V.1 902) :: st)) := vf_chk (fun hin => vf_j (fun g => hr_tB hd hin g) (kz hin))
theorem hv_max {idx : Nat} {x y : Int32} {ws : va_W} (hd : pm_DC mi.1 pc pc' 3 (.invokestatic idx)) (h1 : Cond.methodLink mi.2.1 idx Lib.Math.max.name ∈ pm_tb) (h2 : Cond.static Lib.Math.max.name ∈ pm_tb) (h3 : Cond.initialized "java/lang/Math" ∈ pm_tb) (h4 : Cond.code Lib.Math.max.name Lib.Math.max.code 2 (some .int) ∈ pm_tb) (hrest : (st.map fun v => v.category).sum ≤ 8) (kz : pm_VF E Kt (pm_J X V mi ht ws pc' L (.int (pm_max x y) :: st))) : pm_VF E Kt (pm_J X V mi ht ws pc L (.int y :: .int x :: st)) := vf_j (fun g => hr_max hd h1 h2 h3 h4 hrest g) kz
theorem hv_min {idx : Nat} {x y : Int32} {ws : va_W} (hd : pm_DC mi.1 pc pc' 3 (.invokestatic idx)) (h1 : Cond.methodLink mi.2.1 idx Lib.Math.min.name ∈ pm_tb) (h2 : Cond.static Lib.Math.min.name ∈ pm_tb) (h3 : Cond.initialized "java/lang/Math" ∈ pm_tb) (h4 : Cond.code Lib.Math.min.name Lib.Math.min.code 2 (some .int) ∈ pm_tb) (hrest : (st.map fun v => v.category).sum ≤ 8) (kz : pm_VF E Kt (pm_J X V mi ht ws pc' L (.int (pm_min x y) :: st))) : pm_VF E Kt (pm_J X V mi ht ws pc L (.int y :: .int x :: st)) := vf_j (fun g => hr_min hd h1 h2 h3 h4 hrest g) kz
theorem hv_copy {idx k0 k1 n0 n1 : Nat} {sp dp n : Int32} (hd : pm_DC mi.1 pc pc' 3 (.invokestatic idx)) (h1 : Cond.methodLink mi.2.1 idx arraycopyName ∈ pm_tb) (h2 : Cond.native arraycopyName ∈ pm_tb) (h3 : Cond.static arraycopyName ∈ pm_tb) (h4 : Cond.initialized "java/lang/System" ∈ pm_tb) (hrest : (st.map fun v => v.category).sum ≤ 8) (hs0 : sk[k0]? = some (.inl (0, n0))) (hs1 : sk[k1]? = some (.inl (0, n1))) (hin : pm_cin sp dp n n0 n1 = true) (kz : pm_VF E Kt (pm_J X V mi ht (pm_wld V sk (pm_cpy M k0 sp.toNatClampNeg k1 dp.toNatClampNeg n.toNatClampNeg)) pc' L st)) : pm_VF E Kt (pm_J X V mi ht (pm_wld V sk M) pc L (.int n :: .int dp :: .ref (V.1 k1) :: .int sp :: .ref (V.1 k0) :: st)) := vf_j (fun g => hr_copy hd h1 h2 h3 h4 hrest hs0 hs1 hin g) kz
theorem hv_copyC {idx k0 k1 n0 n1 : Nat} {sp dp n : Int32} (hd : pm_DC mi.1 pc pc' 3 (.invokestatic idx)) (h1 : Cond.methodLink mi.2.1 idx arraycopyName ∈ pm_tb) (h2 : Cond.native arraycopyName ∈ pm_tb) (h3 : Cond.static arraycopyName ∈ pm_tb) (h4 : Cond.initialized "java/lang/System" ∈ pm_tb) (hrest : (st.map fun v => v.category).sum ≤ 8) (hs0 : sk[k0]? = some (.inl (0, n0))) (hs1 : sk[k1]? = some (.inl (0, n1)))  (kz : pm_cin sp dp n n0 n1 = true → pm_VF E Kt (pm_J X V mi ht (pm_wld V sk (pm_cpy M k0 sp.toNatClampNeg k1 dp.toNatClampNeg n.toNatClampNeg)) pc' L st)) : pm_VF (pm_chk (pm_cin sp dp n n0 n1) E) Kt (pm_J X V mi ht (pm_wld V sk M) pc L (.int n :: .int dp :: .ref (V.1 k1) :: .int sp :: .ref (V.1 k0) :: st)) := vf_chk (fun hin => vf_j (fun g => hr_copy hd h1 h2 h3 h4 hrest hs0 hs1 hin g) (kz hin))
theorem hv_callI {y : MethodName} {mi' : pm_I} {ht' idx b ci : Nat} {fs : List (Option Nat)} {q : vw_C} {As : List Value} {x : Option (Int32 × pm_M)} {f : Int32 → pm_M → Option α} (hd : pm_DC mi.1 pc pc' 3 (.invokevirtual idx)) (hl : Cond.methodLink mi.2.1 idx y ∈ pm_tb) (hy : pm_cv y mi') (hn : pm_np y As.length) (hh : ht' + 1 ≤ ht) (hrest : (st.map fun v => v.category).sum ≤ 8) (hb : sk[b]? = some (.inr (.inr (ci, fs)))) (hc : pm_cls[ci]? = some q) (hq : q.1 = y.cls) (hst : stk = As.reverse ++ .ref (V.1 b) :: st) (hM : ∀ (r : Int32) (M' : pm_M), x = some (r, M') → ∀ l : Launch, pm_Ci l V sk y mi' ht' (.ref (V.1 b) :: As) M r M') (kz : ∀ (r : Int32) (M' : pm_M), pm_VF (f r M') Kt (pm_J X V mi ht (pm_wld V sk M') pc' L (.int r :: st))) : pm_VF (pm_b2 x f) Kt (pm_J X V mi ht (pm_wld V sk M) pc L stk) := by
  intro a h q
  cases x with
  | none => cases h
  | some b => exact hr_callI hd hl hy hn hh hrest hb hc hq hst (hM b.1 b.2 rfl) (kz b.1 b.2 a h q)
theorem hv_callV {x : Option pm_M} {f : pm_M → Option α} {y : MethodName} {mi' : pm_I} {ht' idx b ci : Nat} {fs : List (Option Nat)} {q : vw_C} {As : List Value} (hd : pm_DC mi.1 pc pc' 3 (.invokevirtual idx)) (hl : Cond.methodLink mi.2.1 idx y ∈ pm_tb) (hy : pm_cv y mi') (hn : pm_np y As.length) (hh : ht' + 1 ≤ ht) (hrest : (st.map fun v => v.category).sum ≤ 8) (hb : sk[b]? = some (.inr (.inr (ci, fs)))) (hc : pm_cls[ci]? = some q) (hq : q.1 = y.cls) (hst : stk = As.reverse ++ .ref (V.1 b) :: st) (hM : ∀ (M' : pm_M), x = some M' → ∀ l : Launch, pm_Cv l V sk y mi' ht' (.ref (V.1 b) :: As) M M') (kz : ∀ (M' : pm_M), pm_VF (f M') Kt (pm_J X V mi ht (pm_wld V sk M') pc' L st)) : pm_VF (pm_b1 x f) Kt (pm_J X V mi ht (pm_wld V sk M) pc L stk) := by
  intro a h q
  cases x with
  | none => cases h
  | some b => exact hr_callV hd hl hy hn hh hrest hb hc hq hst (hM b rfl) (kz b a h q)
theorem hv_callS {y : MethodName} {mi' : pm_I} {ht' idx : Nat} {As : List Value} {x : Option (Int32 × pm_M)} {f : Int32 → pm_M → Option α} (hd : pm_DC mi.1 pc pc' 3 (.invokestatic idx)) (hl : Cond.methodLink mi.2.1 idx y ∈ pm_tb) (hy : pm_cs y mi') (hn : pm_np y As.length) (hh : ht' + 1 ≤ ht) (hrest : (st.map fun v => v.category).sum ≤ 8) (hst : stk = As.reverse ++ st) (hM : ∀ (r : Int32) (M' : pm_M), x = some (r, M') → ∀ l : Launch, pm_Ci l V sk y mi' ht' As M r M') (kz : ∀ (r : Int32) (M' : pm_M), pm_VF (f r M') Kt (pm_J X V mi ht (pm_wld V sk M') pc' L (.int r :: st))) : pm_VF (pm_b2 x f) Kt (pm_J X V mi ht (pm_wld V sk M) pc L stk) := by
  intro a h q
  cases x with
  | none => cases h
  | some b => exact hr_callS hd hl hy hn hh hrest hst (hM b.1 b.2 rfl) (kz b.1 b.2 a h q)
theorem vl_b1 {a1 : Type} {x : Option (a1)} {f : a1 → Option α} {P : a1 → Prop} {G : Prop} (w : pm_VF x (fun b => P b) G) (k : ∀ (x1 : a1), pm_VF (f x1) Kt (P x1)) : pm_VF (pm_b1 x f) Kt G := by
  intro a h q
  cases x with
  | none => cases h
  | some b => exact w b rfl (k b a h q)
theorem vl_s1 {a1 : Type} {x : Option ((a1) ⊕ α)} {f : a1 → Option α} {P : a1 → Prop} {G : Prop} (w : pm_VF x (Sum.elim (fun b => P b) Kt) G) (k : ∀ (x1 : a1), pm_VF (f x1) Kt (P x1)) : pm_VF (pm_s1 x f) Kt G := by
  intro a h q
  cases x with
  | none => cases h
  | some b =>
    cases b with
    | inl b => exact w (Sum.inl b) rfl (k b a h q)
    | inr r => exact w (Sum.inr r) rfl (by cases h; exact q)
theorem vl_b2 {a1 a2 : Type} {x : Option (a1 × a2)} {f : a1 → a2 → Option α} {P : a1 → a2 → Prop} {G : Prop} (w : pm_VF x (fun b => P b.1 b.2) G) (k : ∀ (x1 : a1) (x2 : a2), pm_VF (f x1 x2) Kt (P x1 x2)) : pm_VF (pm_b2 x f) Kt G := by
  intro a h q
  cases x with
  | none => cases h
  | some b => exact w b rfl (k b.1 b.2 a h q)
theorem vl_s2 {a1 a2 : Type} {x : Option ((a1 × a2) ⊕ α)} {f : a1 → a2 → Option α} {P : a1 → a2 → Prop} {G : Prop} (w : pm_VF x (Sum.elim (fun b => P b.1 b.2) Kt) G) (k : ∀ (x1 : a1) (x2 : a2), pm_VF (f x1 x2) Kt (P x1 x2)) : pm_VF (pm_s2 x f) Kt G := by
  intro a h q
  cases x with
  | none => cases h
  | some b =>
    cases b with
    | inl b => exact w (Sum.inl b) rfl (k b.1 b.2 a h q)
    | inr r => exact w (Sum.inr r) rfl (by cases h; exact q)
theorem vl_b3 {a1 a2 a3 : Type} {x : Option (a1 × a2 × a3)} {f : a1 → a2 → a3 → Option α} {P : a1 → a2 → a3 → Prop} {G : Prop} (w : pm_VF x (fun b => P b.1 b.2.1 b.2.2) G) (k : ∀ (x1 : a1) (x2 : a2) (x3 : a3), pm_VF (f x1 x2 x3) Kt (P x1 x2 x3)) : pm_VF (pm_b3 x f) Kt G := by
  intro a h q
  cases x with
  | none => cases h
  | some b => exact w b rfl (k b.1 b.2.1 b.2.2 a h q)
theorem vl_s3 {a1 a2 a3 : Type} {x : Option ((a1 × a2 × a3) ⊕ α)} {f : a1 → a2 → a3 → Option α} {P : a1 → a2 → a3 → Prop} {G : Prop} (w : pm_VF x (Sum.elim (fun b => P b.1 b.2.1 b.2.2) Kt) G) (k : ∀ (x1 : a1) (x2 : a2) (x3 : a3), pm_VF (f x1 x2 x3) Kt (P x1 x2 x3)) : pm_VF (pm_s3 x f) Kt G := by
  intro a h q
  cases x with
  | none => cases h
  | some b =>
    cases b with
    | inl b => exact w (Sum.inl b) rfl (k b.1 b.2.1 b.2.2 a h q)
    | inr r => exact w (Sum.inr r) rfl (by cases h; exact q)
theorem vl_b4 {a1 a2 a3 a4 : Type} {x : Option (a1 × a2 × a3 × a4)} {f : a1 → a2 → a3 → a4 → Option α} {P : a1 → a2 → a3 → a4 → Prop} {G : Prop} (w : pm_VF x (fun b => P b.1 b.2.1 b.2.2.1 b.2.2.2) G) (k : ∀ (x1 : a1) (x2 : a2) (x3 : a3) (x4 : a4), pm_VF (f x1 x2 x3 x4) Kt (P x1 x2 x3 x4)) : pm_VF (pm_b4 x f) Kt G := by
  intro a h q
  cases x with
  | none => cases h
  | some b => exact w b rfl (k b.1 b.2.1 b.2.2.1 b.2.2.2 a h q)
theorem vl_b5 {a1 a2 a3 a4 a5 : Type} {x : Option (a1 × a2 × a3 × a4 × a5)} {f : a1 → a2 → a3 → a4 → a5 → Option α} {P : a1 → a2 → a3 → a4 → a5 → Prop} {G : Prop} (w : pm_VF x (fun b => P b.1 b.2.1 b.2.2.1 b.2.2.2.1 b.2.2.2.2) G) (k : ∀ (x1 : a1) (x2 : a2) (x3 : a3) (x4 : a4) (x5 : a5), pm_VF (f x1 x2 x3 x4 x5) Kt (P x1 x2 x3 x4 x5)) : pm_VF (pm_b5 x f) Kt G := by
  intro a h q
  cases x with
  | none => cases h
  | some b => exact w b rfl (k b.1 b.2.1 b.2.2.1 b.2.2.2.1 b.2.2.2.2 a h q)
theorem vf_inl {γ : Type} {a : α} {P : α → Prop} {Q : γ → Prop} {G : Prop} (h : P a → G) : pm_VF (some (Sum.inl a : α ⊕ γ)) (Sum.elim P Q) G := vf_end h
theorem vf_inr {γ : Type} {a : γ} {P : α → Prop} {Q : γ → Prop} {G : Prop} (h : pm_VF (some a) Q G) : pm_VF (some (Sum.inr a : α ⊕ γ)) (Sum.elim P Q) G := vf_end (fun q => h a rfl q)
theorem pm_neI {x k : Int32} {z : Int} (h : ¬ x = k) (hz : k.toInt = z) : ¬ z = x.toInt := fun e => h (Int32.toInt_inj.mp (e.symm.trans hz.symm))
theorem vf_chkz {b : Bool} {G : Prop} (k : b = true → pm_VF E Kt G) : pm_VF (pm_chk b E) Kt G := vf_chk k
end PMW
