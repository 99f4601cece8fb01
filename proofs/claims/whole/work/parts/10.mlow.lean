def f_X0_copyFrom (p : Nat) (M : pm_M) (a1 : Nat) : Option pm_M :=
  (pm_let (pm_up M p 0 (M a1 0)) (fun M1 : pm_M => (pm_let (pm_cpy M1 (a1 + 1) (0 : Int32).toNatClampNeg (p + 1) (0 : Int32).toNatClampNeg (5 : Int32).toNatClampNeg) (fun M2 : pm_M => (pm_let (pm_cpy M2 (a1 + 2) (0 : Int32).toNatClampNeg (p + 2) (0 : Int32).toNatClampNeg (5 : Int32).toNatClampNeg) (fun M3 : pm_M => (pm_let (pm_cpy M3 (a1 + 3) (0 : Int32).toNatClampNeg (p + 3) (0 : Int32).toNatClampNeg (5 : Int32).toNatClampNeg) (fun M4 : pm_M => (pm_let (pm_cpy M4 (a1 + 4) (0 : Int32).toNatClampNeg (p + 4) (0 : Int32).toNatClampNeg (5 : Int32).toNatClampNeg) (fun M5 : pm_M => (some M5)))))))))))
set_option maxHeartbeats 4000000 in
set_option maxRecDepth 100000 in
theorem w_X0_copyFrom {X : pm_X} {V : pm_V} (p : Nat) (M : pm_M) (a1 : Nat) (hp : at_CL p) (h1a : at_CL a1) : pm_VF (f_X0_copyFrom p M a1) (pm_Kv X V mX0_copyFrom 1 skC) (pm_J X V mX0_copyFrom 1 (pm_wld V skC M) 0 [(0, .ref (V.1 p)), (1, .ref (V.1 a1))] []) := by
  unfold f_X0_copyFrom
  refine jv_aloadn (j := 0) dX0_copyFrom_0 rfl ?_
  refine jv_aloadn (j := 1) dX0_copyFrom_1 rfl ?_
  refine hv_getI dX0_copyFrom_2 fl0_9 (at_CL_0 h1a) rfl ?_
  refine hv_put dX0_copyFrom_5 fp0_9 (at_CL_0 hp) rfl rfl rfl ?_
  refine vf_letM (fun M1 => ?_)
  refine jv_aloadn (j := 1) dX0_copyFrom_8 rfl ?_
  refine hv_getR dX0_copyFrom_9 fl0_15 (at_CL_0 h1a) rfl ?_
  refine jv_iconst (v := 0) dX0_copyFrom_12 (by decide) ?_
  refine jv_aloadn (j := 0) dX0_copyFrom_13 rfl ?_
  refine hv_getR dX0_copyFrom_14 fl0_15 (at_CL_0 hp) rfl ?_
  refine jv_iconst (v := 0) dX0_copyFrom_17 (by decide) ?_
  refine jv_iconst (v := 5) dX0_copyFrom_18 (by decide) ?_
  refine hv_copy dX0_copyFrom_19 lk0_28 lkS_n lkS_s lkS_i (Nat.le_of_ble_eq_true rfl) (at_CL_1 h1a) (at_CL_1 hp) (by decide) ?_
  refine vf_letM (fun M2 => ?_)
  refine jv_aloadn (j := 1) dX0_copyFrom_22 rfl ?_
  refine hv_getR dX0_copyFrom_23 fl0_19 (at_CL_0 h1a) rfl ?_
  refine jv_iconst (v := 0) dX0_copyFrom_26 (by decide) ?_
  refine jv_aloadn (j := 0) dX0_copyFrom_27 rfl ?_
  refine hv_getR dX0_copyFrom_28 fl0_19 (at_CL_0 hp) rfl ?_
  refine jv_iconst (v := 0) dX0_copyFrom_31 (by decide) ?_
  refine jv_iconst (v := 5) dX0_copyFrom_32 (by decide) ?_
  refine hv_copy dX0_copyFrom_33 lk0_28 lkS_n lkS_s lkS_i (Nat.le_of_ble_eq_true rfl) (at_CL_2 h1a) (at_CL_2 hp) (by decide) ?_
  refine vf_letM (fun M3 => ?_)
  refine jv_aloadn (j := 1) dX0_copyFrom_36 rfl ?_
  refine hv_getR dX0_copyFrom_37 fl0_22 (at_CL_0 h1a) rfl ?_
  refine jv_iconst (v := 0) dX0_copyFrom_40 (by decide) ?_
  refine jv_aloadn (j := 0) dX0_copyFrom_41 rfl ?_
  refine hv_getR dX0_copyFrom_42 fl0_22 (at_CL_0 hp) rfl ?_
  refine jv_iconst (v := 0) dX0_copyFrom_45 (by decide) ?_
  refine jv_iconst (v := 5) dX0_copyFrom_46 (by decide) ?_
  refine hv_copy dX0_copyFrom_47 lk0_28 lkS_n lkS_s lkS_i (Nat.le_of_ble_eq_true rfl) (at_CL_3 h1a) (at_CL_3 hp) (by decide) ?_
  refine vf_letM (fun M4 => ?_)
  refine jv_aloadn (j := 1) dX0_copyFrom_50 rfl ?_
  refine hv_getR dX0_copyFrom_51 fl0_25 (at_CL_0 h1a) rfl ?_
  refine jv_iconst (v := 0) dX0_copyFrom_54 (by decide) ?_
  refine jv_aloadn (j := 0) dX0_copyFrom_55 rfl ?_
  refine hv_getR dX0_copyFrom_56 fl0_25 (at_CL_0 hp) rfl ?_
  refine jv_iconst (v := 0) dX0_copyFrom_59 (by decide) ?_
  refine jv_iconst (v := 5) dX0_copyFrom_60 (by decide) ?_
  refine hv_copy dX0_copyFrom_61 lk0_28 lkS_n lkS_s lkS_i (Nat.le_of_ble_eq_true rfl) (at_CL_4 h1a) (at_CL_4 hp) (by decide) ?_
  refine vf_letM (fun M5 => ?_)
  exact vf_vret dX0_copyFrom_64
theorem c_X0_copyFrom {p : Nat} {M : pm_M} {a1 : Nat} (hp : at_CL p) (h1a : at_CL a1) {M' : pm_M} (h : f_X0_copyFrom p M a1 = some M') (l : Launch) (V : pm_V) : pm_Cv l V skC yX0_copyFrom mX0_copyFrom 1 [.ref (V.1 p), .ref (V.1 a1)] M M' := pm_metV (by decide) rfl (Nat.le_of_ble_eq_true rfl) rfl h (fun _ => w_X0_copyFrom p M a1 hp h1a)
def f_X0_setKind (p : Nat) (M : pm_M) (x1 : Int32) (x2 : Int32) : Option pm_M :=
  (pm_chk (pm_in x1 5) (pm_let (pm_up M (p + 1) x1.toNatClampNeg (x2 / 10)) (fun M1 : pm_M => (pm_chk (pm_in x1 5) (pm_let (pm_up M1 (p + 2) x1.toNatClampNeg (pm_rem x2 10)) (fun M2 : pm_M => (some M2)))))))
set_option maxHeartbeats 4000000 in
set_option maxRecDepth 100000 in
theorem w_X0_setKind {X : pm_X} {V : pm_V} (p : Nat) (M : pm_M) (x1 : Int32) (x2 : Int32) (hp : at_CL p) : pm_VF (f_X0_setKind p M x1 x2) (pm_Kv X V mX0_setKind 1 skC) (pm_J X V mX0_setKind 1 (pm_wld V skC M) 0 [(0, .ref (V.1 p)), (1, .int x1), (2, .int x2)] []) := by
  unfold f_X0_setKind
  refine jv_aloadn (j := 0) dX0_setKind_0 rfl ?_
  refine hv_getR dX0_setKind_1 fl0_15 (at_CL_0 hp) rfl ?_
  refine jv_iloadn (j := 1) dX0_setKind_4 rfl ?_
  refine jv_iloadn (j := 2) dX0_setKind_5 rfl ?_
  refine jv_bipush (v := 10) dX0_setKind_6 (by decide) ?_
  refine jv_idiv dX0_setKind_8 (by decide) ?_
  refine hv_iastC dX0_setKind_9 (at_CL_1 hp) (fun _ => ?_)
  refine vf_letM (fun M1 => ?_)
  refine jv_aloadn (j := 0) dX0_setKind_10 rfl ?_
  refine hv_getR dX0_setKind_11 fl0_19 (at_CL_0 hp) rfl ?_
  refine jv_iloadn (j := 1) dX0_setKind_14 rfl ?_
  refine jv_iloadn (j := 2) dX0_setKind_15 rfl ?_
  refine jv_bipush (v := 10) dX0_setKind_16 (by decide) ?_
  refine jv_irem dX0_setKind_18 (by decide) ?_
  refine hv_iastC dX0_setKind_19 (at_CL_2 hp) (fun _ => ?_)
  refine vf_letM (fun M2 => ?_)
  exact vf_vret dX0_setKind_20
theorem c_X0_setKind {p : Nat} {M : pm_M} {x1 : Int32} {x2 : Int32} (hp : at_CL p) {M' : pm_M} (h : f_X0_setKind p M x1 x2 = some M') (l : Launch) (V : pm_V) : pm_Cv l V skC yX0_setKind mX0_setKind 1 [.ref (V.1 p), .int x1, .int x2] M M' := pm_metV (by decide) rfl (Nat.le_of_ble_eq_true rfl) rfl h (fun _ => w_X0_setKind p M x1 x2 hp)
def f_X0_add (p : Nat) (M : pm_M) (x1 : Int32) (x2 : Int32) : Option (Int32 × pm_M) :=
  (pm_b1 (f_X0_setKind p M (M p 0) x1) (fun M1 : pm_M => (pm_chk (pm_in (M1 p 0) 5) (pm_let (pm_up M1 (p + 3) (M1 p 0).toNatClampNeg x2) (fun M2 : pm_M => (pm_chk (pm_in (M2 p 0) 5) (pm_let (pm_up M2 (p + 4) (M2 p 0).toNatClampNeg 0) (fun M3 : pm_M => (pm_let (pm_up M3 p 0 ((M3 p 0) + 1)) (fun M4 : pm_M => (some (((M4 p 0) - 1), M4))))))))))))
set_option maxHeartbeats 4000000 in
set_option maxRecDepth 100000 in
theorem w_X0_add {X : pm_X} {V : pm_V} (p : Nat) (M : pm_M) (x1 : Int32) (x2 : Int32) (hp : at_CL p) : pm_VF (f_X0_add p M x1 x2) (pm_K X V mX0_add 2 skC) (pm_J X V mX0_add 2 (pm_wld V skC M) 0 [(0, .ref (V.1 p)), (1, .int x1), (2, .int x2)] []) := by
  unfold f_X0_add
  refine jv_aloadn (j := 0) dX0_add_0 rfl ?_
  refine jv_aloadn (j := 0) dX0_add_1 rfl ?_
  refine hv_getI dX0_add_2 fl0_9 (at_CL_0 hp) rfl ?_
  refine jv_iloadn (j := 1) dX0_add_5 rfl ?_
  refine hv_callV (As := [.int (M p 0), .int x1]) dX0_add_6 lk0_34 kX0_setKind nX0_setKind (Nat.le_of_ble_eq_true rfl) (Nat.le_of_ble_eq_true rfl) (at_CL_0 hp) rfl rfl rfl (fun _ e l => c_X0_setKind hp e l V) ?_
  intro M1
  refine jv_aloadn (j := 0) dX0_add_9 rfl ?_
  refine hv_getR dX0_add_10 fl0_22 (at_CL_0 hp) rfl ?_
  refine jv_aloadn (j := 0) dX0_add_13 rfl ?_
  refine hv_getI dX0_add_14 fl0_9 (at_CL_0 hp) rfl ?_
  refine jv_iloadn (j := 2) dX0_add_17 rfl ?_
  refine hv_iastC dX0_add_18 (at_CL_3 hp) (fun _ => ?_)
  refine vf_letM (fun M2 => ?_)
  refine jv_aloadn (j := 0) dX0_add_19 rfl ?_
  refine hv_getR dX0_add_20 fl0_25 (at_CL_0 hp) rfl ?_
  refine jv_aloadn (j := 0) dX0_add_23 rfl ?_
  refine hv_getI dX0_add_24 fl0_9 (at_CL_0 hp) rfl ?_
  refine jv_iconst (v := 0) dX0_add_27 (by decide) ?_
  refine hv_iastC dX0_add_28 (at_CL_4 hp) (fun _ => ?_)
  refine vf_letM (fun M3 => ?_)
  refine jv_aloadn (j := 0) dX0_add_29 rfl ?_
  refine jv_dup dX0_add_30 rfl ?_
  refine hv_getI dX0_add_31 fl0_9 (at_CL_0 hp) rfl ?_
  refine jv_iconst (v := 1) dX0_add_34 (by decide) ?_
  refine jv_iadd dX0_add_35 ?_
  refine hv_put dX0_add_36 fp0_9 (at_CL_0 hp) rfl rfl rfl ?_
  refine vf_letM (fun M4 => ?_)
  refine jv_aloadn (j := 0) dX0_add_39 rfl ?_
  refine hv_getI dX0_add_40 fl0_9 (at_CL_0 hp) rfl ?_
  refine jv_iconst (v := 1) dX0_add_43 (by decide) ?_
  refine jv_isub dX0_add_44 ?_
  exact vf_ret dX0_add_45 rfl
theorem c_X0_add {p : Nat} {M : pm_M} {x1 : Int32} {x2 : Int32} (hp : at_CL p) {r : Int32} {M' : pm_M} (h : f_X0_add p M x1 x2 = some (r, M')) (l : Launch) (V : pm_V) : pm_Ci l V skC yX0_add mX0_add 2 [.ref (V.1 p), .int x1, .int x2] M r M' := pm_metI (by decide) rfl (Nat.le_of_ble_eq_true rfl) h (fun _ => w_X0_add p M x1 x2 hp)
def f_X0_has (p : Nat) (M : pm_M) (x1 : Int32) : Option (Int32 × pm_M) :=
  (if x1 < 0 then (some (0, M)) else (if (M p 0) ≤ x1 then (some (0, M)) else (some (1, M))))
set_option maxHeartbeats 4000000 in
set_option maxRecDepth 100000 in
theorem w_X0_has {X : pm_X} {V : pm_V} (p : Nat) (M : pm_M) (x1 : Int32) (hp : at_CL p) : pm_VF (f_X0_has p M x1) (pm_K X V mX0_has 1 skC) (pm_J X V mX0_has 1 (pm_wld V skC M) 0 [(0, .ref (V.1 p)), (1, .int x1)] []) := by
  unfold f_X0_has
  refine jv_iloadn (j := 1) dX0_has_0 rfl ?_
  refine jw_if_lt (tgt := 16) dX0_has_1 rfl (fun c1 => ?_) (fun c1 => ?_)
  · refine jv_iconst (v := 0) dX0_has_16 (by decide) ?_
    exact vf_zret dX0_has_17 rfl (by decide)
  refine jv_iloadn (j := 1) dX0_has_4 rfl ?_
  refine jv_aloadn (j := 0) dX0_has_5 rfl ?_
  refine hv_getI dX0_has_6 fl0_9 (at_CL_0 hp) rfl ?_
  refine jw_ic_ge (tgt := 16) dX0_has_9 rfl (fun c9 => ?_) (fun c9 => ?_)
  · refine jv_iconst (v := 0) dX0_has_16 (by decide) ?_
    exact vf_zret dX0_has_17 rfl (by decide)
  refine jv_iconst (v := 1) dX0_has_12 (by decide) ?_
  refine jv_goto (tgt := 17) dX0_has_13 rfl ?_
  exact vf_zret dX0_has_17 rfl (by decide)
theorem c_X0_has {p : Nat} {M : pm_M} {x1 : Int32} (hp : at_CL p) {r : Int32} {M' : pm_M} (h : f_X0_has p M x1 = some (r, M')) (l : Launch) (V : pm_V) : pm_Ci l V skC yX0_has mX0_has 1 [.ref (V.1 p), .int x1] M r M' := pm_metI (by decide) rfl (Nat.le_of_ble_eq_true rfl) h (fun _ => w_X0_has p M x1 hp)
def lb_X0_isOf_10 (p : Nat) (x2 : Int32) (M : pm_M) (ih : Int32 → Int32 → Option (Int32)) : Int32 → Int32 → Option (Int32) := fun (l3 : Int32) (l4 : Int32) =>
  (if 7 ≤ l4 then (some l3) else (if l3 = x2 then (some l3) else (if l3 ≤ 0 then (some l3) else (if 7 ≤ l3 then (some l3) else (pm_chk (pm_in l3 7) (pm_let (pm_ABOVE l3.toNatClampNeg) (fun z11002 : Int32 => (ih z11002 (l4 + 1)))))))))
def lp_X0_isOf_10 (p : Nat) (x2 : Int32) (M : pm_M) : Int32 → Int32 → Option (Int32) := pm_it (fun _ _ => none) (lb_X0_isOf_10 p x2 M) pm_F
def f_X0_isOf (p : Nat) (M : pm_M) (x1 : Int32) (x2 : Int32) : Option (Int32 × pm_M) :=
  (pm_chk (pm_in x1 5) (pm_let (M (p + 1) x1.toNatClampNeg) (fun z1 : Int32 => (pm_b1 (lp_X0_isOf_10 p x2 M z1 0) (fun (l2 : Int32) => (if l2 = x2 then (some (1, M)) else (some (0, M))))))))
set_option maxHeartbeats 4000000 in
set_option maxRecDepth 100000 in
theorem wl_X0_isOf_10 {X : pm_X} {V : pm_V} (p : Nat) (x2 : Int32) (M : pm_M) (hp : at_CL p) : ∀ (l3 : Int32) (l4 : Int32), pm_VF (lp_X0_isOf_10 p x2 M l3 l4) (fun b => (fun (l3 : Int32) => pm_J X V mX0_isOf 1 (pm_wld V skC M) 44 [(2, .int x2), (3, .int l3)] []) b) (pm_J X V mX0_isOf 1 (pm_wld V skC M) 10 [(2, .int x2), (3, .int l3), (4, .int l4)] []) := by
  refine pm_it_ind (P := fun (f : Int32 → Int32 → Option (Int32)) => ∀ (l3 : Int32) (l4 : Int32), pm_VF (f l3 l4) (fun b => (fun (l3 : Int32) => pm_J X V mX0_isOf 1 (pm_wld V skC M) 44 [(2, .int x2), (3, .int l3)] []) b) (pm_J X V mX0_isOf 1 (pm_wld V skC M) 10 [(2, .int x2), (3, .int l3), (4, .int l4)] [])) (fun _ _ => vf_none) (fun ih hih l3 l4 => ?_) pm_F
  · unfold lb_X0_isOf_10
    refine jv_iload (j := 2) dX0_isOf_10 rfl ?_
    refine jv_bipush (v := 7) dX0_isOf_12 (by decide) ?_
    refine jw_ic_ge (tgt := 44) dX0_isOf_14 rfl (fun c14 => ?_) (fun c14 => ?_)
    · exact vf_end (fun g => jr_sub [0, 1] rfl g)
    refine jv_iloadn (j := 1) dX0_isOf_17 rfl ?_
    refine jv_iloadn (j := 0) dX0_isOf_18 rfl ?_
    refine jw_ic_eq (tgt := 44) dX0_isOf_19 rfl (fun c19 => ?_) (fun c19 => ?_)
    · exact vf_end (fun g => jr_sub [0, 1] rfl g)
    refine jv_iloadn (j := 1) dX0_isOf_22 rfl ?_
    refine jw_if_le (tgt := 44) dX0_isOf_23 rfl (fun c23 => ?_) (fun c23 => ?_)
    · exact vf_end (fun g => jr_sub [0, 1] rfl g)
    refine jv_iloadn (j := 1) dX0_isOf_26 rfl ?_
    refine jv_bipush (v := 7) dX0_isOf_27 (by decide) ?_
    refine jw_ic_ge (tgt := 44) dX0_isOf_29 rfl (fun c29 => ?_) (fun c29 => ?_)
    · exact vf_end (fun g => jr_sub [0, 1] rfl g)
    refine hv_getsN (Or.inl ⟨rfl, rfl, rfl⟩) rfl dX0_isOf_32 ?_
    refine jv_iloadn (j := 1) dX0_isOf_35 rfl ?_
    refine hv_tAC dX0_isOf_36 (fun _ => ?_)
    refine vf_letS (fun z11002 => ?_)
    refine jv_istoren (L' := [(3, .int z11002), (2, .int x2), (4, .int l4)]) dX0_isOf_37 (Nat.le_of_ble_eq_true rfl) rfl ?_
    refine jv_iinc (j := 2) (v := l4 + 1) (L' := [(4, .int (l4 + 1)), (3, .int z11002), (2, .int x2)]) dX0_isOf_38 rfl rfl (Nat.le_of_ble_eq_true rfl) rfl ?_
    refine jv_goto (tgt := 10) dX0_isOf_41 rfl ?_
    exact vf_j (fun g => jr_sub [2, 1, 0] rfl g) (hih z11002 (l4 + 1))
set_option maxHeartbeats 4000000 in
set_option maxRecDepth 100000 in
theorem w_X0_isOf {X : pm_X} {V : pm_V} (p : Nat) (M : pm_M) (x1 : Int32) (x2 : Int32) (hp : at_CL p) : pm_VF (f_X0_isOf p M x1 x2) (pm_K X V mX0_isOf 1 skC) (pm_J X V mX0_isOf 1 (pm_wld V skC M) 0 [(0, .ref (V.1 p)), (1, .int x1), (2, .int x2)] []) := by
  unfold f_X0_isOf
  refine jv_aloadn (j := 0) dX0_isOf_0 rfl ?_
  refine hv_getR dX0_isOf_1 fl0_15 (at_CL_0 hp) rfl ?_
  refine jv_iloadn (j := 1) dX0_isOf_4 rfl ?_
  refine hv_ialdC dX0_isOf_5 (at_CL_1 hp) (fun _ => ?_)
  refine vf_letS (fun z1 => ?_)
  refine jv_istoren (L' := [(3, .int z1), (0, .ref (V.1 p)), (1, .int x1), (2, .int x2)]) dX0_isOf_6 (Nat.le_of_ble_eq_true rfl) rfl ?_
  refine jv_iconst (v := 0) dX0_isOf_7 (by decide) ?_
  refine jv_istore (L' := [(4, .int 0), (3, .int z1), (0, .ref (V.1 p)), (1, .int x1), (2, .int x2)]) dX0_isOf_8 (Nat.le_of_ble_eq_true rfl) rfl ?_
  refine vl_b1 (P := fun (l3 : Int32) => pm_J X V mX0_isOf 1 (pm_wld V skC M) 44 [(2, .int x2), (3, .int l3)] []) (vf_j (fun g => jr_sub [4, 1, 0] rfl g) (wl_X0_isOf_10 p x2 M hp z1 0)) ?_
  intro l2
  refine jv_iloadn (j := 1) dX0_isOf_44 rfl ?_
  refine jv_iloadn (j := 0) dX0_isOf_45 rfl ?_
  refine jw_ic_ne (tgt := 53) dX0_isOf_46 rfl (fun c46 => ?_) (fun c46 => ?_)
  · refine jv_iconst (v := 1) dX0_isOf_49 (by decide) ?_
    refine jv_goto (tgt := 54) dX0_isOf_50 rfl ?_
    exact vf_zret dX0_isOf_54 rfl (by decide)
  refine jv_iconst (v := 0) dX0_isOf_53 (by decide) ?_
  exact vf_zret dX0_isOf_54 rfl (by decide)
theorem c_X0_isOf {p : Nat} {M : pm_M} {x1 : Int32} {x2 : Int32} (hp : at_CL p) {r : Int32} {M' : pm_M} (h : f_X0_isOf p M x1 x2 = some (r, M')) (l : Launch) (V : pm_V) : pm_Ci l V skC yX0_isOf mX0_isOf 1 [.ref (V.1 p), .int x1, .int x2] M r M' := pm_metI (by decide) rfl (Nat.le_of_ble_eq_true rfl) h (fun _ => w_X0_isOf p M x1 x2 hp)
def f_X0_lasting (p : Nat) (M : pm_M) (x1 : Int32) : Option (Int32 × pm_M) :=
  (pm_chk (pm_in x1 5) (pm_let (M (p + 1) x1.toNatClampNeg) (fun z1 : Int32 => (if z1.toInt < 1 ∨ 5 < z1.toInt then (some (20, M)) else if z1 = 1 then (pm_chk (pm_in x1 5) (some ((20 + (M (p + 2) x1.toNatClampNeg)), M))) else if z1 = 2 then (some (15, M)) else if z1 = 3 then (some (20, M)) else if z1 = 4 then (pm_chk (pm_in x1 5) (some ((2 * (20 + (M (p + 2) x1.toNatClampNeg))), M))) else if z1 = 5 then (some (15, M)) else none))))
set_option maxHeartbeats 4000000 in
set_option maxRecDepth 100000 in
theorem w_X0_lasting {X : pm_X} {V : pm_V} (p : Nat) (M : pm_M) (x1 : Int32) (hp : at_CL p) : pm_VF (f_X0_lasting p M x1) (pm_K X V mX0_lasting 1 skC) (pm_J X V mX0_lasting 1 (pm_wld V skC M) 0 [(0, .ref (V.1 p)), (1, .int x1)] []) := by
  unfold f_X0_lasting
  refine jv_aloadn (j := 0) dX0_lasting_0 rfl ?_
  refine hv_getR dX0_lasting_1 fl0_15 (at_CL_0 hp) rfl ?_
  refine jv_iloadn (j := 1) dX0_lasting_4 rfl ?_
  refine hv_ialdC dX0_lasting_5 (at_CL_1 hp) (fun _ => ?_)
  refine vf_letS (fun z1 => ?_)
  refine vf_case (fun c6 => ?_) (fun _ => ?_)
  · refine jv_tout (tgt := 65) dX0_lasting_6 c6 rfl ?_
    refine jv_bipush (v := 20) dX0_lasting_65 (by decide) ?_
    exact vf_ret dX0_lasting_67 rfl
  refine vf_case (fun c6 => ?_) (fun _ => ?_)
  · refine jv_tin (v := 1) (tgt := 40) dX0_lasting_6 c6 (by decide) (by decide) rfl rfl ?_
    refine jv_bipush (v := 20) dX0_lasting_40 (by decide) ?_
    refine jv_aloadn (j := 0) dX0_lasting_42 rfl ?_
    refine hv_getR dX0_lasting_43 fl0_19 (at_CL_0 hp) rfl ?_
    refine jv_iloadn (j := 1) dX0_lasting_46 rfl ?_
    refine hv_ialdC dX0_lasting_47 (at_CL_2 hp) (fun _ => ?_)
    refine jv_iadd dX0_lasting_48 ?_
    exact vf_ret dX0_lasting_49 rfl
  refine vf_case (fun c6 => ?_) (fun _ => ?_)
  · refine jv_tin (v := 2) (tgt := 62) dX0_lasting_6 c6 (by decide) (by decide) rfl rfl ?_
    refine jv_bipush (v := 15) dX0_lasting_62 (by decide) ?_
    exact vf_ret dX0_lasting_64 rfl
  refine vf_case (fun c6 => ?_) (fun _ => ?_)
  · refine jv_tin (v := 3) (tgt := 65) dX0_lasting_6 c6 (by decide) (by decide) rfl rfl ?_
    refine jv_bipush (v := 20) dX0_lasting_65 (by decide) ?_
    exact vf_ret dX0_lasting_67 rfl
  refine vf_case (fun c6 => ?_) (fun _ => ?_)
  · refine jv_tin (v := 4) (tgt := 50) dX0_lasting_6 c6 (by decide) (by decide) rfl rfl ?_
    refine jv_iconst (v := 2) dX0_lasting_50 (by decide) ?_
    refine jv_bipush (v := 20) dX0_lasting_51 (by decide) ?_
    refine jv_aloadn (j := 0) dX0_lasting_53 rfl ?_
    refine hv_getR dX0_lasting_54 fl0_19 (at_CL_0 hp) rfl ?_
    refine jv_iloadn (j := 1) dX0_lasting_57 rfl ?_
    refine hv_ialdC dX0_lasting_58 (at_CL_2 hp) (fun _ => ?_)
    refine jv_iadd dX0_lasting_59 ?_
    refine jv_imul dX0_lasting_60 ?_
    exact vf_ret dX0_lasting_61 rfl
  refine vf_case (fun c6 => ?_) (fun _ => ?_)
  · refine jv_tin (v := 5) (tgt := 62) dX0_lasting_6 c6 (by decide) (by decide) rfl rfl ?_
    refine jv_bipush (v := 15) dX0_lasting_62 (by decide) ?_
    exact vf_ret dX0_lasting_64 rfl
  exact vf_none
theorem c_X0_lasting {p : Nat} {M : pm_M} {x1 : Int32} (hp : at_CL p) {r : Int32} {M' : pm_M} (h : f_X0_lasting p M x1 = some (r, M')) (l : Launch) (V : pm_V) : pm_Ci l V skC yX0_lasting mX0_lasting 1 [.ref (V.1 p), .int x1] M r M' := pm_metI (by decide) rfl (Nat.le_of_ble_eq_true rfl) h (fun _ => w_X0_lasting p M x1 hp)
def f_X0_isSpent (p : Nat) (M : pm_M) (x1 : Int32) : Option (Int32 × pm_M) :=
  (pm_chk (pm_in x1 5) (pm_b2 (f_X0_lasting p M x1) (fun (r2 : Int32) (M1 : pm_M) => (if (M (p + 4) x1.toNatClampNeg) < r2 then (some (0, M1)) else (some (1, M1))))))
set_option maxHeartbeats 4000000 in
set_option maxRecDepth 100000 in
theorem w_X0_isSpent {X : pm_X} {V : pm_V} (p : Nat) (M : pm_M) (x1 : Int32) (hp : at_CL p) : pm_VF (f_X0_isSpent p M x1) (pm_K X V mX0_isSpent 2 skC) (pm_J X V mX0_isSpent 2 (pm_wld V skC M) 0 [(0, .ref (V.1 p)), (1, .int x1)] []) := by
  unfold f_X0_isSpent
  refine jv_aloadn (j := 0) dX0_isSpent_0 rfl ?_
  refine hv_getR dX0_isSpent_1 fl0_25 (at_CL_0 hp) rfl ?_
  refine jv_iloadn (j := 1) dX0_isSpent_4 rfl ?_
  refine hv_ialdC dX0_isSpent_5 (at_CL_4 hp) (fun _ => ?_)
  refine jv_aloadn (j := 0) dX0_isSpent_6 rfl ?_
  refine jv_iloadn (j := 1) dX0_isSpent_7 rfl ?_
  refine hv_callI (As := [.int x1]) dX0_isSpent_8 lk0_41 kX0_lasting nX0_lasting (Nat.le_of_ble_eq_true rfl) (Nat.le_of_ble_eq_true rfl) (at_CL_0 hp) rfl rfl rfl (fun _ _ e l => c_X0_lasting hp e l V) ?_
  intro r2 M1
  refine jw_ic_lt (tgt := 18) dX0_isSpent_11 rfl (fun c11 => ?_) (fun c11 => ?_)
  · refine jv_iconst (v := 0) dX0_isSpent_18 (by decide) ?_
    exact vf_zret dX0_isSpent_19 rfl (by decide)
  refine jv_iconst (v := 1) dX0_isSpent_14 (by decide) ?_
  refine jv_goto (tgt := 19) dX0_isSpent_15 rfl ?_
  exact vf_zret dX0_isSpent_19 rfl (by decide)
theorem c_X0_isSpent {p : Nat} {M : pm_M} {x1 : Int32} (hp : at_CL p) {r : Int32} {M' : pm_M} (h : f_X0_isSpent p M x1 = some (r, M')) (l : Launch) (V : pm_V) : pm_Ci l V skC yX0_isSpent mX0_isSpent 2 [.ref (V.1 p), .int x1] M r M' := pm_metI (by decide) rfl (Nat.le_of_ble_eq_true rfl) h (fun _ => w_X0_isSpent p M x1 hp)
def lb_X0_spentMany_4 (p : Nat) (ih : Int32 → Int32 → pm_M → Option (Int32 × pm_M)) : Int32 → Int32 → pm_M → Option (Int32 × pm_M) := fun (l1 : Int32) (l2 : Int32) (Ml : pm_M) =>
  (if (Ml p 0) ≤ l2 then (some (l1, Ml)) else (pm_b2 (f_X0_isSpent p Ml l2) (fun (r5003 : Int32) (M5002 : pm_M) => (if r5003 = 0 then (pm_let (l1 + 0) (fun z5004 : Int32 => (ih z5004 (l2 + 1) M5002))) else (pm_let (l1 + 1) (fun z5005 : Int32 => (ih z5005 (l2 + 1) M5002)))))))
def lp_X0_spentMany_4 (p : Nat) : Int32 → Int32 → pm_M → Option (Int32 × pm_M) := pm_it (fun _ _ _ => none) (lb_X0_spentMany_4 p) pm_F
def f_X0_spentMany (p : Nat) (M : pm_M) : Option (Int32 × pm_M) :=
  (pm_b2 (lp_X0_spentMany_4 p 0 0 M) (fun (l1 : Int32) (M2 : pm_M) => (some (l1, M2))))
set_option maxHeartbeats 4000000 in
set_option maxRecDepth 100000 in
theorem wl_X0_spentMany_4 {X : pm_X} {V : pm_V} (p : Nat) (hp : at_CL p) : ∀ (l1 : Int32) (l2 : Int32) (Ml : pm_M), pm_VF (lp_X0_spentMany_4 p l1 l2 Ml) (fun b => (fun (l1 : Int32) (Ml : pm_M) => pm_J X V mX0_spentMany 3 (pm_wld V skC Ml) 34 [(1, .int l1)] []) b.1 b.2) (pm_J X V mX0_spentMany 3 (pm_wld V skC Ml) 4 [(0, .ref (V.1 p)), (1, .int l1), (2, .int l2)] []) := by
  refine pm_it_ind (P := fun (f : Int32 → Int32 → pm_M → Option (Int32 × pm_M)) => ∀ (l1 : Int32) (l2 : Int32) (Ml : pm_M), pm_VF (f l1 l2 Ml) (fun b => (fun (l1 : Int32) (Ml : pm_M) => pm_J X V mX0_spentMany 3 (pm_wld V skC Ml) 34 [(1, .int l1)] []) b.1 b.2) (pm_J X V mX0_spentMany 3 (pm_wld V skC Ml) 4 [(0, .ref (V.1 p)), (1, .int l1), (2, .int l2)] [])) (fun _ _ _ => vf_none) (fun ih hih l1 l2 Ml => ?_) pm_F
  · unfold lb_X0_spentMany_4
    refine jv_iloadn (j := 2) dX0_spentMany_4 rfl ?_
    refine jv_aloadn (j := 0) dX0_spentMany_5 rfl ?_
    refine hv_getI dX0_spentMany_6 fl0_9 (at_CL_0 hp) rfl ?_
    refine jw_ic_ge (tgt := 34) dX0_spentMany_9 rfl (fun c9 => ?_) (fun c9 => ?_)
    · exact vf_end (fun g => jr_sub [1] rfl g)
    refine jv_iloadn (j := 1) dX0_spentMany_12 rfl ?_
    refine jv_aloadn (j := 0) dX0_spentMany_13 rfl ?_
    refine jv_iloadn (j := 2) dX0_spentMany_14 rfl ?_
    refine hv_callI (As := [.int l2]) dX0_spentMany_15 lk0_45 kX0_isSpent nX0_isSpent (Nat.le_of_ble_eq_true rfl) (Nat.le_of_ble_eq_true rfl) (at_CL_0 hp) rfl rfl rfl (fun _ _ e l => c_X0_isSpent hp e l V) ?_
    intro r5003 M5002
    refine jw_if_eq (tgt := 25) dX0_spentMany_18 rfl (fun c18 => ?_) (fun c18 => ?_)
    · refine jv_iconst (v := 0) dX0_spentMany_25 (by decide) ?_
      refine jv_iadd dX0_spentMany_26 ?_
      refine vf_letS (fun z5004 => ?_)
      refine jv_istoren (L' := [(1, .int z5004), (0, .ref (V.1 p)), (2, .int l2)]) dX0_spentMany_27 (Nat.le_of_ble_eq_true rfl) rfl ?_
      refine jv_iinc (j := 2) (v := l2 + 1) (L' := [(2, .int (l2 + 1)), (1, .int z5004), (0, .ref (V.1 p))]) dX0_spentMany_28 rfl rfl (Nat.le_of_ble_eq_true rfl) rfl ?_
      refine jv_goto (tgt := 4) dX0_spentMany_31 rfl ?_
      exact vf_j (fun g => jr_sub [2, 1, 0] rfl g) (hih z5004 (l2 + 1) M5002)
    refine jv_iconst (v := 1) dX0_spentMany_21 (by decide) ?_
    refine jv_goto (tgt := 26) dX0_spentMany_22 rfl ?_
    refine jv_iadd dX0_spentMany_26 ?_
    refine vf_letS (fun z5005 => ?_)
    refine jv_istoren (L' := [(1, .int z5005), (0, .ref (V.1 p)), (2, .int l2)]) dX0_spentMany_27 (Nat.le_of_ble_eq_true rfl) rfl ?_
    refine jv_iinc (j := 2) (v := l2 + 1) (L' := [(2, .int (l2 + 1)), (1, .int z5005), (0, .ref (V.1 p))]) dX0_spentMany_28 rfl rfl (Nat.le_of_ble_eq_true rfl) rfl ?_
    refine jv_goto (tgt := 4) dX0_spentMany_31 rfl ?_
    exact vf_j (fun g => jr_sub [2, 1, 0] rfl g) (hih z5005 (l2 + 1) M5002)
set_option maxHeartbeats 4000000 in
set_option maxRecDepth 100000 in
theorem w_X0_spentMany {X : pm_X} {V : pm_V} (p : Nat) (M : pm_M) (hp : at_CL p) : pm_VF (f_X0_spentMany p M) (pm_K X V mX0_spentMany 3 skC) (pm_J X V mX0_spentMany 3 (pm_wld V skC M) 0 [(0, .ref (V.1 p))] []) := by
  unfold f_X0_spentMany
  refine jv_iconst (v := 0) dX0_spentMany_0 (by decide) ?_
  refine jv_istoren (L' := [(1, .int 0), (0, .ref (V.1 p))]) dX0_spentMany_1 (Nat.le_of_ble_eq_true rfl) rfl ?_
  refine jv_iconst (v := 0) dX0_spentMany_2 (by decide) ?_
  refine jv_istoren (L' := [(2, .int 0), (1, .int 0), (0, .ref (V.1 p))]) dX0_spentMany_3 (Nat.le_of_ble_eq_true rfl) rfl ?_
  refine vl_b2 (P := fun (l1 : Int32) (Ml : pm_M) => pm_J X V mX0_spentMany 3 (pm_wld V skC Ml) 34 [(1, .int l1)] []) (vf_j (fun g => jr_sub [2, 1, 0] rfl g) (wl_X0_spentMany_4 p hp 0 0 M)) ?_
  intro l1 M2
  refine jv_iloadn (j := 0) dX0_spentMany_34 rfl ?_
  exact vf_ret dX0_spentMany_35 rfl
theorem c_X0_spentMany {p : Nat} {M : pm_M} (hp : at_CL p) {r : Int32} {M' : pm_M} (h : f_X0_spentMany p M = some (r, M')) (l : Launch) (V : pm_V) : pm_Ci l V skC yX0_spentMany mX0_spentMany 3 [.ref (V.1 p)] M r M' := pm_metI (by decide) rfl (Nat.le_of_ble_eq_true rfl) h (fun _ => w_X0_spentMany p M hp)
def lb_X0_setOver_4 (p : Nat) (x1 : Int32) (M : pm_M) (ih : Int32 → Int32 → Option (Int32)) : Int32 → Int32 → Option (Int32) := fun (l2 : Int32) (l3 : Int32) =>
  (if (M p 0) ≤ l3 then (some l2) else (pm_chk (pm_in l3 5) (if (M (p + 3) l3.toNatClampNeg) = x1 then (pm_let (l2 ||| (pm_shl 1 l3)) (fun z5002 : Int32 => (ih z5002 (l3 + 1)))) else (ih l2 (l3 + 1)))))
def lp_X0_setOver_4 (p : Nat) (x1 : Int32) (M : pm_M) : Int32 → Int32 → Option (Int32) := pm_it (fun _ _ => none) (lb_X0_setOver_4 p x1 M) pm_F
def f_X0_setOver (p : Nat) (M : pm_M) (x1 : Int32) : Option (Int32 × pm_M) :=
  (pm_b1 (lp_X0_setOver_4 p x1 M 0 0) (fun (l1 : Int32) => (some (l1, M))))
set_option maxHeartbeats 4000000 in
set_option maxRecDepth 100000 in
theorem wl_X0_setOver_4 {X : pm_X} {V : pm_V} (p : Nat) (x1 : Int32) (M : pm_M) (hp : at_CL p) : ∀ (l2 : Int32) (l3 : Int32), pm_VF (lp_X0_setOver_4 p x1 M l2 l3) (fun b => (fun (l2 : Int32) => pm_J X V mX0_setOver 1 (pm_wld V skC M) 34 [(2, .int l2)] []) b) (pm_J X V mX0_setOver 1 (pm_wld V skC M) 4 [(0, .ref (V.1 p)), (1, .int x1), (2, .int l2), (3, .int l3)] []) := by
  refine pm_it_ind (P := fun (f : Int32 → Int32 → Option (Int32)) => ∀ (l2 : Int32) (l3 : Int32), pm_VF (f l2 l3) (fun b => (fun (l2 : Int32) => pm_J X V mX0_setOver 1 (pm_wld V skC M) 34 [(2, .int l2)] []) b) (pm_J X V mX0_setOver 1 (pm_wld V skC M) 4 [(0, .ref (V.1 p)), (1, .int x1), (2, .int l2), (3, .int l3)] [])) (fun _ _ => vf_none) (fun ih hih l2 l3 => ?_) pm_F
  · unfold lb_X0_setOver_4
    refine jv_iloadn (j := 3) dX0_setOver_4 rfl ?_
    refine jv_aloadn (j := 0) dX0_setOver_5 rfl ?_
    refine hv_getI dX0_setOver_6 fl0_9 (at_CL_0 hp) rfl ?_
    refine jw_ic_ge (tgt := 34) dX0_setOver_9 rfl (fun c9 => ?_) (fun c9 => ?_)
    · exact vf_end (fun g => jr_sub [2] rfl g)
    refine jv_aloadn (j := 0) dX0_setOver_12 rfl ?_
    refine hv_getR dX0_setOver_13 fl0_22 (at_CL_0 hp) rfl ?_
    refine jv_iloadn (j := 3) dX0_setOver_16 rfl ?_
    refine hv_ialdC dX0_setOver_17 (at_CL_3 hp) (fun _ => ?_)
    refine jv_iloadn (j := 1) dX0_setOver_18 rfl ?_
    refine jw_ic_ne (tgt := 28) dX0_setOver_19 rfl (fun c19 => ?_) (fun c19 => ?_)
    · refine jv_iloadn (j := 2) dX0_setOver_22 rfl ?_
      refine jv_iconst (v := 1) dX0_setOver_23 (by decide) ?_
      refine jv_iloadn (j := 3) dX0_setOver_24 rfl ?_
      refine jv_ishl dX0_setOver_25 ?_
      refine jv_ior dX0_setOver_26 ?_
      refine vf_letS (fun z5002 => ?_)
      refine jv_istoren (L' := [(2, .int z5002), (0, .ref (V.1 p)), (1, .int x1), (3, .int l3)]) dX0_setOver_27 (Nat.le_of_ble_eq_true rfl) rfl ?_
      refine jv_iinc (j := 3) (v := l3 + 1) (L' := [(3, .int (l3 + 1)), (2, .int z5002), (0, .ref (V.1 p)), (1, .int x1)]) dX0_setOver_28 rfl rfl (Nat.le_of_ble_eq_true rfl) rfl ?_
      refine jv_goto (tgt := 4) dX0_setOver_31 rfl ?_
      exact vf_j (fun g => jr_sub [2, 3, 1, 0] rfl g) (hih z5002 (l3 + 1))
    refine jv_iinc (j := 3) (v := l3 + 1) (L' := [(3, .int (l3 + 1)), (0, .ref (V.1 p)), (1, .int x1), (2, .int l2)]) dX0_setOver_28 rfl rfl (Nat.le_of_ble_eq_true rfl) rfl ?_
    refine jv_goto (tgt := 4) dX0_setOver_31 rfl ?_
    exact vf_j (fun g => jr_sub [1, 2, 3, 0] rfl g) (hih l2 (l3 + 1))
set_option maxHeartbeats 4000000 in
set_option maxRecDepth 100000 in
theorem w_X0_setOver {X : pm_X} {V : pm_V} (p : Nat) (M : pm_M) (x1 : Int32) (hp : at_CL p) : pm_VF (f_X0_setOver p M x1) (pm_K X V mX0_setOver 1 skC) (pm_J X V mX0_setOver 1 (pm_wld V skC M) 0 [(0, .ref (V.1 p)), (1, .int x1)] []) := by
  unfold f_X0_setOver
  refine jv_iconst (v := 0) dX0_setOver_0 (by decide) ?_
  refine jv_istoren (L' := [(2, .int 0), (0, .ref (V.1 p)), (1, .int x1)]) dX0_setOver_1 (Nat.le_of_ble_eq_true rfl) rfl ?_
  refine jv_iconst (v := 0) dX0_setOver_2 (by decide) ?_
  refine jv_istoren (L' := [(3, .int 0), (2, .int 0), (0, .ref (V.1 p)), (1, .int x1)]) dX0_setOver_3 (Nat.le_of_ble_eq_true rfl) rfl ?_
  refine vl_b1 (P := fun (l2 : Int32) => pm_J X V mX0_setOver 1 (pm_wld V skC M) 34 [(2, .int l2)] []) (vf_j (fun g => jr_sub [2, 3, 1, 0] rfl g) (wl_X0_setOver_4 p x1 M hp 0 0)) ?_
  intro l1
  refine jv_iloadn (j := 0) dX0_setOver_34 rfl ?_
  exact vf_ret dX0_setOver_35 rfl
theorem c_X0_setOver {p : Nat} {M : pm_M} {x1 : Int32} (hp : at_CL p) {r : Int32} {M' : pm_M} (h : f_X0_setOver p M x1 = some (r, M')) (l : Launch) (V : pm_V) : pm_Ci l V skC yX0_setOver mX0_setOver 1 [.ref (V.1 p), .int x1] M r M' := pm_metI (by decide) rfl (Nat.le_of_ble_eq_true rfl) h (fun _ => w_X0_setOver p M x1 hp)
def f_X0_daysLeft (p : Nat) (M : pm_M) (x1 : Int32) : Option (Int32 × pm_M) :=
  (pm_b2 (f_X0_lasting p M x1) (fun (r2 : Int32) (M1 : pm_M) => (pm_chk (pm_in x1 5) (some ((pm_max 0 (r2 - (M1 (p + 4) x1.toNatClampNeg))), M1)))))
set_option maxHeartbeats 4000000 in
set_option maxRecDepth 100000 in
theorem w_X0_daysLeft {X : pm_X} {V : pm_V} (p : Nat) (M : pm_M) (x1 : Int32) (hp : at_CL p) : pm_VF (f_X0_daysLeft p M x1) (pm_K X V mX0_daysLeft 2 skC) (pm_J X V mX0_daysLeft 2 (pm_wld V skC M) 0 [(0, .ref (V.1 p)), (1, .int x1)] []) := by
  unfold f_X0_daysLeft
  refine jv_iconst (v := 0) dX0_daysLeft_0 (by decide) ?_
  refine jv_aloadn (j := 0) dX0_daysLeft_1 rfl ?_
  refine jv_iloadn (j := 1) dX0_daysLeft_2 rfl ?_
  refine hv_callI (As := [.int x1]) dX0_daysLeft_3 lk0_41 kX0_lasting nX0_lasting (Nat.le_of_ble_eq_true rfl) (Nat.le_of_ble_eq_true rfl) (at_CL_0 hp) rfl rfl rfl (fun _ _ e l => c_X0_lasting hp e l V) ?_
  intro r2 M1
  refine jv_aloadn (j := 0) dX0_daysLeft_6 rfl ?_
  refine hv_getR dX0_daysLeft_7 fl0_25 (at_CL_0 hp) rfl ?_
  refine jv_iloadn (j := 1) dX0_daysLeft_10 rfl ?_
  refine hv_ialdC dX0_daysLeft_11 (at_CL_4 hp) (fun _ => ?_)
  refine jv_isub dX0_daysLeft_12 ?_
  refine hv_max dX0_daysLeft_13 lk0_49 lkM_max.1 lkM_i lkM_max.2 (Nat.le_of_ble_eq_true rfl) ?_
  exact vf_ret dX0_daysLeft_16 rfl
theorem c_X0_daysLeft {p : Nat} {M : pm_M} {x1 : Int32} (hp : at_CL p) {r : Int32} {M' : pm_M} (h : f_X0_daysLeft p M x1 = some (r, M')) (l : Launch) (V : pm_V) : pm_Ci l V skC yX0_daysLeft mX0_daysLeft 2 [.ref (V.1 p), .int x1] M r M' := pm_metI (by decide) rfl (Nat.le_of_ble_eq_true rfl) h (fun _ => w_X0_daysLeft p M x1 hp)
def lb_X0_weakest_4 (p : Nat) (ih : Int32 → Int32 → pm_M → Option (Int32 × pm_M)) : Int32 → Int32 → pm_M → Option (Int32 × pm_M) := fun (l1 : Int32) (l2 : Int32) (Ml : pm_M) =>
  (if (Ml p 0) ≤ l2 then (some (l1, Ml)) else (pm_b2 (f_X0_daysLeft p Ml l2) (fun (r5003 : Int32) (M5002 : pm_M) => (pm_b2 (f_X0_daysLeft p M5002 l1) (fun (r5005 : Int32) (M5004 : pm_M) => (if r5005 ≤ r5003 then (ih l1 (l2 + 1) M5004) else (ih l2 (l2 + 1) M5004)))))))
def lp_X0_weakest_4 (p : Nat) : Int32 → Int32 → pm_M → Option (Int32 × pm_M) := pm_it (fun _ _ _ => none) (lb_X0_weakest_4 p) pm_F
def f_X0_weakest (p : Nat) (M : pm_M) : Option (Int32 × pm_M) :=
  (pm_b2 (lp_X0_weakest_4 p 0 1 M) (fun (l1 : Int32) (M2 : pm_M) => (some (l1, M2))))
set_option maxHeartbeats 4000000 in
set_option maxRecDepth 100000 in
theorem wl_X0_weakest_4 {X : pm_X} {V : pm_V} (p : Nat) (hp : at_CL p) : ∀ (l1 : Int32) (l2 : Int32) (Ml : pm_M), pm_VF (lp_X0_weakest_4 p l1 l2 Ml) (fun b => (fun (l1 : Int32) (Ml : pm_M) => pm_J X V mX0_weakest 3 (pm_wld V skC Ml) 33 [(1, .int l1)] []) b.1 b.2) (pm_J X V mX0_weakest 3 (pm_wld V skC Ml) 4 [(0, .ref (V.1 p)), (1, .int l1), (2, .int l2)] []) := by
  refine pm_it_ind (P := fun (f : Int32 → Int32 → pm_M → Option (Int32 × pm_M)) => ∀ (l1 : Int32) (l2 : Int32) (Ml : pm_M), pm_VF (f l1 l2 Ml) (fun b => (fun (l1 : Int32) (Ml : pm_M) => pm_J X V mX0_weakest 3 (pm_wld V skC Ml) 33 [(1, .int l1)] []) b.1 b.2) (pm_J X V mX0_weakest 3 (pm_wld V skC Ml) 4 [(0, .ref (V.1 p)), (1, .int l1), (2, .int l2)] [])) (fun _ _ _ => vf_none) (fun ih hih l1 l2 Ml => ?_) pm_F
  · unfold lb_X0_weakest_4
    refine jv_iloadn (j := 2) dX0_weakest_4 rfl ?_
    refine jv_aloadn (j := 0) dX0_weakest_5 rfl ?_
    refine hv_getI dX0_weakest_6 fl0_9 (at_CL_0 hp) rfl ?_
    refine jw_ic_ge (tgt := 33) dX0_weakest_9 rfl (fun c9 => ?_) (fun c9 => ?_)
    · exact vf_end (fun g => jr_sub [1] rfl g)
    refine jv_aloadn (j := 0) dX0_weakest_12 rfl ?_
    refine jv_iloadn (j := 2) dX0_weakest_13 rfl ?_
    refine hv_callI (As := [.int l2]) dX0_weakest_14 lk0_55 kX0_daysLeft nX0_daysLeft (Nat.le_of_ble_eq_true rfl) (Nat.le_of_ble_eq_true rfl) (at_CL_0 hp) rfl rfl rfl (fun _ _ e l => c_X0_daysLeft hp e l V) ?_
    intro r5003 M5002
    refine jv_aloadn (j := 0) dX0_weakest_17 rfl ?_
    refine jv_iloadn (j := 1) dX0_weakest_18 rfl ?_
    refine hv_callI (As := [.int l1]) dX0_weakest_19 lk0_55 kX0_daysLeft nX0_daysLeft (Nat.le_of_ble_eq_true rfl) (Nat.le_of_ble_eq_true rfl) (at_CL_0 hp) rfl rfl rfl (fun _ _ e l => c_X0_daysLeft hp e l V) ?_
    intro r5005 M5004
    refine jw_ic_ge (tgt := 27) dX0_weakest_22 rfl (fun c22 => ?_) (fun c22 => ?_)
    · refine jv_iinc (j := 2) (v := l2 + 1) (L' := [(2, .int (l2 + 1)), (0, .ref (V.1 p)), (1, .int l1)]) dX0_weakest_27 rfl rfl (Nat.le_of_ble_eq_true rfl) rfl ?_
      refine jv_goto (tgt := 4) dX0_weakest_30 rfl ?_
      exact vf_j (fun g => jr_sub [1, 2, 0] rfl g) (hih l1 (l2 + 1) M5004)
    refine jv_iloadn (j := 2) dX0_weakest_25 rfl ?_
    refine jv_istoren (L' := [(1, .int l2), (0, .ref (V.1 p)), (2, .int l2)]) dX0_weakest_26 (Nat.le_of_ble_eq_true rfl) rfl ?_
    refine jv_iinc (j := 2) (v := l2 + 1) (L' := [(2, .int (l2 + 1)), (1, .int l2), (0, .ref (V.1 p))]) dX0_weakest_27 rfl rfl (Nat.le_of_ble_eq_true rfl) rfl ?_
    refine jv_goto (tgt := 4) dX0_weakest_30 rfl ?_
    exact vf_j (fun g => jr_sub [2, 1, 0] rfl g) (hih l2 (l2 + 1) M5004)
set_option maxHeartbeats 4000000 in
set_option maxRecDepth 100000 in
theorem w_X0_weakest {X : pm_X} {V : pm_V} (p : Nat) (M : pm_M) (hp : at_CL p) : pm_VF (f_X0_weakest p M) (pm_K X V mX0_weakest 3 skC) (pm_J X V mX0_weakest 3 (pm_wld V skC M) 0 [(0, .ref (V.1 p))] []) := by
  unfold f_X0_weakest
  refine jv_iconst (v := 0) dX0_weakest_0 (by decide) ?_
  refine jv_istoren (L' := [(1, .int 0), (0, .ref (V.1 p))]) dX0_weakest_1 (Nat.le_of_ble_eq_true rfl) rfl ?_
  refine jv_iconst (v := 1) dX0_weakest_2 (by decide) ?_
  refine jv_istoren (L' := [(2, .int 1), (1, .int 0), (0, .ref (V.1 p))]) dX0_weakest_3 (Nat.le_of_ble_eq_true rfl) rfl ?_
  refine vl_b2 (P := fun (l1 : Int32) (Ml : pm_M) => pm_J X V mX0_weakest 3 (pm_wld V skC Ml) 33 [(1, .int l1)] []) (vf_j (fun g => jr_sub [2, 1, 0] rfl g) (wl_X0_weakest_4 p hp 0 1 M)) ?_
  intro l1 M2
  refine jv_iloadn (j := 0) dX0_weakest_33 rfl ?_
  exact vf_ret dX0_weakest_34 rfl
theorem c_X0_weakest {p : Nat} {M : pm_M} (hp : at_CL p) {r : Int32} {M' : pm_M} (h : f_X0_weakest p M = some (r, M')) (l : Launch) (V : pm_V) : pm_Ci l V skC yX0_weakest mX0_weakest 3 [.ref (V.1 p)] M r M' := pm_metI (by decide) rfl (Nat.le_of_ble_eq_true rfl) h (fun _ => w_X0_weakest p M hp)
def f_X1_take (p : Nat) (M : pm_M) (a1 : Nat) (x2 : Int32) : Option pm_M :=
  (pm_let (pm_cpy M a1 (0 : Int32).toNatClampNeg (p + 1) (0 : Int32).toNatClampNeg (50 : Int32).toNatClampNeg) (fun M1 : pm_M => (pm_let (pm_up M1 p 3 x2) (fun M2 : pm_M => (some M2)))))
set_option maxHeartbeats 4000000 in
set_option maxRecDepth 100000 in
theorem w_X1_take {X : pm_X} {V : pm_V} (p : Nat) (M : pm_M) (a1 : Nat) (x2 : Int32) (hp : at_LW p) (h1a : skC[a1]? = some (.inl (0, 50) : pm_Sh)) : pm_VF (f_X1_take p M a1 x2) (pm_Kv X V mX1_take 1 skC) (pm_J X V mX1_take 1 (pm_wld V skC M) 0 [(0, .ref (V.1 p)), (1, .ref (V.1 a1)), (2, .int x2)] []) := by
  unfold f_X1_take
  refine jv_aloadn (j := 1) dX1_take_0 rfl ?_
  refine jv_iconst (v := 0) dX1_take_1 (by decide) ?_
  refine jv_aloadn (j := 0) dX1_take_2 rfl ?_
  refine hv_getR dX1_take_3 fl1_9 (at_LW_0 hp) rfl ?_
  refine jv_iconst (v := 0) dX1_take_6 (by decide) ?_
  refine jv_bipush (v := 50) dX1_take_7 (by decide) ?_
  refine hv_copy dX1_take_9 lk1_28 lkS_n lkS_s lkS_i (Nat.le_of_ble_eq_true rfl) h1a (at_LW_1 hp) (by decide) ?_
  refine vf_letM (fun M1 => ?_)
  refine jv_aloadn (j := 0) dX1_take_12 rfl ?_
  refine jv_iloadn (j := 2) dX1_take_13 rfl ?_
  refine hv_put dX1_take_14 fp1_15 (at_LW_0 hp) rfl rfl rfl ?_
  refine vf_letM (fun M2 => ?_)
  exact vf_vret dX1_take_17
theorem c_X1_take {p : Nat} {M : pm_M} {a1 : Nat} {x2 : Int32} (hp : at_LW p) (h1a : skC[a1]? = some (.inl (0, 50) : pm_Sh)) {M' : pm_M} (h : f_X1_take p M a1 x2 = some M') (l : Launch) (V : pm_V) : pm_Cv l V skC yX1_take mX1_take 1 [.ref (V.1 p), .ref (V.1 a1), .int x2] M M' := pm_metV (by decide) rfl (Nat.le_of_ble_eq_true rfl) rfl h (fun _ => w_X1_take p M a1 x2 hp h1a)
def f_X1_join (M : pm_M) (x1 : Int32) (x2 : Int32) (x3 : Int32) : Option (Int32 × pm_M) :=
  (if x1 = 37 then (if x3 = 0 then (some (0, M)) else (pm_chk (pm_nz x3) (some ((pm_rem x2 x3), M)))) else if x1 = 38 then (if x2 = 0 then (some (0, M)) else (if x3 = 0 then (some (0, M)) else (some (1, M)))) else if x1 = 42 then (some ((x2 * x3), M)) else if x1 = 43 then (some ((x2 + x3), M)) else if x1 = 45 then (some ((x2 - x3), M)) else if x1 = 47 then (if x3 = 0 then (some (0, M)) else (pm_chk (pm_nz x3) (some ((x2 / x3), M)))) else if x1 = 60 then (if x3 ≤ x2 then (some (0, M)) else (some (1, M))) else if x1 = 61 then (if x2 = x3 then (some (1, M)) else (some (0, M))) else if x1 = 62 then (if x2 ≤ x3 then (some (0, M)) else (some (1, M))) else if x1 = 124 then (if x2 = 0 then (if x3 = 0 then (some (0, M)) else (some (1, M))) else (some (1, M))) else (some (0, M)))
set_option maxHeartbeats 4000000 in
set_option maxRecDepth 100000 in
theorem w_X1_join {X : pm_X} {V : pm_V} (M : pm_M) (x1 : Int32) (x2 : Int32) (x3 : Int32)  : pm_VF (f_X1_join M x1 x2 x3) (pm_K X V mX1_join 1 skC) (pm_J X V mX1_join 1 (pm_wld V skC M) 0 [(0, .int x1), (1, .int x2), (2, .int x3)] []) := by
  unfold f_X1_join
  refine jv_iloadn (j := 0) dX1_join_0 rfl ?_
  refine vf_case (fun c1_0 => ?_) (fun c1_0 => ?_)
  · refine jv_lin (v := 37) (tgt := 177) dX1_join_1 c1_0 (by decide) rfl rfl ?_
    refine jv_iloadn (j := 2) dX1_join_177 rfl ?_
    refine jw_if_ne (tgt := 185) dX1_join_178 rfl (fun c178 => ?_) (fun c178 => ?_)
    · refine jv_iconst (v := 0) dX1_join_181 (by decide) ?_
      refine jv_goto (tgt := 188) dX1_join_182 rfl ?_
      exact vf_ret dX1_join_188 rfl
    refine jv_iloadn (j := 1) dX1_join_185 rfl ?_
    refine jv_iloadn (j := 2) dX1_join_186 rfl ?_
    refine jv_iremC dX1_join_187 ?_
    exact vf_ret dX1_join_188 rfl
  refine vf_case (fun c1_1 => ?_) (fun c1_1 => ?_)
  · refine jv_lin (v := 38) (tgt := 106) dX1_join_1 c1_1 (by decide) rfl rfl ?_
    refine jv_iloadn (j := 1) dX1_join_106 rfl ?_
    refine jw_if_eq (tgt := 118) dX1_join_107 rfl (fun c107 => ?_) (fun c107 => ?_)
    · refine jv_iconst (v := 0) dX1_join_118 (by decide) ?_
      exact vf_ret dX1_join_119 rfl
    refine jv_iloadn (j := 2) dX1_join_110 rfl ?_
    refine jw_if_eq (tgt := 118) dX1_join_111 rfl (fun c111 => ?_) (fun c111 => ?_)
    · refine jv_iconst (v := 0) dX1_join_118 (by decide) ?_
      exact vf_ret dX1_join_119 rfl
    refine jv_iconst (v := 1) dX1_join_114 (by decide) ?_
    refine jv_goto (tgt := 119) dX1_join_115 rfl ?_
    exact vf_ret dX1_join_119 rfl
  refine vf_case (fun c1_2 => ?_) (fun c1_2 => ?_)
  · refine jv_lin (v := 42) (tgt := 161) dX1_join_1 c1_2 (by decide) rfl rfl ?_
    refine jv_iloadn (j := 1) dX1_join_161 rfl ?_
    refine jv_iloadn (j := 2) dX1_join_162 rfl ?_
    refine jv_imul dX1_join_163 ?_
    exact vf_ret dX1_join_164 rfl
  refine vf_case (fun c1_3 => ?_) (fun c1_3 => ?_)
  · refine jv_lin (v := 43) (tgt := 153) dX1_join_1 c1_3 (by decide) rfl rfl ?_
    refine jv_iloadn (j := 1) dX1_join_153 rfl ?_
    refine jv_iloadn (j := 2) dX1_join_154 rfl ?_
    refine jv_iadd dX1_join_155 ?_
    exact vf_ret dX1_join_156 rfl
  refine vf_case (fun c1_4 => ?_) (fun c1_4 => ?_)
  · refine jv_lin (v := 45) (tgt := 157) dX1_join_1 c1_4 (by decide) rfl rfl ?_
    refine jv_iloadn (j := 1) dX1_join_157 rfl ?_
    refine jv_iloadn (j := 2) dX1_join_158 rfl ?_
    refine jv_isub dX1_join_159 ?_
    exact vf_ret dX1_join_160 rfl
  refine vf_case (fun c1_5 => ?_) (fun c1_5 => ?_)
  · refine jv_lin (v := 47) (tgt := 165) dX1_join_1 c1_5 (by decide) rfl rfl ?_
    refine jv_iloadn (j := 2) dX1_join_165 rfl ?_
    refine jw_if_ne (tgt := 173) dX1_join_166 rfl (fun c166 => ?_) (fun c166 => ?_)
    · refine jv_iconst (v := 0) dX1_join_169 (by decide) ?_
      refine jv_goto (tgt := 176) dX1_join_170 rfl ?_
      exact vf_ret dX1_join_176 rfl
    refine jv_iloadn (j := 1) dX1_join_173 rfl ?_
    refine jv_iloadn (j := 2) dX1_join_174 rfl ?_
    refine jv_idivC dX1_join_175 ?_
    exact vf_ret dX1_join_176 rfl
  refine vf_case (fun c1_6 => ?_) (fun c1_6 => ?_)
  · refine jv_lin (v := 60) (tgt := 120) dX1_join_1 c1_6 (by decide) rfl rfl ?_
    refine jv_iloadn (j := 1) dX1_join_120 rfl ?_
    refine jv_iloadn (j := 2) dX1_join_121 rfl ?_
    refine jw_ic_ge (tgt := 129) dX1_join_122 rfl (fun c122 => ?_) (fun c122 => ?_)
    · refine jv_iconst (v := 0) dX1_join_129 (by decide) ?_
      exact vf_ret dX1_join_130 rfl
    refine jv_iconst (v := 1) dX1_join_125 (by decide) ?_
    refine jv_goto (tgt := 130) dX1_join_126 rfl ?_
    exact vf_ret dX1_join_130 rfl
  refine vf_case (fun c1_7 => ?_) (fun c1_7 => ?_)
  · refine jv_lin (v := 61) (tgt := 131) dX1_join_1 c1_7 (by decide) rfl rfl ?_
    refine jv_iloadn (j := 1) dX1_join_131 rfl ?_
    refine jv_iloadn (j := 2) dX1_join_132 rfl ?_
    refine jw_ic_ne (tgt := 140) dX1_join_133 rfl (fun c133 => ?_) (fun c133 => ?_)
    · refine jv_iconst (v := 1) dX1_join_136 (by decide) ?_
      refine jv_goto (tgt := 141) dX1_join_137 rfl ?_
      exact vf_ret dX1_join_141 rfl
    refine jv_iconst (v := 0) dX1_join_140 (by decide) ?_
    exact vf_ret dX1_join_141 rfl
  refine vf_case (fun c1_8 => ?_) (fun c1_8 => ?_)
  · refine jv_lin (v := 62) (tgt := 142) dX1_join_1 c1_8 (by decide) rfl rfl ?_
    refine jv_iloadn (j := 1) dX1_join_142 rfl ?_
    refine jv_iloadn (j := 2) dX1_join_143 rfl ?_
    refine jw_ic_le (tgt := 151) dX1_join_144 rfl (fun c144 => ?_) (fun c144 => ?_)
    · refine jv_iconst (v := 0) dX1_join_151 (by decide) ?_
      exact vf_ret dX1_join_152 rfl
    refine jv_iconst (v := 1) dX1_join_147 (by decide) ?_
    refine jv_goto (tgt := 152) dX1_join_148 rfl ?_
    exact vf_ret dX1_join_152 rfl
  refine vf_case (fun c1_9 => ?_) (fun c1_9 => ?_)
  · refine jv_lin (v := 124) (tgt := 92) dX1_join_1 c1_9 (by decide) rfl rfl ?_
    refine jv_iloadn (j := 1) dX1_join_92 rfl ?_
    refine jw_if_ne (tgt := 100) dX1_join_93 rfl (fun c93 => ?_) (fun c93 => ?_)
    · refine jv_iloadn (j := 2) dX1_join_96 rfl ?_
      refine jw_if_eq (tgt := 104) dX1_join_97 rfl (fun c97 => ?_) (fun c97 => ?_)
      · refine jv_iconst (v := 0) dX1_join_104 (by decide) ?_
        exact vf_ret dX1_join_105 rfl
      refine jv_iconst (v := 1) dX1_join_100 (by decide) ?_
      refine jv_goto (tgt := 105) dX1_join_101 rfl ?_
      exact vf_ret dX1_join_105 rfl
    refine jv_iconst (v := 1) dX1_join_100 (by decide) ?_
    refine jv_goto (tgt := 105) dX1_join_101 rfl ?_
    exact vf_ret dX1_join_105 rfl
  refine jw_lout (tgt := 189) [37, 38, 42, 43, 45, 47, 60, 61, 62, 124] dX1_join_1 rfl rfl rfl (pm_n1 c1_0 (pm_n1 c1_1 (pm_n1 c1_2 (pm_n1 c1_3 (pm_n1 c1_4 (pm_n1 c1_5 (pm_n1 c1_6 (pm_n1 c1_7 (pm_n1 c1_8 (pm_n1 c1_9 pm_n0)))))))))) ?_
  refine jv_iconst (v := 0) dX1_join_189 (by decide) ?_
  exact vf_ret dX1_join_190 rfl
theorem c_X1_join {M : pm_M} {x1 : Int32} {x2 : Int32} {x3 : Int32}  {r : Int32} {M' : pm_M} (h : f_X1_join M x1 x2 x3 = some (r, M')) (l : Launch) (V : pm_V) : pm_Ci l V skC yX1_join mX1_join 1 [.int x1, .int x2, .int x3] M r M' := pm_metI (by decide) rfl (Nat.le_of_ble_eq_true rfl) h (fun _ => w_X1_join M x1 x2 x3 )
def lb_X1_given_18 (p : Nat) (x1 : Int32) (x2 : Int32) (x3 : Int32) (ih : Int32 → Int32 → pm_M → Option (pm_M)) : Int32 → Int32 → pm_M → Option (pm_M) := fun (l4 : Int32) (l5 : Int32) (Ml : pm_M) =>
  (if (Ml p 3) ≤ l5 then (some Ml) else (pm_chk (pm_in l5 50) (pm_let (Ml (p + 1) l5.toNatClampNeg) (fun z19002 : Int32 => (if z19002 = (-33) then (if l4 < 1 then (if (-3) ≤ z19002 then (if 50 ≤ l4 then (ih l4 (l5 + 1) Ml) else (if z19002 < 0 then (if z19002 = (-1) then (pm_chk (pm_in l4 50) (pm_let (pm_up Ml (p + 2) l4.toNatClampNeg x1) (fun M19003 : pm_M => (ih (l4 + 1) (l5 + 1) M19003)))) else (if z19002 = (-2) then (pm_chk (pm_in l4 50) (pm_let (pm_up Ml (p + 2) l4.toNatClampNeg x2) (fun M19004 : pm_M => (ih (l4 + 1) (l5 + 1) M19004)))) else (pm_chk (pm_in l4 50) (pm_let (pm_up Ml (p + 2) l4.toNatClampNeg x3) (fun M19005 : pm_M => (ih (l4 + 1) (l5 + 1) M19005)))))) else (pm_chk (pm_in l4 50) (pm_let (pm_up Ml (p + 2) l4.toNatClampNeg z19002) (fun M19006 : pm_M => (ih (l4 + 1) (l5 + 1) M19006)))))) else (if l4 < 2 then (if 50 ≤ l4 then (ih l4 (l5 + 1) Ml) else (if z19002 < 0 then (if z19002 = (-1) then (pm_chk (pm_in l4 50) (pm_let (pm_up Ml (p + 2) l4.toNatClampNeg x1) (fun M19007 : pm_M => (ih (l4 + 1) (l5 + 1) M19007)))) else (if z19002 = (-2) then (pm_chk (pm_in l4 50) (pm_let (pm_up Ml (p + 2) l4.toNatClampNeg x2) (fun M19008 : pm_M => (ih (l4 + 1) (l5 + 1) M19008)))) else (pm_chk (pm_in l4 50) (pm_let (pm_up Ml (p + 2) l4.toNatClampNeg x3) (fun M19009 : pm_M => (ih (l4 + 1) (l5 + 1) M19009)))))) else (pm_chk (pm_in l4 50) (pm_let (pm_up Ml (p + 2) l4.toNatClampNeg z19002) (fun M19010 : pm_M => (ih (l4 + 1) (l5 + 1) M19010)))))) else (pm_chk (pm_in ((l4 + (-1)) - 1) 50) (pm_chk (pm_in (l4 + (-1)) 50) (pm_b2 (f_X1_join Ml (-z19002) (Ml (p + 2) ((l4 + (-1)) - 1).toNatClampNeg) (Ml (p + 2) (l4 + (-1)).toNatClampNeg)) (fun (r19012 : Int32) (M19011 : pm_M) => (pm_chk (pm_in ((l4 + (-1)) - 1) 50) (pm_let (pm_up M19011 (p + 2) ((l4 + (-1)) - 1).toNatClampNeg r19012) (fun M19013 : pm_M => (ih (l4 + (-1)) (l5 + 1) M19013)))))))))) else (pm_chk (pm_in (l4 - 1) 50) (if (Ml (p + 2) (l4 - 1).toNatClampNeg) = 0 then (pm_chk (pm_in (l4 - 1) 50) (pm_let (pm_up Ml (p + 2) (l4 - 1).toNatClampNeg 1) (fun M19014 : pm_M => (ih l4 (l5 + 1) M19014)))) else (pm_chk (pm_in (l4 - 1) 50) (pm_let (pm_up Ml (p + 2) (l4 - 1).toNatClampNeg 0) (fun M19015 : pm_M => (ih l4 (l5 + 1) M19015))))))) else (if (-3) ≤ z19002 then (if 50 ≤ l4 then (ih l4 (l5 + 1) Ml) else (if z19002 < 0 then (if z19002 = (-1) then (pm_chk (pm_in l4 50) (pm_let (pm_up Ml (p + 2) l4.toNatClampNeg x1) (fun M19016 : pm_M => (ih (l4 + 1) (l5 + 1) M19016)))) else (if z19002 = (-2) then (pm_chk (pm_in l4 50) (pm_let (pm_up Ml (p + 2) l4.toNatClampNeg x2) (fun M19017 : pm_M => (ih (l4 + 1) (l5 + 1) M19017)))) else (pm_chk (pm_in l4 50) (pm_let (pm_up Ml (p + 2) l4.toNatClampNeg x3) (fun M19018 : pm_M => (ih (l4 + 1) (l5 + 1) M19018)))))) else (pm_chk (pm_in l4 50) (pm_let (pm_up Ml (p + 2) l4.toNatClampNeg z19002) (fun M19019 : pm_M => (ih (l4 + 1) (l5 + 1) M19019)))))) else (if l4 < 2 then (if 50 ≤ l4 then (ih l4 (l5 + 1) Ml) else (if z19002 < 0 then (if z19002 = (-1) then (pm_chk (pm_in l4 50) (pm_let (pm_up Ml (p + 2) l4.toNatClampNeg x1) (fun M19020 : pm_M => (ih (l4 + 1) (l5 + 1) M19020)))) else (if z19002 = (-2) then (pm_chk (pm_in l4 50) (pm_let (pm_up Ml (p + 2) l4.toNatClampNeg x2) (fun M19021 : pm_M => (ih (l4 + 1) (l5 + 1) M19021)))) else (pm_chk (pm_in l4 50) (pm_let (pm_up Ml (p + 2) l4.toNatClampNeg x3) (fun M19022 : pm_M => (ih (l4 + 1) (l5 + 1) M19022)))))) else (pm_chk (pm_in l4 50) (pm_let (pm_up Ml (p + 2) l4.toNatClampNeg z19002) (fun M19023 : pm_M => (ih (l4 + 1) (l5 + 1) M19023)))))) else (pm_chk (pm_in ((l4 + (-1)) - 1) 50) (pm_chk (pm_in (l4 + (-1)) 50) (pm_b2 (f_X1_join Ml (-z19002) (Ml (p + 2) ((l4 + (-1)) - 1).toNatClampNeg) (Ml (p + 2) (l4 + (-1)).toNatClampNeg)) (fun (r19025 : Int32) (M19024 : pm_M) => (pm_chk (pm_in ((l4 + (-1)) - 1) 50) (pm_let (pm_up M19024 (p + 2) ((l4 + (-1)) - 1).toNatClampNeg r19025) (fun M19026 : pm_M => (ih (l4 + (-1)) (l5 + 1) M19026)))))))))))))))
def lp_X1_given_18 (p : Nat) (x1 : Int32) (x2 : Int32) (x3 : Int32) : Int32 → Int32 → pm_M → Option (pm_M) := pm_it (fun _ _ _ => none) (lb_X1_given_18 p x1 x2 x3) pm_F
def f_X1_given (p : Nat) (M : pm_M) (x1 : Int32) (x2 : Int32) (x3 : Int32) : Option (Int32 × pm_M) :=
  (if (M p 3) = 0 then (some ((M p 0), M)) else (pm_b1 (lp_X1_given_18 p x1 x2 x3 0 0 M) (fun (M1 : pm_M) => (some ((pm_max 0 (pm_min (M1 p 1) (M1 (p + 2) (0 : Int32).toNatClampNeg))), M1)))))
set_option maxHeartbeats 4000000 in
set_option maxRecDepth 100000 in
theorem wl_X1_given_18 {X : pm_X} {V : pm_V} (p : Nat) (x1 : Int32) (x2 : Int32) (x3 : Int32) (hp : at_LW p) : ∀ (l4 : Int32) (l5 : Int32) (Ml : pm_M), pm_VF (lp_X1_given_18 p x1 x2 x3 l4 l5 Ml) (fun b => (fun (Ml : pm_M) => pm_J X V mX1_given 2 (pm_wld V skC Ml) 183 [(0, .ref (V.1 p))] []) b) (pm_J X V mX1_given 2 (pm_wld V skC Ml) 18 [(0, .ref (V.1 p)), (1, .int x1), (2, .int x2), (3, .int x3), (4, .int l4), (5, .int l5)] []) := by
  refine pm_it_ind (P := fun (f : Int32 → Int32 → pm_M → Option (pm_M)) => ∀ (l4 : Int32) (l5 : Int32) (Ml : pm_M), pm_VF (f l4 l5 Ml) (fun b => (fun (Ml : pm_M) => pm_J X V mX1_given 2 (pm_wld V skC Ml) 183 [(0, .ref (V.1 p))] []) b) (pm_J X V mX1_given 2 (pm_wld V skC Ml) 18 [(0, .ref (V.1 p)), (1, .int x1), (2, .int x2), (3, .int x3), (4, .int l4), (5, .int l5)] [])) (fun _ _ _ => vf_none) (fun ih hih l4 l5 Ml => ?_) pm_F
  · unfold lb_X1_given_18
    refine jv_iload (j := 5) dX1_given_18 rfl ?_
    refine jv_aloadn (j := 0) dX1_given_20 rfl ?_
    refine hv_getI dX1_given_21 fl1_15 (at_LW_0 hp) rfl ?_
    refine jw_ic_ge (tgt := 183) dX1_given_24 rfl (fun c24 => ?_) (fun c24 => ?_)
    · exact vf_end (fun g => jr_sub [0] rfl g)
    refine jv_aloadn (j := 0) dX1_given_27 rfl ?_
    refine hv_getR dX1_given_28 fl1_9 (at_LW_0 hp) rfl ?_
    refine jv_iload (j := 5) dX1_given_31 rfl ?_
    refine hv_ialdC dX1_given_33 (at_LW_1 hp) (fun _ => ?_)
    refine vf_letS (fun z19002 => ?_)
    refine jv_istore (L' := [(6, .int z19002), (0, .ref (V.1 p)), (1, .int x1), (2, .int x2), (3, .int x3), (4, .int l4), (5, .int l5)]) dX1_given_34 (Nat.le_of_ble_eq_true rfl) rfl ?_
    refine jv_iload (j := 0) dX1_given_36 rfl ?_
    refine jv_bipush (v := -33) dX1_given_38 (by decide) ?_
    refine jw_ic_ne (tgt := 78) dX1_given_40 rfl (fun c40 => ?_) (fun c40 => ?_)
    · refine jv_iload (j := 5) dX1_given_43 rfl ?_
      refine jv_iconst (v := 1) dX1_given_45 (by decide) ?_
      refine jw_ic_lt (tgt := 78) dX1_given_46 rfl (fun c46 => ?_) (fun c46 => ?_)
      · refine jv_iload (j := 0) dX1_given_78 rfl ?_
        refine jv_bipush (v := -3) dX1_given_80 (by decide) ?_
        refine jw_ic_ge (tgt := 128) dX1_given_82 rfl (fun c82 => ?_) (fun c82 => ?_)
        · refine jv_iload (j := 5) dX1_given_128 rfl ?_
          refine jv_bipush (v := 50) dX1_given_130 (by decide) ?_
          refine jw_ic_ge (tgt := 177) dX1_given_132 rfl (fun c132 => ?_) (fun c132 => ?_)
          · refine jv_iinc (j := 6) (v := l5 + 1) (L' := [(5, .int (l5 + 1)), (6, .int z19002), (0, .ref (V.1 p)), (1, .int x1), (2, .int x2), (3, .int x3), (4, .int l4)]) dX1_given_177 rfl rfl (Nat.le_of_ble_eq_true rfl) rfl ?_
            refine jv_goto (tgt := 18) dX1_given_180 rfl ?_
            exact vf_j (fun g => jr_sub [2, 3, 4, 5, 6, 0] rfl g) (hih l4 (l5 + 1) Ml)
          refine jv_aloadn (j := 1) dX1_given_135 rfl ?_
          refine hv_getR dX1_given_136 fl1_19 (at_LW_0 hp) rfl ?_
          refine jv_iload (j := 5) dX1_given_139 rfl ?_
          refine jv_iload (j := 0) dX1_given_141 rfl ?_
          refine jw_if_lt (tgt := 151) dX1_given_143 rfl (fun c143 => ?_) (fun c143 => ?_)
          · refine jv_iload (j := 0) dX1_given_151 rfl ?_
            refine jv_iconst (v := -1) dX1_given_153 (by decide) ?_
            refine jw_ic_ne (tgt := 161) dX1_given_154 rfl (fun c154 => ?_) (fun c154 => ?_)
            · refine jv_iloadn (j := 2) dX1_given_157 rfl ?_
              refine jv_goto (tgt := 173) dX1_given_158 rfl ?_
              refine hv_iastC dX1_given_173 (at_LW_2 hp) (fun _ => ?_)
              refine vf_letM (fun M19003 => ?_)
              refine jv_iinc (j := 5) (v := l4 + 1) (L' := [(4, .int (l4 + 1)), (6, .int z19002), (0, .ref (V.1 p)), (1, .int x1), (2, .int x2), (3, .int x3), (5, .int l5)]) dX1_given_174 rfl rfl (Nat.le_of_ble_eq_true rfl) rfl ?_
              refine jv_iinc (j := 6) (v := l5 + 1) (L' := [(5, .int (l5 + 1)), (4, .int (l4 + 1)), (6, .int z19002), (0, .ref (V.1 p)), (1, .int x1), (2, .int x2), (3, .int x3)]) dX1_given_177 rfl rfl (Nat.le_of_ble_eq_true rfl) rfl ?_
              refine jv_goto (tgt := 18) dX1_given_180 rfl ?_
              exact vf_j (fun g => jr_sub [3, 4, 5, 6, 1, 0] rfl g) (hih (l4 + 1) (l5 + 1) M19003)
            refine jv_iload (j := 0) dX1_given_161 rfl ?_
            refine jv_bipush (v := -2) dX1_given_163 (by decide) ?_
            refine jw_ic_ne (tgt := 172) dX1_given_165 rfl (fun c165 => ?_) (fun c165 => ?_)
            · refine jv_iloadn (j := 3) dX1_given_168 rfl ?_
              refine jv_goto (tgt := 173) dX1_given_169 rfl ?_
              refine hv_iastC dX1_given_173 (at_LW_2 hp) (fun _ => ?_)
              refine vf_letM (fun M19004 => ?_)
              refine jv_iinc (j := 5) (v := l4 + 1) (L' := [(4, .int (l4 + 1)), (6, .int z19002), (0, .ref (V.1 p)), (1, .int x1), (2, .int x2), (3, .int x3), (5, .int l5)]) dX1_given_174 rfl rfl (Nat.le_of_ble_eq_true rfl) rfl ?_
              refine jv_iinc (j := 6) (v := l5 + 1) (L' := [(5, .int (l5 + 1)), (4, .int (l4 + 1)), (6, .int z19002), (0, .ref (V.1 p)), (1, .int x1), (2, .int x2), (3, .int x3)]) dX1_given_177 rfl rfl (Nat.le_of_ble_eq_true rfl) rfl ?_
              refine jv_goto (tgt := 18) dX1_given_180 rfl ?_
              exact vf_j (fun g => jr_sub [3, 4, 5, 6, 1, 0] rfl g) (hih (l4 + 1) (l5 + 1) M19004)
            refine jv_iloadn (j := 4) dX1_given_172 rfl ?_
            refine hv_iastC dX1_given_173 (at_LW_2 hp) (fun _ => ?_)
            refine vf_letM (fun M19005 => ?_)
            refine jv_iinc (j := 5) (v := l4 + 1) (L' := [(4, .int (l4 + 1)), (6, .int z19002), (0, .ref (V.1 p)), (1, .int x1), (2, .int x2), (3, .int x3), (5, .int l5)]) dX1_given_174 rfl rfl (Nat.le_of_ble_eq_true rfl) rfl ?_
            refine jv_iinc (j := 6) (v := l5 + 1) (L' := [(5, .int (l5 + 1)), (4, .int (l4 + 1)), (6, .int z19002), (0, .ref (V.1 p)), (1, .int x1), (2, .int x2), (3, .int x3)]) dX1_given_177 rfl rfl (Nat.le_of_ble_eq_true rfl) rfl ?_
            refine jv_goto (tgt := 18) dX1_given_180 rfl ?_
            exact vf_j (fun g => jr_sub [3, 4, 5, 6, 1, 0] rfl g) (hih (l4 + 1) (l5 + 1) M19005)
          refine jv_iload (j := 0) dX1_given_146 rfl ?_
          refine jv_goto (tgt := 173) dX1_given_148 rfl ?_
          refine hv_iastC dX1_given_173 (at_LW_2 hp) (fun _ => ?_)
          refine vf_letM (fun M19006 => ?_)
          refine jv_iinc (j := 5) (v := l4 + 1) (L' := [(4, .int (l4 + 1)), (6, .int z19002), (0, .ref (V.1 p)), (1, .int x1), (2, .int x2), (3, .int x3), (5, .int l5)]) dX1_given_174 rfl rfl (Nat.le_of_ble_eq_true rfl) rfl ?_
          refine jv_iinc (j := 6) (v := l5 + 1) (L' := [(5, .int (l5 + 1)), (4, .int (l4 + 1)), (6, .int z19002), (0, .ref (V.1 p)), (1, .int x1), (2, .int x2), (3, .int x3)]) dX1_given_177 rfl rfl (Nat.le_of_ble_eq_true rfl) rfl ?_
          refine jv_goto (tgt := 18) dX1_given_180 rfl ?_
          exact vf_j (fun g => jr_sub [3, 4, 5, 6, 1, 0] rfl g) (hih (l4 + 1) (l5 + 1) M19006)
        refine jv_iload (j := 5) dX1_given_85 rfl ?_
        refine jv_iconst (v := 2) dX1_given_87 (by decide) ?_
        refine jw_ic_lt (tgt := 128) dX1_given_88 rfl (fun c88 => ?_) (fun c88 => ?_)
        · refine jv_iload (j := 5) dX1_given_128 rfl ?_
          refine jv_bipush (v := 50) dX1_given_130 (by decide) ?_
          refine jw_ic_ge (tgt := 177) dX1_given_132 rfl (fun c132 => ?_) (fun c132 => ?_)
          · refine jv_iinc (j := 6) (v := l5 + 1) (L' := [(5, .int (l5 + 1)), (6, .int z19002), (0, .ref (V.1 p)), (1, .int x1), (2, .int x2), (3, .int x3), (4, .int l4)]) dX1_given_177 rfl rfl (Nat.le_of_ble_eq_true rfl) rfl ?_
            refine jv_goto (tgt := 18) dX1_given_180 rfl ?_
            exact vf_j (fun g => jr_sub [2, 3, 4, 5, 6, 0] rfl g) (hih l4 (l5 + 1) Ml)
          refine jv_aloadn (j := 1) dX1_given_135 rfl ?_
          refine hv_getR dX1_given_136 fl1_19 (at_LW_0 hp) rfl ?_
          refine jv_iload (j := 5) dX1_given_139 rfl ?_
          refine jv_iload (j := 0) dX1_given_141 rfl ?_
          refine jw_if_lt (tgt := 151) dX1_given_143 rfl (fun c143 => ?_) (fun c143 => ?_)
          · refine jv_iload (j := 0) dX1_given_151 rfl ?_
            refine jv_iconst (v := -1) dX1_given_153 (by decide) ?_
            refine jw_ic_ne (tgt := 161) dX1_given_154 rfl (fun c154 => ?_) (fun c154 => ?_)
            · refine jv_iloadn (j := 2) dX1_given_157 rfl ?_
              refine jv_goto (tgt := 173) dX1_given_158 rfl ?_
              refine hv_iastC dX1_given_173 (at_LW_2 hp) (fun _ => ?_)
              refine vf_letM (fun M19007 => ?_)
              refine jv_iinc (j := 5) (v := l4 + 1) (L' := [(4, .int (l4 + 1)), (6, .int z19002), (0, .ref (V.1 p)), (1, .int x1), (2, .int x2), (3, .int x3), (5, .int l5)]) dX1_given_174 rfl rfl (Nat.le_of_ble_eq_true rfl) rfl ?_
              refine jv_iinc (j := 6) (v := l5 + 1) (L' := [(5, .int (l5 + 1)), (4, .int (l4 + 1)), (6, .int z19002), (0, .ref (V.1 p)), (1, .int x1), (2, .int x2), (3, .int x3)]) dX1_given_177 rfl rfl (Nat.le_of_ble_eq_true rfl) rfl ?_
              refine jv_goto (tgt := 18) dX1_given_180 rfl ?_
              exact vf_j (fun g => jr_sub [3, 4, 5, 6, 1, 0] rfl g) (hih (l4 + 1) (l5 + 1) M19007)
            refine jv_iload (j := 0) dX1_given_161 rfl ?_
            refine jv_bipush (v := -2) dX1_given_163 (by decide) ?_
            refine jw_ic_ne (tgt := 172) dX1_given_165 rfl (fun c165 => ?_) (fun c165 => ?_)
            · refine jv_iloadn (j := 3) dX1_given_168 rfl ?_
              refine jv_goto (tgt := 173) dX1_given_169 rfl ?_
              refine hv_iastC dX1_given_173 (at_LW_2 hp) (fun _ => ?_)
              refine vf_letM (fun M19008 => ?_)
              refine jv_iinc (j := 5) (v := l4 + 1) (L' := [(4, .int (l4 + 1)), (6, .int z19002), (0, .ref (V.1 p)), (1, .int x1), (2, .int x2), (3, .int x3), (5, .int l5)]) dX1_given_174 rfl rfl (Nat.le_of_ble_eq_true rfl) rfl ?_
              refine jv_iinc (j := 6) (v := l5 + 1) (L' := [(5, .int (l5 + 1)), (4, .int (l4 + 1)), (6, .int z19002), (0, .ref (V.1 p)), (1, .int x1), (2, .int x2), (3, .int x3)]) dX1_given_177 rfl rfl (Nat.le_of_ble_eq_true rfl) rfl ?_
              refine jv_goto (tgt := 18) dX1_given_180 rfl ?_
              exact vf_j (fun g => jr_sub [3, 4, 5, 6, 1, 0] rfl g) (hih (l4 + 1) (l5 + 1) M19008)
            refine jv_iloadn (j := 4) dX1_given_172 rfl ?_
            refine hv_iastC dX1_given_173 (at_LW_2 hp) (fun _ => ?_)
            refine vf_letM (fun M19009 => ?_)
            refine jv_iinc (j := 5) (v := l4 + 1) (L' := [(4, .int (l4 + 1)), (6, .int z19002), (0, .ref (V.1 p)), (1, .int x1), (2, .int x2), (3, .int x3), (5, .int l5)]) dX1_given_174 rfl rfl (Nat.le_of_ble_eq_true rfl) rfl ?_
            refine jv_iinc (j := 6) (v := l5 + 1) (L' := [(5, .int (l5 + 1)), (4, .int (l4 + 1)), (6, .int z19002), (0, .ref (V.1 p)), (1, .int x1), (2, .int x2), (3, .int x3)]) dX1_given_177 rfl rfl (Nat.le_of_ble_eq_true rfl) rfl ?_
            refine jv_goto (tgt := 18) dX1_given_180 rfl ?_
            exact vf_j (fun g => jr_sub [3, 4, 5, 6, 1, 0] rfl g) (hih (l4 + 1) (l5 + 1) M19009)
          refine jv_iload (j := 0) dX1_given_146 rfl ?_
          refine jv_goto (tgt := 173) dX1_given_148 rfl ?_
          refine hv_iastC dX1_given_173 (at_LW_2 hp) (fun _ => ?_)
          refine vf_letM (fun M19010 => ?_)
          refine jv_iinc (j := 5) (v := l4 + 1) (L' := [(4, .int (l4 + 1)), (6, .int z19002), (0, .ref (V.1 p)), (1, .int x1), (2, .int x2), (3, .int x3), (5, .int l5)]) dX1_given_174 rfl rfl (Nat.le_of_ble_eq_true rfl) rfl ?_
          refine jv_iinc (j := 6) (v := l5 + 1) (L' := [(5, .int (l5 + 1)), (4, .int (l4 + 1)), (6, .int z19002), (0, .ref (V.1 p)), (1, .int x1), (2, .int x2), (3, .int x3)]) dX1_given_177 rfl rfl (Nat.le_of_ble_eq_true rfl) rfl ?_
          refine jv_goto (tgt := 18) dX1_given_180 rfl ?_
          exact vf_j (fun g => jr_sub [3, 4, 5, 6, 1, 0] rfl g) (hih (l4 + 1) (l5 + 1) M19010)
        refine jv_iinc (j := 5) (v := l4 + (-1)) (L' := [(4, .int (l4 + (-1))), (6, .int z19002), (0, .ref (V.1 p)), (1, .int x1), (2, .int x2), (3, .int x3), (5, .int l5)]) dX1_given_91 rfl rfl (Nat.le_of_ble_eq_true rfl) rfl ?_
        refine jv_aloadn (j := 2) dX1_given_94 rfl ?_
        refine hv_getR dX1_given_95 fl1_19 (at_LW_0 hp) rfl ?_
        refine jv_iload (j := 0) dX1_given_98 rfl ?_
        refine jv_iconst (v := 1) dX1_given_100 (by decide) ?_
        refine jv_isub dX1_given_101 ?_
        refine jv_iload (j := 1) dX1_given_102 rfl ?_
        refine jv_ineg dX1_given_104 ?_
        refine jv_aloadn (j := 2) dX1_given_105 rfl ?_
        refine hv_getR dX1_given_106 fl1_19 (at_LW_0 hp) rfl ?_
        refine jv_iload (j := 0) dX1_given_109 rfl ?_
        refine jv_iconst (v := 1) dX1_given_111 (by decide) ?_
        refine jv_isub dX1_given_112 ?_
        refine hv_ialdC dX1_given_113 (at_LW_2 hp) (fun _ => ?_)
        refine jv_aloadn (j := 2) dX1_given_114 rfl ?_
        refine hv_getR dX1_given_115 fl1_19 (at_LW_0 hp) rfl ?_
        refine jv_iload (j := 0) dX1_given_118 rfl ?_
        refine hv_ialdC dX1_given_120 (at_LW_2 hp) (fun _ => ?_)
        refine hv_callS (As := [.int (-z19002), .int (Ml (p + 2) ((l4 + (-1)) - 1).toNatClampNeg), .int (Ml (p + 2) (l4 + (-1)).toNatClampNeg)]) dX1_given_121 lk1_36 kX1_join nX1_join (Nat.le_of_ble_eq_true rfl) (Nat.le_of_ble_eq_true rfl) rfl (fun _ _ e l => c_X1_join  e l V) ?_
        intro r19012 M19011
        refine hv_iastC dX1_given_124 (at_LW_2 hp) (fun _ => ?_)
        refine vf_letM (fun M19013 => ?_)
        refine jv_goto (tgt := 177) dX1_given_125 rfl ?_
        refine jv_iinc (j := 6) (v := l5 + 1) (L' := [(5, .int (l5 + 1)), (4, .int (l4 + (-1))), (6, .int z19002), (0, .ref (V.1 p)), (1, .int x1), (2, .int x2), (3, .int x3)]) dX1_given_177 rfl rfl (Nat.le_of_ble_eq_true rfl) rfl ?_
        refine jv_goto (tgt := 18) dX1_given_180 rfl ?_
        exact vf_j (fun g => jr_sub [3, 4, 5, 6, 1, 0] rfl g) (hih (l4 + (-1)) (l5 + 1) M19013)
      refine jv_aloadn (j := 1) dX1_given_49 rfl ?_
      refine hv_getR dX1_given_50 fl1_19 (at_LW_0 hp) rfl ?_
      refine jv_iload (j := 5) dX1_given_53 rfl ?_
      refine jv_iconst (v := 1) dX1_given_55 (by decide) ?_
      refine jv_isub dX1_given_56 ?_
      refine jv_aloadn (j := 1) dX1_given_57 rfl ?_
      refine hv_getR dX1_given_58 fl1_19 (at_LW_0 hp) rfl ?_
      refine jv_iload (j := 5) dX1_given_61 rfl ?_
      refine jv_iconst (v := 1) dX1_given_63 (by decide) ?_
      refine jv_isub dX1_given_64 ?_
      refine hv_ialdC dX1_given_65 (at_LW_2 hp) (fun _ => ?_)
      refine jw_if_ne (tgt := 73) dX1_given_66 rfl (fun c66 => ?_) (fun c66 => ?_)
      · refine jv_iconst (v := 1) dX1_given_69 (by decide) ?_
        refine jv_goto (tgt := 74) dX1_given_70 rfl ?_
        refine hv_iastC dX1_given_74 (at_LW_2 hp) (fun _ => ?_)
        refine vf_letM (fun M19014 => ?_)
        refine jv_goto (tgt := 177) dX1_given_75 rfl ?_
        refine jv_iinc (j := 6) (v := l5 + 1) (L' := [(5, .int (l5 + 1)), (6, .int z19002), (0, .ref (V.1 p)), (1, .int x1), (2, .int x2), (3, .int x3), (4, .int l4)]) dX1_given_177 rfl rfl (Nat.le_of_ble_eq_true rfl) rfl ?_
        refine jv_goto (tgt := 18) dX1_given_180 rfl ?_
        exact vf_j (fun g => jr_sub [2, 3, 4, 5, 6, 0] rfl g) (hih l4 (l5 + 1) M19014)
      refine jv_iconst (v := 0) dX1_given_73 (by decide) ?_
      refine hv_iastC dX1_given_74 (at_LW_2 hp) (fun _ => ?_)
      refine vf_letM (fun M19015 => ?_)
      refine jv_goto (tgt := 177) dX1_given_75 rfl ?_
      refine jv_iinc (j := 6) (v := l5 + 1) (L' := [(5, .int (l5 + 1)), (6, .int z19002), (0, .ref (V.1 p)), (1, .int x1), (2, .int x2), (3, .int x3), (4, .int l4)]) dX1_given_177 rfl rfl (Nat.le_of_ble_eq_true rfl) rfl ?_
      refine jv_goto (tgt := 18) dX1_given_180 rfl ?_
      exact vf_j (fun g => jr_sub [2, 3, 4, 5, 6, 0] rfl g) (hih l4 (l5 + 1) M19015)
    refine jv_iload (j := 0) dX1_given_78 rfl ?_
    refine jv_bipush (v := -3) dX1_given_80 (by decide) ?_
    refine jw_ic_ge (tgt := 128) dX1_given_82 rfl (fun c82 => ?_) (fun c82 => ?_)
    · refine jv_iload (j := 5) dX1_given_128 rfl ?_
      refine jv_bipush (v := 50) dX1_given_130 (by decide) ?_
      refine jw_ic_ge (tgt := 177) dX1_given_132 rfl (fun c132 => ?_) (fun c132 => ?_)
      · refine jv_iinc (j := 6) (v := l5 + 1) (L' := [(5, .int (l5 + 1)), (6, .int z19002), (0, .ref (V.1 p)), (1, .int x1), (2, .int x2), (3, .int x3), (4, .int l4)]) dX1_given_177 rfl rfl (Nat.le_of_ble_eq_true rfl) rfl ?_
        refine jv_goto (tgt := 18) dX1_given_180 rfl ?_
        exact vf_j (fun g => jr_sub [2, 3, 4, 5, 6, 0] rfl g) (hih l4 (l5 + 1) Ml)
      refine jv_aloadn (j := 1) dX1_given_135 rfl ?_
      refine hv_getR dX1_given_136 fl1_19 (at_LW_0 hp) rfl ?_
      refine jv_iload (j := 5) dX1_given_139 rfl ?_
      refine jv_iload (j := 0) dX1_given_141 rfl ?_
      refine jw_if_lt (tgt := 151) dX1_given_143 rfl (fun c143 => ?_) (fun c143 => ?_)
      · refine jv_iload (j := 0) dX1_given_151 rfl ?_
        refine jv_iconst (v := -1) dX1_given_153 (by decide) ?_
        refine jw_ic_ne (tgt := 161) dX1_given_154 rfl (fun c154 => ?_) (fun c154 => ?_)
        · refine jv_iloadn (j := 2) dX1_given_157 rfl ?_
          refine jv_goto (tgt := 173) dX1_given_158 rfl ?_
          refine hv_iastC dX1_given_173 (at_LW_2 hp) (fun _ => ?_)
          refine vf_letM (fun M19016 => ?_)
          refine jv_iinc (j := 5) (v := l4 + 1) (L' := [(4, .int (l4 + 1)), (6, .int z19002), (0, .ref (V.1 p)), (1, .int x1), (2, .int x2), (3, .int x3), (5, .int l5)]) dX1_given_174 rfl rfl (Nat.le_of_ble_eq_true rfl) rfl ?_
          refine jv_iinc (j := 6) (v := l5 + 1) (L' := [(5, .int (l5 + 1)), (4, .int (l4 + 1)), (6, .int z19002), (0, .ref (V.1 p)), (1, .int x1), (2, .int x2), (3, .int x3)]) dX1_given_177 rfl rfl (Nat.le_of_ble_eq_true rfl) rfl ?_
          refine jv_goto (tgt := 18) dX1_given_180 rfl ?_
          exact vf_j (fun g => jr_sub [3, 4, 5, 6, 1, 0] rfl g) (hih (l4 + 1) (l5 + 1) M19016)
        refine jv_iload (j := 0) dX1_given_161 rfl ?_
        refine jv_bipush (v := -2) dX1_given_163 (by decide) ?_
        refine jw_ic_ne (tgt := 172) dX1_given_165 rfl (fun c165 => ?_) (fun c165 => ?_)
        · refine jv_iloadn (j := 3) dX1_given_168 rfl ?_
          refine jv_goto (tgt := 173) dX1_given_169 rfl ?_
          refine hv_iastC dX1_given_173 (at_LW_2 hp) (fun _ => ?_)
          refine vf_letM (fun M19017 => ?_)
          refine jv_iinc (j := 5) (v := l4 + 1) (L' := [(4, .int (l4 + 1)), (6, .int z19002), (0, .ref (V.1 p)), (1, .int x1), (2, .int x2), (3, .int x3), (5, .int l5)]) dX1_given_174 rfl rfl (Nat.le_of_ble_eq_true rfl) rfl ?_
          refine jv_iinc (j := 6) (v := l5 + 1) (L' := [(5, .int (l5 + 1)), (4, .int (l4 + 1)), (6, .int z19002), (0, .ref (V.1 p)), (1, .int x1), (2, .int x2), (3, .int x3)]) dX1_given_177 rfl rfl (Nat.le_of_ble_eq_true rfl) rfl ?_
          refine jv_goto (tgt := 18) dX1_given_180 rfl ?_
          exact vf_j (fun g => jr_sub [3, 4, 5, 6, 1, 0] rfl g) (hih (l4 + 1) (l5 + 1) M19017)
        refine jv_iloadn (j := 4) dX1_given_172 rfl ?_
        refine hv_iastC dX1_given_173 (at_LW_2 hp) (fun _ => ?_)
        refine vf_letM (fun M19018 => ?_)
        refine jv_iinc (j := 5) (v := l4 + 1) (L' := [(4, .int (l4 + 1)), (6, .int z19002), (0, .ref (V.1 p)), (1, .int x1), (2, .int x2), (3, .int x3), (5, .int l5)]) dX1_given_174 rfl rfl (Nat.le_of_ble_eq_true rfl) rfl ?_
        refine jv_iinc (j := 6) (v := l5 + 1) (L' := [(5, .int (l5 + 1)), (4, .int (l4 + 1)), (6, .int z19002), (0, .ref (V.1 p)), (1, .int x1), (2, .int x2), (3, .int x3)]) dX1_given_177 rfl rfl (Nat.le_of_ble_eq_true rfl) rfl ?_
        refine jv_goto (tgt := 18) dX1_given_180 rfl ?_
        exact vf_j (fun g => jr_sub [3, 4, 5, 6, 1, 0] rfl g) (hih (l4 + 1) (l5 + 1) M19018)
      refine jv_iload (j := 0) dX1_given_146 rfl ?_
      refine jv_goto (tgt := 173) dX1_given_148 rfl ?_
      refine hv_iastC dX1_given_173 (at_LW_2 hp) (fun _ => ?_)
      refine vf_letM (fun M19019 => ?_)
      refine jv_iinc (j := 5) (v := l4 + 1) (L' := [(4, .int (l4 + 1)), (6, .int z19002), (0, .ref (V.1 p)), (1, .int x1), (2, .int x2), (3, .int x3), (5, .int l5)]) dX1_given_174 rfl rfl (Nat.le_of_ble_eq_true rfl) rfl ?_
      refine jv_iinc (j := 6) (v := l5 + 1) (L' := [(5, .int (l5 + 1)), (4, .int (l4 + 1)), (6, .int z19002), (0, .ref (V.1 p)), (1, .int x1), (2, .int x2), (3, .int x3)]) dX1_given_177 rfl rfl (Nat.le_of_ble_eq_true rfl) rfl ?_
      refine jv_goto (tgt := 18) dX1_given_180 rfl ?_
      exact vf_j (fun g => jr_sub [3, 4, 5, 6, 1, 0] rfl g) (hih (l4 + 1) (l5 + 1) M19019)
    refine jv_iload (j := 5) dX1_given_85 rfl ?_
    refine jv_iconst (v := 2) dX1_given_87 (by decide) ?_
    refine jw_ic_lt (tgt := 128) dX1_given_88 rfl (fun c88 => ?_) (fun c88 => ?_)
    · refine jv_iload (j := 5) dX1_given_128 rfl ?_
      refine jv_bipush (v := 50) dX1_given_130 (by decide) ?_
      refine jw_ic_ge (tgt := 177) dX1_given_132 rfl (fun c132 => ?_) (fun c132 => ?_)
      · refine jv_iinc (j := 6) (v := l5 + 1) (L' := [(5, .int (l5 + 1)), (6, .int z19002), (0, .ref (V.1 p)), (1, .int x1), (2, .int x2), (3, .int x3), (4, .int l4)]) dX1_given_177 rfl rfl (Nat.le_of_ble_eq_true rfl) rfl ?_
        refine jv_goto (tgt := 18) dX1_given_180 rfl ?_
        exact vf_j (fun g => jr_sub [2, 3, 4, 5, 6, 0] rfl g) (hih l4 (l5 + 1) Ml)
      refine jv_aloadn (j := 1) dX1_given_135 rfl ?_
      refine hv_getR dX1_given_136 fl1_19 (at_LW_0 hp) rfl ?_
      refine jv_iload (j := 5) dX1_given_139 rfl ?_
      refine jv_iload (j := 0) dX1_given_141 rfl ?_
      refine jw_if_lt (tgt := 151) dX1_given_143 rfl (fun c143 => ?_) (fun c143 => ?_)
      · refine jv_iload (j := 0) dX1_given_151 rfl ?_
        refine jv_iconst (v := -1) dX1_given_153 (by decide) ?_
        refine jw_ic_ne (tgt := 161) dX1_given_154 rfl (fun c154 => ?_) (fun c154 => ?_)
        · refine jv_iloadn (j := 2) dX1_given_157 rfl ?_
          refine jv_goto (tgt := 173) dX1_given_158 rfl ?_
          refine hv_iastC dX1_given_173 (at_LW_2 hp) (fun _ => ?_)
          refine vf_letM (fun M19020 => ?_)
          refine jv_iinc (j := 5) (v := l4 + 1) (L' := [(4, .int (l4 + 1)), (6, .int z19002), (0, .ref (V.1 p)), (1, .int x1), (2, .int x2), (3, .int x3), (5, .int l5)]) dX1_given_174 rfl rfl (Nat.le_of_ble_eq_true rfl) rfl ?_
          refine jv_iinc (j := 6) (v := l5 + 1) (L' := [(5, .int (l5 + 1)), (4, .int (l4 + 1)), (6, .int z19002), (0, .ref (V.1 p)), (1, .int x1), (2, .int x2), (3, .int x3)]) dX1_given_177 rfl rfl (Nat.le_of_ble_eq_true rfl) rfl ?_
          refine jv_goto (tgt := 18) dX1_given_180 rfl ?_
          exact vf_j (fun g => jr_sub [3, 4, 5, 6, 1, 0] rfl g) (hih (l4 + 1) (l5 + 1) M19020)
        refine jv_iload (j := 0) dX1_given_161 rfl ?_
        refine jv_bipush (v := -2) dX1_given_163 (by decide) ?_
        refine jw_ic_ne (tgt := 172) dX1_given_165 rfl (fun c165 => ?_) (fun c165 => ?_)
        · refine jv_iloadn (j := 3) dX1_given_168 rfl ?_
          refine jv_goto (tgt := 173) dX1_given_169 rfl ?_
          refine hv_iastC dX1_given_173 (at_LW_2 hp) (fun _ => ?_)
          refine vf_letM (fun M19021 => ?_)
          refine jv_iinc (j := 5) (v := l4 + 1) (L' := [(4, .int (l4 + 1)), (6, .int z19002), (0, .ref (V.1 p)), (1, .int x1), (2, .int x2), (3, .int x3), (5, .int l5)]) dX1_given_174 rfl rfl (Nat.le_of_ble_eq_true rfl) rfl ?_
          refine jv_iinc (j := 6) (v := l5 + 1) (L' := [(5, .int (l5 + 1)), (4, .int (l4 + 1)), (6, .int z19002), (0, .ref (V.1 p)), (1, .int x1), (2, .int x2), (3, .int x3)]) dX1_given_177 rfl rfl (Nat.le_of_ble_eq_true rfl) rfl ?_
          refine jv_goto (tgt := 18) dX1_given_180 rfl ?_
          exact vf_j (fun g => jr_sub [3, 4, 5, 6, 1, 0] rfl g) (hih (l4 + 1) (l5 + 1) M19021)
        refine jv_iloadn (j := 4) dX1_given_172 rfl ?_
        refine hv_iastC dX1_given_173 (at_LW_2 hp) (fun _ => ?_)
        refine vf_letM (fun M19022 => ?_)
        refine jv_iinc (j := 5) (v := l4 + 1) (L' := [(4, .int (l4 + 1)), (6, .int z19002), (0, .ref (V.1 p)), (1, .int x1), (2, .int x2), (3, .int x3), (5, .int l5)]) dX1_given_174 rfl rfl (Nat.le_of_ble_eq_true rfl) rfl ?_
        refine jv_iinc (j := 6) (v := l5 + 1) (L' := [(5, .int (l5 + 1)), (4, .int (l4 + 1)), (6, .int z19002), (0, .ref (V.1 p)), (1, .int x1), (2, .int x2), (3, .int x3)]) dX1_given_177 rfl rfl (Nat.le_of_ble_eq_true rfl) rfl ?_
        refine jv_goto (tgt := 18) dX1_given_180 rfl ?_
        exact vf_j (fun g => jr_sub [3, 4, 5, 6, 1, 0] rfl g) (hih (l4 + 1) (l5 + 1) M19022)
      refine jv_iload (j := 0) dX1_given_146 rfl ?_
      refine jv_goto (tgt := 173) dX1_given_148 rfl ?_
      refine hv_iastC dX1_given_173 (at_LW_2 hp) (fun _ => ?_)
      refine vf_letM (fun M19023 => ?_)
      refine jv_iinc (j := 5) (v := l4 + 1) (L' := [(4, .int (l4 + 1)), (6, .int z19002), (0, .ref (V.1 p)), (1, .int x1), (2, .int x2), (3, .int x3), (5, .int l5)]) dX1_given_174 rfl rfl (Nat.le_of_ble_eq_true rfl) rfl ?_
      refine jv_iinc (j := 6) (v := l5 + 1) (L' := [(5, .int (l5 + 1)), (4, .int (l4 + 1)), (6, .int z19002), (0, .ref (V.1 p)), (1, .int x1), (2, .int x2), (3, .int x3)]) dX1_given_177 rfl rfl (Nat.le_of_ble_eq_true rfl) rfl ?_
      refine jv_goto (tgt := 18) dX1_given_180 rfl ?_
      exact vf_j (fun g => jr_sub [3, 4, 5, 6, 1, 0] rfl g) (hih (l4 + 1) (l5 + 1) M19023)
    refine jv_iinc (j := 5) (v := l4 + (-1)) (L' := [(4, .int (l4 + (-1))), (6, .int z19002), (0, .ref (V.1 p)), (1, .int x1), (2, .int x2), (3, .int x3), (5, .int l5)]) dX1_given_91 rfl rfl (Nat.le_of_ble_eq_true rfl) rfl ?_
    refine jv_aloadn (j := 2) dX1_given_94 rfl ?_
    refine hv_getR dX1_given_95 fl1_19 (at_LW_0 hp) rfl ?_
    refine jv_iload (j := 0) dX1_given_98 rfl ?_
    refine jv_iconst (v := 1) dX1_given_100 (by decide) ?_
    refine jv_isub dX1_given_101 ?_
    refine jv_iload (j := 1) dX1_given_102 rfl ?_
    refine jv_ineg dX1_given_104 ?_
    refine jv_aloadn (j := 2) dX1_given_105 rfl ?_
    refine hv_getR dX1_given_106 fl1_19 (at_LW_0 hp) rfl ?_
    refine jv_iload (j := 0) dX1_given_109 rfl ?_
    refine jv_iconst (v := 1) dX1_given_111 (by decide) ?_
    refine jv_isub dX1_given_112 ?_
    refine hv_ialdC dX1_given_113 (at_LW_2 hp) (fun _ => ?_)
    refine jv_aloadn (j := 2) dX1_given_114 rfl ?_
    refine hv_getR dX1_given_115 fl1_19 (at_LW_0 hp) rfl ?_
    refine jv_iload (j := 0) dX1_given_118 rfl ?_
    refine hv_ialdC dX1_given_120 (at_LW_2 hp) (fun _ => ?_)
    refine hv_callS (As := [.int (-z19002), .int (Ml (p + 2) ((l4 + (-1)) - 1).toNatClampNeg), .int (Ml (p + 2) (l4 + (-1)).toNatClampNeg)]) dX1_given_121 lk1_36 kX1_join nX1_join (Nat.le_of_ble_eq_true rfl) (Nat.le_of_ble_eq_true rfl) rfl (fun _ _ e l => c_X1_join  e l V) ?_
    intro r19025 M19024
    refine hv_iastC dX1_given_124 (at_LW_2 hp) (fun _ => ?_)
    refine vf_letM (fun M19026 => ?_)
    refine jv_goto (tgt := 177) dX1_given_125 rfl ?_
    refine jv_iinc (j := 6) (v := l5 + 1) (L' := [(5, .int (l5 + 1)), (4, .int (l4 + (-1))), (6, .int z19002), (0, .ref (V.1 p)), (1, .int x1), (2, .int x2), (3, .int x3)]) dX1_given_177 rfl rfl (Nat.le_of_ble_eq_true rfl) rfl ?_
    refine jv_goto (tgt := 18) dX1_given_180 rfl ?_
    exact vf_j (fun g => jr_sub [3, 4, 5, 6, 1, 0] rfl g) (hih (l4 + (-1)) (l5 + 1) M19026)
set_option maxHeartbeats 4000000 in
set_option maxRecDepth 100000 in
theorem w_X1_given {X : pm_X} {V : pm_V} (p : Nat) (M : pm_M) (x1 : Int32) (x2 : Int32) (x3 : Int32) (hp : at_LW p) : pm_VF (f_X1_given p M x1 x2 x3) (pm_K X V mX1_given 2 skC) (pm_J X V mX1_given 2 (pm_wld V skC M) 0 [(0, .ref (V.1 p)), (1, .int x1), (2, .int x2), (3, .int x3)] []) := by
  unfold f_X1_given
  refine jv_aloadn (j := 0) dX1_given_0 rfl ?_
  refine hv_getI dX1_given_1 fl1_15 (at_LW_0 hp) rfl ?_
  refine jw_if_ne (tgt := 12) dX1_given_4 rfl (fun c4 => ?_) (fun c4 => ?_)
  · refine jv_aloadn (j := 0) dX1_given_7 rfl ?_
    refine hv_getI dX1_given_8 fl1_22 (at_LW_0 hp) rfl ?_
    exact vf_ret dX1_given_11 rfl
  refine jv_iconst (v := 0) dX1_given_12 (by decide) ?_
  refine jv_istore (L' := [(4, .int 0), (0, .ref (V.1 p)), (1, .int x1), (2, .int x2), (3, .int x3)]) dX1_given_13 (Nat.le_of_ble_eq_true rfl) rfl ?_
  refine jv_iconst (v := 0) dX1_given_15 (by decide) ?_
  refine jv_istore (L' := [(5, .int 0), (4, .int 0), (0, .ref (V.1 p)), (1, .int x1), (2, .int x2), (3, .int x3)]) dX1_given_16 (Nat.le_of_ble_eq_true rfl) rfl ?_
  refine vl_b1 (P := fun (Ml : pm_M) => pm_J X V mX1_given 2 (pm_wld V skC Ml) 183 [(0, .ref (V.1 p))] []) (vf_j (fun g => jr_sub [2, 3, 4, 5, 1, 0] rfl g) (wl_X1_given_18 p x1 x2 x3 hp 0 0 M)) ?_
  intro M1
  refine jv_iconst (v := 0) dX1_given_183 (by decide) ?_
  refine jv_aloadn (j := 0) dX1_given_184 rfl ?_
  refine hv_getI dX1_given_185 fl1_25 (at_LW_0 hp) rfl ?_
  refine jv_aloadn (j := 0) dX1_given_188 rfl ?_
  refine hv_getR dX1_given_189 fl1_19 (at_LW_0 hp) rfl ?_
  refine jv_iconst (v := 0) dX1_given_192 (by decide) ?_
  refine hv_iald dX1_given_193 (at_LW_2 hp) (by decide) ?_
  refine hv_min dX1_given_194 lk1_40 lkM_min.1 lkM_i lkM_min.2 (Nat.le_of_ble_eq_true rfl) ?_
  refine hv_max dX1_given_197 lk1_46 lkM_max.1 lkM_i lkM_max.2 (Nat.le_of_ble_eq_true rfl) ?_
  exact vf_ret dX1_given_200 rfl
theorem c_X1_given {p : Nat} {M : pm_M} {x1 : Int32} {x2 : Int32} {x3 : Int32} (hp : at_LW p) {r : Int32} {M' : pm_M} (h : f_X1_given p M x1 x2 x3 = some (r, M')) (l : Launch) (V : pm_V) : pm_Ci l V skC yX1_given mX1_given 2 [.ref (V.1 p), .int x1, .int x2, .int x3] M r M' := pm_metI (by decide) rfl (Nat.le_of_ble_eq_true rfl) h (fun _ => w_X1_given p M x1 x2 x3 hp)
def f_X2_next (p : Nat) (M : pm_M) : Option (Int32 × pm_M) :=
  (if (M p 3) ≤ (M p 4) then (some ((-1), M)) else (pm_chk (pm_in (M p 4) 50) (some ((M (p + 2) (M p 4).toNatClampNeg), M))))
set_option maxHeartbeats 4000000 in
set_option maxRecDepth 100000 in
theorem w_X2_next {X : pm_X} {V : pm_V} (p : Nat) (M : pm_M) (hp : at_RD p) : pm_VF (f_X2_next p M) (pm_K X V mX2_next 1 skC) (pm_J X V mX2_next 1 (pm_wld V skC M) 0 [(0, .ref (V.1 p))] []) := by
  unfold f_X2_next
  refine jv_aloadn (j := 0) dX2_next_0 rfl ?_
  refine hv_getI dX2_next_1 fl2_25 (at_RD_0 hp) rfl ?_
  refine jv_aloadn (j := 0) dX2_next_4 rfl ?_
  refine hv_getI dX2_next_5 fl2_22 (at_RD_0 hp) rfl ?_
  refine jw_ic_ge (tgt := 23) dX2_next_8 rfl (fun c8 => ?_) (fun c8 => ?_)
  · refine jv_iconst (v := -1) dX2_next_23 (by decide) ?_
    exact vf_ret dX2_next_24 rfl
  refine jv_aloadn (j := 0) dX2_next_11 rfl ?_
  refine hv_getR dX2_next_12 fl2_19 (at_RD_0 hp) rfl ?_
  refine jv_aloadn (j := 0) dX2_next_15 rfl ?_
  refine hv_getI dX2_next_16 fl2_25 (at_RD_0 hp) rfl ?_
  refine hv_ialdC dX2_next_19 (at_RD_2 hp) (fun _ => ?_)
  refine jv_goto (tgt := 24) dX2_next_20 rfl ?_
  exact vf_ret dX2_next_24 rfl
theorem c_X2_next {p : Nat} {M : pm_M} (hp : at_RD p) {r : Int32} {M' : pm_M} (h : f_X2_next p M = some (r, M')) (l : Launch) (V : pm_V) : pm_Ci l V skC yX2_next mX2_next 1 [.ref (V.1 p)] M r M' := pm_metI (by decide) rfl (Nat.le_of_ble_eq_true rfl) h (fun _ => w_X2_next p M hp)
def f_X2_write (p : Nat) (M : pm_M) (x1 : Int32) : Option pm_M :=
  (if 50 ≤ (M p 1) then (some M) else (pm_chk (pm_in (M p 1) 50) (pm_let (pm_up M (p + 1) (M p 1).toNatClampNeg x1) (fun M1 : pm_M => (pm_let (pm_up M1 p 1 ((M1 p 1) + 1)) (fun M2 : pm_M => (some M2)))))))
set_option maxHeartbeats 4000000 in
set_option maxRecDepth 100000 in
theorem w_X2_write {X : pm_X} {V : pm_V} (p : Nat) (M : pm_M) (x1 : Int32) (hp : at_RD p) : pm_VF (f_X2_write p M x1) (pm_Kv X V mX2_write 1 skC) (pm_J X V mX2_write 1 (pm_wld V skC M) 0 [(0, .ref (V.1 p)), (1, .int x1)] []) := by
  unfold f_X2_write
  refine jv_aloadn (j := 0) dX2_write_0 rfl ?_
  refine hv_getI dX2_write_1 fl2_15 (at_RD_0 hp) rfl ?_
  refine jv_bipush (v := 50) dX2_write_4 (by decide) ?_
  refine jw_ic_ge (tgt := 29) dX2_write_6 rfl (fun c6 => ?_) (fun c6 => ?_)
  · exact vf_vret dX2_write_29
  refine jv_aloadn (j := 0) dX2_write_9 rfl ?_
  refine hv_getR dX2_write_10 fl2_9 (at_RD_0 hp) rfl ?_
  refine jv_aloadn (j := 0) dX2_write_13 rfl ?_
  refine hv_getI dX2_write_14 fl2_15 (at_RD_0 hp) rfl ?_
  refine jv_iloadn (j := 1) dX2_write_17 rfl ?_
  refine hv_iastC dX2_write_18 (at_RD_1 hp) (fun _ => ?_)
  refine vf_letM (fun M1 => ?_)
  refine jv_aloadn (j := 0) dX2_write_19 rfl ?_
  refine jv_dup dX2_write_20 rfl ?_
  refine hv_getI dX2_write_21 fl2_15 (at_RD_0 hp) rfl ?_
  refine jv_iconst (v := 1) dX2_write_24 (by decide) ?_
  refine jv_iadd dX2_write_25 ?_
  refine hv_put dX2_write_26 fp2_15 (at_RD_0 hp) rfl rfl rfl ?_
  refine vf_letM (fun M2 => ?_)
  exact vf_vret dX2_write_29
theorem c_X2_write {p : Nat} {M : pm_M} {x1 : Int32} (hp : at_RD p) {M' : pm_M} (h : f_X2_write p M x1 = some M') (l : Launch) (V : pm_V) : pm_Cv l V skC yX2_write mX2_write 1 [.ref (V.1 p), .int x1] M M' := pm_metV (by decide) rfl (Nat.le_of_ble_eq_true rfl) rfl h (fun _ => w_X2_write p M x1 hp)
def f_X2_joins (M : pm_M) (x1 : Int32) (x2 : Int32) : Option (Int32 × pm_M) :=
  (if x1.toInt < 0 ∨ 3 < x1.toInt then (if x2 = 42 then (some (1, M)) else (if x2 = 47 then (some (1, M)) else (if x2 = 37 then (some (1, M)) else (some (0, M))))) else if x1 = 0 then (if x2 = 124 then (some (1, M)) else (some (0, M))) else if x1 = 1 then (if x2 = 38 then (some (1, M)) else (some (0, M))) else if x1 = 2 then (if x2 = 60 then (some (1, M)) else (if x2 = 61 then (some (1, M)) else (if x2 = 62 then (some (1, M)) else (some (0, M))))) else if x1 = 3 then (if x2 = 43 then (some (1, M)) else (if x2 = 45 then (some (1, M)) else (some (0, M)))) else none)
set_option maxHeartbeats 4000000 in
set_option maxRecDepth 100000 in
theorem w_X2_joins {X : pm_X} {V : pm_V} (M : pm_M) (x1 : Int32) (x2 : Int32)  : pm_VF (f_X2_joins M x1 x2) (pm_K X V mX2_joins 1 skC) (pm_J X V mX2_joins 1 (pm_wld V skC M) 0 [(0, .int x1), (1, .int x2)] []) := by
  unfold f_X2_joins
  refine jv_iloadn (j := 0) dX2_joins_0 rfl ?_
  refine vf_case (fun c1 => ?_) (fun _ => ?_)
  · refine jv_tout (tgt := 98) dX2_joins_1 c1 rfl ?_
    refine jv_iloadn (j := 1) dX2_joins_98 rfl ?_
    refine jv_bipush (v := 42) dX2_joins_99 (by decide) ?_
    refine jw_ic_eq (tgt := 116) dX2_joins_101 rfl (fun c101 => ?_) (fun c101 => ?_)
    · refine jv_iconst (v := 1) dX2_joins_116 (by decide) ?_
      refine jv_goto (tgt := 121) dX2_joins_117 rfl ?_
      exact vf_zret dX2_joins_121 rfl (by decide)
    refine jv_iloadn (j := 1) dX2_joins_104 rfl ?_
    refine jv_bipush (v := 47) dX2_joins_105 (by decide) ?_
    refine jw_ic_eq (tgt := 116) dX2_joins_107 rfl (fun c107 => ?_) (fun c107 => ?_)
    · refine jv_iconst (v := 1) dX2_joins_116 (by decide) ?_
      refine jv_goto (tgt := 121) dX2_joins_117 rfl ?_
      exact vf_zret dX2_joins_121 rfl (by decide)
    refine jv_iloadn (j := 1) dX2_joins_110 rfl ?_
    refine jv_bipush (v := 37) dX2_joins_111 (by decide) ?_
    refine jw_ic_ne (tgt := 120) dX2_joins_113 rfl (fun c113 => ?_) (fun c113 => ?_)
    · refine jv_iconst (v := 1) dX2_joins_116 (by decide) ?_
      refine jv_goto (tgt := 121) dX2_joins_117 rfl ?_
      exact vf_zret dX2_joins_121 rfl (by decide)
    refine jv_iconst (v := 0) dX2_joins_120 (by decide) ?_
    exact vf_zret dX2_joins_121 rfl (by decide)
  refine vf_case (fun c1 => ?_) (fun _ => ?_)
  · refine jv_tin (v := 0) (tgt := 32) dX2_joins_1 c1 (by decide) (by decide) rfl rfl ?_
    refine jv_iloadn (j := 1) dX2_joins_32 rfl ?_
    refine jv_bipush (v := 124) dX2_joins_33 (by decide) ?_
    refine jw_ic_ne (tgt := 42) dX2_joins_35 rfl (fun c35 => ?_) (fun c35 => ?_)
    · refine jv_iconst (v := 1) dX2_joins_38 (by decide) ?_
      refine jv_goto (tgt := 43) dX2_joins_39 rfl ?_
      exact vf_zret dX2_joins_43 rfl (by decide)
    refine jv_iconst (v := 0) dX2_joins_42 (by decide) ?_
    exact vf_zret dX2_joins_43 rfl (by decide)
  refine vf_case (fun c1 => ?_) (fun _ => ?_)
  · refine jv_tin (v := 1) (tgt := 44) dX2_joins_1 c1 (by decide) (by decide) rfl rfl ?_
    refine jv_iloadn (j := 1) dX2_joins_44 rfl ?_
    refine jv_bipush (v := 38) dX2_joins_45 (by decide) ?_
    refine jw_ic_ne (tgt := 54) dX2_joins_47 rfl (fun c47 => ?_) (fun c47 => ?_)
    · refine jv_iconst (v := 1) dX2_joins_50 (by decide) ?_
      refine jv_goto (tgt := 55) dX2_joins_51 rfl ?_
      exact vf_zret dX2_joins_55 rfl (by decide)
    refine jv_iconst (v := 0) dX2_joins_54 (by decide) ?_
    exact vf_zret dX2_joins_55 rfl (by decide)
  refine vf_case (fun c1 => ?_) (fun _ => ?_)
  · refine jv_tin (v := 2) (tgt := 56) dX2_joins_1 c1 (by decide) (by decide) rfl rfl ?_
    refine jv_iloadn (j := 1) dX2_joins_56 rfl ?_
    refine jv_bipush (v := 60) dX2_joins_57 (by decide) ?_
    refine jw_ic_eq (tgt := 74) dX2_joins_59 rfl (fun c59 => ?_) (fun c59 => ?_)
    · refine jv_iconst (v := 1) dX2_joins_74 (by decide) ?_
      refine jv_goto (tgt := 79) dX2_joins_75 rfl ?_
      exact vf_zret dX2_joins_79 rfl (by decide)
    refine jv_iloadn (j := 1) dX2_joins_62 rfl ?_
    refine jv_bipush (v := 61) dX2_joins_63 (by decide) ?_
    refine jw_ic_eq (tgt := 74) dX2_joins_65 rfl (fun c65 => ?_) (fun c65 => ?_)
    · refine jv_iconst (v := 1) dX2_joins_74 (by decide) ?_
      refine jv_goto (tgt := 79) dX2_joins_75 rfl ?_
      exact vf_zret dX2_joins_79 rfl (by decide)
    refine jv_iloadn (j := 1) dX2_joins_68 rfl ?_
    refine jv_bipush (v := 62) dX2_joins_69 (by decide) ?_
    refine jw_ic_ne (tgt := 78) dX2_joins_71 rfl (fun c71 => ?_) (fun c71 => ?_)
    · refine jv_iconst (v := 1) dX2_joins_74 (by decide) ?_
      refine jv_goto (tgt := 79) dX2_joins_75 rfl ?_
      exact vf_zret dX2_joins_79 rfl (by decide)
    refine jv_iconst (v := 0) dX2_joins_78 (by decide) ?_
    exact vf_zret dX2_joins_79 rfl (by decide)
  refine vf_case (fun c1 => ?_) (fun _ => ?_)
  · refine jv_tin (v := 3) (tgt := 80) dX2_joins_1 c1 (by decide) (by decide) rfl rfl ?_
    refine jv_iloadn (j := 1) dX2_joins_80 rfl ?_
    refine jv_bipush (v := 43) dX2_joins_81 (by decide) ?_
    refine jw_ic_eq (tgt := 92) dX2_joins_83 rfl (fun c83 => ?_) (fun c83 => ?_)
    · refine jv_iconst (v := 1) dX2_joins_92 (by decide) ?_
      refine jv_goto (tgt := 97) dX2_joins_93 rfl ?_
      exact vf_zret dX2_joins_97 rfl (by decide)
    refine jv_iloadn (j := 1) dX2_joins_86 rfl ?_
    refine jv_bipush (v := 45) dX2_joins_87 (by decide) ?_
    refine jw_ic_ne (tgt := 96) dX2_joins_89 rfl (fun c89 => ?_) (fun c89 => ?_)
    · refine jv_iconst (v := 1) dX2_joins_92 (by decide) ?_
      refine jv_goto (tgt := 97) dX2_joins_93 rfl ?_
      exact vf_zret dX2_joins_97 rfl (by decide)
    refine jv_iconst (v := 0) dX2_joins_96 (by decide) ?_
    exact vf_zret dX2_joins_97 rfl (by decide)
  exact vf_none
theorem c_X2_joins {M : pm_M} {x1 : Int32} {x2 : Int32}  {r : Int32} {M' : pm_M} (h : f_X2_joins M x1 x2 = some (r, M')) (l : Launch) (V : pm_V) : pm_Ci l V skC yX2_joins mX2_joins 1 [.int x1, .int x2] M r M' := pm_metI (by decide) rfl (Nat.le_of_ble_eq_true rfl) h (fun _ => w_X2_joins M x1 x2 )
def f_X2_readClosing (p : Nat) (M : pm_M) : Option pm_M :=
  (if (M p 6) = 0 then (pm_b2 (f_X2_next p M) (fun (r2 : Int32) (M1 : pm_M) => (if r2 = 41 then (pm_let (pm_up M1 p 4 ((M1 p 4) + 1)) (fun M3 : pm_M => (some M3))) else (pm_let (pm_up M1 p 6 1) (fun M4 : pm_M => (some M4)))))) else (pm_let (pm_up M p 6 1) (fun M5 : pm_M => (some M5))))
set_option maxHeartbeats 4000000 in
set_option maxRecDepth 100000 in
theorem w_X2_readClosing {X : pm_X} {V : pm_V} (p : Nat) (M : pm_M) (hp : at_RD p) : pm_VF (f_X2_readClosing p M) (pm_Kv X V mX2_readClosing 2 skC) (pm_J X V mX2_readClosing 2 (pm_wld V skC M) 0 [(0, .ref (V.1 p))] []) := by
  unfold f_X2_readClosing
  refine jv_aloadn (j := 0) dX2_readClosing_0 rfl ?_
  refine hv_getI dX2_readClosing_1 fl2_31 (at_RD_0 hp) rfl ?_
  refine jw_if_ne (tgt := 16) dX2_readClosing_4 rfl (fun c4 => ?_) (fun c4 => ?_)
  · refine jv_aloadn (j := 0) dX2_readClosing_7 rfl ?_
    refine hv_callI (As := []) dX2_readClosing_8 lk2_49 kX2_next nX2_next (Nat.le_of_ble_eq_true rfl) (Nat.le_of_ble_eq_true rfl) (at_RD_0 hp) rfl rfl rfl (fun _ _ e l => c_X2_next hp e l V) ?_
    intro r2 M1
    refine jv_bipush (v := 41) dX2_readClosing_11 (by decide) ?_
    refine jw_ic_eq (tgt := 24) dX2_readClosing_13 rfl (fun c13 => ?_) (fun c13 => ?_)
    · refine jv_aloadn (j := 0) dX2_readClosing_24 rfl ?_
      refine jv_dup dX2_readClosing_25 rfl ?_
      refine hv_getI dX2_readClosing_26 fl2_25 (at_RD_0 hp) rfl ?_
      refine jv_iconst (v := 1) dX2_readClosing_29 (by decide) ?_
      refine jv_iadd dX2_readClosing_30 ?_
      refine hv_put dX2_readClosing_31 fp2_25 (at_RD_0 hp) rfl rfl rfl ?_
      refine vf_letM (fun M3 => ?_)
      exact vf_vret dX2_readClosing_34
    refine jv_aloadn (j := 0) dX2_readClosing_16 rfl ?_
    refine jv_iconst (v := 1) dX2_readClosing_17 (by decide) ?_
    refine hv_put dX2_readClosing_18 fp2_31 (at_RD_0 hp) rfl rfl rfl ?_
    refine vf_letM (fun M4 => ?_)
    refine jv_goto (tgt := 34) dX2_readClosing_21 rfl ?_
    exact vf_vret dX2_readClosing_34
  refine jv_aloadn (j := 0) dX2_readClosing_16 rfl ?_
  refine jv_iconst (v := 1) dX2_readClosing_17 (by decide) ?_
  refine hv_put dX2_readClosing_18 fp2_31 (at_RD_0 hp) rfl rfl rfl ?_
  refine vf_letM (fun M5 => ?_)
  refine jv_goto (tgt := 34) dX2_readClosing_21 rfl ?_
  exact vf_vret dX2_readClosing_34
theorem c_X2_readClosing {p : Nat} {M : pm_M} (hp : at_RD p) {M' : pm_M} (h : f_X2_readClosing p M = some M') (l : Launch) (V : pm_V) : pm_Cv l V skC yX2_readClosing mX2_readClosing 2 [.ref (V.1 p)] M M' := pm_metV (by decide) rfl (Nat.le_of_ble_eq_true rfl) rfl h (fun _ => w_X2_readClosing p M hp)
def f_X2_isDigit (M : pm_M) (x1 : Int32) : Option (Int32 × pm_M) :=
  (if x1 < 48 then (some (0, M)) else (if 57 < x1 then (some (0, M)) else (some (1, M))))
set_option maxHeartbeats 4000000 in
set_option maxRecDepth 100000 in
theorem w_X2_isDigit {X : pm_X} {V : pm_V} (M : pm_M) (x1 : Int32)  : pm_VF (f_X2_isDigit M x1) (pm_K X V mX2_isDigit 1 skC) (pm_J X V mX2_isDigit 1 (pm_wld V skC M) 0 [(0, .int x1)] []) := by
  unfold f_X2_isDigit
  refine jv_iloadn (j := 0) dX2_isDigit_0 rfl ?_
  refine jv_bipush (v := 48) dX2_isDigit_1 (by decide) ?_
  refine jw_ic_lt (tgt := 16) dX2_isDigit_3 rfl (fun c3 => ?_) (fun c3 => ?_)
  · refine jv_iconst (v := 0) dX2_isDigit_16 (by decide) ?_
    exact vf_zret dX2_isDigit_17 rfl (by decide)
  refine jv_iloadn (j := 0) dX2_isDigit_6 rfl ?_
  refine jv_bipush (v := 57) dX2_isDigit_7 (by decide) ?_
  refine jw_ic_gt (tgt := 16) dX2_isDigit_9 rfl (fun c9 => ?_) (fun c9 => ?_)
  · refine jv_iconst (v := 0) dX2_isDigit_16 (by decide) ?_
    exact vf_zret dX2_isDigit_17 rfl (by decide)
  refine jv_iconst (v := 1) dX2_isDigit_12 (by decide) ?_
  refine jv_goto (tgt := 17) dX2_isDigit_13 rfl ?_
  exact vf_zret dX2_isDigit_17 rfl (by decide)
theorem c_X2_isDigit {M : pm_M} {x1 : Int32}  {r : Int32} {M' : pm_M} (h : f_X2_isDigit M x1 = some (r, M')) (l : Launch) (V : pm_V) : pm_Ci l V skC yX2_isDigit mX2_isDigit 1 [.int x1] M r M' := pm_metI (by decide) rfl (Nat.le_of_ble_eq_true rfl) h (fun _ => w_X2_isDigit M x1 )
def lb_X2_readNumber_4 (p : Nat) (ih : Int32 → Int32 → pm_M → Option (Int32 × pm_M)) : Int32 → Int32 → pm_M → Option (Int32 × pm_M) := fun (l1 : Int32) (l2 : Int32) (Ml : pm_M) =>
  (if 4 ≤ l2 then (some (l1, Ml)) else (pm_b2 (f_X2_next p Ml) (fun (r5003 : Int32) (M5002 : pm_M) => (pm_b2 (f_X2_isDigit M5002 r5003) (fun (r5005 : Int32) (M5004 : pm_M) => (if r5005 = 0 then (some (l1, M5004)) else (pm_b2 (f_X2_next p M5004) (fun (r5007 : Int32) (M5006 : pm_M) => (pm_let (((10 * l1) + r5007) - 48) (fun z5008 : Int32 => (pm_let (pm_up M5006 p 4 ((M5006 p 4) + 1)) (fun M5009 : pm_M => (ih z5008 (l2 + 1) M5009)))))))))))))
def lp_X2_readNumber_4 (p : Nat) : Int32 → Int32 → pm_M → Option (Int32 × pm_M) := pm_it (fun _ _ _ => none) (lb_X2_readNumber_4 p) pm_F
def f_X2_readNumber (p : Nat) (M : pm_M) : Option pm_M :=
  (pm_b2 (lp_X2_readNumber_4 p 0 0 M) (fun (l1 : Int32) (M2 : pm_M) => (pm_b1 (f_X2_write p M2 l1) (fun M3 : pm_M => (some M3)))))
set_option maxHeartbeats 4000000 in
set_option maxRecDepth 100000 in
theorem wl_X2_readNumber_4 {X : pm_X} {V : pm_V} (p : Nat) (hp : at_RD p) : ∀ (l1 : Int32) (l2 : Int32) (Ml : pm_M), pm_VF (lp_X2_readNumber_4 p l1 l2 Ml) (fun b => (fun (l1 : Int32) (Ml : pm_M) => pm_J X V mX2_readNumber 2 (pm_wld V skC Ml) 48 [(0, .ref (V.1 p)), (1, .int l1)] []) b.1 b.2) (pm_J X V mX2_readNumber 2 (pm_wld V skC Ml) 4 [(0, .ref (V.1 p)), (1, .int l1), (2, .int l2)] []) := by
  refine pm_it_ind (P := fun (f : Int32 → Int32 → pm_M → Option (Int32 × pm_M)) => ∀ (l1 : Int32) (l2 : Int32) (Ml : pm_M), pm_VF (f l1 l2 Ml) (fun b => (fun (l1 : Int32) (Ml : pm_M) => pm_J X V mX2_readNumber 2 (pm_wld V skC Ml) 48 [(0, .ref (V.1 p)), (1, .int l1)] []) b.1 b.2) (pm_J X V mX2_readNumber 2 (pm_wld V skC Ml) 4 [(0, .ref (V.1 p)), (1, .int l1), (2, .int l2)] [])) (fun _ _ _ => vf_none) (fun ih hih l1 l2 Ml => ?_) pm_F
  · unfold lb_X2_readNumber_4
    refine jv_iloadn (j := 2) dX2_readNumber_4 rfl ?_
    refine jv_iconst (v := 4) dX2_readNumber_5 (by decide) ?_
    refine jw_ic_ge (tgt := 48) dX2_readNumber_6 rfl (fun c6 => ?_) (fun c6 => ?_)
    · exact vf_end (fun g => jr_sub [0, 1] rfl g)
    refine jv_aloadn (j := 0) dX2_readNumber_9 rfl ?_
    refine hv_callI (As := []) dX2_readNumber_10 lk2_49 kX2_next nX2_next (Nat.le_of_ble_eq_true rfl) (Nat.le_of_ble_eq_true rfl) (at_RD_0 hp) rfl rfl rfl (fun _ _ e l => c_X2_next hp e l V) ?_
    intro r5003 M5002
    refine hv_callS (As := [.int r5003]) dX2_readNumber_13 lk2_64 kX2_isDigit nX2_isDigit (Nat.le_of_ble_eq_true rfl) (Nat.le_of_ble_eq_true rfl) rfl (fun _ _ e l => c_X2_isDigit  e l V) ?_
    intro r5005 M5004
    refine jw_if_eq (tgt := 48) dX2_readNumber_16 rfl (fun c16 => ?_) (fun c16 => ?_)
    · exact vf_end (fun g => jr_sub [0, 1] rfl g)
    refine jv_bipush (v := 10) dX2_readNumber_19 (by decide) ?_
    refine jv_iloadn (j := 1) dX2_readNumber_21 rfl ?_
    refine jv_imul dX2_readNumber_22 ?_
    refine jv_aloadn (j := 0) dX2_readNumber_23 rfl ?_
    refine hv_callI (As := []) dX2_readNumber_24 lk2_49 kX2_next nX2_next (Nat.le_of_ble_eq_true rfl) (Nat.le_of_ble_eq_true rfl) (at_RD_0 hp) rfl rfl rfl (fun _ _ e l => c_X2_next hp e l V) ?_
    intro r5007 M5006
    refine jv_iadd dX2_readNumber_27 ?_
    refine jv_bipush (v := 48) dX2_readNumber_28 (by decide) ?_
    refine jv_isub dX2_readNumber_30 ?_
    refine vf_letS (fun z5008 => ?_)
    refine jv_istoren (L' := [(1, .int z5008), (0, .ref (V.1 p)), (2, .int l2)]) dX2_readNumber_31 (Nat.le_of_ble_eq_true rfl) rfl ?_
    refine jv_aloadn (j := 1) dX2_readNumber_32 rfl ?_
    refine jv_dup dX2_readNumber_33 rfl ?_
    refine hv_getI dX2_readNumber_34 fl2_25 (at_RD_0 hp) rfl ?_
    refine jv_iconst (v := 1) dX2_readNumber_37 (by decide) ?_
    refine jv_iadd dX2_readNumber_38 ?_
    refine hv_put dX2_readNumber_39 fp2_25 (at_RD_0 hp) rfl rfl rfl ?_
    refine vf_letM (fun M5009 => ?_)
    refine jv_iinc (j := 2) (v := l2 + 1) (L' := [(2, .int (l2 + 1)), (1, .int z5008), (0, .ref (V.1 p))]) dX2_readNumber_42 rfl rfl (Nat.le_of_ble_eq_true rfl) rfl ?_
    refine jv_goto (tgt := 4) dX2_readNumber_45 rfl ?_
    exact vf_j (fun g => jr_sub [2, 1, 0] rfl g) (hih z5008 (l2 + 1) M5009)
set_option maxHeartbeats 4000000 in
set_option maxRecDepth 100000 in
theorem w_X2_readNumber {X : pm_X} {V : pm_V} (p : Nat) (M : pm_M) (hp : at_RD p) : pm_VF (f_X2_readNumber p M) (pm_Kv X V mX2_readNumber 2 skC) (pm_J X V mX2_readNumber 2 (pm_wld V skC M) 0 [(0, .ref (V.1 p))] []) := by
  unfold f_X2_readNumber
  refine jv_iconst (v := 0) dX2_readNumber_0 (by decide) ?_
  refine jv_istoren (L' := [(1, .int 0), (0, .ref (V.1 p))]) dX2_readNumber_1 (Nat.le_of_ble_eq_true rfl) rfl ?_
  refine jv_iconst (v := 0) dX2_readNumber_2 (by decide) ?_
  refine jv_istoren (L' := [(2, .int 0), (1, .int 0), (0, .ref (V.1 p))]) dX2_readNumber_3 (Nat.le_of_ble_eq_true rfl) rfl ?_
  refine vl_b2 (P := fun (l1 : Int32) (Ml : pm_M) => pm_J X V mX2_readNumber 2 (pm_wld V skC Ml) 48 [(0, .ref (V.1 p)), (1, .int l1)] []) (vf_j (fun g => jr_sub [2, 1, 0] rfl g) (wl_X2_readNumber_4 p hp 0 0 M)) ?_
  intro l1 M2
  refine jv_aloadn (j := 0) dX2_readNumber_48 rfl ?_
  refine jv_iloadn (j := 1) dX2_readNumber_49 rfl ?_
  refine hv_callV (As := [.int l1]) dX2_readNumber_50 lk2_57 kX2_write nX2_write (Nat.le_of_ble_eq_true rfl) (Nat.le_of_ble_eq_true rfl) (at_RD_0 hp) rfl rfl rfl (fun _ e l => c_X2_write hp e l V) ?_
  intro M3
  exact vf_vret dX2_readNumber_53
theorem c_X2_readNumber {p : Nat} {M : pm_M} (hp : at_RD p) {M' : pm_M} (h : f_X2_readNumber p M = some M') (l : Launch) (V : pm_V) : pm_Cv l V skC yX2_readNumber mX2_readNumber 2 [.ref (V.1 p)] M M' := pm_metV (by decide) rfl (Nat.le_of_ble_eq_true rfl) rfl h (fun _ => w_X2_readNumber p M hp)
def lb_X2_nameOf_2 (p : Nat) (x1 : Int32) (M : pm_M) (ih : Int32 → Option ((Unit) ⊕ (Int32 × pm_M))) : Int32 → Option ((Unit) ⊕ (Int32 × pm_M)) := fun (l2 : Int32) =>
  (if 3 ≤ l2 then (some (Sum.inl ())) else (pm_chk (pm_in (((M p 5) * 3) + l2) 6) (if (pm_NAMES (((M p 5) * 3) + l2).toNatClampNeg) = x1 then (some (Sum.inr (l2, M))) else (ih (l2 + 1)))))
def lp_X2_nameOf_2 (p : Nat) (x1 : Int32) (M : pm_M) : Int32 → Option ((Unit) ⊕ (Int32 × pm_M)) := pm_it (fun _ => none) (lb_X2_nameOf_2 p x1 M) pm_F
def f_X2_nameOf (p : Nat) (M : pm_M) (x1 : Int32) : Option (Int32 × pm_M) :=
  (pm_s1 (lp_X2_nameOf_2 p x1 M 0) (fun _ => (some ((-1), M))))
set_option maxHeartbeats 4000000 in
set_option maxRecDepth 100000 in
theorem wl_X2_nameOf_2 {X : pm_X} {V : pm_V} (p : Nat) (x1 : Int32) (M : pm_M) (hp : at_RD p) : ∀ (l2 : Int32), pm_VF (lp_X2_nameOf_2 p x1 M l2) (Sum.elim (fun b => (fun (_ : Unit) => pm_J X V mX2_nameOf 1 (pm_wld V skC M) 31 [] []) b) (pm_K X V mX2_nameOf 1 skC)) (pm_J X V mX2_nameOf 1 (pm_wld V skC M) 2 [(0, .ref (V.1 p)), (1, .int x1), (2, .int l2)] []) := by
  refine pm_it_ind (P := fun (f : Int32 → Option ((Unit) ⊕ (Int32 × pm_M))) => ∀ (l2 : Int32), pm_VF (f l2) (Sum.elim (fun b => (fun (_ : Unit) => pm_J X V mX2_nameOf 1 (pm_wld V skC M) 31 [] []) b) (pm_K X V mX2_nameOf 1 skC)) (pm_J X V mX2_nameOf 1 (pm_wld V skC M) 2 [(0, .ref (V.1 p)), (1, .int x1), (2, .int l2)] [])) (fun _ => vf_none) (fun ih hih l2 => ?_) pm_F
  · unfold lb_X2_nameOf_2
    refine jv_iloadn (j := 2) dX2_nameOf_2 rfl ?_
    refine jv_iconst (v := 3) dX2_nameOf_3 (by decide) ?_
    refine jw_ic_ge (tgt := 31) dX2_nameOf_4 rfl (fun c4 => ?_) (fun c4 => ?_)
    · exact vf_inl (fun g => jr_sub [] rfl g)
    refine hv_getsN (Or.inr (Or.inl ⟨rfl, rfl, rfl⟩)) rfl dX2_nameOf_7 ?_
    refine jv_aloadn (j := 0) dX2_nameOf_10 rfl ?_
    refine hv_getI dX2_nameOf_11 fl2_28 (at_RD_0 hp) rfl ?_
    refine jv_iconst (v := 3) dX2_nameOf_14 (by decide) ?_
    refine jv_imul dX2_nameOf_15 ?_
    refine jv_iloadn (j := 2) dX2_nameOf_16 rfl ?_
    refine jv_iadd dX2_nameOf_17 ?_
    refine hv_tNC dX2_nameOf_18 (fun _ => ?_)
    refine jv_iloadn (j := 1) dX2_nameOf_19 rfl ?_
    refine jw_ic_ne (tgt := 25) dX2_nameOf_20 rfl (fun c20 => ?_) (fun c20 => ?_)
    · refine jv_iloadn (j := 2) dX2_nameOf_23 rfl ?_
      exact vf_inr (vf_ret dX2_nameOf_24 rfl)
    refine jv_iinc (j := 2) (v := l2 + 1) (L' := [(2, .int (l2 + 1)), (0, .ref (V.1 p)), (1, .int x1)]) dX2_nameOf_25 rfl rfl (Nat.le_of_ble_eq_true rfl) rfl ?_
    refine jv_goto (tgt := 2) dX2_nameOf_28 rfl ?_
    exact vf_j (fun g => jr_sub [1, 2, 0] rfl g) (hih (l2 + 1))
set_option maxHeartbeats 4000000 in
set_option maxRecDepth 100000 in
theorem w_X2_nameOf {X : pm_X} {V : pm_V} (p : Nat) (M : pm_M) (x1 : Int32) (hp : at_RD p) : pm_VF (f_X2_nameOf p M x1) (pm_K X V mX2_nameOf 1 skC) (pm_J X V mX2_nameOf 1 (pm_wld V skC M) 0 [(0, .ref (V.1 p)), (1, .int x1)] []) := by
  unfold f_X2_nameOf
  refine jv_iconst (v := 0) dX2_nameOf_0 (by decide) ?_
  refine jv_istoren (L' := [(2, .int 0), (0, .ref (V.1 p)), (1, .int x1)]) dX2_nameOf_1 (Nat.le_of_ble_eq_true rfl) rfl ?_
  refine vl_s1 (P := fun (_ : Unit) => pm_J X V mX2_nameOf 1 (pm_wld V skC M) 31 [] []) (vf_j (fun g => jr_sub [1, 2, 0] rfl g) (wl_X2_nameOf_2 p x1 M hp 0)) ?_
  intro _
  refine jv_iconst (v := -1) dX2_nameOf_31 (by decide) ?_
  exact vf_ret dX2_nameOf_32 rfl
theorem c_X2_nameOf {p : Nat} {M : pm_M} {x1 : Int32} (hp : at_RD p) {r : Int32} {M' : pm_M} (h : f_X2_nameOf p M x1 = some (r, M')) (l : Launch) (V : pm_V) : pm_Ci l V skC yX2_nameOf mX2_nameOf 1 [.ref (V.1 p), .int x1] M r M' := pm_metI (by decide) rfl (Nat.le_of_ble_eq_true rfl) h (fun _ => w_X2_nameOf p M x1 hp)
abbrev GT_X2_readJoined : Type := (Nat → pm_M → Int32 → Int32 → Option pm_M) × (Nat → pm_M → Int32 → Option pm_M)
def lb_X2_readJoined_21 (r : GT_X2_readJoined) (p : Nat) (x1 : Int32) (x2 : Int32) (ih : Int32 → pm_M → Option ((pm_M) ⊕ pm_M)) : Int32 → pm_M → Option ((pm_M) ⊕ pm_M) := fun (l3 : Int32) (Ml : pm_M) =>
  (if 50 ≤ l3 then (some (Sum.inl Ml)) else (if (Ml p 6) = 0 then (pm_b2 (f_X2_next p Ml) (fun (r22003 : Int32) (M22002 : pm_M) => (pm_b2 (f_X2_joins M22002 x1 r22003) (fun (r22005 : Int32) (M22004 : pm_M) => (if r22005 = 0 then (some (Sum.inl M22004)) else (pm_b2 (f_X2_next p M22004) (fun (r22007 : Int32) (M22006 : pm_M) => (pm_let (pm_up M22006 p 4 ((M22006 p 4) + 1)) (fun M22008 : pm_M => (pm_b1 (r.1 p M22008 (x1 + 1) x2) (fun M22009 : pm_M => (pm_b1 (f_X2_write p M22009 (-r22007)) (fun M22010 : pm_M => (if x1 = 2 then (some (Sum.inr M22010)) else (ih (l3 + 1) M22010))))))))))))))) else (some (Sum.inl Ml))))
def lp_X2_readJoined_21 (r : GT_X2_readJoined) (p : Nat) (x1 : Int32) (x2 : Int32) : Int32 → pm_M → Option ((pm_M) ⊕ pm_M) := pm_it (fun _ _ => none) (lb_X2_readJoined_21 r p x1 x2) pm_F
def rb_X2_readJoined (r : GT_X2_readJoined) : Nat → pm_M → Int32 → Int32 → Option pm_M := fun p M x1 x2 =>
  (if x1 < 5 then (pm_b1 (r.1 p M (x1 + 1) x2) (fun M1 : pm_M => (pm_s1 (lp_X2_readJoined_21 r p x1 x2 0 M1) (fun (M2 : pm_M) => (some M2))))) else (pm_b1 (r.2 p M x2) (fun M3 : pm_M => (some M3))))
def rb_X2_readSingle (r : GT_X2_readJoined) : Nat → pm_M → Int32 → Option pm_M := fun p M x1 =>
  (pm_b2 (f_X2_next p M) (fun (r2 : Int32) (M1 : pm_M) => (pm_b2 (f_X2_nameOf p M1 r2) (fun (r4 : Int32) (M3 : pm_M) => (pm_b2 (f_X2_isDigit M3 r2) (fun (r6 : Int32) (M5 : pm_M) => (if r6 = 0 then (if r4 < 0 then (if r2 = 33 then (if 5 ≤ x1 then (if r2 = 40 then (if 5 ≤ x1 then (pm_let (pm_up M5 p 6 1) (fun M7 : pm_M => (some M7))) else (pm_let (pm_up M5 p 4 ((M5 p 4) + 1)) (fun M8 : pm_M => (pm_b1 (r.1 p M8 0 (x1 + 1)) (fun M9 : pm_M => (pm_b1 (f_X2_readClosing p M9) (fun M10 : pm_M => (some M10)))))))) else (pm_let (pm_up M5 p 6 1) (fun M11 : pm_M => (some M11)))) else (pm_let (pm_up M5 p 4 ((M5 p 4) + 1)) (fun M12 : pm_M => (pm_b1 (r.2 p M12 (x1 + 1)) (fun M13 : pm_M => (pm_b1 (f_X2_write p M13 (-33)) (fun M14 : pm_M => (some M14)))))))) else (if r2 = 40 then (if 5 ≤ x1 then (pm_let (pm_up M5 p 6 1) (fun M15 : pm_M => (some M15))) else (pm_let (pm_up M5 p 4 ((M5 p 4) + 1)) (fun M16 : pm_M => (pm_b1 (r.1 p M16 0 (x1 + 1)) (fun M17 : pm_M => (pm_b1 (f_X2_readClosing p M17) (fun M18 : pm_M => (some M18)))))))) else (pm_let (pm_up M5 p 6 1) (fun M19 : pm_M => (some M19))))) else (pm_let (pm_up M5 p 4 ((M5 p 4) + 1)) (fun M20 : pm_M => (pm_b1 (f_X2_write p M20 ((-1) - r4)) (fun M21 : pm_M => (some M21)))))) else (pm_b1 (f_X2_readNumber p M5) (fun M22 : pm_M => (some M22))))))))))
def fG_X2_readJoined : Nat → GT_X2_readJoined := pm_it ((fun _ _ _ _ => none, fun _ _ _ => none)) (fun r => (rb_X2_readJoined r, rb_X2_readSingle r))
def GP_X2_readJoined (n : Nat) (r : GT_X2_readJoined) : Prop := (∀ {p : Nat}, (at_RD p) → ∀ (M : pm_M) (x1 : Int32) (x2 : Int32) (M' : pm_M), r.1 p M x1 x2 = some M' → ∀ (l : Launch) (V : pm_V), pm_Cv l V skC yX2_readJoined mX2_readJoined (3 + n) [.ref (V.1 p), .int x1, .int x2] M M') ∧ (∀ {p : Nat}, (at_RD p) → ∀ (M : pm_M) (x1 : Int32) (M' : pm_M), r.2 p M x1 = some M' → ∀ (l : Launch) (V : pm_V), pm_Cv l V skC yX2_readSingle mX2_readSingle (3 + n) [.ref (V.1 p), .int x1] M M')
set_option maxHeartbeats 4000000 in
set_option maxRecDepth 100000 in
theorem wl_X2_readJoined_21 {X : pm_X} {V : pm_V} {n : Nat} {r : GT_X2_readJoined} (hr : GP_X2_readJoined n r) (p : Nat) (x1 : Int32) (x2 : Int32) (hp : at_RD p) : ∀ (l3 : Int32) (Ml : pm_M), pm_VF (lp_X2_readJoined_21 r p x1 x2 l3 Ml) (Sum.elim (fun b => (fun (Ml : pm_M) => pm_J X V mX2_readJoined (3 + (n + 1)) (pm_wld V skC Ml) 88 [] []) b) (pm_Kv X V mX2_readJoined (3 + (n + 1)) skC)) (pm_J X V mX2_readJoined (3 + (n + 1)) (pm_wld V skC Ml) 21 [(0, .ref (V.1 p)), (1, .int x1), (2, .int x2), (3, .int l3)] []) := by
  refine pm_it_ind (P := fun (f : Int32 → pm_M → Option ((pm_M) ⊕ pm_M)) => ∀ (l3 : Int32) (Ml : pm_M), pm_VF (f l3 Ml) (Sum.elim (fun b => (fun (Ml : pm_M) => pm_J X V mX2_readJoined (3 + (n + 1)) (pm_wld V skC Ml) 88 [] []) b) (pm_Kv X V mX2_readJoined (3 + (n + 1)) skC)) (pm_J X V mX2_readJoined (3 + (n + 1)) (pm_wld V skC Ml) 21 [(0, .ref (V.1 p)), (1, .int x1), (2, .int x2), (3, .int l3)] [])) (fun _ _ => vf_none) (fun ih hih l3 Ml => ?_) pm_F
  · unfold lb_X2_readJoined_21
    refine jv_iloadn (j := 3) dX2_readJoined_21 rfl ?_
    refine jv_bipush (v := 50) dX2_readJoined_22 (by decide) ?_
    refine jw_ic_ge (tgt := 88) dX2_readJoined_24 rfl (fun c24 => ?_) (fun c24 => ?_)
    · exact vf_inl (fun g => jr_sub [] rfl g)
    refine jv_aloadn (j := 0) dX2_readJoined_27 rfl ?_
    refine hv_getI dX2_readJoined_28 fl2_31 (at_RD_0 hp) rfl ?_
    refine jw_if_ne (tgt := 88) dX2_readJoined_31 rfl (fun c31 => ?_) (fun c31 => ?_)
    · refine jv_iloadn (j := 1) dX2_readJoined_34 rfl ?_
      refine jv_aloadn (j := 0) dX2_readJoined_35 rfl ?_
      refine hv_callI (As := []) dX2_readJoined_36 lk2_49 kX2_next nX2_next (by omega) (Nat.le_of_ble_eq_true rfl) (at_RD_0 hp) rfl rfl rfl (fun _ _ e l => c_X2_next hp e l V) ?_
      intro r22003 M22002
      refine hv_callS (As := [.int x1, .int r22003]) dX2_readJoined_39 lk2_53 kX2_joins nX2_joins (by omega) (Nat.le_of_ble_eq_true rfl) rfl (fun _ _ e l => c_X2_joins  e l V) ?_
      intro r22005 M22004
      refine jw_if_eq (tgt := 88) dX2_readJoined_42 rfl (fun c42 => ?_) (fun c42 => ?_)
      · exact vf_inl (fun g => jr_sub [] rfl g)
      refine jv_aloadn (j := 0) dX2_readJoined_45 rfl ?_
      refine hv_callI (As := []) dX2_readJoined_46 lk2_49 kX2_next nX2_next (by omega) (Nat.le_of_ble_eq_true rfl) (at_RD_0 hp) rfl rfl rfl (fun _ _ e l => c_X2_next hp e l V) ?_
      intro r22007 M22006
      refine jv_istore (L' := [(4, .int r22007), (0, .ref (V.1 p)), (1, .int x1), (2, .int x2), (3, .int l3)]) dX2_readJoined_49 (Nat.le_of_ble_eq_true rfl) rfl ?_
      refine jv_aloadn (j := 1) dX2_readJoined_51 rfl ?_
      refine jv_dup dX2_readJoined_52 rfl ?_
      refine hv_getI dX2_readJoined_53 fl2_25 (at_RD_0 hp) rfl ?_
      refine jv_iconst (v := 1) dX2_readJoined_56 (by decide) ?_
      refine jv_iadd dX2_readJoined_57 ?_
      refine hv_put dX2_readJoined_58 fp2_25 (at_RD_0 hp) rfl rfl rfl ?_
      refine vf_letM (fun M22008 => ?_)
      refine jv_aloadn (j := 1) dX2_readJoined_61 rfl ?_
      refine jv_iloadn (j := 2) dX2_readJoined_62 rfl ?_
      refine jv_iconst (v := 1) dX2_readJoined_63 (by decide) ?_
      refine jv_iadd dX2_readJoined_64 ?_
      refine jv_iloadn (j := 3) dX2_readJoined_65 rfl ?_
      refine hv_callV (As := [.int (x1 + 1), .int x2]) dX2_readJoined_66 lk2_41 kX2_readJoined nX2_readJoined (by omega) (Nat.le_of_ble_eq_true rfl) (at_RD_0 hp) rfl rfl rfl (fun _ e l => hr.1 hp _ _ _ _ e l V) ?_
      intro M22009
      refine jv_aloadn (j := 1) dX2_readJoined_69 rfl ?_
      refine jv_iload (j := 0) dX2_readJoined_70 rfl ?_
      refine jv_ineg dX2_readJoined_72 ?_
      refine hv_callV (As := [.int (-r22007)]) dX2_readJoined_73 lk2_57 kX2_write nX2_write (by omega) (Nat.le_of_ble_eq_true rfl) (at_RD_0 hp) rfl rfl rfl (fun _ e l => c_X2_write hp e l V) ?_
      intro M22010
      refine jv_iloadn (j := 2) dX2_readJoined_76 rfl ?_
      refine jv_iconst (v := 2) dX2_readJoined_77 (by decide) ?_
      refine jw_ic_ne (tgt := 82) dX2_readJoined_78 rfl (fun c78 => ?_) (fun c78 => ?_)
      · exact vf_inr (vf_vret dX2_readJoined_81)
      refine jv_iinc (j := 4) (v := l3 + 1) (L' := [(3, .int (l3 + 1)), (4, .int r22007), (0, .ref (V.1 p)), (1, .int x1), (2, .int x2)]) dX2_readJoined_82 rfl rfl (Nat.le_of_ble_eq_true rfl) rfl ?_
      refine jv_goto (tgt := 21) dX2_readJoined_85 rfl ?_
      exact vf_j (fun g => jr_sub [2, 3, 4, 0] rfl g) (hih (l3 + 1) M22010)
    exact vf_inl (fun g => jr_sub [] rfl g)
set_option maxHeartbeats 4000000 in
set_option maxRecDepth 100000 in
theorem w_X2_readJoined {X : pm_X} {V : pm_V} {n : Nat} {r : GT_X2_readJoined} (hr : GP_X2_readJoined n r) (p : Nat) (M : pm_M) (x1 : Int32) (x2 : Int32) (hp : at_RD p) : pm_VF (rb_X2_readJoined r p M x1 x2) (pm_Kv X V mX2_readJoined (3 + (n + 1)) skC) (pm_J X V mX2_readJoined (3 + (n + 1)) (pm_wld V skC M) 0 [(0, .ref (V.1 p)), (1, .int x1), (2, .int x2)] []) := by
  unfold rb_X2_readJoined
  refine jv_iloadn (j := 1) dX2_readJoined_0 rfl ?_
  refine jv_iconst (v := 5) dX2_readJoined_1 (by decide) ?_
  refine jw_ic_lt (tgt := 11) dX2_readJoined_2 rfl (fun c2 => ?_) (fun c2 => ?_)
  · refine jv_aloadn (j := 0) dX2_readJoined_11 rfl ?_
    refine jv_iloadn (j := 1) dX2_readJoined_12 rfl ?_
    refine jv_iconst (v := 1) dX2_readJoined_13 (by decide) ?_
    refine jv_iadd dX2_readJoined_14 ?_
    refine jv_iloadn (j := 2) dX2_readJoined_15 rfl ?_
    refine hv_callV (As := [.int (x1 + 1), .int x2]) dX2_readJoined_16 lk2_41 kX2_readJoined nX2_readJoined (by omega) (Nat.le_of_ble_eq_true rfl) (at_RD_0 hp) rfl rfl rfl (fun _ e l => hr.1 hp _ _ _ _ e l V) ?_
    intro M1
    refine jv_iconst (v := 0) dX2_readJoined_19 (by decide) ?_
    refine jv_istoren (L' := [(3, .int 0), (0, .ref (V.1 p)), (1, .int x1), (2, .int x2)]) dX2_readJoined_20 (Nat.le_of_ble_eq_true rfl) rfl ?_
    refine vl_s1 (P := fun (Ml : pm_M) => pm_J X V mX2_readJoined (3 + (n + 1)) (pm_wld V skC Ml) 88 [] []) (vf_j (fun g => jr_sub [1, 2, 3, 0] rfl g) (wl_X2_readJoined_21 hr p x1 x2 hp 0 M1)) ?_
    intro M2
    exact vf_vret dX2_readJoined_88
  refine jv_aloadn (j := 0) dX2_readJoined_5 rfl ?_
  refine jv_iloadn (j := 2) dX2_readJoined_6 rfl ?_
  refine hv_callV (As := [.int x2]) dX2_readJoined_7 lk2_45 kX2_readSingle nX2_readSingle (by omega) (Nat.le_of_ble_eq_true rfl) (at_RD_0 hp) rfl rfl rfl (fun _ e l => hr.2 hp _ _ _ e l V) ?_
  intro M3
  exact vf_vret dX2_readJoined_10
set_option maxHeartbeats 4000000 in
set_option maxRecDepth 100000 in
theorem w_X2_readSingle {X : pm_X} {V : pm_V} {n : Nat} {r : GT_X2_readJoined} (hr : GP_X2_readJoined n r) (p : Nat) (M : pm_M) (x1 : Int32) (hp : at_RD p) : pm_VF (rb_X2_readSingle r p M x1) (pm_Kv X V mX2_readSingle (3 + (n + 1)) skC) (pm_J X V mX2_readSingle (3 + (n + 1)) (pm_wld V skC M) 0 [(0, .ref (V.1 p)), (1, .int x1)] []) := by
  unfold rb_X2_readSingle
  refine jv_aloadn (j := 0) dX2_readSingle_0 rfl ?_
  refine hv_callI (As := []) dX2_readSingle_1 lk2_49 kX2_next nX2_next (by omega) (Nat.le_of_ble_eq_true rfl) (at_RD_0 hp) rfl rfl rfl (fun _ _ e l => c_X2_next hp e l V) ?_
  intro r2 M1
  refine jv_istoren (L' := [(2, .int r2), (0, .ref (V.1 p)), (1, .int x1)]) dX2_readSingle_4 (Nat.le_of_ble_eq_true rfl) rfl ?_
  refine jv_aloadn (j := 1) dX2_readSingle_5 rfl ?_
  refine jv_iloadn (j := 0) dX2_readSingle_6 rfl ?_
  refine hv_callI (As := [.int r2]) dX2_readSingle_7 lk2_60 kX2_nameOf nX2_nameOf (by omega) (Nat.le_of_ble_eq_true rfl) (at_RD_0 hp) rfl rfl rfl (fun _ _ e l => c_X2_nameOf hp e l V) ?_
  intro r4 M3
  refine jv_istoren (L' := [(3, .int r4), (2, .int r2), (0, .ref (V.1 p)), (1, .int x1)]) dX2_readSingle_10 (Nat.le_of_ble_eq_true rfl) rfl ?_
  refine jv_iloadn (j := 1) dX2_readSingle_11 rfl ?_
  refine hv_callS (As := [.int r2]) dX2_readSingle_12 lk2_64 kX2_isDigit nX2_isDigit (by omega) (Nat.le_of_ble_eq_true rfl) rfl (fun _ _ e l => c_X2_isDigit  e l V) ?_
  intro r6 M5
  refine jw_if_eq (tgt := 25) dX2_readSingle_15 rfl (fun c15 => ?_) (fun c15 => ?_)
  · refine jv_iloadn (j := 0) dX2_readSingle_25 rfl ?_
    refine jw_if_lt (tgt := 49) dX2_readSingle_26 rfl (fun c26 => ?_) (fun c26 => ?_)
    · refine jv_iloadn (j := 1) dX2_readSingle_49 rfl ?_
      refine jv_bipush (v := 33) dX2_readSingle_50 (by decide) ?_
      refine jw_ic_ne (tgt := 86) dX2_readSingle_52 rfl (fun c52 => ?_) (fun c52 => ?_)
      · refine jv_iloadn (j := 3) dX2_readSingle_55 rfl ?_
        refine jv_iconst (v := 5) dX2_readSingle_56 (by decide) ?_
        refine jw_ic_ge (tgt := 86) dX2_readSingle_57 rfl (fun c57 => ?_) (fun c57 => ?_)
        · refine jv_iloadn (j := 1) dX2_readSingle_86 rfl ?_
          refine jv_bipush (v := 40) dX2_readSingle_87 (by decide) ?_
          refine jw_ic_ne (tgt := 122) dX2_readSingle_89 rfl (fun c89 => ?_) (fun c89 => ?_)
          · refine jv_iloadn (j := 3) dX2_readSingle_92 rfl ?_
            refine jv_iconst (v := 5) dX2_readSingle_93 (by decide) ?_
            refine jw_ic_ge (tgt := 122) dX2_readSingle_94 rfl (fun c94 => ?_) (fun c94 => ?_)
            · refine jv_aloadn (j := 2) dX2_readSingle_122 rfl ?_
              refine jv_iconst (v := 1) dX2_readSingle_123 (by decide) ?_
              refine hv_put dX2_readSingle_124 fp2_31 (at_RD_0 hp) rfl rfl rfl ?_
              refine vf_letM (fun M7 => ?_)
              exact vf_vret dX2_readSingle_127
            refine jv_aloadn (j := 2) dX2_readSingle_97 rfl ?_
            refine jv_dup dX2_readSingle_98 rfl ?_
            refine hv_getI dX2_readSingle_99 fl2_25 (at_RD_0 hp) rfl ?_
            refine jv_iconst (v := 1) dX2_readSingle_102 (by decide) ?_
            refine jv_iadd dX2_readSingle_103 ?_
            refine hv_put dX2_readSingle_104 fp2_25 (at_RD_0 hp) rfl rfl rfl ?_
            refine vf_letM (fun M8 => ?_)
            refine jv_aloadn (j := 2) dX2_readSingle_107 rfl ?_
            refine jv_iconst (v := 0) dX2_readSingle_108 (by decide) ?_
            refine jv_iloadn (j := 3) dX2_readSingle_109 rfl ?_
            refine jv_iconst (v := 1) dX2_readSingle_110 (by decide) ?_
            refine jv_iadd dX2_readSingle_111 ?_
            refine hv_callV (As := [.int 0, .int (x1 + 1)]) dX2_readSingle_112 lk2_41 kX2_readJoined nX2_readJoined (by omega) (Nat.le_of_ble_eq_true rfl) (at_RD_0 hp) rfl rfl rfl (fun _ e l => hr.1 hp _ _ _ _ e l V) ?_
            intro M9
            refine jv_aloadn (j := 2) dX2_readSingle_115 rfl ?_
            refine hv_callV (As := []) dX2_readSingle_116 lk2_71 kX2_readClosing nX2_readClosing (by omega) (Nat.le_of_ble_eq_true rfl) (at_RD_0 hp) rfl rfl rfl (fun _ e l => c_X2_readClosing hp e l V) ?_
            intro M10
            refine jv_goto (tgt := 127) dX2_readSingle_119 rfl ?_
            exact vf_vret dX2_readSingle_127
          refine jv_aloadn (j := 2) dX2_readSingle_122 rfl ?_
          refine jv_iconst (v := 1) dX2_readSingle_123 (by decide) ?_
          refine hv_put dX2_readSingle_124 fp2_31 (at_RD_0 hp) rfl rfl rfl ?_
          refine vf_letM (fun M11 => ?_)
          exact vf_vret dX2_readSingle_127
        refine jv_aloadn (j := 2) dX2_readSingle_60 rfl ?_
        refine jv_dup dX2_readSingle_61 rfl ?_
        refine hv_getI dX2_readSingle_62 fl2_25 (at_RD_0 hp) rfl ?_
        refine jv_iconst (v := 1) dX2_readSingle_65 (by decide) ?_
        refine jv_iadd dX2_readSingle_66 ?_
        refine hv_put dX2_readSingle_67 fp2_25 (at_RD_0 hp) rfl rfl rfl ?_
        refine vf_letM (fun M12 => ?_)
        refine jv_aloadn (j := 2) dX2_readSingle_70 rfl ?_
        refine jv_iloadn (j := 3) dX2_readSingle_71 rfl ?_
        refine jv_iconst (v := 1) dX2_readSingle_72 (by decide) ?_
        refine jv_iadd dX2_readSingle_73 ?_
        refine hv_callV (As := [.int (x1 + 1)]) dX2_readSingle_74 lk2_45 kX2_readSingle nX2_readSingle (by omega) (Nat.le_of_ble_eq_true rfl) (at_RD_0 hp) rfl rfl rfl (fun _ e l => hr.2 hp _ _ _ e l V) ?_
        intro M13
        refine jv_aloadn (j := 2) dX2_readSingle_77 rfl ?_
        refine jv_bipush (v := -33) dX2_readSingle_78 (by decide) ?_
        refine hv_callV (As := [.int (-33)]) dX2_readSingle_80 lk2_57 kX2_write nX2_write (by omega) (Nat.le_of_ble_eq_true rfl) (at_RD_0 hp) rfl rfl rfl (fun _ e l => c_X2_write hp e l V) ?_
        intro M14
        refine jv_goto (tgt := 127) dX2_readSingle_83 rfl ?_
        exact vf_vret dX2_readSingle_127
      refine jv_iloadn (j := 1) dX2_readSingle_86 rfl ?_
      refine jv_bipush (v := 40) dX2_readSingle_87 (by decide) ?_
      refine jw_ic_ne (tgt := 122) dX2_readSingle_89 rfl (fun c89 => ?_) (fun c89 => ?_)
      · refine jv_iloadn (j := 3) dX2_readSingle_92 rfl ?_
        refine jv_iconst (v := 5) dX2_readSingle_93 (by decide) ?_
        refine jw_ic_ge (tgt := 122) dX2_readSingle_94 rfl (fun c94 => ?_) (fun c94 => ?_)
        · refine jv_aloadn (j := 2) dX2_readSingle_122 rfl ?_
          refine jv_iconst (v := 1) dX2_readSingle_123 (by decide) ?_
          refine hv_put dX2_readSingle_124 fp2_31 (at_RD_0 hp) rfl rfl rfl ?_
          refine vf_letM (fun M15 => ?_)
          exact vf_vret dX2_readSingle_127
        refine jv_aloadn (j := 2) dX2_readSingle_97 rfl ?_
        refine jv_dup dX2_readSingle_98 rfl ?_
        refine hv_getI dX2_readSingle_99 fl2_25 (at_RD_0 hp) rfl ?_
        refine jv_iconst (v := 1) dX2_readSingle_102 (by decide) ?_
        refine jv_iadd dX2_readSingle_103 ?_
        refine hv_put dX2_readSingle_104 fp2_25 (at_RD_0 hp) rfl rfl rfl ?_
        refine vf_letM (fun M16 => ?_)
        refine jv_aloadn (j := 2) dX2_readSingle_107 rfl ?_
        refine jv_iconst (v := 0) dX2_readSingle_108 (by decide) ?_
        refine jv_iloadn (j := 3) dX2_readSingle_109 rfl ?_
        refine jv_iconst (v := 1) dX2_readSingle_110 (by decide) ?_
        refine jv_iadd dX2_readSingle_111 ?_
        refine hv_callV (As := [.int 0, .int (x1 + 1)]) dX2_readSingle_112 lk2_41 kX2_readJoined nX2_readJoined (by omega) (Nat.le_of_ble_eq_true rfl) (at_RD_0 hp) rfl rfl rfl (fun _ e l => hr.1 hp _ _ _ _ e l V) ?_
        intro M17
        refine jv_aloadn (j := 2) dX2_readSingle_115 rfl ?_
        refine hv_callV (As := []) dX2_readSingle_116 lk2_71 kX2_readClosing nX2_readClosing (by omega) (Nat.le_of_ble_eq_true rfl) (at_RD_0 hp) rfl rfl rfl (fun _ e l => c_X2_readClosing hp e l V) ?_
        intro M18
        refine jv_goto (tgt := 127) dX2_readSingle_119 rfl ?_
        exact vf_vret dX2_readSingle_127
      refine jv_aloadn (j := 2) dX2_readSingle_122 rfl ?_
      refine jv_iconst (v := 1) dX2_readSingle_123 (by decide) ?_
      refine hv_put dX2_readSingle_124 fp2_31 (at_RD_0 hp) rfl rfl rfl ?_
      refine vf_letM (fun M19 => ?_)
      exact vf_vret dX2_readSingle_127
    refine jv_aloadn (j := 2) dX2_readSingle_29 rfl ?_
    refine jv_dup dX2_readSingle_30 rfl ?_
    refine hv_getI dX2_readSingle_31 fl2_25 (at_RD_0 hp) rfl ?_
    refine jv_iconst (v := 1) dX2_readSingle_34 (by decide) ?_
    refine jv_iadd dX2_readSingle_35 ?_
    refine hv_put dX2_readSingle_36 fp2_25 (at_RD_0 hp) rfl rfl rfl ?_
    refine vf_letM (fun M20 => ?_)
    refine jv_aloadn (j := 2) dX2_readSingle_39 rfl ?_
    refine jv_iconst (v := -1) dX2_readSingle_40 (by decide) ?_
    refine jv_iloadn (j := 0) dX2_readSingle_41 rfl ?_
    refine jv_isub dX2_readSingle_42 ?_
    refine hv_callV (As := [.int ((-1) - r4)]) dX2_readSingle_43 lk2_57 kX2_write nX2_write (by omega) (Nat.le_of_ble_eq_true rfl) (at_RD_0 hp) rfl rfl rfl (fun _ e l => c_X2_write hp e l V) ?_
    intro M21
    refine jv_goto (tgt := 127) dX2_readSingle_46 rfl ?_
    exact vf_vret dX2_readSingle_127
  refine jv_aloadn (j := 2) dX2_readSingle_18 rfl ?_
  refine hv_callV (As := []) dX2_readSingle_19 lk2_68 kX2_readNumber nX2_readNumber (by omega) (Nat.le_of_ble_eq_true rfl) (at_RD_0 hp) rfl rfl rfl (fun _ e l => c_X2_readNumber hp e l V) ?_
  intro M22
  refine jv_goto (tgt := 127) dX2_readSingle_22 rfl ?_
  exact vf_vret dX2_readSingle_127
set_option maxHeartbeats 4000000 in
set_option maxRecDepth 100000 in
theorem cG_X2_readJoined : ∀ n, GP_X2_readJoined n (fG_X2_readJoined n)
  | 0 => ⟨(fun _ _ _ _ _ h => by cases h), (fun _ _ _ _ h => by cases h)⟩
  | n + 1 => by
    have ih := cG_X2_readJoined n
    exact ⟨(fun hp M x1 x2 M' h l V => pm_metV (by decide) rfl (Nat.le_of_ble_eq_true rfl) rfl h (fun _ => w_X2_readJoined ih _ M x1 x2 hp)), (fun hp M x1 M' h l V => pm_metV (by decide) rfl (Nat.le_of_ble_eq_true rfl) rfl h (fun _ => w_X2_readSingle ih _ M x1 hp))⟩
def f_X2_readJoined : Nat → pm_M → Int32 → Int32 → Option pm_M := (fG_X2_readJoined pm_D).1
theorem c_X2_readJoined {p : Nat} {M : pm_M} {x1 : Int32} {x2 : Int32} (hp : at_RD p) {M' : pm_M} (h : f_X2_readJoined p M x1 x2 = some M') (l : Launch) (V : pm_V) : pm_Cv l V skC yX2_readJoined mX2_readJoined 103 [.ref (V.1 p), .int x1, .int x2] M M' := (cG_X2_readJoined pm_D).1 hp _ _ _ _ h l V
def f_X2_readSingle : Nat → pm_M → Int32 → Option pm_M := (fG_X2_readJoined pm_D).2
theorem c_X2_readSingle {p : Nat} {M : pm_M} {x1 : Int32} (hp : at_RD p) {M' : pm_M} (h : f_X2_readSingle p M x1 = some M') (l : Launch) (V : pm_V) : pm_Cv l V skC yX2_readSingle mX2_readSingle 103 [.ref (V.1 p), .int x1] M M' := (cG_X2_readJoined pm_D).2 hp _ _ _ h l V
def f_X2_read (p : Nat) (M : pm_M) (a1 : Nat) (x2 : Int32) (x3 : Int32) : Option (Int32 × pm_M) :=
  (pm_let (pm_cpy M a1 (0 : Int32).toNatClampNeg (p + 2) (0 : Int32).toNatClampNeg (50 : Int32).toNatClampNeg) (fun M1 : pm_M => (pm_let (pm_up M1 p 3 x2) (fun M2 : pm_M => (pm_let (pm_up M2 p 4 0) (fun M3 : pm_M => (pm_let (pm_up M3 p 1 0) (fun M4 : pm_M => (pm_let (pm_up M4 p 5 x3) (fun M5 : pm_M => (pm_let (pm_up M5 p 6 0) (fun M6 : pm_M => (pm_b1 (f_X2_readJoined p M6 0 0) (fun M7 : pm_M => (if (M7 p 6) = 0 then (if (M7 p 3) ≤ (M7 p 4) then (some ((-1), M7)) else (some ((M7 p 4), M7))) else (some ((M7 p 4), M7)))))))))))))))))
set_option maxHeartbeats 4000000 in
set_option maxRecDepth 100000 in
theorem w_X2_read {X : pm_X} {V : pm_V} (p : Nat) (M : pm_M) (a1 : Nat) (x2 : Int32) (x3 : Int32) (hp : at_RD p) (h1a : skC[a1]? = some (.inl (0, 50) : pm_Sh)) : pm_VF (f_X2_read p M a1 x2 x3) (pm_K X V mX2_read 104 skC) (pm_J X V mX2_read 104 (pm_wld V skC M) 0 [(0, .ref (V.1 p)), (1, .ref (V.1 a1)), (2, .int x2), (3, .int x3)] []) := by
  unfold f_X2_read
  refine jv_aloadn (j := 1) dX2_read_0 rfl ?_
  refine jv_iconst (v := 0) dX2_read_1 (by decide) ?_
  refine jv_aloadn (j := 0) dX2_read_2 rfl ?_
  refine hv_getR dX2_read_3 fl2_19 (at_RD_0 hp) rfl ?_
  refine jv_iconst (v := 0) dX2_read_6 (by decide) ?_
  refine jv_bipush (v := 50) dX2_read_7 (by decide) ?_
  refine hv_copy dX2_read_9 lk2_35 lkS_n lkS_s lkS_i (Nat.le_of_ble_eq_true rfl) h1a (at_RD_2 hp) (by decide) ?_
  refine vf_letM (fun M1 => ?_)
  refine jv_aloadn (j := 0) dX2_read_12 rfl ?_
  refine jv_iloadn (j := 2) dX2_read_13 rfl ?_
  refine hv_put dX2_read_14 fp2_22 (at_RD_0 hp) rfl rfl rfl ?_
  refine vf_letM (fun M2 => ?_)
  refine jv_aloadn (j := 0) dX2_read_17 rfl ?_
  refine jv_iconst (v := 0) dX2_read_18 (by decide) ?_
  refine hv_put dX2_read_19 fp2_25 (at_RD_0 hp) rfl rfl rfl ?_
  refine vf_letM (fun M3 => ?_)
  refine jv_aloadn (j := 0) dX2_read_22 rfl ?_
  refine jv_iconst (v := 0) dX2_read_23 (by decide) ?_
  refine hv_put dX2_read_24 fp2_15 (at_RD_0 hp) rfl rfl rfl ?_
  refine vf_letM (fun M4 => ?_)
  refine jv_aloadn (j := 0) dX2_read_27 rfl ?_
  refine jv_iloadn (j := 3) dX2_read_28 rfl ?_
  refine hv_put dX2_read_29 fp2_28 (at_RD_0 hp) rfl rfl rfl ?_
  refine vf_letM (fun M5 => ?_)
  refine jv_aloadn (j := 0) dX2_read_32 rfl ?_
  refine jv_iconst (v := 0) dX2_read_33 (by decide) ?_
  refine hv_put dX2_read_34 fp2_31 (at_RD_0 hp) rfl rfl rfl ?_
  refine vf_letM (fun M6 => ?_)
  refine jv_aloadn (j := 0) dX2_read_37 rfl ?_
  refine jv_iconst (v := 0) dX2_read_38 (by decide) ?_
  refine jv_iconst (v := 0) dX2_read_39 (by decide) ?_
  refine hv_callV (As := [.int 0, .int 0]) dX2_read_40 lk2_41 kX2_readJoined nX2_readJoined (Nat.le_of_ble_eq_true rfl) (Nat.le_of_ble_eq_true rfl) (at_RD_0 hp) rfl rfl rfl (fun _ e l => c_X2_readJoined hp e l V) ?_
  intro M7
  refine jv_aloadn (j := 0) dX2_read_43 rfl ?_
  refine hv_getI dX2_read_44 fl2_31 (at_RD_0 hp) rfl ?_
  refine jw_if_ne (tgt := 61) dX2_read_47 rfl (fun c47 => ?_) (fun c47 => ?_)
  · refine jv_aloadn (j := 0) dX2_read_50 rfl ?_
    refine hv_getI dX2_read_51 fl2_25 (at_RD_0 hp) rfl ?_
    refine jv_aloadn (j := 0) dX2_read_54 rfl ?_
    refine hv_getI dX2_read_55 fl2_22 (at_RD_0 hp) rfl ?_
    refine jw_ic_ge (tgt := 68) dX2_read_58 rfl (fun c58 => ?_) (fun c58 => ?_)
    · refine jv_iconst (v := -1) dX2_read_68 (by decide) ?_
      exact vf_ret dX2_read_69 rfl
    refine jv_aloadn (j := 0) dX2_read_61 rfl ?_
    refine hv_getI dX2_read_62 fl2_25 (at_RD_0 hp) rfl ?_
    refine jv_goto (tgt := 69) dX2_read_65 rfl ?_
    exact vf_ret dX2_read_69 rfl
  refine jv_aloadn (j := 0) dX2_read_61 rfl ?_
  refine hv_getI dX2_read_62 fl2_25 (at_RD_0 hp) rfl ?_
  refine jv_goto (tgt := 69) dX2_read_65 rfl ?_
  exact vf_ret dX2_read_69 rfl
theorem c_X2_read {p : Nat} {M : pm_M} {a1 : Nat} {x2 : Int32} {x3 : Int32} (hp : at_RD p) (h1a : skC[a1]? = some (.inl (0, 50) : pm_Sh)) {r : Int32} {M' : pm_M} (h : f_X2_read p M a1 x2 x3 = some (r, M')) (l : Launch) (V : pm_V) : pm_Ci l V skC yX2_read mX2_read 104 [.ref (V.1 p), .ref (V.1 a1), .int x2, .int x3] M r M' := pm_metI (by decide) rfl (Nat.le_of_ble_eq_true rfl) h (fun _ => w_X2_read p M a1 x2 x3 hp h1a)
def lb_X3_copyFrom_70 (p : Nat) (a1 : Nat) (ih : Int32 → pm_M → Option (pm_M)) : Int32 → pm_M → Option (pm_M) := fun (l2 : Int32) (Ml : pm_M) =>
  (if 6 ≤ l2 then (some Ml) else (pm_chk (pm_in l2 6) (pm_let (pm_cpy Ml (a1 + 6 + l2.toNatClampNeg) (0 : Int32).toNatClampNeg (p + 6 + l2.toNatClampNeg) (0 : Int32).toNatClampNeg (6 : Int32).toNatClampNeg) (fun M71003 : pm_M => (ih (l2 + 1) M71003)))))
def lp_X3_copyFrom_70 (p : Nat) (a1 : Nat) : Int32 → pm_M → Option (pm_M) := pm_it (fun _ _ => none) (lb_X3_copyFrom_70 p a1) pm_F
def f_X3_copyFrom (p : Nat) (M : pm_M) (a1 : Nat) : Option pm_M :=
  (pm_let (pm_up M p 0 (M a1 0)) (fun M1 : pm_M => (pm_let (pm_cpy M1 (a1 + 1) (0 : Int32).toNatClampNeg (p + 1) (0 : Int32).toNatClampNeg (6 : Int32).toNatClampNeg) (fun M2 : pm_M => (pm_let (pm_cpy M2 (a1 + 2) (0 : Int32).toNatClampNeg (p + 2) (0 : Int32).toNatClampNeg (6 : Int32).toNatClampNeg) (fun M3 : pm_M => (pm_let (pm_cpy M3 (a1 + 3) (0 : Int32).toNatClampNeg (p + 3) (0 : Int32).toNatClampNeg (6 : Int32).toNatClampNeg) (fun M4 : pm_M => (pm_let (pm_cpy M4 (a1 + 4) (0 : Int32).toNatClampNeg (p + 4) (0 : Int32).toNatClampNeg (6 : Int32).toNatClampNeg) (fun M5 : pm_M => (pm_b1 (lp_X3_copyFrom_70 p a1 0 M5) (fun (M6 : pm_M) => (some M6)))))))))))))
set_option maxHeartbeats 4000000 in
set_option maxRecDepth 100000 in
theorem wl_X3_copyFrom_70 {X : pm_X} {V : pm_V} (p : Nat) (a1 : Nat) (hp : at_RO p) (h1a : at_RO a1) : ∀ (l2 : Int32) (Ml : pm_M), pm_VF (lp_X3_copyFrom_70 p a1 l2 Ml) (fun b => (fun (Ml : pm_M) => pm_J X V mX3_copyFrom 1 (pm_wld V skC Ml) 101 [] []) b) (pm_J X V mX3_copyFrom 1 (pm_wld V skC Ml) 70 [(0, .ref (V.1 p)), (1, .ref (V.1 a1)), (2, .int l2)] []) := by
  refine pm_it_ind (P := fun (f : Int32 → pm_M → Option (pm_M)) => ∀ (l2 : Int32) (Ml : pm_M), pm_VF (f l2 Ml) (fun b => (fun (Ml : pm_M) => pm_J X V mX3_copyFrom 1 (pm_wld V skC Ml) 101 [] []) b) (pm_J X V mX3_copyFrom 1 (pm_wld V skC Ml) 70 [(0, .ref (V.1 p)), (1, .ref (V.1 a1)), (2, .int l2)] [])) (fun _ _ => vf_none) (fun ih hih l2 Ml => ?_) pm_F
  · unfold lb_X3_copyFrom_70
    refine jv_iloadn (j := 2) dX3_copyFrom_70 rfl ?_
    refine jv_bipush (v := 6) dX3_copyFrom_71 (by decide) ?_
    refine jw_ic_ge (tgt := 101) dX3_copyFrom_73 rfl (fun c73 => ?_) (fun c73 => ?_)
    · exact vf_end (fun g => jr_sub [] rfl g)
    refine jv_aloadn (j := 1) dX3_copyFrom_76 rfl ?_
    refine hv_getR dX3_copyFrom_77 fl3_30 (at_RO_0 h1a) rfl ?_
    refine jv_iloadn (j := 2) dX3_copyFrom_80 rfl ?_
    refine vf_chk (fun q71002 => ?_)
    refine hv_aald dX3_copyFrom_81 (at_RO_5 h1a) (ty := .array .int) (fun _ => rfl) rfl q71002 (pl_row q71002) ?_
    refine jv_iconst (v := 0) dX3_copyFrom_82 (by decide) ?_
    refine jv_aloadn (j := 0) dX3_copyFrom_83 rfl ?_
    refine hv_getR dX3_copyFrom_84 fl3_30 (at_RO_0 hp) rfl ?_
    refine jv_iloadn (j := 2) dX3_copyFrom_87 rfl ?_
    refine hv_aald dX3_copyFrom_88 (at_RO_5 hp) (ty := .array .int) (fun _ => rfl) rfl q71002 (pl_row q71002) ?_
    refine jv_iconst (v := 0) dX3_copyFrom_89 (by decide) ?_
    refine jv_bipush (v := 6) dX3_copyFrom_90 (by decide) ?_
    refine hv_copy dX3_copyFrom_92 lk3_33 lkS_n lkS_s lkS_i (Nat.le_of_ble_eq_true rfl) (at_RO_rowi h1a q71002) (at_RO_rowi hp q71002) (by decide) ?_
    refine vf_letM (fun M71003 => ?_)
    refine jv_iinc (j := 2) (v := l2 + 1) (L' := [(2, .int (l2 + 1)), (0, .ref (V.1 p)), (1, .ref (V.1 a1))]) dX3_copyFrom_95 rfl rfl (Nat.le_of_ble_eq_true rfl) rfl ?_
    refine jv_goto (tgt := 70) dX3_copyFrom_98 rfl ?_
    exact vf_j (fun g => jr_sub [1, 2, 0] rfl g) (hih (l2 + 1) M71003)
set_option maxHeartbeats 4000000 in
set_option maxRecDepth 100000 in
theorem w_X3_copyFrom {X : pm_X} {V : pm_V} (p : Nat) (M : pm_M) (a1 : Nat) (hp : at_RO p) (h1a : at_RO a1) : pm_VF (f_X3_copyFrom p M a1) (pm_Kv X V mX3_copyFrom 1 skC) (pm_J X V mX3_copyFrom 1 (pm_wld V skC M) 0 [(0, .ref (V.1 p)), (1, .ref (V.1 a1))] []) := by
  unfold f_X3_copyFrom
  refine jv_aloadn (j := 0) dX3_copyFrom_0 rfl ?_
  refine jv_aloadn (j := 1) dX3_copyFrom_1 rfl ?_
  refine hv_getI dX3_copyFrom_2 fl3_9 (at_RO_0 h1a) rfl ?_
  refine hv_put dX3_copyFrom_5 fp3_9 (at_RO_0 hp) rfl rfl rfl ?_
  refine vf_letM (fun M1 => ?_)
  refine jv_aloadn (j := 1) dX3_copyFrom_8 rfl ?_
  refine hv_getR dX3_copyFrom_9 fl3_15 (at_RO_0 h1a) rfl ?_
  refine jv_iconst (v := 0) dX3_copyFrom_12 (by decide) ?_
  refine jv_aloadn (j := 0) dX3_copyFrom_13 rfl ?_
  refine hv_getR dX3_copyFrom_14 fl3_15 (at_RO_0 hp) rfl ?_
  refine jv_iconst (v := 0) dX3_copyFrom_17 (by decide) ?_
  refine jv_bipush (v := 6) dX3_copyFrom_18 (by decide) ?_
  refine hv_copy dX3_copyFrom_20 lk3_33 lkS_n lkS_s lkS_i (Nat.le_of_ble_eq_true rfl) (at_RO_1 h1a) (at_RO_1 hp) (by decide) ?_
  refine vf_letM (fun M2 => ?_)
  refine jv_aloadn (j := 1) dX3_copyFrom_23 rfl ?_
  refine hv_getR dX3_copyFrom_24 fl3_19 (at_RO_0 h1a) rfl ?_
  refine jv_iconst (v := 0) dX3_copyFrom_27 (by decide) ?_
  refine jv_aloadn (j := 0) dX3_copyFrom_28 rfl ?_
  refine hv_getR dX3_copyFrom_29 fl3_19 (at_RO_0 hp) rfl ?_
  refine jv_iconst (v := 0) dX3_copyFrom_32 (by decide) ?_
  refine jv_bipush (v := 6) dX3_copyFrom_33 (by decide) ?_
  refine hv_copy dX3_copyFrom_35 lk3_33 lkS_n lkS_s lkS_i (Nat.le_of_ble_eq_true rfl) (at_RO_2 h1a) (at_RO_2 hp) (by decide) ?_
  refine vf_letM (fun M3 => ?_)
  refine jv_aloadn (j := 1) dX3_copyFrom_38 rfl ?_
  refine hv_getR dX3_copyFrom_39 fl3_22 (at_RO_0 h1a) rfl ?_
  refine jv_iconst (v := 0) dX3_copyFrom_42 (by decide) ?_
  refine jv_aloadn (j := 0) dX3_copyFrom_43 rfl ?_
  refine hv_getR dX3_copyFrom_44 fl3_22 (at_RO_0 hp) rfl ?_
  refine jv_iconst (v := 0) dX3_copyFrom_47 (by decide) ?_
  refine jv_bipush (v := 6) dX3_copyFrom_48 (by decide) ?_
  refine hv_copy dX3_copyFrom_50 lk3_33 lkS_n lkS_s lkS_i (Nat.le_of_ble_eq_true rfl) (at_RO_3 h1a) (at_RO_3 hp) (by decide) ?_
  refine vf_letM (fun M4 => ?_)
  refine jv_aloadn (j := 1) dX3_copyFrom_53 rfl ?_
  refine hv_getR dX3_copyFrom_54 fl3_25 (at_RO_0 h1a) rfl ?_
  refine jv_iconst (v := 0) dX3_copyFrom_57 (by decide) ?_
  refine jv_aloadn (j := 0) dX3_copyFrom_58 rfl ?_
  refine hv_getR dX3_copyFrom_59 fl3_25 (at_RO_0 hp) rfl ?_
  refine jv_iconst (v := 0) dX3_copyFrom_62 (by decide) ?_
  refine jv_bipush (v := 6) dX3_copyFrom_63 (by decide) ?_
  refine hv_copy dX3_copyFrom_65 lk3_33 lkS_n lkS_s lkS_i (Nat.le_of_ble_eq_true rfl) (at_RO_4 h1a) (at_RO_4 hp) (by decide) ?_
  refine vf_letM (fun M5 => ?_)
  refine jv_iconst (v := 0) dX3_copyFrom_68 (by decide) ?_
  refine jv_istoren (L' := [(2, .int 0), (0, .ref (V.1 p)), (1, .ref (V.1 a1))]) dX3_copyFrom_69 (Nat.le_of_ble_eq_true rfl) rfl ?_
  refine vl_b1 (P := fun (Ml : pm_M) => pm_J X V mX3_copyFrom 1 (pm_wld V skC Ml) 101 [] []) (vf_j (fun g => jr_sub [1, 2, 0] rfl g) (wl_X3_copyFrom_70 p a1 hp h1a 0 M5)) ?_
  intro M6
  exact vf_vret dX3_copyFrom_101
theorem c_X3_copyFrom {p : Nat} {M : pm_M} {a1 : Nat} (hp : at_RO p) (h1a : at_RO a1) {M' : pm_M} (h : f_X3_copyFrom p M a1 = some M') (l : Launch) (V : pm_V) : pm_Cv l V skC yX3_copyFrom mX3_copyFrom 1 [.ref (V.1 p), .ref (V.1 a1)] M M' := pm_metV (by decide) rfl (Nat.le_of_ble_eq_true rfl) rfl h (fun _ => w_X3_copyFrom p M a1 hp h1a)
def f_X3_add (p : Nat) (M : pm_M) (x1 : Int32) : Option (Int32 × pm_M) :=
  (pm_chk (pm_in (M p 0) 6) (pm_let (pm_up M (p + 1) (M p 0).toNatClampNeg x1) (fun M1 : pm_M => (pm_let (pm_up M1 p 0 ((M1 p 0) + 1)) (fun M2 : pm_M => (some (((M2 p 0) - 1), M2)))))))
set_option maxHeartbeats 4000000 in
set_option maxRecDepth 100000 in
theorem w_X3_add {X : pm_X} {V : pm_V} (p : Nat) (M : pm_M) (x1 : Int32) (hp : at_RO p) : pm_VF (f_X3_add p M x1) (pm_K X V mX3_add 1 skC) (pm_J X V mX3_add 1 (pm_wld V skC M) 0 [(0, .ref (V.1 p)), (1, .int x1)] []) := by
  unfold f_X3_add
  refine jv_aloadn (j := 0) dX3_add_0 rfl ?_
  refine hv_getR dX3_add_1 fl3_15 (at_RO_0 hp) rfl ?_
  refine jv_aloadn (j := 0) dX3_add_4 rfl ?_
  refine hv_getI dX3_add_5 fl3_9 (at_RO_0 hp) rfl ?_
  refine jv_iloadn (j := 1) dX3_add_8 rfl ?_
  refine hv_iastC dX3_add_9 (at_RO_1 hp) (fun _ => ?_)
  refine vf_letM (fun M1 => ?_)
  refine jv_aloadn (j := 0) dX3_add_10 rfl ?_
  refine jv_dup dX3_add_11 rfl ?_
  refine hv_getI dX3_add_12 fl3_9 (at_RO_0 hp) rfl ?_
  refine jv_iconst (v := 1) dX3_add_15 (by decide) ?_
  refine jv_iadd dX3_add_16 ?_
  refine hv_put dX3_add_17 fp3_9 (at_RO_0 hp) rfl rfl rfl ?_
  refine vf_letM (fun M2 => ?_)
  refine jv_aloadn (j := 0) dX3_add_20 rfl ?_
  refine hv_getI dX3_add_21 fl3_9 (at_RO_0 hp) rfl ?_
  refine jv_iconst (v := 1) dX3_add_24 (by decide) ?_
  refine jv_isub dX3_add_25 ?_
  exact vf_ret dX3_add_26 rfl
theorem c_X3_add {p : Nat} {M : pm_M} {x1 : Int32} (hp : at_RO p) {r : Int32} {M' : pm_M} (h : f_X3_add p M x1 = some (r, M')) (l : Launch) (V : pm_V) : pm_Ci l V skC yX3_add mX3_add 1 [.ref (V.1 p), .int x1] M r M' := pm_metI (by decide) rfl (Nat.le_of_ble_eq_true rfl) h (fun _ => w_X3_add p M x1 hp)
def f_X3_has (p : Nat) (M : pm_M) (x1 : Int32) : Option (Int32 × pm_M) :=
  (if x1 < 0 then (some (0, M)) else (if (M p 0) ≤ x1 then (some (0, M)) else (some (1, M))))
set_option maxHeartbeats 4000000 in
set_option maxRecDepth 100000 in
theorem w_X3_has {X : pm_X} {V : pm_V} (p : Nat) (M : pm_M) (x1 : Int32) (hp : at_RO p) : pm_VF (f_X3_has p M x1) (pm_K X V mX3_has 1 skC) (pm_J X V mX3_has 1 (pm_wld V skC M) 0 [(0, .ref (V.1 p)), (1, .int x1)] []) := by
  unfold f_X3_has
  refine jv_iloadn (j := 1) dX3_has_0 rfl ?_
  refine jw_if_lt (tgt := 16) dX3_has_1 rfl (fun c1 => ?_) (fun c1 => ?_)
  · refine jv_iconst (v := 0) dX3_has_16 (by decide) ?_
    exact vf_zret dX3_has_17 rfl (by decide)
  refine jv_iloadn (j := 1) dX3_has_4 rfl ?_
  refine jv_aloadn (j := 0) dX3_has_5 rfl ?_
  refine hv_getI dX3_has_6 fl3_9 (at_RO_0 hp) rfl ?_
  refine jw_ic_ge (tgt := 16) dX3_has_9 rfl (fun c9 => ?_) (fun c9 => ?_)
  · refine jv_iconst (v := 0) dX3_has_16 (by decide) ?_
    exact vf_zret dX3_has_17 rfl (by decide)
  refine jv_iconst (v := 1) dX3_has_12 (by decide) ?_
  refine jv_goto (tgt := 17) dX3_has_13 rfl ?_
  exact vf_zret dX3_has_17 rfl (by decide)
theorem c_X3_has {p : Nat} {M : pm_M} {x1 : Int32} (hp : at_RO p) {r : Int32} {M' : pm_M} (h : f_X3_has p M x1 = some (r, M')) (l : Launch) (V : pm_V) : pm_Ci l V skC yX3_has mX3_has 1 [.ref (V.1 p), .int x1] M r M' := pm_metI (by decide) rfl (Nat.le_of_ble_eq_true rfl) h (fun _ => w_X3_has p M x1 hp)
def f_X3_sharesOf (p : Nat) (M : pm_M) (x1 : Int32) : Option (Int32 × pm_M) :=
  (pm_b2 (f_X3_has p M x1) (fun (r2 : Int32) (M1 : pm_M) => (if r2 = 0 then (some (0, M1)) else (pm_chk (pm_in x1 6) (some ((M1 (p + 1) x1.toNatClampNeg), M1))))))
set_option maxHeartbeats 4000000 in
set_option maxRecDepth 100000 in
theorem w_X3_sharesOf {X : pm_X} {V : pm_V} (p : Nat) (M : pm_M) (x1 : Int32) (hp : at_RO p) : pm_VF (f_X3_sharesOf p M x1) (pm_K X V mX3_sharesOf 2 skC) (pm_J X V mX3_sharesOf 2 (pm_wld V skC M) 0 [(0, .ref (V.1 p)), (1, .int x1)] []) := by
  unfold f_X3_sharesOf
  refine jv_aloadn (j := 0) dX3_sharesOf_0 rfl ?_
  refine jv_iloadn (j := 1) dX3_sharesOf_1 rfl ?_
  refine hv_callI (As := [.int x1]) dX3_sharesOf_2 lk3_39 kX3_has nX3_has (Nat.le_of_ble_eq_true rfl) (Nat.le_of_ble_eq_true rfl) (at_RO_0 hp) rfl rfl rfl (fun _ _ e l => c_X3_has hp e l V) ?_
  intro r2 M1
  refine jw_if_eq (tgt := 17) dX3_sharesOf_5 rfl (fun c5 => ?_) (fun c5 => ?_)
  · refine jv_iconst (v := 0) dX3_sharesOf_17 (by decide) ?_
    exact vf_ret dX3_sharesOf_18 rfl
  refine jv_aloadn (j := 0) dX3_sharesOf_8 rfl ?_
  refine hv_getR dX3_sharesOf_9 fl3_15 (at_RO_0 hp) rfl ?_
  refine jv_iloadn (j := 1) dX3_sharesOf_12 rfl ?_
  refine hv_ialdC dX3_sharesOf_13 (at_RO_1 hp) (fun _ => ?_)
  refine jv_goto (tgt := 18) dX3_sharesOf_14 rfl ?_
  exact vf_ret dX3_sharesOf_18 rfl
theorem c_X3_sharesOf {p : Nat} {M : pm_M} {x1 : Int32} (hp : at_RO p) {r : Int32} {M' : pm_M} (h : f_X3_sharesOf p M x1 = some (r, M')) (l : Launch) (V : pm_V) : pm_Ci l V skC yX3_sharesOf mX3_sharesOf 2 [.ref (V.1 p), .int x1] M r M' := pm_metI (by decide) rfl (Nat.le_of_ble_eq_true rfl) h (fun _ => w_X3_sharesOf p M x1 hp)
def f_X3_areTwo (p : Nat) (M : pm_M) (x1 : Int32) (x2 : Int32) : Option (Int32 × pm_M) :=
  (pm_b2 (f_X3_has p M x1) (fun (r2 : Int32) (M1 : pm_M) => (if r2 = 0 then (some (0, M1)) else (pm_b2 (f_X3_has p M1 x2) (fun (r4 : Int32) (M3 : pm_M) => (if r4 = 0 then (some (0, M3)) else (if x1 = x2 then (some (0, M3)) else (some (1, M3)))))))))
set_option maxHeartbeats 4000000 in
set_option maxRecDepth 100000 in
theorem w_X3_areTwo {X : pm_X} {V : pm_V} (p : Nat) (M : pm_M) (x1 : Int32) (x2 : Int32) (hp : at_RO p) : pm_VF (f_X3_areTwo p M x1 x2) (pm_K X V mX3_areTwo 2 skC) (pm_J X V mX3_areTwo 2 (pm_wld V skC M) 0 [(0, .ref (V.1 p)), (1, .int x1), (2, .int x2)] []) := by
  unfold f_X3_areTwo
  refine jv_aloadn (j := 0) dX3_areTwo_0 rfl ?_
  refine jv_iloadn (j := 1) dX3_areTwo_1 rfl ?_
  refine hv_callI (As := [.int x1]) dX3_areTwo_2 lk3_39 kX3_has nX3_has (Nat.le_of_ble_eq_true rfl) (Nat.le_of_ble_eq_true rfl) (at_RO_0 hp) rfl rfl rfl (fun _ _ e l => c_X3_has hp e l V) ?_
  intro r2 M1
  refine jw_if_eq (tgt := 25) dX3_areTwo_5 rfl (fun c5 => ?_) (fun c5 => ?_)
  · refine jv_iconst (v := 0) dX3_areTwo_25 (by decide) ?_
    exact vf_zret dX3_areTwo_26 rfl (by decide)
  refine jv_aloadn (j := 0) dX3_areTwo_8 rfl ?_
  refine jv_iloadn (j := 2) dX3_areTwo_9 rfl ?_
  refine hv_callI (As := [.int x2]) dX3_areTwo_10 lk3_39 kX3_has nX3_has (Nat.le_of_ble_eq_true rfl) (Nat.le_of_ble_eq_true rfl) (at_RO_0 hp) rfl rfl rfl (fun _ _ e l => c_X3_has hp e l V) ?_
  intro r4 M3
  refine jw_if_eq (tgt := 25) dX3_areTwo_13 rfl (fun c13 => ?_) (fun c13 => ?_)
  · refine jv_iconst (v := 0) dX3_areTwo_25 (by decide) ?_
    exact vf_zret dX3_areTwo_26 rfl (by decide)
  refine jv_iloadn (j := 1) dX3_areTwo_16 rfl ?_
  refine jv_iloadn (j := 2) dX3_areTwo_17 rfl ?_
  refine jw_ic_eq (tgt := 25) dX3_areTwo_18 rfl (fun c18 => ?_) (fun c18 => ?_)
  · refine jv_iconst (v := 0) dX3_areTwo_25 (by decide) ?_
    exact vf_zret dX3_areTwo_26 rfl (by decide)
  refine jv_iconst (v := 1) dX3_areTwo_21 (by decide) ?_
  refine jv_goto (tgt := 26) dX3_areTwo_22 rfl ?_
  exact vf_zret dX3_areTwo_26 rfl (by decide)
theorem c_X3_areTwo {p : Nat} {M : pm_M} {x1 : Int32} {x2 : Int32} (hp : at_RO p) {r : Int32} {M' : pm_M} (h : f_X3_areTwo p M x1 x2 = some (r, M')) (l : Launch) (V : pm_V) : pm_Ci l V skC yX3_areTwo mX3_areTwo 2 [.ref (V.1 p), .int x1, .int x2] M r M' := pm_metI (by decide) rfl (Nat.le_of_ble_eq_true rfl) h (fun _ => w_X3_areTwo p M x1 x2 hp)
def lb_X3_sum_4 (p : Nat) (a1 : Nat) (M : pm_M) (ih : Int32 → Int32 → Option (Int32)) : Int32 → Int32 → Option (Int32) := fun (l2 : Int32) (l3 : Int32) =>
  (if (M p 0) ≤ l3 then (some l2) else (pm_chk (pm_in l3 6) (pm_let (l2 + (M a1 l3.toNatClampNeg)) (fun z5002 : Int32 => (ih z5002 (l3 + 1))))))
def lp_X3_sum_4 (p : Nat) (a1 : Nat) (M : pm_M) : Int32 → Int32 → Option (Int32) := pm_it (fun _ _ => none) (lb_X3_sum_4 p a1 M) pm_F
def f_X3_sum (p : Nat) (M : pm_M) (a1 : Nat) : Option (Int32 × pm_M) :=
  (pm_b1 (lp_X3_sum_4 p a1 M 0 0) (fun (l1 : Int32) => (some (l1, M))))
set_option maxHeartbeats 4000000 in
set_option maxRecDepth 100000 in
theorem wl_X3_sum_4 {X : pm_X} {V : pm_V} (p : Nat) (a1 : Nat) (M : pm_M) (hp : at_RO p) (h1a : skC[a1]? = some (.inl (0, 6) : pm_Sh)) : ∀ (l2 : Int32) (l3 : Int32), pm_VF (lp_X3_sum_4 p a1 M l2 l3) (fun b => (fun (l2 : Int32) => pm_J X V mX3_sum 1 (pm_wld V skC M) 24 [(2, .int l2)] []) b) (pm_J X V mX3_sum 1 (pm_wld V skC M) 4 [(0, .ref (V.1 p)), (1, .ref (V.1 a1)), (2, .int l2), (3, .int l3)] []) := by
  refine pm_it_ind (P := fun (f : Int32 → Int32 → Option (Int32)) => ∀ (l2 : Int32) (l3 : Int32), pm_VF (f l2 l3) (fun b => (fun (l2 : Int32) => pm_J X V mX3_sum 1 (pm_wld V skC M) 24 [(2, .int l2)] []) b) (pm_J X V mX3_sum 1 (pm_wld V skC M) 4 [(0, .ref (V.1 p)), (1, .ref (V.1 a1)), (2, .int l2), (3, .int l3)] [])) (fun _ _ => vf_none) (fun ih hih l2 l3 => ?_) pm_F
  · unfold lb_X3_sum_4
    refine jv_iloadn (j := 3) dX3_sum_4 rfl ?_
    refine jv_aloadn (j := 0) dX3_sum_5 rfl ?_
    refine hv_getI dX3_sum_6 fl3_9 (at_RO_0 hp) rfl ?_
    refine jw_ic_ge (tgt := 24) dX3_sum_9 rfl (fun c9 => ?_) (fun c9 => ?_)
    · exact vf_end (fun g => jr_sub [2] rfl g)
    refine jv_iloadn (j := 2) dX3_sum_12 rfl ?_
    refine jv_aloadn (j := 1) dX3_sum_13 rfl ?_
    refine jv_iloadn (j := 3) dX3_sum_14 rfl ?_
    refine hv_ialdC dX3_sum_15 h1a (fun _ => ?_)
    refine jv_iadd dX3_sum_16 ?_
    refine vf_letS (fun z5002 => ?_)
    refine jv_istoren (L' := [(2, .int z5002), (0, .ref (V.1 p)), (1, .ref (V.1 a1)), (3, .int l3)]) dX3_sum_17 (Nat.le_of_ble_eq_true rfl) rfl ?_
    refine jv_iinc (j := 3) (v := l3 + 1) (L' := [(3, .int (l3 + 1)), (2, .int z5002), (0, .ref (V.1 p)), (1, .ref (V.1 a1))]) dX3_sum_18 rfl rfl (Nat.le_of_ble_eq_true rfl) rfl ?_
    refine jv_goto (tgt := 4) dX3_sum_21 rfl ?_
    exact vf_j (fun g => jr_sub [2, 3, 1, 0] rfl g) (hih z5002 (l3 + 1))
set_option maxHeartbeats 4000000 in
set_option maxRecDepth 100000 in
theorem w_X3_sum {X : pm_X} {V : pm_V} (p : Nat) (M : pm_M) (a1 : Nat) (hp : at_RO p) (h1a : skC[a1]? = some (.inl (0, 6) : pm_Sh)) : pm_VF (f_X3_sum p M a1) (pm_K X V mX3_sum 1 skC) (pm_J X V mX3_sum 1 (pm_wld V skC M) 0 [(0, .ref (V.1 p)), (1, .ref (V.1 a1))] []) := by
  unfold f_X3_sum
  refine jv_iconst (v := 0) dX3_sum_0 (by decide) ?_
  refine jv_istoren (L' := [(2, .int 0), (0, .ref (V.1 p)), (1, .ref (V.1 a1))]) dX3_sum_1 (Nat.le_of_ble_eq_true rfl) rfl ?_
  refine jv_iconst (v := 0) dX3_sum_2 (by decide) ?_
  refine jv_istoren (L' := [(3, .int 0), (2, .int 0), (0, .ref (V.1 p)), (1, .ref (V.1 a1))]) dX3_sum_3 (Nat.le_of_ble_eq_true rfl) rfl ?_
  refine vl_b1 (P := fun (l2 : Int32) => pm_J X V mX3_sum 1 (pm_wld V skC M) 24 [(2, .int l2)] []) (vf_j (fun g => jr_sub [2, 3, 1, 0] rfl g) (wl_X3_sum_4 p a1 M hp h1a 0 0)) ?_
  intro l1
  refine jv_iloadn (j := 0) dX3_sum_24 rfl ?_
  exact vf_ret dX3_sum_25 rfl
theorem c_X3_sum {p : Nat} {M : pm_M} {a1 : Nat} (hp : at_RO p) (h1a : skC[a1]? = some (.inl (0, 6) : pm_Sh)) {r : Int32} {M' : pm_M} (h : f_X3_sum p M a1 = some (r, M')) (l : Launch) (V : pm_V) : pm_Ci l V skC yX3_sum mX3_sum 1 [.ref (V.1 p), .ref (V.1 a1)] M r M' := pm_metI (by decide) rfl (Nat.le_of_ble_eq_true rfl) h (fun _ => w_X3_sum p M a1 hp h1a)
def lb_X3_sumOver_5 (p : Nat) (a2 : Nat) (x1 : Int32) (M : pm_M) (ih : Int32 → Int32 → Option (Int32)) : Int32 → Int32 → Option (Int32) := fun (l3 : Int32) (l4 : Int32) =>
  (if (M p 0) ≤ l4 then (some l3) else (if ((pm_shr x1 l4) &&& 1) = 1 then (pm_chk (pm_in l4 6) (pm_let (l3 + (M a2 l4.toNatClampNeg)) (fun z6002 : Int32 => (ih z6002 (l4 + 1))))) else (ih l3 (l4 + 1))))
def lp_X3_sumOver_5 (p : Nat) (a2 : Nat) (x1 : Int32) (M : pm_M) : Int32 → Int32 → Option (Int32) := pm_it (fun _ _ => none) (lb_X3_sumOver_5 p a2 x1 M) pm_F
def f_X3_sumOver (p : Nat) (M : pm_M) (x1 : Int32) (a2 : Nat) : Option (Int32 × pm_M) :=
  (pm_b1 (lp_X3_sumOver_5 p a2 x1 M 0 0) (fun (l1 : Int32) => (some (l1, M))))
set_option maxHeartbeats 4000000 in
set_option maxRecDepth 100000 in
theorem wl_X3_sumOver_5 {X : pm_X} {V : pm_V} (p : Nat) (a2 : Nat) (x1 : Int32) (M : pm_M) (hp : at_RO p) (h2a : skC[a2]? = some (.inl (0, 6) : pm_Sh)) : ∀ (l3 : Int32) (l4 : Int32), pm_VF (lp_X3_sumOver_5 p a2 x1 M l3 l4) (fun b => (fun (l3 : Int32) => pm_J X V mX3_sumOver 1 (pm_wld V skC M) 37 [(3, .int l3)] []) b) (pm_J X V mX3_sumOver 1 (pm_wld V skC M) 5 [(0, .ref (V.1 p)), (1, .int x1), (2, .ref (V.1 a2)), (3, .int l3), (4, .int l4)] []) := by
  refine pm_it_ind (P := fun (f : Int32 → Int32 → Option (Int32)) => ∀ (l3 : Int32) (l4 : Int32), pm_VF (f l3 l4) (fun b => (fun (l3 : Int32) => pm_J X V mX3_sumOver 1 (pm_wld V skC M) 37 [(3, .int l3)] []) b) (pm_J X V mX3_sumOver 1 (pm_wld V skC M) 5 [(0, .ref (V.1 p)), (1, .int x1), (2, .ref (V.1 a2)), (3, .int l3), (4, .int l4)] [])) (fun _ _ => vf_none) (fun ih hih l3 l4 => ?_) pm_F
  · unfold lb_X3_sumOver_5
    refine jv_iload (j := 4) dX3_sumOver_5 rfl ?_
    refine jv_aloadn (j := 0) dX3_sumOver_7 rfl ?_
    refine hv_getI dX3_sumOver_8 fl3_9 (at_RO_0 hp) rfl ?_
    refine jw_ic_ge (tgt := 37) dX3_sumOver_11 rfl (fun c11 => ?_) (fun c11 => ?_)
    · exact vf_end (fun g => jr_sub [3] rfl g)
    refine jv_iloadn (j := 1) dX3_sumOver_14 rfl ?_
    refine jv_iload (j := 4) dX3_sumOver_15 rfl ?_
    refine jv_ishr dX3_sumOver_17 ?_
    refine jv_iconst (v := 1) dX3_sumOver_18 (by decide) ?_
    refine jv_iand dX3_sumOver_19 ?_
    refine jv_iconst (v := 1) dX3_sumOver_20 (by decide) ?_
    refine jw_ic_ne (tgt := 31) dX3_sumOver_21 rfl (fun c21 => ?_) (fun c21 => ?_)
    · refine jv_iloadn (j := 3) dX3_sumOver_24 rfl ?_
      refine jv_aloadn (j := 2) dX3_sumOver_25 rfl ?_
      refine jv_iload (j := 4) dX3_sumOver_26 rfl ?_
      refine hv_ialdC dX3_sumOver_28 h2a (fun _ => ?_)
      refine jv_iadd dX3_sumOver_29 ?_
      refine vf_letS (fun z6002 => ?_)
      refine jv_istoren (L' := [(3, .int z6002), (0, .ref (V.1 p)), (1, .int x1), (2, .ref (V.1 a2)), (4, .int l4)]) dX3_sumOver_30 (Nat.le_of_ble_eq_true rfl) rfl ?_
      refine jv_iinc (j := 4) (v := l4 + 1) (L' := [(4, .int (l4 + 1)), (3, .int z6002), (0, .ref (V.1 p)), (1, .int x1), (2, .ref (V.1 a2))]) dX3_sumOver_31 rfl rfl (Nat.le_of_ble_eq_true rfl) rfl ?_
      refine jv_goto (tgt := 5) dX3_sumOver_34 rfl ?_
      exact vf_j (fun g => jr_sub [2, 3, 4, 1, 0] rfl g) (hih z6002 (l4 + 1))
    refine jv_iinc (j := 4) (v := l4 + 1) (L' := [(4, .int (l4 + 1)), (0, .ref (V.1 p)), (1, .int x1), (2, .ref (V.1 a2)), (3, .int l3)]) dX3_sumOver_31 rfl rfl (Nat.le_of_ble_eq_true rfl) rfl ?_
    refine jv_goto (tgt := 5) dX3_sumOver_34 rfl ?_
    exact vf_j (fun g => jr_sub [1, 2, 3, 4, 0] rfl g) (hih l3 (l4 + 1))
set_option maxHeartbeats 4000000 in
set_option maxRecDepth 100000 in
theorem w_X3_sumOver {X : pm_X} {V : pm_V} (p : Nat) (M : pm_M) (x1 : Int32) (a2 : Nat) (hp : at_RO p) (h2a : skC[a2]? = some (.inl (0, 6) : pm_Sh)) : pm_VF (f_X3_sumOver p M x1 a2) (pm_K X V mX3_sumOver 1 skC) (pm_J X V mX3_sumOver 1 (pm_wld V skC M) 0 [(0, .ref (V.1 p)), (1, .int x1), (2, .ref (V.1 a2))] []) := by
  unfold f_X3_sumOver
  refine jv_iconst (v := 0) dX3_sumOver_0 (by decide) ?_
  refine jv_istoren (L' := [(3, .int 0), (0, .ref (V.1 p)), (1, .int x1), (2, .ref (V.1 a2))]) dX3_sumOver_1 (Nat.le_of_ble_eq_true rfl) rfl ?_
  refine jv_iconst (v := 0) dX3_sumOver_2 (by decide) ?_
  refine jv_istore (L' := [(4, .int 0), (3, .int 0), (0, .ref (V.1 p)), (1, .int x1), (2, .ref (V.1 a2))]) dX3_sumOver_3 (Nat.le_of_ble_eq_true rfl) rfl ?_
  refine vl_b1 (P := fun (l3 : Int32) => pm_J X V mX3_sumOver 1 (pm_wld V skC M) 37 [(3, .int l3)] []) (vf_j (fun g => jr_sub [2, 3, 4, 1, 0] rfl g) (wl_X3_sumOver_5 p a2 x1 M hp h2a 0 0)) ?_
  intro l1
  refine jv_iloadn (j := 0) dX3_sumOver_37 rfl ?_
  exact vf_ret dX3_sumOver_38 rfl
theorem c_X3_sumOver {p : Nat} {M : pm_M} {x1 : Int32} {a2 : Nat} (hp : at_RO p) (h2a : skC[a2]? = some (.inl (0, 6) : pm_Sh)) {r : Int32} {M' : pm_M} (h : f_X3_sumOver p M x1 a2 = some (r, M')) (l : Launch) (V : pm_V) : pm_Ci l V skC yX3_sumOver mX3_sumOver 1 [.ref (V.1 p), .int x1, .ref (V.1 a2)] M r M' := pm_metI (by decide) rfl (Nat.le_of_ble_eq_true rfl) h (fun _ => w_X3_sumOver p M x1 a2 hp h2a)
def f_X3_owedToAll (p : Nat) (M : pm_M) (x1 : Int32) : Option (Int32 × pm_M) :=
  (pm_chk (pm_in x1 6) (pm_b2 (f_X3_sum p M (p + 6 + x1.toNatClampNeg)) (fun (r3 : Int32) (M2 : pm_M) => (some (r3, M2)))))
set_option maxHeartbeats 4000000 in
set_option maxRecDepth 100000 in
theorem w_X3_owedToAll {X : pm_X} {V : pm_V} (p : Nat) (M : pm_M) (x1 : Int32) (hp : at_RO p) : pm_VF (f_X3_owedToAll p M x1) (pm_K X V mX3_owedToAll 2 skC) (pm_J X V mX3_owedToAll 2 (pm_wld V skC M) 0 [(0, .ref (V.1 p)), (1, .int x1)] []) := by
  unfold f_X3_owedToAll
  refine jv_aloadn (j := 0) dX3_owedToAll_0 rfl ?_
  refine jv_aloadn (j := 0) dX3_owedToAll_1 rfl ?_
  refine hv_getR dX3_owedToAll_2 fl3_30 (at_RO_0 hp) rfl ?_
  refine jv_iloadn (j := 1) dX3_owedToAll_5 rfl ?_
  refine vf_chk (fun q1 => ?_)
  refine hv_aald dX3_owedToAll_6 (at_RO_5 hp) (ty := .array .int) (fun _ => rfl) rfl q1 (pl_row q1) ?_
  refine hv_callI (As := [.ref (V.1 (p + 6 + x1.toNatClampNeg))]) dX3_owedToAll_7 lk3_43 kX3_sum nX3_sum (Nat.le_of_ble_eq_true rfl) (Nat.le_of_ble_eq_true rfl) (at_RO_0 hp) rfl rfl rfl (fun _ _ e l => c_X3_sum hp (at_RO_rowi hp q1) e l V) ?_
  intro r3 M2
  exact vf_ret dX3_owedToAll_10 rfl
theorem c_X3_owedToAll {p : Nat} {M : pm_M} {x1 : Int32} (hp : at_RO p) {r : Int32} {M' : pm_M} (h : f_X3_owedToAll p M x1 = some (r, M')) (l : Launch) (V : pm_V) : pm_Ci l V skC yX3_owedToAll mX3_owedToAll 2 [.ref (V.1 p), .int x1] M r M' := pm_metI (by decide) rfl (Nat.le_of_ble_eq_true rfl) h (fun _ => w_X3_owedToAll p M x1 hp)
def lb_X3_mostInArrears_15 (p : Nat) (M : pm_M) (ih : Int32 → Int32 → Option (Int32)) : Int32 → Int32 → Option (Int32) := fun (l1 : Int32) (l2 : Int32) =>
  (if (M p 0) ≤ l2 then (some l1) else (pm_chk (pm_in l2 6) (pm_chk (pm_in l1 6) (if (M (p + 2) l2.toNatClampNeg) ≤ (M (p + 2) l1.toNatClampNeg) then (ih l1 (l2 + 1)) else (ih l2 (l2 + 1))))))
def lp_X3_mostInArrears_15 (p : Nat) (M : pm_M) : Int32 → Int32 → Option (Int32) := pm_it (fun _ _ => none) (lb_X3_mostInArrears_15 p M) pm_F
def f_X3_mostInArrears (p : Nat) (M : pm_M) : Option (Int32 × pm_M) :=
  (if (M p 0) = 0 then (pm_b1 (lp_X3_mostInArrears_15 p M (-1) 1) (fun (l1 : Int32) => (some (l1, M)))) else (pm_b1 (lp_X3_mostInArrears_15 p M 0 1) (fun (l2 : Int32) => (some (l2, M)))))
set_option maxHeartbeats 4000000 in
set_option maxRecDepth 100000 in
theorem wl_X3_mostInArrears_15 {X : pm_X} {V : pm_V} (p : Nat) (M : pm_M) (hp : at_RO p) : ∀ (l1 : Int32) (l2 : Int32), pm_VF (lp_X3_mostInArrears_15 p M l1 l2) (fun b => (fun (l1 : Int32) => pm_J X V mX3_mostInArrears 1 (pm_wld V skC M) 46 [(1, .int l1)] []) b) (pm_J X V mX3_mostInArrears 1 (pm_wld V skC M) 15 [(0, .ref (V.1 p)), (1, .int l1), (2, .int l2)] []) := by
  refine pm_it_ind (P := fun (f : Int32 → Int32 → Option (Int32)) => ∀ (l1 : Int32) (l2 : Int32), pm_VF (f l1 l2) (fun b => (fun (l1 : Int32) => pm_J X V mX3_mostInArrears 1 (pm_wld V skC M) 46 [(1, .int l1)] []) b) (pm_J X V mX3_mostInArrears 1 (pm_wld V skC M) 15 [(0, .ref (V.1 p)), (1, .int l1), (2, .int l2)] [])) (fun _ _ => vf_none) (fun ih hih l1 l2 => ?_) pm_F
  · unfold lb_X3_mostInArrears_15
    refine jv_iloadn (j := 2) dX3_mostInArrears_15 rfl ?_
    refine jv_aloadn (j := 0) dX3_mostInArrears_16 rfl ?_
    refine hv_getI dX3_mostInArrears_17 fl3_9 (at_RO_0 hp) rfl ?_
    refine jw_ic_ge (tgt := 46) dX3_mostInArrears_20 rfl (fun c20 => ?_) (fun c20 => ?_)
    · exact vf_end (fun g => jr_sub [1] rfl g)
    refine jv_aloadn (j := 0) dX3_mostInArrears_23 rfl ?_
    refine hv_getR dX3_mostInArrears_24 fl3_19 (at_RO_0 hp) rfl ?_
    refine jv_iloadn (j := 2) dX3_mostInArrears_27 rfl ?_
    refine hv_ialdC dX3_mostInArrears_28 (at_RO_2 hp) (fun _ => ?_)
    refine jv_aloadn (j := 0) dX3_mostInArrears_29 rfl ?_
    refine hv_getR dX3_mostInArrears_30 fl3_19 (at_RO_0 hp) rfl ?_
    refine jv_iloadn (j := 1) dX3_mostInArrears_33 rfl ?_
    refine hv_ialdC dX3_mostInArrears_34 (at_RO_2 hp) (fun _ => ?_)
    refine jw_ic_le (tgt := 40) dX3_mostInArrears_35 rfl (fun c35 => ?_) (fun c35 => ?_)
    · refine jv_iinc (j := 2) (v := l2 + 1) (L' := [(2, .int (l2 + 1)), (0, .ref (V.1 p)), (1, .int l1)]) dX3_mostInArrears_40 rfl rfl (Nat.le_of_ble_eq_true rfl) rfl ?_
      refine jv_goto (tgt := 15) dX3_mostInArrears_43 rfl ?_
      exact vf_j (fun g => jr_sub [1, 2, 0] rfl g) (hih l1 (l2 + 1))
    refine jv_iloadn (j := 2) dX3_mostInArrears_38 rfl ?_
    refine jv_istoren (L' := [(1, .int l2), (0, .ref (V.1 p)), (2, .int l2)]) dX3_mostInArrears_39 (Nat.le_of_ble_eq_true rfl) rfl ?_
    refine jv_iinc (j := 2) (v := l2 + 1) (L' := [(2, .int (l2 + 1)), (1, .int l2), (0, .ref (V.1 p))]) dX3_mostInArrears_40 rfl rfl (Nat.le_of_ble_eq_true rfl) rfl ?_
    refine jv_goto (tgt := 15) dX3_mostInArrears_43 rfl ?_
    exact vf_j (fun g => jr_sub [2, 1, 0] rfl g) (hih l2 (l2 + 1))
set_option maxHeartbeats 4000000 in
set_option maxRecDepth 100000 in
theorem w_X3_mostInArrears {X : pm_X} {V : pm_V} (p : Nat) (M : pm_M) (hp : at_RO p) : pm_VF (f_X3_mostInArrears p M) (pm_K X V mX3_mostInArrears 1 skC) (pm_J X V mX3_mostInArrears 1 (pm_wld V skC M) 0 [(0, .ref (V.1 p))] []) := by
  unfold f_X3_mostInArrears
  refine jv_aloadn (j := 0) dX3_mostInArrears_0 rfl ?_
  refine hv_getI dX3_mostInArrears_1 fl3_9 (at_RO_0 hp) rfl ?_
  refine jw_if_ne (tgt := 11) dX3_mostInArrears_4 rfl (fun c4 => ?_) (fun c4 => ?_)
  · refine jv_iconst (v := -1) dX3_mostInArrears_7 (by decide) ?_
    refine jv_goto (tgt := 12) dX3_mostInArrears_8 rfl ?_
    refine jv_istoren (L' := [(1, .int (-1)), (0, .ref (V.1 p))]) dX3_mostInArrears_12 (Nat.le_of_ble_eq_true rfl) rfl ?_
    refine jv_iconst (v := 1) dX3_mostInArrears_13 (by decide) ?_
    refine jv_istoren (L' := [(2, .int 1), (1, .int (-1)), (0, .ref (V.1 p))]) dX3_mostInArrears_14 (Nat.le_of_ble_eq_true rfl) rfl ?_
    refine vl_b1 (P := fun (l1 : Int32) => pm_J X V mX3_mostInArrears 1 (pm_wld V skC M) 46 [(1, .int l1)] []) (vf_j (fun g => jr_sub [2, 1, 0] rfl g) (wl_X3_mostInArrears_15 p M hp (-1) 1)) ?_
    intro l1
    refine jv_iloadn (j := 0) dX3_mostInArrears_46 rfl ?_
    exact vf_ret dX3_mostInArrears_47 rfl
  refine jv_iconst (v := 0) dX3_mostInArrears_11 (by decide) ?_
  refine jv_istoren (L' := [(1, .int 0), (0, .ref (V.1 p))]) dX3_mostInArrears_12 (Nat.le_of_ble_eq_true rfl) rfl ?_
  refine jv_iconst (v := 1) dX3_mostInArrears_13 (by decide) ?_
  refine jv_istoren (L' := [(2, .int 1), (1, .int 0), (0, .ref (V.1 p))]) dX3_mostInArrears_14 (Nat.le_of_ble_eq_true rfl) rfl ?_
  refine vl_b1 (P := fun (l1 : Int32) => pm_J X V mX3_mostInArrears 1 (pm_wld V skC M) 46 [(1, .int l1)] []) (vf_j (fun g => jr_sub [2, 1, 0] rfl g) (wl_X3_mostInArrears_15 p M hp 0 1)) ?_
  intro l2
  refine jv_iloadn (j := 0) dX3_mostInArrears_46 rfl ?_
  exact vf_ret dX3_mostInArrears_47 rfl
theorem c_X3_mostInArrears {p : Nat} {M : pm_M} (hp : at_RO p) {r : Int32} {M' : pm_M} (h : f_X3_mostInArrears p M = some (r, M')) (l : Launch) (V : pm_V) : pm_Ci l V skC yX3_mostInArrears mX3_mostInArrears 1 [.ref (V.1 p)] M r M' := pm_metI (by decide) rfl (Nat.le_of_ble_eq_true rfl) h (fun _ => w_X3_mostInArrears p M hp)
def f_J_bitCount (M : pm_M) (x1 : Int32) : Option (Int32 × pm_M) :=
  (pm_let (x1 - ((pm_ushr x1 1) &&& 1431655765)) (fun z1 : Int32 => (pm_let ((z1 &&& 858993459) + ((pm_ushr z1 2) &&& 858993459)) (fun z2 : Int32 => (pm_let ((z2 + (pm_ushr z2 4)) &&& 252645135) (fun z3 : Int32 => (pm_let (z3 + (pm_ushr z3 8)) (fun z4 : Int32 => (pm_let (z4 + (pm_ushr z4 16)) (fun z5 : Int32 => (some ((z5 &&& 63), M))))))))))))
set_option maxHeartbeats 4000000 in
set_option maxRecDepth 100000 in
theorem w_J_bitCount {X : pm_X} {V : pm_V} (M : pm_M) (x1 : Int32)  : pm_VF (f_J_bitCount M x1) (pm_K X V mJ_bitCount 1 skC) (pm_J X V mJ_bitCount 1 (pm_wld V skC M) 0 [(0, .int x1)] []) := by
  unfold f_J_bitCount
  refine jv_iloadn (j := 0) dJ_bitCount_0 rfl ?_
  refine jv_iloadn (j := 0) dJ_bitCount_1 rfl ?_
  refine jv_iconst (v := 1) dJ_bitCount_2 (by decide) ?_
  refine jv_iushr dJ_bitCount_3 ?_
  refine jv_ldcw dJ_bitCount_4 lkJ_265 ?_
  refine jv_iand dJ_bitCount_7 ?_
  refine jv_isub dJ_bitCount_8 ?_
  refine vf_letS (fun z1 => ?_)
  refine jv_istoren (L' := [(0, .int z1)]) dJ_bitCount_9 (Nat.le_of_ble_eq_true rfl) rfl ?_
  refine jv_iloadn (j := 0) dJ_bitCount_10 rfl ?_
  refine jv_ldcw dJ_bitCount_11 lkJ_266 ?_
  refine jv_iand dJ_bitCount_14 ?_
  refine jv_iloadn (j := 0) dJ_bitCount_15 rfl ?_
  refine jv_iconst (v := 2) dJ_bitCount_16 (by decide) ?_
  refine jv_iushr dJ_bitCount_17 ?_
  refine jv_ldcw dJ_bitCount_18 lkJ_266 ?_
  refine jv_iand dJ_bitCount_21 ?_
  refine jv_iadd dJ_bitCount_22 ?_
  refine vf_letS (fun z2 => ?_)
  refine jv_istoren (L' := [(0, .int z2)]) dJ_bitCount_23 (Nat.le_of_ble_eq_true rfl) rfl ?_
  refine jv_iloadn (j := 0) dJ_bitCount_24 rfl ?_
  refine jv_iloadn (j := 0) dJ_bitCount_25 rfl ?_
  refine jv_iconst (v := 4) dJ_bitCount_26 (by decide) ?_
  refine jv_iushr dJ_bitCount_27 ?_
  refine jv_iadd dJ_bitCount_28 ?_
  refine jv_ldcw dJ_bitCount_29 lkJ_267 ?_
  refine jv_iand dJ_bitCount_32 ?_
  refine vf_letS (fun z3 => ?_)
  refine jv_istoren (L' := [(0, .int z3)]) dJ_bitCount_33 (Nat.le_of_ble_eq_true rfl) rfl ?_
  refine jv_iloadn (j := 0) dJ_bitCount_34 rfl ?_
  refine jv_iloadn (j := 0) dJ_bitCount_35 rfl ?_
  refine jv_bipush (v := 8) dJ_bitCount_36 (by decide) ?_
  refine jv_iushr dJ_bitCount_38 ?_
  refine jv_iadd dJ_bitCount_39 ?_
  refine vf_letS (fun z4 => ?_)
  refine jv_istoren (L' := [(0, .int z4)]) dJ_bitCount_40 (Nat.le_of_ble_eq_true rfl) rfl ?_
  refine jv_iloadn (j := 0) dJ_bitCount_41 rfl ?_
  refine jv_iloadn (j := 0) dJ_bitCount_42 rfl ?_
  refine jv_bipush (v := 16) dJ_bitCount_43 (by decide) ?_
  refine jv_iushr dJ_bitCount_45 ?_
  refine jv_iadd dJ_bitCount_46 ?_
  refine vf_letS (fun z5 => ?_)
  refine jv_istoren (L' := [(0, .int z5)]) dJ_bitCount_47 (Nat.le_of_ble_eq_true rfl) rfl ?_
  refine jv_iloadn (j := 0) dJ_bitCount_48 rfl ?_
  refine jv_bipush (v := 63) dJ_bitCount_49 (by decide) ?_
  refine jv_iand dJ_bitCount_51 ?_
  exact vf_ret dJ_bitCount_52 rfl
theorem c_J_bitCount {M : pm_M} {x1 : Int32}  {r : Int32} {M' : pm_M} (h : f_J_bitCount M x1 = some (r, M')) (l : Launch) (V : pm_V) : pm_Ci l V skC yJ_bitCount mJ_bitCount 1 [.int x1] M r M' := pm_metI (by decide) rfl (Nat.le_of_ble_eq_true rfl) h (fun _ => w_J_bitCount M x1 )
def f_X3_sellsRather (p : Nat) (M : pm_M) (x1 : Int32) (x2 : Int32) : Option (Int32 × pm_M) :=
  (pm_b2 (f_J_bitCount M x1) (fun (r2 : Int32) (M1 : pm_M) => (pm_b2 (f_J_bitCount M1 x2) (fun (r4 : Int32) (M3 : pm_M) => (pm_let (r2 - r4) (fun z5 : Int32 => (if z5 < 0 then (some (1, M3)) else (if z5 = 0 then (pm_b2 (f_X3_sumOver p M3 x1 (p + 2)) (fun (r7 : Int32) (M6 : pm_M) => (pm_b2 (f_X3_sumOver p M6 x2 (p + 2)) (fun (r9 : Int32) (M8 : pm_M) => (if r9 ≤ r7 then (some (0, M8)) else (some (1, M8))))))) else (some (0, M3))))))))))
set_option maxHeartbeats 4000000 in
set_option maxRecDepth 100000 in
theorem w_X3_sellsRather {X : pm_X} {V : pm_V} (p : Nat) (M : pm_M) (x1 : Int32) (x2 : Int32) (hp : at_RO p) : pm_VF (f_X3_sellsRather p M x1 x2) (pm_K X V mX3_sellsRather 2 skC) (pm_J X V mX3_sellsRather 2 (pm_wld V skC M) 0 [(0, .ref (V.1 p)), (1, .int x1), (2, .int x2)] []) := by
  unfold f_X3_sellsRather
  refine jv_iloadn (j := 1) dX3_sellsRather_0 rfl ?_
  refine hv_callS (As := [.int x1]) dX3_sellsRather_1 lk3_55 kJ_bitCount nJ_bitCount (Nat.le_of_ble_eq_true rfl) (Nat.le_of_ble_eq_true rfl) rfl (fun _ _ e l => c_J_bitCount  e l V) ?_
  intro r2 M1
  refine jv_iloadn (j := 2) dX3_sellsRather_4 rfl ?_
  refine hv_callS (As := [.int x2]) dX3_sellsRather_5 lk3_55 kJ_bitCount nJ_bitCount (Nat.le_of_ble_eq_true rfl) (Nat.le_of_ble_eq_true rfl) rfl (fun _ _ e l => c_J_bitCount  e l V) ?_
  intro r4 M3
  refine jv_isub dX3_sellsRather_8 ?_
  refine vf_letS (fun z5 => ?_)
  refine jv_istoren (L' := [(3, .int z5), (0, .ref (V.1 p)), (1, .int x1), (2, .int x2)]) dX3_sellsRather_9 (Nat.le_of_ble_eq_true rfl) rfl ?_
  refine jv_iloadn (j := 0) dX3_sellsRather_10 rfl ?_
  refine jw_if_lt (tgt := 39) dX3_sellsRather_11 rfl (fun c11 => ?_) (fun c11 => ?_)
  · refine jv_iconst (v := 1) dX3_sellsRather_39 (by decide) ?_
    refine jv_goto (tgt := 44) dX3_sellsRather_40 rfl ?_
    exact vf_zret dX3_sellsRather_44 rfl (by decide)
  refine jv_iloadn (j := 0) dX3_sellsRather_14 rfl ?_
  refine jw_if_ne (tgt := 43) dX3_sellsRather_15 rfl (fun c15 => ?_) (fun c15 => ?_)
  · refine jv_aloadn (j := 1) dX3_sellsRather_18 rfl ?_
    refine jv_iloadn (j := 2) dX3_sellsRather_19 rfl ?_
    refine jv_aloadn (j := 1) dX3_sellsRather_20 rfl ?_
    refine hv_getR dX3_sellsRather_21 fl3_19 (at_RO_0 hp) rfl ?_
    refine hv_callI (As := [.int x1, .ref (V.1 (p + 2))]) dX3_sellsRather_24 lk3_47 kX3_sumOver nX3_sumOver (Nat.le_of_ble_eq_true rfl) (Nat.le_of_ble_eq_true rfl) (at_RO_0 hp) rfl rfl rfl (fun _ _ e l => c_X3_sumOver hp (at_RO_2 hp) e l V) ?_
    intro r7 M6
    refine jv_aloadn (j := 1) dX3_sellsRather_27 rfl ?_
    refine jv_iloadn (j := 3) dX3_sellsRather_28 rfl ?_
    refine jv_aloadn (j := 1) dX3_sellsRather_29 rfl ?_
    refine hv_getR dX3_sellsRather_30 fl3_19 (at_RO_0 hp) rfl ?_
    refine hv_callI (As := [.int x2, .ref (V.1 (p + 2))]) dX3_sellsRather_33 lk3_47 kX3_sumOver nX3_sumOver (Nat.le_of_ble_eq_true rfl) (Nat.le_of_ble_eq_true rfl) (at_RO_0 hp) rfl rfl rfl (fun _ _ e l => c_X3_sumOver hp (at_RO_2 hp) e l V) ?_
    intro r9 M8
    refine jw_ic_ge (tgt := 43) dX3_sellsRather_36 rfl (fun c36 => ?_) (fun c36 => ?_)
    · refine jv_iconst (v := 0) dX3_sellsRather_43 (by decide) ?_
      exact vf_zret dX3_sellsRather_44 rfl (by decide)
    refine jv_iconst (v := 1) dX3_sellsRather_39 (by decide) ?_
    refine jv_goto (tgt := 44) dX3_sellsRather_40 rfl ?_
    exact vf_zret dX3_sellsRather_44 rfl (by decide)
  refine jv_iconst (v := 0) dX3_sellsRather_43 (by decide) ?_
  exact vf_zret dX3_sellsRather_44 rfl (by decide)
theorem c_X3_sellsRather {p : Nat} {M : pm_M} {x1 : Int32} {x2 : Int32} (hp : at_RO p) {r : Int32} {M' : pm_M} (h : f_X3_sellsRather p M x1 x2 = some (r, M')) (l : Launch) (V : pm_V) : pm_Ci l V skC yX3_sellsRather mX3_sellsRather 2 [.ref (V.1 p), .int x1, .int x2] M r M' := pm_metI (by decide) rfl (Nat.le_of_ble_eq_true rfl) h (fun _ => w_X3_sellsRather p M x1 x2 hp)
def lb_X3_bestSellers_4 (p : Nat) (x1 : Int32) (ih : Int32 → Int32 → pm_M → Option (Int32 × pm_M)) : Int32 → Int32 → pm_M → Option (Int32 × pm_M) := fun (l2 : Int32) (l3 : Int32) (Ml : pm_M) =>
  (if (pm_shl 1 (Ml p 0)) ≤ l3 then (some (l2, Ml)) else (pm_b2 (f_X3_sumOver p Ml l3 (p + 1)) (fun (r5003 : Int32) (M5002 : pm_M) => (if r5003 < x1 then (ih l2 (l3 + 1) M5002) else (if l2 < 0 then (ih l3 (l3 + 1) M5002) else (pm_b2 (f_X3_sellsRather p M5002 l3 l2) (fun (r5005 : Int32) (M5004 : pm_M) => (if r5005 = 0 then (ih l2 (l3 + 1) M5004) else (ih l3 (l3 + 1) M5004)))))))))
def lp_X3_bestSellers_4 (p : Nat) (x1 : Int32) : Int32 → Int32 → pm_M → Option (Int32 × pm_M) := pm_it (fun _ _ _ => none) (lb_X3_bestSellers_4 p x1) pm_F
def f_X3_bestSellers (p : Nat) (M : pm_M) (x1 : Int32) : Option (Int32 × pm_M) :=
  (pm_b2 (lp_X3_bestSellers_4 p x1 (-1) 0 M) (fun (l1 : Int32) (M2 : pm_M) => (some (l1, M2))))
set_option maxHeartbeats 4000000 in
set_option maxRecDepth 100000 in
theorem wl_X3_bestSellers_4 {X : pm_X} {V : pm_V} (p : Nat) (x1 : Int32) (hp : at_RO p) : ∀ (l2 : Int32) (l3 : Int32) (Ml : pm_M), pm_VF (lp_X3_bestSellers_4 p x1 l2 l3 Ml) (fun b => (fun (l2 : Int32) (Ml : pm_M) => pm_J X V mX3_bestSellers 3 (pm_wld V skC Ml) 48 [(2, .int l2)] []) b.1 b.2) (pm_J X V mX3_bestSellers 3 (pm_wld V skC Ml) 4 [(0, .ref (V.1 p)), (1, .int x1), (2, .int l2), (3, .int l3)] []) := by
  refine pm_it_ind (P := fun (f : Int32 → Int32 → pm_M → Option (Int32 × pm_M)) => ∀ (l2 : Int32) (l3 : Int32) (Ml : pm_M), pm_VF (f l2 l3 Ml) (fun b => (fun (l2 : Int32) (Ml : pm_M) => pm_J X V mX3_bestSellers 3 (pm_wld V skC Ml) 48 [(2, .int l2)] []) b.1 b.2) (pm_J X V mX3_bestSellers 3 (pm_wld V skC Ml) 4 [(0, .ref (V.1 p)), (1, .int x1), (2, .int l2), (3, .int l3)] [])) (fun _ _ _ => vf_none) (fun ih hih l2 l3 Ml => ?_) pm_F
  · unfold lb_X3_bestSellers_4
    refine jv_iloadn (j := 3) dX3_bestSellers_4 rfl ?_
    refine jv_iconst (v := 1) dX3_bestSellers_5 (by decide) ?_
    refine jv_aloadn (j := 0) dX3_bestSellers_6 rfl ?_
    refine hv_getI dX3_bestSellers_7 fl3_9 (at_RO_0 hp) rfl ?_
    refine jv_ishl dX3_bestSellers_10 ?_
    refine jw_ic_ge (tgt := 48) dX3_bestSellers_11 rfl (fun c11 => ?_) (fun c11 => ?_)
    · exact vf_end (fun g => jr_sub [2] rfl g)
    refine jv_aloadn (j := 0) dX3_bestSellers_14 rfl ?_
    refine jv_iloadn (j := 3) dX3_bestSellers_15 rfl ?_
    refine jv_aloadn (j := 0) dX3_bestSellers_16 rfl ?_
    refine hv_getR dX3_bestSellers_17 fl3_15 (at_RO_0 hp) rfl ?_
    refine hv_callI (As := [.int l3, .ref (V.1 (p + 1))]) dX3_bestSellers_20 lk3_47 kX3_sumOver nX3_sumOver (Nat.le_of_ble_eq_true rfl) (Nat.le_of_ble_eq_true rfl) (at_RO_0 hp) rfl rfl rfl (fun _ _ e l => c_X3_sumOver hp (at_RO_1 hp) e l V) ?_
    intro r5003 M5002
    refine jv_iloadn (j := 1) dX3_bestSellers_23 rfl ?_
    refine jw_ic_lt (tgt := 42) dX3_bestSellers_24 rfl (fun c24 => ?_) (fun c24 => ?_)
    · refine jv_iinc (j := 3) (v := l3 + 1) (L' := [(3, .int (l3 + 1)), (0, .ref (V.1 p)), (1, .int x1), (2, .int l2)]) dX3_bestSellers_42 rfl rfl (Nat.le_of_ble_eq_true rfl) rfl ?_
      refine jv_goto (tgt := 4) dX3_bestSellers_45 rfl ?_
      exact vf_j (fun g => jr_sub [1, 2, 3, 0] rfl g) (hih l2 (l3 + 1) M5002)
    refine jv_iloadn (j := 2) dX3_bestSellers_27 rfl ?_
    refine jw_if_lt (tgt := 40) dX3_bestSellers_28 rfl (fun c28 => ?_) (fun c28 => ?_)
    · refine jv_iloadn (j := 3) dX3_bestSellers_40 rfl ?_
      refine jv_istoren (L' := [(2, .int l3), (0, .ref (V.1 p)), (1, .int x1), (3, .int l3)]) dX3_bestSellers_41 (Nat.le_of_ble_eq_true rfl) rfl ?_
      refine jv_iinc (j := 3) (v := l3 + 1) (L' := [(3, .int (l3 + 1)), (2, .int l3), (0, .ref (V.1 p)), (1, .int x1)]) dX3_bestSellers_42 rfl rfl (Nat.le_of_ble_eq_true rfl) rfl ?_
      refine jv_goto (tgt := 4) dX3_bestSellers_45 rfl ?_
      exact vf_j (fun g => jr_sub [2, 3, 1, 0] rfl g) (hih l3 (l3 + 1) M5002)
    refine jv_aloadn (j := 0) dX3_bestSellers_31 rfl ?_
    refine jv_iloadn (j := 3) dX3_bestSellers_32 rfl ?_
    refine jv_iloadn (j := 2) dX3_bestSellers_33 rfl ?_
    refine hv_callI (As := [.int l3, .int l2]) dX3_bestSellers_34 lk3_51 kX3_sellsRather nX3_sellsRather (Nat.le_of_ble_eq_true rfl) (Nat.le_of_ble_eq_true rfl) (at_RO_0 hp) rfl rfl rfl (fun _ _ e l => c_X3_sellsRather hp e l V) ?_
    intro r5005 M5004
    refine jw_if_eq (tgt := 42) dX3_bestSellers_37 rfl (fun c37 => ?_) (fun c37 => ?_)
    · refine jv_iinc (j := 3) (v := l3 + 1) (L' := [(3, .int (l3 + 1)), (0, .ref (V.1 p)), (1, .int x1), (2, .int l2)]) dX3_bestSellers_42 rfl rfl (Nat.le_of_ble_eq_true rfl) rfl ?_
      refine jv_goto (tgt := 4) dX3_bestSellers_45 rfl ?_
      exact vf_j (fun g => jr_sub [1, 2, 3, 0] rfl g) (hih l2 (l3 + 1) M5004)
    refine jv_iloadn (j := 3) dX3_bestSellers_40 rfl ?_
    refine jv_istoren (L' := [(2, .int l3), (0, .ref (V.1 p)), (1, .int x1), (3, .int l3)]) dX3_bestSellers_41 (Nat.le_of_ble_eq_true rfl) rfl ?_
    refine jv_iinc (j := 3) (v := l3 + 1) (L' := [(3, .int (l3 + 1)), (2, .int l3), (0, .ref (V.1 p)), (1, .int x1)]) dX3_bestSellers_42 rfl rfl (Nat.le_of_ble_eq_true rfl) rfl ?_
    refine jv_goto (tgt := 4) dX3_bestSellers_45 rfl ?_
    exact vf_j (fun g => jr_sub [2, 3, 1, 0] rfl g) (hih l3 (l3 + 1) M5004)
set_option maxHeartbeats 4000000 in
set_option maxRecDepth 100000 in
theorem w_X3_bestSellers {X : pm_X} {V : pm_V} (p : Nat) (M : pm_M) (x1 : Int32) (hp : at_RO p) : pm_VF (f_X3_bestSellers p M x1) (pm_K X V mX3_bestSellers 3 skC) (pm_J X V mX3_bestSellers 3 (pm_wld V skC M) 0 [(0, .ref (V.1 p)), (1, .int x1)] []) := by
  unfold f_X3_bestSellers
  refine jv_iconst (v := -1) dX3_bestSellers_0 (by decide) ?_
  refine jv_istoren (L' := [(2, .int (-1)), (0, .ref (V.1 p)), (1, .int x1)]) dX3_bestSellers_1 (Nat.le_of_ble_eq_true rfl) rfl ?_
  refine jv_iconst (v := 0) dX3_bestSellers_2 (by decide) ?_
  refine jv_istoren (L' := [(3, .int 0), (2, .int (-1)), (0, .ref (V.1 p)), (1, .int x1)]) dX3_bestSellers_3 (Nat.le_of_ble_eq_true rfl) rfl ?_
  refine vl_b2 (P := fun (l2 : Int32) (Ml : pm_M) => pm_J X V mX3_bestSellers 3 (pm_wld V skC Ml) 48 [(2, .int l2)] []) (vf_j (fun g => jr_sub [2, 3, 1, 0] rfl g) (wl_X3_bestSellers_4 p x1 hp (-1) 0 M)) ?_
  intro l1 M2
  refine jv_iloadn (j := 0) dX3_bestSellers_48 rfl ?_
  exact vf_ret dX3_bestSellers_49 rfl
theorem c_X3_bestSellers {p : Nat} {M : pm_M} {x1 : Int32} (hp : at_RO p) {r : Int32} {M' : pm_M} (h : f_X3_bestSellers p M x1 = some (r, M')) (l : Launch) (V : pm_V) : pm_Ci l V skC yX3_bestSellers mX3_bestSellers 3 [.ref (V.1 p), .int x1] M r M' := pm_metI (by decide) rfl (Nat.le_of_ble_eq_true rfl) h (fun _ => w_X3_bestSellers p M x1 hp)
def lb_X3_tradingPairs_14 (p : Nat) (l2 : Int32) (M : pm_M) (ih : Int32 → Int32 → Option (Int32)) : Int32 → Int32 → Option (Int32) := fun (l1 : Int32) (l3 : Int32) =>
  (if (M p 0) ≤ l3 then (some l1) else (pm_chk (pm_in l2 6) (pm_chk (pm_in l3 6) (if (M (p + 4) l2.toNatClampNeg) ≤ (M (p + 4) l3.toNatClampNeg) then (ih l1 (l3 + 1)) else (pm_chk (pm_in l2 6) (pm_chk (pm_in l3 6) (if (M (p + 1) l3.toNatClampNeg) ≤ (M (p + 1) l2.toNatClampNeg) then (ih l1 (l3 + 1)) else (ih (l1 + 1) (l3 + 1)))))))))
def lp_X3_tradingPairs_14 (p : Nat) (l2 : Int32) (M : pm_M) : Int32 → Int32 → Option (Int32) := pm_it (fun _ _ => none) (lb_X3_tradingPairs_14 p l2 M) pm_F
def lb_X3_tradingPairs_4 (p : Nat) (M : pm_M) (ih : Int32 → Int32 → Option (Int32)) : Int32 → Int32 → Option (Int32) := fun (l1 : Int32) (l2 : Int32) =>
  (if (M p 0) ≤ l2 then (some l1) else (pm_b1 (lp_X3_tradingPairs_14 p l2 M l1 0) (fun (l5002 : Int32) => (ih l5002 (l2 + 1)))))
def lp_X3_tradingPairs_4 (p : Nat) (M : pm_M) : Int32 → Int32 → Option (Int32) := pm_it (fun _ _ => none) (lb_X3_tradingPairs_4 p M) pm_F
def f_X3_tradingPairs (p : Nat) (M : pm_M) : Option (Int32 × pm_M) :=
  (pm_b1 (lp_X3_tradingPairs_4 p M 0 0) (fun (l1 : Int32) => (some (l1, M))))
set_option maxHeartbeats 4000000 in
set_option maxRecDepth 100000 in
theorem wl_X3_tradingPairs_14 {X : pm_X} {V : pm_V} (p : Nat) (l2 : Int32) (M : pm_M) (hp : at_RO p) : ∀ (l1 : Int32) (l3 : Int32), pm_VF (lp_X3_tradingPairs_14 p l2 M l1 l3) (fun b => (fun (l1 : Int32) => pm_J X V mX3_tradingPairs 1 (pm_wld V skC M) 61 [(0, .ref (V.1 p)), (1, .int l1), (2, .int l2)] []) b) (pm_J X V mX3_tradingPairs 1 (pm_wld V skC M) 14 [(0, .ref (V.1 p)), (1, .int l1), (2, .int l2), (3, .int l3)] []) := by
  refine pm_it_ind (P := fun (f : Int32 → Int32 → Option (Int32)) => ∀ (l1 : Int32) (l3 : Int32), pm_VF (f l1 l3) (fun b => (fun (l1 : Int32) => pm_J X V mX3_tradingPairs 1 (pm_wld V skC M) 61 [(0, .ref (V.1 p)), (1, .int l1), (2, .int l2)] []) b) (pm_J X V mX3_tradingPairs 1 (pm_wld V skC M) 14 [(0, .ref (V.1 p)), (1, .int l1), (2, .int l2), (3, .int l3)] [])) (fun _ _ => vf_none) (fun ih hih l1 l3 => ?_) pm_F
  · unfold lb_X3_tradingPairs_14
    refine jv_iloadn (j := 3) dX3_tradingPairs_14 rfl ?_
    refine jv_aloadn (j := 0) dX3_tradingPairs_15 rfl ?_
    refine hv_getI dX3_tradingPairs_16 fl3_9 (at_RO_0 hp) rfl ?_
    refine jw_ic_ge (tgt := 61) dX3_tradingPairs_19 rfl (fun c19 => ?_) (fun c19 => ?_)
    · exact vf_end (fun g => jr_sub [0, 1, 2] rfl g)
    refine jv_aloadn (j := 0) dX3_tradingPairs_22 rfl ?_
    refine hv_getR dX3_tradingPairs_23 fl3_25 (at_RO_0 hp) rfl ?_
    refine jv_iloadn (j := 2) dX3_tradingPairs_26 rfl ?_
    refine hv_ialdC dX3_tradingPairs_27 (at_RO_4 hp) (fun _ => ?_)
    refine jv_aloadn (j := 0) dX3_tradingPairs_28 rfl ?_
    refine hv_getR dX3_tradingPairs_29 fl3_25 (at_RO_0 hp) rfl ?_
    refine jv_iloadn (j := 3) dX3_tradingPairs_32 rfl ?_
    refine hv_ialdC dX3_tradingPairs_33 (at_RO_4 hp) (fun _ => ?_)
    refine jw_ic_le (tgt := 55) dX3_tradingPairs_34 rfl (fun c34 => ?_) (fun c34 => ?_)
    · refine jv_iinc (j := 3) (v := l3 + 1) (L' := [(3, .int (l3 + 1)), (0, .ref (V.1 p)), (1, .int l1), (2, .int l2)]) dX3_tradingPairs_55 rfl rfl (Nat.le_of_ble_eq_true rfl) rfl ?_
      refine jv_goto (tgt := 14) dX3_tradingPairs_58 rfl ?_
      exact vf_j (fun g => jr_sub [1, 2, 3, 0] rfl g) (hih l1 (l3 + 1))
    refine jv_aloadn (j := 0) dX3_tradingPairs_37 rfl ?_
    refine hv_getR dX3_tradingPairs_38 fl3_15 (at_RO_0 hp) rfl ?_
    refine jv_iloadn (j := 2) dX3_tradingPairs_41 rfl ?_
    refine hv_ialdC dX3_tradingPairs_42 (at_RO_1 hp) (fun _ => ?_)
    refine jv_aloadn (j := 0) dX3_tradingPairs_43 rfl ?_
    refine hv_getR dX3_tradingPairs_44 fl3_15 (at_RO_0 hp) rfl ?_
    refine jv_iloadn (j := 3) dX3_tradingPairs_47 rfl ?_
    refine hv_ialdC dX3_tradingPairs_48 (at_RO_1 hp) (fun _ => ?_)
    refine jw_ic_ge (tgt := 55) dX3_tradingPairs_49 rfl (fun c49 => ?_) (fun c49 => ?_)
    · refine jv_iinc (j := 3) (v := l3 + 1) (L' := [(3, .int (l3 + 1)), (0, .ref (V.1 p)), (1, .int l1), (2, .int l2)]) dX3_tradingPairs_55 rfl rfl (Nat.le_of_ble_eq_true rfl) rfl ?_
      refine jv_goto (tgt := 14) dX3_tradingPairs_58 rfl ?_
      exact vf_j (fun g => jr_sub [1, 2, 3, 0] rfl g) (hih l1 (l3 + 1))
    refine jv_iinc (j := 1) (v := l1 + 1) (L' := [(1, .int (l1 + 1)), (0, .ref (V.1 p)), (2, .int l2), (3, .int l3)]) dX3_tradingPairs_52 rfl rfl (Nat.le_of_ble_eq_true rfl) rfl ?_
    refine jv_iinc (j := 3) (v := l3 + 1) (L' := [(3, .int (l3 + 1)), (1, .int (l1 + 1)), (0, .ref (V.1 p)), (2, .int l2)]) dX3_tradingPairs_55 rfl rfl (Nat.le_of_ble_eq_true rfl) rfl ?_
    refine jv_goto (tgt := 14) dX3_tradingPairs_58 rfl ?_
    exact vf_j (fun g => jr_sub [2, 1, 3, 0] rfl g) (hih (l1 + 1) (l3 + 1))
set_option maxHeartbeats 4000000 in
set_option maxRecDepth 100000 in
theorem wl_X3_tradingPairs_4 {X : pm_X} {V : pm_V} (p : Nat) (M : pm_M) (hp : at_RO p) : ∀ (l1 : Int32) (l2 : Int32), pm_VF (lp_X3_tradingPairs_4 p M l1 l2) (fun b => (fun (l1 : Int32) => pm_J X V mX3_tradingPairs 1 (pm_wld V skC M) 67 [(1, .int l1)] []) b) (pm_J X V mX3_tradingPairs 1 (pm_wld V skC M) 4 [(0, .ref (V.1 p)), (1, .int l1), (2, .int l2)] []) := by
  refine pm_it_ind (P := fun (f : Int32 → Int32 → Option (Int32)) => ∀ (l1 : Int32) (l2 : Int32), pm_VF (f l1 l2) (fun b => (fun (l1 : Int32) => pm_J X V mX3_tradingPairs 1 (pm_wld V skC M) 67 [(1, .int l1)] []) b) (pm_J X V mX3_tradingPairs 1 (pm_wld V skC M) 4 [(0, .ref (V.1 p)), (1, .int l1), (2, .int l2)] [])) (fun _ _ => vf_none) (fun ih hih l1 l2 => ?_) pm_F
  · unfold lb_X3_tradingPairs_4
    refine jv_iloadn (j := 2) dX3_tradingPairs_4 rfl ?_
    refine jv_aloadn (j := 0) dX3_tradingPairs_5 rfl ?_
    refine hv_getI dX3_tradingPairs_6 fl3_9 (at_RO_0 hp) rfl ?_
    refine jw_ic_ge (tgt := 67) dX3_tradingPairs_9 rfl (fun c9 => ?_) (fun c9 => ?_)
    · exact vf_end (fun g => jr_sub [1] rfl g)
    refine jv_iconst (v := 0) dX3_tradingPairs_12 (by decide) ?_
    refine jv_istoren (L' := [(3, .int 0), (0, .ref (V.1 p)), (1, .int l1), (2, .int l2)]) dX3_tradingPairs_13 (Nat.le_of_ble_eq_true rfl) rfl ?_
    refine vl_b1 (P := fun (l1 : Int32) => pm_J X V mX3_tradingPairs 1 (pm_wld V skC M) 61 [(0, .ref (V.1 p)), (1, .int l1), (2, .int l2)] []) (vf_j (fun g => jr_sub [1, 2, 3, 0] rfl g) (wl_X3_tradingPairs_14 p l2 M hp l1 0)) ?_
    intro l5002
    refine jv_iinc (j := 2) (v := l2 + 1) (L' := [(2, .int (l2 + 1)), (0, .ref (V.1 p)), (1, .int l5002)]) dX3_tradingPairs_61 rfl rfl (Nat.le_of_ble_eq_true rfl) rfl ?_
    refine jv_goto (tgt := 4) dX3_tradingPairs_64 rfl ?_
    exact vf_j (fun g => jr_sub [1, 2, 0] rfl g) (hih l5002 (l2 + 1))
set_option maxHeartbeats 4000000 in
set_option maxRecDepth 100000 in
theorem w_X3_tradingPairs {X : pm_X} {V : pm_V} (p : Nat) (M : pm_M) (hp : at_RO p) : pm_VF (f_X3_tradingPairs p M) (pm_K X V mX3_tradingPairs 1 skC) (pm_J X V mX3_tradingPairs 1 (pm_wld V skC M) 0 [(0, .ref (V.1 p))] []) := by
  unfold f_X3_tradingPairs
  refine jv_iconst (v := 0) dX3_tradingPairs_0 (by decide) ?_
  refine jv_istoren (L' := [(1, .int 0), (0, .ref (V.1 p))]) dX3_tradingPairs_1 (Nat.le_of_ble_eq_true rfl) rfl ?_
  refine jv_iconst (v := 0) dX3_tradingPairs_2 (by decide) ?_
  refine jv_istoren (L' := [(2, .int 0), (1, .int 0), (0, .ref (V.1 p))]) dX3_tradingPairs_3 (Nat.le_of_ble_eq_true rfl) rfl ?_
  refine vl_b1 (P := fun (l1 : Int32) => pm_J X V mX3_tradingPairs 1 (pm_wld V skC M) 67 [(1, .int l1)] []) (vf_j (fun g => jr_sub [2, 1, 0] rfl g) (wl_X3_tradingPairs_4 p M hp 0 0)) ?_
  intro l1
  refine jv_iloadn (j := 0) dX3_tradingPairs_67 rfl ?_
  exact vf_ret dX3_tradingPairs_68 rfl
theorem c_X3_tradingPairs {p : Nat} {M : pm_M} (hp : at_RO p) {r : Int32} {M' : pm_M} (h : f_X3_tradingPairs p M = some (r, M')) (l : Launch) (V : pm_V) : pm_Ci l V skC yX3_tradingPairs mX3_tradingPairs 1 [.ref (V.1 p)] M r M' := pm_metI (by decide) rfl (Nat.le_of_ble_eq_true rfl) h (fun _ => w_X3_tradingPairs p M hp)
def f_X3_clearPair (p : Nat) (M : pm_M) (x1 : Int32) (x2 : Int32) : Option (Int32 × pm_M) :=
  (pm_chk (pm_in x1 6) (pm_chk (pm_in x2 6) (pm_chk (pm_in x2 6) (pm_chk (pm_in x1 6) (pm_let (pm_min (M (p + 6 + x1.toNatClampNeg) x2.toNatClampNeg) (M (p + 6 + x2.toNatClampNeg) x1.toNatClampNeg)) (fun z3 : Int32 => (pm_chk (pm_in x2 6) (pm_chk (pm_in x2 6) (pm_let (pm_up M (p + 6 + x1.toNatClampNeg) x2.toNatClampNeg ((M (p + 6 + x1.toNatClampNeg) x2.toNatClampNeg) - z3)) (fun M4 : pm_M => (pm_chk (pm_in x1 6) (pm_chk (pm_in x1 6) (pm_let (pm_up M4 (p + 6 + x2.toNatClampNeg) x1.toNatClampNeg ((M4 (p + 6 + x2.toNatClampNeg) x1.toNatClampNeg) - z3)) (fun M5 : pm_M => (some ((2 * z3), M5))))))))))))))))
set_option maxHeartbeats 4000000 in
set_option maxRecDepth 100000 in
theorem w_X3_clearPair {X : pm_X} {V : pm_V} (p : Nat) (M : pm_M) (x1 : Int32) (x2 : Int32) (hp : at_RO p) : pm_VF (f_X3_clearPair p M x1 x2) (pm_K X V mX3_clearPair 1 skC) (pm_J X V mX3_clearPair 1 (pm_wld V skC M) 0 [(0, .ref (V.1 p)), (1, .int x1), (2, .int x2)] []) := by
  unfold f_X3_clearPair
  refine jv_aloadn (j := 0) dX3_clearPair_0 rfl ?_
  refine hv_getR dX3_clearPair_1 fl3_30 (at_RO_0 hp) rfl ?_
  refine jv_iloadn (j := 1) dX3_clearPair_4 rfl ?_
  refine vf_chk (fun q1 => ?_)
  refine hv_aald dX3_clearPair_5 (at_RO_5 hp) (ty := .array .int) (fun _ => rfl) rfl q1 (pl_row q1) ?_
  refine jv_iloadn (j := 2) dX3_clearPair_6 rfl ?_
  refine hv_ialdC dX3_clearPair_7 (at_RO_rowi hp q1) (fun _ => ?_)
  refine jv_aloadn (j := 0) dX3_clearPair_8 rfl ?_
  refine hv_getR dX3_clearPair_9 fl3_30 (at_RO_0 hp) rfl ?_
  refine jv_iloadn (j := 2) dX3_clearPair_12 rfl ?_
  refine vf_chk (fun q2 => ?_)
  refine hv_aald dX3_clearPair_13 (at_RO_5 hp) (ty := .array .int) (fun _ => rfl) rfl q2 (pl_row q2) ?_
  refine jv_iloadn (j := 1) dX3_clearPair_14 rfl ?_
  refine hv_ialdC dX3_clearPair_15 (at_RO_rowi hp q2) (fun _ => ?_)
  refine hv_min dX3_clearPair_16 lk3_69 lkM_min.1 lkM_i lkM_min.2 (Nat.le_of_ble_eq_true rfl) ?_
  refine vf_letS (fun z3 => ?_)
  refine jv_istoren (L' := [(3, .int z3), (0, .ref (V.1 p)), (1, .int x1), (2, .int x2)]) dX3_clearPair_19 (Nat.le_of_ble_eq_true rfl) rfl ?_
  refine jv_aloadn (j := 1) dX3_clearPair_20 rfl ?_
  refine hv_getR dX3_clearPair_21 fl3_30 (at_RO_0 hp) rfl ?_
  refine jv_iloadn (j := 2) dX3_clearPair_24 rfl ?_
  refine hv_aald dX3_clearPair_25 (at_RO_5 hp) (ty := .array .int) (fun _ => rfl) rfl q1 (pl_row q1) ?_
  refine jv_iloadn (j := 3) dX3_clearPair_26 rfl ?_
  refine jv_dup2 dX3_clearPair_27 rfl rfl ?_
  refine hv_ialdC dX3_clearPair_28 (at_RO_rowi hp q1) (fun _ => ?_)
  refine jv_iloadn (j := 0) dX3_clearPair_29 rfl ?_
  refine jv_isub dX3_clearPair_30 ?_
  refine hv_iastC dX3_clearPair_31 (at_RO_rowi hp q1) (fun _ => ?_)
  refine vf_letM (fun M4 => ?_)
  refine jv_aloadn (j := 1) dX3_clearPair_32 rfl ?_
  refine hv_getR dX3_clearPair_33 fl3_30 (at_RO_0 hp) rfl ?_
  refine jv_iloadn (j := 3) dX3_clearPair_36 rfl ?_
  refine hv_aald dX3_clearPair_37 (at_RO_5 hp) (ty := .array .int) (fun _ => rfl) rfl q2 (pl_row q2) ?_
  refine jv_iloadn (j := 2) dX3_clearPair_38 rfl ?_
  refine jv_dup2 dX3_clearPair_39 rfl rfl ?_
  refine hv_ialdC dX3_clearPair_40 (at_RO_rowi hp q2) (fun _ => ?_)
  refine jv_iloadn (j := 0) dX3_clearPair_41 rfl ?_
  refine jv_isub dX3_clearPair_42 ?_
  refine hv_iastC dX3_clearPair_43 (at_RO_rowi hp q2) (fun _ => ?_)
  refine vf_letM (fun M5 => ?_)
  refine jv_iconst (v := 2) dX3_clearPair_44 (by decide) ?_
  refine jv_iloadn (j := 0) dX3_clearPair_45 rfl ?_
  refine jv_imul dX3_clearPair_46 ?_
  exact vf_ret dX3_clearPair_47 rfl
theorem c_X3_clearPair {p : Nat} {M : pm_M} {x1 : Int32} {x2 : Int32} (hp : at_RO p) {r : Int32} {M' : pm_M} (h : f_X3_clearPair p M x1 x2 = some (r, M')) (l : Launch) (V : pm_V) : pm_Ci l V skC yX3_clearPair mX3_clearPair 1 [.ref (V.1 p), .int x1, .int x2] M r M' := pm_metI (by decide) rfl (Nat.le_of_ble_eq_true rfl) h (fun _ => w_X3_clearPair p M x1 x2 hp)
def f_X3_clearRing (p : Nat) (M : pm_M) (x1 : Int32) (x2 : Int32) (x3 : Int32) : Option (Int32 × pm_M) :=
  (pm_chk (pm_in x1 6) (pm_chk (pm_in x2 6) (pm_chk (pm_in x2 6) (pm_chk (pm_in x3 6) (pm_chk (pm_in x3 6) (pm_chk (pm_in x1 6) (pm_let (pm_min (M (p + 6 + x1.toNatClampNeg) x2.toNatClampNeg) (pm_min (M (p + 6 + x2.toNatClampNeg) x3.toNatClampNeg) (M (p + 6 + x3.toNatClampNeg) x1.toNatClampNeg))) (fun z4 : Int32 => (pm_chk (pm_in x2 6) (pm_chk (pm_in x2 6) (pm_let (pm_up M (p + 6 + x1.toNatClampNeg) x2.toNatClampNeg ((M (p + 6 + x1.toNatClampNeg) x2.toNatClampNeg) - z4)) (fun M5 : pm_M => (pm_chk (pm_in x3 6) (pm_chk (pm_in x3 6) (pm_let (pm_up M5 (p + 6 + x2.toNatClampNeg) x3.toNatClampNeg ((M5 (p + 6 + x2.toNatClampNeg) x3.toNatClampNeg) - z4)) (fun M6 : pm_M => (pm_chk (pm_in x1 6) (pm_chk (pm_in x1 6) (pm_let (pm_up M6 (p + 6 + x3.toNatClampNeg) x1.toNatClampNeg ((M6 (p + 6 + x3.toNatClampNeg) x1.toNatClampNeg) - z4)) (fun M7 : pm_M => (some ((3 * z4), M7))))))))))))))))))))))
set_option maxHeartbeats 4000000 in
set_option maxRecDepth 100000 in
theorem w_X3_clearRing {X : pm_X} {V : pm_V} (p : Nat) (M : pm_M) (x1 : Int32) (x2 : Int32) (x3 : Int32) (hp : at_RO p) : pm_VF (f_X3_clearRing p M x1 x2 x3) (pm_K X V mX3_clearRing 1 skC) (pm_J X V mX3_clearRing 1 (pm_wld V skC M) 0 [(0, .ref (V.1 p)), (1, .int x1), (2, .int x2), (3, .int x3)] []) := by
  unfold f_X3_clearRing
  refine jv_aloadn (j := 0) dX3_clearRing_0 rfl ?_
  refine hv_getR dX3_clearRing_1 fl3_30 (at_RO_0 hp) rfl ?_
  refine jv_iloadn (j := 1) dX3_clearRing_4 rfl ?_
  refine vf_chk (fun q1 => ?_)
  refine hv_aald dX3_clearRing_5 (at_RO_5 hp) (ty := .array .int) (fun _ => rfl) rfl q1 (pl_row q1) ?_
  refine jv_iloadn (j := 2) dX3_clearRing_6 rfl ?_
  refine hv_ialdC dX3_clearRing_7 (at_RO_rowi hp q1) (fun _ => ?_)
  refine jv_aloadn (j := 0) dX3_clearRing_8 rfl ?_
  refine hv_getR dX3_clearRing_9 fl3_30 (at_RO_0 hp) rfl ?_
  refine jv_iloadn (j := 2) dX3_clearRing_12 rfl ?_
  refine vf_chk (fun q2 => ?_)
  refine hv_aald dX3_clearRing_13 (at_RO_5 hp) (ty := .array .int) (fun _ => rfl) rfl q2 (pl_row q2) ?_
  refine jv_iloadn (j := 3) dX3_clearRing_14 rfl ?_
  refine hv_ialdC dX3_clearRing_15 (at_RO_rowi hp q2) (fun _ => ?_)
  refine jv_aloadn (j := 0) dX3_clearRing_16 rfl ?_
  refine hv_getR dX3_clearRing_17 fl3_30 (at_RO_0 hp) rfl ?_
  refine jv_iloadn (j := 3) dX3_clearRing_20 rfl ?_
  refine vf_chk (fun q3 => ?_)
  refine hv_aald dX3_clearRing_21 (at_RO_5 hp) (ty := .array .int) (fun _ => rfl) rfl q3 (pl_row q3) ?_
  refine jv_iloadn (j := 1) dX3_clearRing_22 rfl ?_
  refine hv_ialdC dX3_clearRing_23 (at_RO_rowi hp q3) (fun _ => ?_)
  refine hv_min dX3_clearRing_24 lk3_69 lkM_min.1 lkM_i lkM_min.2 (Nat.le_of_ble_eq_true rfl) ?_
  refine hv_min dX3_clearRing_27 lk3_69 lkM_min.1 lkM_i lkM_min.2 (Nat.le_of_ble_eq_true rfl) ?_
  refine vf_letS (fun z4 => ?_)
  refine jv_istore (L' := [(4, .int z4), (0, .ref (V.1 p)), (1, .int x1), (2, .int x2), (3, .int x3)]) dX3_clearRing_30 (Nat.le_of_ble_eq_true rfl) rfl ?_
  refine jv_aloadn (j := 1) dX3_clearRing_32 rfl ?_
  refine hv_getR dX3_clearRing_33 fl3_30 (at_RO_0 hp) rfl ?_
  refine jv_iloadn (j := 2) dX3_clearRing_36 rfl ?_
  refine hv_aald dX3_clearRing_37 (at_RO_5 hp) (ty := .array .int) (fun _ => rfl) rfl q1 (pl_row q1) ?_
  refine jv_iloadn (j := 3) dX3_clearRing_38 rfl ?_
  refine jv_dup2 dX3_clearRing_39 rfl rfl ?_
  refine hv_ialdC dX3_clearRing_40 (at_RO_rowi hp q1) (fun _ => ?_)
  refine jv_iload (j := 0) dX3_clearRing_41 rfl ?_
  refine jv_isub dX3_clearRing_43 ?_
  refine hv_iastC dX3_clearRing_44 (at_RO_rowi hp q1) (fun _ => ?_)
  refine vf_letM (fun M5 => ?_)
  refine jv_aloadn (j := 1) dX3_clearRing_45 rfl ?_
  refine hv_getR dX3_clearRing_46 fl3_30 (at_RO_0 hp) rfl ?_
  refine jv_iloadn (j := 3) dX3_clearRing_49 rfl ?_
  refine hv_aald dX3_clearRing_50 (at_RO_5 hp) (ty := .array .int) (fun _ => rfl) rfl q2 (pl_row q2) ?_
  refine jv_iloadn (j := 4) dX3_clearRing_51 rfl ?_
  refine jv_dup2 dX3_clearRing_52 rfl rfl ?_
  refine hv_ialdC dX3_clearRing_53 (at_RO_rowi hp q2) (fun _ => ?_)
  refine jv_iload (j := 0) dX3_clearRing_54 rfl ?_
  refine jv_isub dX3_clearRing_56 ?_
  refine hv_iastC dX3_clearRing_57 (at_RO_rowi hp q2) (fun _ => ?_)
  refine vf_letM (fun M6 => ?_)
  refine jv_aloadn (j := 1) dX3_clearRing_58 rfl ?_
  refine hv_getR dX3_clearRing_59 fl3_30 (at_RO_0 hp) rfl ?_
  refine jv_iloadn (j := 4) dX3_clearRing_62 rfl ?_
  refine hv_aald dX3_clearRing_63 (at_RO_5 hp) (ty := .array .int) (fun _ => rfl) rfl q3 (pl_row q3) ?_
  refine jv_iloadn (j := 2) dX3_clearRing_64 rfl ?_
  refine jv_dup2 dX3_clearRing_65 rfl rfl ?_
  refine hv_ialdC dX3_clearRing_66 (at_RO_rowi hp q3) (fun _ => ?_)
  refine jv_iload (j := 0) dX3_clearRing_67 rfl ?_
  refine jv_isub dX3_clearRing_69 ?_
  refine hv_iastC dX3_clearRing_70 (at_RO_rowi hp q3) (fun _ => ?_)
  refine vf_letM (fun M7 => ?_)
  refine jv_iconst (v := 3) dX3_clearRing_71 (by decide) ?_
  refine jv_iload (j := 0) dX3_clearRing_72 rfl ?_
  refine jv_imul dX3_clearRing_74 ?_
  exact vf_ret dX3_clearRing_75 rfl
theorem c_X3_clearRing {p : Nat} {M : pm_M} {x1 : Int32} {x2 : Int32} {x3 : Int32} (hp : at_RO p) {r : Int32} {M' : pm_M} (h : f_X3_clearRing p M x1 x2 x3 = some (r, M')) (l : Launch) (V : pm_V) : pm_Ci l V skC yX3_clearRing mX3_clearRing 1 [.ref (V.1 p), .int x1, .int x2, .int x3] M r M' := pm_metI (by decide) rfl (Nat.le_of_ble_eq_true rfl) h (fun _ => w_X3_clearRing p M x1 x2 x3 hp)
def lb_X3_clearDebts_16 (p : Nat) (l2 : Int32) (ih : Int32 → Int32 → pm_M → Option (Int32 × pm_M)) : Int32 → Int32 → pm_M → Option (Int32 × pm_M) := fun (l1 : Int32) (l3 : Int32) (Ml : pm_M) =>
  (if (Ml p 0) ≤ l3 then (some (l1, Ml)) else (pm_b2 (f_X3_clearPair p Ml l2 l3) (fun (r17003 : Int32) (M17002 : pm_M) => (pm_let (l1 + r17003) (fun z17004 : Int32 => (ih z17004 (l3 + 1) M17002))))))
def lp_X3_clearDebts_16 (p : Nat) (l2 : Int32) : Int32 → Int32 → pm_M → Option (Int32 × pm_M) := pm_it (fun _ _ _ => none) (lb_X3_clearDebts_16 p l2) pm_F
def lb_X3_clearDebts_4 (p : Nat) (ih : Int32 → Int32 → pm_M → Option (Int32 × pm_M)) : Int32 → Int32 → pm_M → Option (Int32 × pm_M) := fun (l1 : Int32) (l2 : Int32) (Ml : pm_M) =>
  (if (Ml p 0) ≤ l2 then (some (l1, Ml)) else (pm_let (l2 + 1) (fun z5002 : Int32 => (pm_b2 (lp_X3_clearDebts_16 p l2 l1 z5002 Ml) (fun (l5003 : Int32) (M5004 : pm_M) => (ih l5003 (l2 + 1) M5004))))))
def lp_X3_clearDebts_4 (p : Nat) : Int32 → Int32 → pm_M → Option (Int32 × pm_M) := pm_it (fun _ _ _ => none) (lb_X3_clearDebts_4 p) pm_F
def lb_X3_clearDebts_72 (p : Nat) (l2 : Int32) (l3 : Int32) (ih : Int32 → Int32 → pm_M → Option (Int32 × pm_M)) : Int32 → Int32 → pm_M → Option (Int32 × pm_M) := fun (l1 : Int32) (l4 : Int32) (Ml : pm_M) =>
  (if (Ml p 0) ≤ l4 then (some (l1, Ml)) else (if l3 = l4 then (pm_let (l1 + 0) (fun z73002 : Int32 => (ih z73002 (l4 + 1) Ml))) else (pm_b2 (f_X3_clearRing p Ml l2 l3 l4) (fun (r73004 : Int32) (M73003 : pm_M) => (pm_let (l1 + r73004) (fun z73005 : Int32 => (ih z73005 (l4 + 1) M73003)))))))
def lp_X3_clearDebts_72 (p : Nat) (l2 : Int32) (l3 : Int32) : Int32 → Int32 → pm_M → Option (Int32 × pm_M) := pm_it (fun _ _ _ => none) (lb_X3_clearDebts_72 p l2 l3) pm_F
def lb_X3_clearDebts_59 (p : Nat) (l2 : Int32) (ih : Int32 → Int32 → pm_M → Option (Int32 × pm_M)) : Int32 → Int32 → pm_M → Option (Int32 × pm_M) := fun (l1 : Int32) (l3 : Int32) (Ml : pm_M) =>
  (if (Ml p 0) ≤ l3 then (some (l1, Ml)) else (pm_let (l2 + 1) (fun z60002 : Int32 => (pm_b2 (lp_X3_clearDebts_72 p l2 l3 l1 z60002 Ml) (fun (l60003 : Int32) (M60004 : pm_M) => (ih l60003 (l3 + 1) M60004))))))
def lp_X3_clearDebts_59 (p : Nat) (l2 : Int32) : Int32 → Int32 → pm_M → Option (Int32 × pm_M) := pm_it (fun _ _ _ => none) (lb_X3_clearDebts_59 p l2) pm_F
def lb_X3_clearDebts_47 (p : Nat) (ih : Int32 → Int32 → pm_M → Option (Int32 × pm_M)) : Int32 → Int32 → pm_M → Option (Int32 × pm_M) := fun (l1 : Int32) (l2 : Int32) (Ml : pm_M) =>
  (if (Ml p 0) ≤ l2 then (some (l1, Ml)) else (pm_let (l2 + 1) (fun z48002 : Int32 => (pm_b2 (lp_X3_clearDebts_59 p l2 l1 z48002 Ml) (fun (l48003 : Int32) (M48004 : pm_M) => (ih l48003 (l2 + 1) M48004))))))
def lp_X3_clearDebts_47 (p : Nat) : Int32 → Int32 → pm_M → Option (Int32 × pm_M) := pm_it (fun _ _ _ => none) (lb_X3_clearDebts_47 p) pm_F
def f_X3_clearDebts (p : Nat) (M : pm_M) : Option (Int32 × pm_M) :=
  (pm_b2 (lp_X3_clearDebts_4 p 0 0 M) (fun (l1 : Int32) (M2 : pm_M) => (pm_b2 (lp_X3_clearDebts_47 p l1 0 M2) (fun (l3 : Int32) (M4 : pm_M) => (some (l3, M4))))))
set_option maxHeartbeats 4000000 in
set_option maxRecDepth 100000 in
theorem wl_X3_clearDebts_16 {X : pm_X} {V : pm_V} (p : Nat) (l2 : Int32) (hp : at_RO p) : ∀ (l1 : Int32) (l3 : Int32) (Ml : pm_M), pm_VF (lp_X3_clearDebts_16 p l2 l1 l3 Ml) (fun b => (fun (l1 : Int32) (Ml : pm_M) => pm_J X V mX3_clearDebts 2 (pm_wld V skC Ml) 39 [(0, .ref (V.1 p)), (1, .int l1), (2, .int l2)] []) b.1 b.2) (pm_J X V mX3_clearDebts 2 (pm_wld V skC Ml) 16 [(0, .ref (V.1 p)), (1, .int l1), (2, .int l2), (3, .int l3)] []) := by
  refine pm_it_ind (P := fun (f : Int32 → Int32 → pm_M → Option (Int32 × pm_M)) => ∀ (l1 : Int32) (l3 : Int32) (Ml : pm_M), pm_VF (f l1 l3 Ml) (fun b => (fun (l1 : Int32) (Ml : pm_M) => pm_J X V mX3_clearDebts 2 (pm_wld V skC Ml) 39 [(0, .ref (V.1 p)), (1, .int l1), (2, .int l2)] []) b.1 b.2) (pm_J X V mX3_clearDebts 2 (pm_wld V skC Ml) 16 [(0, .ref (V.1 p)), (1, .int l1), (2, .int l2), (3, .int l3)] [])) (fun _ _ _ => vf_none) (fun ih hih l1 l3 Ml => ?_) pm_F
  · unfold lb_X3_clearDebts_16
    refine jv_iloadn (j := 3) dX3_clearDebts_16 rfl ?_
    refine jv_aloadn (j := 0) dX3_clearDebts_17 rfl ?_
    refine hv_getI dX3_clearDebts_18 fl3_9 (at_RO_0 hp) rfl ?_
    refine jw_ic_ge (tgt := 39) dX3_clearDebts_21 rfl (fun c21 => ?_) (fun c21 => ?_)
    · exact vf_end (fun g => jr_sub [0, 1, 2] rfl g)
    refine jv_iloadn (j := 1) dX3_clearDebts_24 rfl ?_
    refine jv_aloadn (j := 0) dX3_clearDebts_25 rfl ?_
    refine jv_iloadn (j := 2) dX3_clearDebts_26 rfl ?_
    refine jv_iloadn (j := 3) dX3_clearDebts_27 rfl ?_
    refine hv_callI (As := [.int l2, .int l3]) dX3_clearDebts_28 lk3_61 kX3_clearPair nX3_clearPair (Nat.le_of_ble_eq_true rfl) (Nat.le_of_ble_eq_true rfl) (at_RO_0 hp) rfl rfl rfl (fun _ _ e l => c_X3_clearPair hp e l V) ?_
    intro r17003 M17002
    refine jv_iadd dX3_clearDebts_31 ?_
    refine vf_letS (fun z17004 => ?_)
    refine jv_istoren (L' := [(1, .int z17004), (0, .ref (V.1 p)), (2, .int l2), (3, .int l3)]) dX3_clearDebts_32 (Nat.le_of_ble_eq_true rfl) rfl ?_
    refine jv_iinc (j := 3) (v := l3 + 1) (L' := [(3, .int (l3 + 1)), (1, .int z17004), (0, .ref (V.1 p)), (2, .int l2)]) dX3_clearDebts_33 rfl rfl (Nat.le_of_ble_eq_true rfl) rfl ?_
    refine jv_goto (tgt := 16) dX3_clearDebts_36 rfl ?_
    exact vf_j (fun g => jr_sub [2, 1, 3, 0] rfl g) (hih z17004 (l3 + 1) M17002)
set_option maxHeartbeats 4000000 in
set_option maxRecDepth 100000 in
theorem wl_X3_clearDebts_4 {X : pm_X} {V : pm_V} (p : Nat) (hp : at_RO p) : ∀ (l1 : Int32) (l2 : Int32) (Ml : pm_M), pm_VF (lp_X3_clearDebts_4 p l1 l2 Ml) (fun b => (fun (l1 : Int32) (Ml : pm_M) => pm_J X V mX3_clearDebts 2 (pm_wld V skC Ml) 45 [(0, .ref (V.1 p)), (1, .int l1)] []) b.1 b.2) (pm_J X V mX3_clearDebts 2 (pm_wld V skC Ml) 4 [(0, .ref (V.1 p)), (1, .int l1), (2, .int l2)] []) := by
  refine pm_it_ind (P := fun (f : Int32 → Int32 → pm_M → Option (Int32 × pm_M)) => ∀ (l1 : Int32) (l2 : Int32) (Ml : pm_M), pm_VF (f l1 l2 Ml) (fun b => (fun (l1 : Int32) (Ml : pm_M) => pm_J X V mX3_clearDebts 2 (pm_wld V skC Ml) 45 [(0, .ref (V.1 p)), (1, .int l1)] []) b.1 b.2) (pm_J X V mX3_clearDebts 2 (pm_wld V skC Ml) 4 [(0, .ref (V.1 p)), (1, .int l1), (2, .int l2)] [])) (fun _ _ _ => vf_none) (fun ih hih l1 l2 Ml => ?_) pm_F
  · unfold lb_X3_clearDebts_4
    refine jv_iloadn (j := 2) dX3_clearDebts_4 rfl ?_
    refine jv_aloadn (j := 0) dX3_clearDebts_5 rfl ?_
    refine hv_getI dX3_clearDebts_6 fl3_9 (at_RO_0 hp) rfl ?_
    refine jw_ic_ge (tgt := 45) dX3_clearDebts_9 rfl (fun c9 => ?_) (fun c9 => ?_)
    · exact vf_end (fun g => jr_sub [0, 1] rfl g)
    refine jv_iloadn (j := 2) dX3_clearDebts_12 rfl ?_
    refine jv_iconst (v := 1) dX3_clearDebts_13 (by decide) ?_
    refine jv_iadd dX3_clearDebts_14 ?_
    refine vf_letS (fun z5002 => ?_)
    refine jv_istoren (L' := [(3, .int z5002), (0, .ref (V.1 p)), (1, .int l1), (2, .int l2)]) dX3_clearDebts_15 (Nat.le_of_ble_eq_true rfl) rfl ?_
    refine vl_b2 (P := fun (l1 : Int32) (Ml : pm_M) => pm_J X V mX3_clearDebts 2 (pm_wld V skC Ml) 39 [(0, .ref (V.1 p)), (1, .int l1), (2, .int l2)] []) (vf_j (fun g => jr_sub [1, 2, 3, 0] rfl g) (wl_X3_clearDebts_16 p l2 hp l1 z5002 Ml)) ?_
    intro l5003 M5004
    refine jv_iinc (j := 2) (v := l2 + 1) (L' := [(2, .int (l2 + 1)), (0, .ref (V.1 p)), (1, .int l5003)]) dX3_clearDebts_39 rfl rfl (Nat.le_of_ble_eq_true rfl) rfl ?_
    refine jv_goto (tgt := 4) dX3_clearDebts_42 rfl ?_
    exact vf_j (fun g => jr_sub [1, 2, 0] rfl g) (hih l5003 (l2 + 1) M5004)
set_option maxHeartbeats 4000000 in
set_option maxRecDepth 100000 in
theorem wl_X3_clearDebts_72 {X : pm_X} {V : pm_V} (p : Nat) (l2 : Int32) (l3 : Int32) (hp : at_RO p) : ∀ (l1 : Int32) (l4 : Int32) (Ml : pm_M), pm_VF (lp_X3_clearDebts_72 p l2 l3 l1 l4 Ml) (fun b => (fun (l1 : Int32) (Ml : pm_M) => pm_J X V mX3_clearDebts 2 (pm_wld V skC Ml) 108 [(0, .ref (V.1 p)), (1, .int l1), (2, .int l2), (3, .int l3)] []) b.1 b.2) (pm_J X V mX3_clearDebts 2 (pm_wld V skC Ml) 72 [(0, .ref (V.1 p)), (1, .int l1), (2, .int l2), (3, .int l3), (4, .int l4)] []) := by
  refine pm_it_ind (P := fun (f : Int32 → Int32 → pm_M → Option (Int32 × pm_M)) => ∀ (l1 : Int32) (l4 : Int32) (Ml : pm_M), pm_VF (f l1 l4 Ml) (fun b => (fun (l1 : Int32) (Ml : pm_M) => pm_J X V mX3_clearDebts 2 (pm_wld V skC Ml) 108 [(0, .ref (V.1 p)), (1, .int l1), (2, .int l2), (3, .int l3)] []) b.1 b.2) (pm_J X V mX3_clearDebts 2 (pm_wld V skC Ml) 72 [(0, .ref (V.1 p)), (1, .int l1), (2, .int l2), (3, .int l3), (4, .int l4)] [])) (fun _ _ _ => vf_none) (fun ih hih l1 l4 Ml => ?_) pm_F
  · unfold lb_X3_clearDebts_72
    refine jv_iload (j := 4) dX3_clearDebts_72 rfl ?_
    refine jv_aloadn (j := 0) dX3_clearDebts_74 rfl ?_
    refine hv_getI dX3_clearDebts_75 fl3_9 (at_RO_0 hp) rfl ?_
    refine jw_ic_ge (tgt := 108) dX3_clearDebts_78 rfl (fun c78 => ?_) (fun c78 => ?_)
    · exact vf_end (fun g => jr_sub [0, 1, 2, 3] rfl g)
    refine jv_iloadn (j := 1) dX3_clearDebts_81 rfl ?_
    refine jv_iloadn (j := 3) dX3_clearDebts_82 rfl ?_
    refine jv_iload (j := 4) dX3_clearDebts_83 rfl ?_
    refine jw_ic_ne (tgt := 92) dX3_clearDebts_85 rfl (fun c85 => ?_) (fun c85 => ?_)
    · refine jv_iconst (v := 0) dX3_clearDebts_88 (by decide) ?_
      refine jv_goto (tgt := 100) dX3_clearDebts_89 rfl ?_
      refine jv_iadd dX3_clearDebts_100 ?_
      refine vf_letS (fun z73002 => ?_)
      refine jv_istoren (L' := [(1, .int z73002), (0, .ref (V.1 p)), (2, .int l2), (3, .int l3), (4, .int l4)]) dX3_clearDebts_101 (Nat.le_of_ble_eq_true rfl) rfl ?_
      refine jv_iinc (j := 4) (v := l4 + 1) (L' := [(4, .int (l4 + 1)), (1, .int z73002), (0, .ref (V.1 p)), (2, .int l2), (3, .int l3)]) dX3_clearDebts_102 rfl rfl (Nat.le_of_ble_eq_true rfl) rfl ?_
      refine jv_goto (tgt := 72) dX3_clearDebts_105 rfl ?_
      exact vf_j (fun g => jr_sub [2, 1, 3, 4, 0] rfl g) (hih z73002 (l4 + 1) Ml)
    refine jv_aloadn (j := 0) dX3_clearDebts_92 rfl ?_
    refine jv_iloadn (j := 2) dX3_clearDebts_93 rfl ?_
    refine jv_iloadn (j := 3) dX3_clearDebts_94 rfl ?_
    refine jv_iload (j := 4) dX3_clearDebts_95 rfl ?_
    refine hv_callI (As := [.int l2, .int l3, .int l4]) dX3_clearDebts_97 lk3_65 kX3_clearRing nX3_clearRing (Nat.le_of_ble_eq_true rfl) (Nat.le_of_ble_eq_true rfl) (at_RO_0 hp) rfl rfl rfl (fun _ _ e l => c_X3_clearRing hp e l V) ?_
    intro r73004 M73003
    refine jv_iadd dX3_clearDebts_100 ?_
    refine vf_letS (fun z73005 => ?_)
    refine jv_istoren (L' := [(1, .int z73005), (0, .ref (V.1 p)), (2, .int l2), (3, .int l3), (4, .int l4)]) dX3_clearDebts_101 (Nat.le_of_ble_eq_true rfl) rfl ?_
    refine jv_iinc (j := 4) (v := l4 + 1) (L' := [(4, .int (l4 + 1)), (1, .int z73005), (0, .ref (V.1 p)), (2, .int l2), (3, .int l3)]) dX3_clearDebts_102 rfl rfl (Nat.le_of_ble_eq_true rfl) rfl ?_
    refine jv_goto (tgt := 72) dX3_clearDebts_105 rfl ?_
    exact vf_j (fun g => jr_sub [2, 1, 3, 4, 0] rfl g) (hih z73005 (l4 + 1) M73003)
set_option maxHeartbeats 4000000 in
set_option maxRecDepth 100000 in
theorem wl_X3_clearDebts_59 {X : pm_X} {V : pm_V} (p : Nat) (l2 : Int32) (hp : at_RO p) : ∀ (l1 : Int32) (l3 : Int32) (Ml : pm_M), pm_VF (lp_X3_clearDebts_59 p l2 l1 l3 Ml) (fun b => (fun (l1 : Int32) (Ml : pm_M) => pm_J X V mX3_clearDebts 2 (pm_wld V skC Ml) 114 [(0, .ref (V.1 p)), (1, .int l1), (2, .int l2)] []) b.1 b.2) (pm_J X V mX3_clearDebts 2 (pm_wld V skC Ml) 59 [(0, .ref (V.1 p)), (1, .int l1), (2, .int l2), (3, .int l3)] []) := by
  refine pm_it_ind (P := fun (f : Int32 → Int32 → pm_M → Option (Int32 × pm_M)) => ∀ (l1 : Int32) (l3 : Int32) (Ml : pm_M), pm_VF (f l1 l3 Ml) (fun b => (fun (l1 : Int32) (Ml : pm_M) => pm_J X V mX3_clearDebts 2 (pm_wld V skC Ml) 114 [(0, .ref (V.1 p)), (1, .int l1), (2, .int l2)] []) b.1 b.2) (pm_J X V mX3_clearDebts 2 (pm_wld V skC Ml) 59 [(0, .ref (V.1 p)), (1, .int l1), (2, .int l2), (3, .int l3)] [])) (fun _ _ _ => vf_none) (fun ih hih l1 l3 Ml => ?_) pm_F
  · unfold lb_X3_clearDebts_59
    refine jv_iloadn (j := 3) dX3_clearDebts_59 rfl ?_
    refine jv_aloadn (j := 0) dX3_clearDebts_60 rfl ?_
    refine hv_getI dX3_clearDebts_61 fl3_9 (at_RO_0 hp) rfl ?_
    refine jw_ic_ge (tgt := 114) dX3_clearDebts_64 rfl (fun c64 => ?_) (fun c64 => ?_)
    · exact vf_end (fun g => jr_sub [0, 1, 2] rfl g)
    refine jv_iloadn (j := 2) dX3_clearDebts_67 rfl ?_
    refine jv_iconst (v := 1) dX3_clearDebts_68 (by decide) ?_
    refine jv_iadd dX3_clearDebts_69 ?_
    refine vf_letS (fun z60002 => ?_)
    refine jv_istore (L' := [(4, .int z60002), (0, .ref (V.1 p)), (1, .int l1), (2, .int l2), (3, .int l3)]) dX3_clearDebts_70 (Nat.le_of_ble_eq_true rfl) rfl ?_
    refine vl_b2 (P := fun (l1 : Int32) (Ml : pm_M) => pm_J X V mX3_clearDebts 2 (pm_wld V skC Ml) 108 [(0, .ref (V.1 p)), (1, .int l1), (2, .int l2), (3, .int l3)] []) (vf_j (fun g => jr_sub [1, 2, 3, 4, 0] rfl g) (wl_X3_clearDebts_72 p l2 l3 hp l1 z60002 Ml)) ?_
    intro l60003 M60004
    refine jv_iinc (j := 3) (v := l3 + 1) (L' := [(3, .int (l3 + 1)), (0, .ref (V.1 p)), (1, .int l60003), (2, .int l2)]) dX3_clearDebts_108 rfl rfl (Nat.le_of_ble_eq_true rfl) rfl ?_
    refine jv_goto (tgt := 59) dX3_clearDebts_111 rfl ?_
    exact vf_j (fun g => jr_sub [1, 2, 3, 0] rfl g) (hih l60003 (l3 + 1) M60004)
set_option maxHeartbeats 4000000 in
set_option maxRecDepth 100000 in
theorem wl_X3_clearDebts_47 {X : pm_X} {V : pm_V} (p : Nat) (hp : at_RO p) : ∀ (l1 : Int32) (l2 : Int32) (Ml : pm_M), pm_VF (lp_X3_clearDebts_47 p l1 l2 Ml) (fun b => (fun (l1 : Int32) (Ml : pm_M) => pm_J X V mX3_clearDebts 2 (pm_wld V skC Ml) 120 [(1, .int l1)] []) b.1 b.2) (pm_J X V mX3_clearDebts 2 (pm_wld V skC Ml) 47 [(0, .ref (V.1 p)), (1, .int l1), (2, .int l2)] []) := by
  refine pm_it_ind (P := fun (f : Int32 → Int32 → pm_M → Option (Int32 × pm_M)) => ∀ (l1 : Int32) (l2 : Int32) (Ml : pm_M), pm_VF (f l1 l2 Ml) (fun b => (fun (l1 : Int32) (Ml : pm_M) => pm_J X V mX3_clearDebts 2 (pm_wld V skC Ml) 120 [(1, .int l1)] []) b.1 b.2) (pm_J X V mX3_clearDebts 2 (pm_wld V skC Ml) 47 [(0, .ref (V.1 p)), (1, .int l1), (2, .int l2)] [])) (fun _ _ _ => vf_none) (fun ih hih l1 l2 Ml => ?_) pm_F
  · unfold lb_X3_clearDebts_47
    refine jv_iloadn (j := 2) dX3_clearDebts_47 rfl ?_
    refine jv_aloadn (j := 0) dX3_clearDebts_48 rfl ?_
    refine hv_getI dX3_clearDebts_49 fl3_9 (at_RO_0 hp) rfl ?_
    refine jw_ic_ge (tgt := 120) dX3_clearDebts_52 rfl (fun c52 => ?_) (fun c52 => ?_)
    · exact vf_end (fun g => jr_sub [1] rfl g)
    refine jv_iloadn (j := 2) dX3_clearDebts_55 rfl ?_
    refine jv_iconst (v := 1) dX3_clearDebts_56 (by decide) ?_
    refine jv_iadd dX3_clearDebts_57 ?_
    refine vf_letS (fun z48002 => ?_)
    refine jv_istoren (L' := [(3, .int z48002), (0, .ref (V.1 p)), (1, .int l1), (2, .int l2)]) dX3_clearDebts_58 (Nat.le_of_ble_eq_true rfl) rfl ?_
    refine vl_b2 (P := fun (l1 : Int32) (Ml : pm_M) => pm_J X V mX3_clearDebts 2 (pm_wld V skC Ml) 114 [(0, .ref (V.1 p)), (1, .int l1), (2, .int l2)] []) (vf_j (fun g => jr_sub [1, 2, 3, 0] rfl g) (wl_X3_clearDebts_59 p l2 hp l1 z48002 Ml)) ?_
    intro l48003 M48004
    refine jv_iinc (j := 2) (v := l2 + 1) (L' := [(2, .int (l2 + 1)), (0, .ref (V.1 p)), (1, .int l48003)]) dX3_clearDebts_114 rfl rfl (Nat.le_of_ble_eq_true rfl) rfl ?_
    refine jv_goto (tgt := 47) dX3_clearDebts_117 rfl ?_
    exact vf_j (fun g => jr_sub [1, 2, 0] rfl g) (hih l48003 (l2 + 1) M48004)
set_option maxHeartbeats 4000000 in
set_option maxRecDepth 100000 in
theorem w_X3_clearDebts {X : pm_X} {V : pm_V} (p : Nat) (M : pm_M) (hp : at_RO p) : pm_VF (f_X3_clearDebts p M) (pm_K X V mX3_clearDebts 2 skC) (pm_J X V mX3_clearDebts 2 (pm_wld V skC M) 0 [(0, .ref (V.1 p))] []) := by
  unfold f_X3_clearDebts
  refine jv_iconst (v := 0) dX3_clearDebts_0 (by decide) ?_
  refine jv_istoren (L' := [(1, .int 0), (0, .ref (V.1 p))]) dX3_clearDebts_1 (Nat.le_of_ble_eq_true rfl) rfl ?_
  refine jv_iconst (v := 0) dX3_clearDebts_2 (by decide) ?_
  refine jv_istoren (L' := [(2, .int 0), (1, .int 0), (0, .ref (V.1 p))]) dX3_clearDebts_3 (Nat.le_of_ble_eq_true rfl) rfl ?_
  refine vl_b2 (P := fun (l1 : Int32) (Ml : pm_M) => pm_J X V mX3_clearDebts 2 (pm_wld V skC Ml) 45 [(0, .ref (V.1 p)), (1, .int l1)] []) (vf_j (fun g => jr_sub [2, 1, 0] rfl g) (wl_X3_clearDebts_4 p hp 0 0 M)) ?_
  intro l1 M2
  refine jv_iconst (v := 0) dX3_clearDebts_45 (by decide) ?_
  refine jv_istoren (L' := [(2, .int 0), (0, .ref (V.1 p)), (1, .int l1)]) dX3_clearDebts_46 (Nat.le_of_ble_eq_true rfl) rfl ?_
  refine vl_b2 (P := fun (l1 : Int32) (Ml : pm_M) => pm_J X V mX3_clearDebts 2 (pm_wld V skC Ml) 120 [(1, .int l1)] []) (vf_j (fun g => jr_sub [1, 2, 0] rfl g) (wl_X3_clearDebts_47 p hp l1 0 M2)) ?_
  intro l3 M4
  refine jv_iloadn (j := 0) dX3_clearDebts_120 rfl ?_
  exact vf_ret dX3_clearDebts_121 rfl
theorem c_X3_clearDebts {p : Nat} {M : pm_M} (hp : at_RO p) {r : Int32} {M' : pm_M} (h : f_X3_clearDebts p M = some (r, M')) (l : Launch) (V : pm_V) : pm_Ci l V skC yX3_clearDebts mX3_clearDebts 2 [.ref (V.1 p)] M r M' := pm_metI (by decide) rfl (Nat.le_of_ble_eq_true rfl) h (fun _ => w_X3_clearDebts p M hp)
def f_X4_isMissing (p : Nat) (M : pm_M) : Option (Int32 × pm_M) :=
  (if (M p 0) = 0 then (some (1, M)) else (some (0, M)))
set_option maxHeartbeats 4000000 in
set_option maxRecDepth 100000 in
theorem w_X4_isMissing {X : pm_X} {V : pm_V} (p : Nat) (M : pm_M) (hp : at_SH p) : pm_VF (f_X4_isMissing p M) (pm_K X V mX4_isMissing 1 skC) (pm_J X V mX4_isMissing 1 (pm_wld V skC M) 0 [(0, .ref (V.1 p))] []) := by
  unfold f_X4_isMissing
  refine jv_aloadn (j := 0) dX4_isMissing_0 rfl ?_
  refine hv_getI dX4_isMissing_1 fl4_9 (at_SH_0 hp) rfl ?_
  refine jw_if_ne (tgt := 11) dX4_isMissing_4 rfl (fun c4 => ?_) (fun c4 => ?_)
  · refine jv_iconst (v := 1) dX4_isMissing_7 (by decide) ?_
    refine jv_goto (tgt := 12) dX4_isMissing_8 rfl ?_
    exact vf_zret dX4_isMissing_12 rfl (by decide)
  refine jv_iconst (v := 0) dX4_isMissing_11 (by decide) ?_
  exact vf_zret dX4_isMissing_12 rfl (by decide)
theorem c_X4_isMissing {p : Nat} {M : pm_M} (hp : at_SH p) {r : Int32} {M' : pm_M} (h : f_X4_isMissing p M = some (r, M')) (l : Launch) (V : pm_V) : pm_Ci l V skC yX4_isMissing mX4_isMissing 1 [.ref (V.1 p)] M r M' := pm_metI (by decide) rfl (Nat.le_of_ble_eq_true rfl) h (fun _ => w_X4_isMissing p M hp)
def lb_X4_lay_12 (p : Nat) (ih : Int32 → pm_M → Option (pm_M)) : Int32 → pm_M → Option (pm_M) := fun (l3 : Int32) (Ml : pm_M) =>
  (if 40 ≤ l3 then (some Ml) else (pm_chk (pm_in l3 40) (pm_let (pm_up Ml (p + 1) l3.toNatClampNeg 0) (fun M13002 : pm_M => (ih (l3 + 1) M13002)))))
def lp_X4_lay_12 (p : Nat) : Int32 → pm_M → Option (pm_M) := pm_it (fun _ _ => none) (lb_X4_lay_12 p) pm_F
def f_X4_lay (p : Nat) (M : pm_M) (x1 : Int32) (x2 : Int32) : Option pm_M :=
  (pm_let (pm_up M p 0 x1) (fun M1 : pm_M => (pm_let (pm_up M1 p 1 x2) (fun M2 : pm_M => (pm_b1 (lp_X4_lay_12 p 0 M2) (fun (M3 : pm_M) => (some M3)))))))
set_option maxHeartbeats 4000000 in
set_option maxRecDepth 100000 in
theorem wl_X4_lay_12 {X : pm_X} {V : pm_V} (p : Nat) (hp : at_SH p) : ∀ (l3 : Int32) (Ml : pm_M), pm_VF (lp_X4_lay_12 p l3 Ml) (fun b => (fun (Ml : pm_M) => pm_J X V mX4_lay 1 (pm_wld V skC Ml) 31 [] []) b) (pm_J X V mX4_lay 1 (pm_wld V skC Ml) 12 [(0, .ref (V.1 p)), (3, .int l3)] []) := by
  refine pm_it_ind (P := fun (f : Int32 → pm_M → Option (pm_M)) => ∀ (l3 : Int32) (Ml : pm_M), pm_VF (f l3 Ml) (fun b => (fun (Ml : pm_M) => pm_J X V mX4_lay 1 (pm_wld V skC Ml) 31 [] []) b) (pm_J X V mX4_lay 1 (pm_wld V skC Ml) 12 [(0, .ref (V.1 p)), (3, .int l3)] [])) (fun _ _ => vf_none) (fun ih hih l3 Ml => ?_) pm_F
  · unfold lb_X4_lay_12
    refine jv_iloadn (j := 1) dX4_lay_12 rfl ?_
    refine jv_bipush (v := 40) dX4_lay_13 (by decide) ?_
    refine jw_ic_ge (tgt := 31) dX4_lay_15 rfl (fun c15 => ?_) (fun c15 => ?_)
    · exact vf_end (fun g => jr_sub [] rfl g)
    refine jv_aloadn (j := 0) dX4_lay_18 rfl ?_
    refine hv_getR dX4_lay_19 fl4_18 (at_SH_0 hp) rfl ?_
    refine jv_iloadn (j := 1) dX4_lay_22 rfl ?_
    refine jv_iconst (v := 0) dX4_lay_23 (by decide) ?_
    refine hv_iastC dX4_lay_24 (at_SH_1 hp) (fun _ => ?_)
    refine vf_letM (fun M13002 => ?_)
    refine jv_iinc (j := 1) (v := l3 + 1) (L' := [(3, .int (l3 + 1)), (0, .ref (V.1 p))]) dX4_lay_25 rfl rfl (Nat.le_of_ble_eq_true rfl) rfl ?_
    refine jv_goto (tgt := 12) dX4_lay_28 rfl ?_
    exact vf_j (fun g => jr_sub [1, 0] rfl g) (hih (l3 + 1) M13002)
set_option maxHeartbeats 4000000 in
set_option maxRecDepth 100000 in
theorem w_X4_lay {X : pm_X} {V : pm_V} (p : Nat) (M : pm_M) (x1 : Int32) (x2 : Int32) (hp : at_SH p) : pm_VF (f_X4_lay p M x1 x2) (pm_Kv X V mX4_lay 1 skC) (pm_J X V mX4_lay 1 (pm_wld V skC M) 0 [(0, .ref (V.1 p)), (1, .int x1), (2, .int x2)] []) := by
  unfold f_X4_lay
  refine jv_aloadn (j := 0) dX4_lay_0 rfl ?_
  refine jv_iloadn (j := 1) dX4_lay_1 rfl ?_
  refine hv_put dX4_lay_2 fp4_9 (at_SH_0 hp) rfl rfl rfl ?_
  refine vf_letM (fun M1 => ?_)
  refine jv_aloadn (j := 0) dX4_lay_5 rfl ?_
  refine jv_iloadn (j := 2) dX4_lay_6 rfl ?_
  refine hv_put dX4_lay_7 fp4_15 (at_SH_0 hp) rfl rfl rfl ?_
  refine vf_letM (fun M2 => ?_)
  refine jv_iconst (v := 0) dX4_lay_10 (by decide) ?_
  refine jv_istoren (L' := [(3, .int 0), (0, .ref (V.1 p)), (1, .int x1), (2, .int x2)]) dX4_lay_11 (Nat.le_of_ble_eq_true rfl) rfl ?_
  refine vl_b1 (P := fun (Ml : pm_M) => pm_J X V mX4_lay 1 (pm_wld V skC Ml) 31 [] []) (vf_j (fun g => jr_sub [1, 0] rfl g) (wl_X4_lay_12 p hp 0 M2)) ?_
  intro M3
  exact vf_vret dX4_lay_31
theorem c_X4_lay {p : Nat} {M : pm_M} {x1 : Int32} {x2 : Int32} (hp : at_SH p) {M' : pm_M} (h : f_X4_lay p M x1 x2 = some M') (l : Launch) (V : pm_V) : pm_Cv l V skC yX4_lay mX4_lay 1 [.ref (V.1 p), .int x1, .int x2] M M' := pm_metV (by decide) rfl (Nat.le_of_ble_eq_true rfl) rfl h (fun _ => w_X4_lay p M x1 x2 hp)
def f_X4_cutToBits (p : Nat) (M : pm_M) (x1 : Int32) : Option (Int32 × pm_M) :=
  (if (M p 0) = 8 then (some ((x1.toInt8.toInt32), M)) else (if (M p 0) = 16 then (some ((x1.toInt16.toInt32), M)) else (some (x1, M))))
set_option maxHeartbeats 4000000 in
set_option maxRecDepth 100000 in
theorem w_X4_cutToBits {X : pm_X} {V : pm_V} (p : Nat) (M : pm_M) (x1 : Int32) (hp : at_SH p) : pm_VF (f_X4_cutToBits p M x1) (pm_K X V mX4_cutToBits 1 skC) (pm_J X V mX4_cutToBits 1 (pm_wld V skC M) 0 [(0, .ref (V.1 p)), (1, .int x1)] []) := by
  unfold f_X4_cutToBits
  refine jv_aloadn (j := 0) dX4_cutToBits_0 rfl ?_
  refine hv_getI dX4_cutToBits_1 fl4_9 (at_SH_0 hp) rfl ?_
  refine jv_bipush (v := 8) dX4_cutToBits_4 (by decide) ?_
  refine jw_ic_ne (tgt := 14) dX4_cutToBits_6 rfl (fun c6 => ?_) (fun c6 => ?_)
  · refine jv_iloadn (j := 1) dX4_cutToBits_9 rfl ?_
    refine jv_i2b dX4_cutToBits_10 ?_
    refine jv_goto (tgt := 29) dX4_cutToBits_11 rfl ?_
    exact vf_ret dX4_cutToBits_29 rfl
  refine jv_aloadn (j := 0) dX4_cutToBits_14 rfl ?_
  refine hv_getI dX4_cutToBits_15 fl4_9 (at_SH_0 hp) rfl ?_
  refine jv_bipush (v := 16) dX4_cutToBits_18 (by decide) ?_
  refine jw_ic_ne (tgt := 28) dX4_cutToBits_20 rfl (fun c20 => ?_) (fun c20 => ?_)
  · refine jv_iloadn (j := 1) dX4_cutToBits_23 rfl ?_
    refine jv_i2s dX4_cutToBits_24 ?_
    refine jv_goto (tgt := 29) dX4_cutToBits_25 rfl ?_
    exact vf_ret dX4_cutToBits_29 rfl
  refine jv_iloadn (j := 1) dX4_cutToBits_28 rfl ?_
  exact vf_ret dX4_cutToBits_29 rfl
theorem c_X4_cutToBits {p : Nat} {M : pm_M} {x1 : Int32} (hp : at_SH p) {r : Int32} {M' : pm_M} (h : f_X4_cutToBits p M x1 = some (r, M')) (l : Launch) (V : pm_V) : pm_Ci l V skC yX4_cutToBits mX4_cutToBits 1 [.ref (V.1 p), .int x1] M r M' := pm_metI (by decide) rfl (Nat.le_of_ble_eq_true rfl) h (fun _ => w_X4_cutToBits p M x1 hp)
def f_X4_holds (p : Nat) (M : pm_M) (x1 : Int32) (x2 : Int32) : Option (Int32 × pm_M) :=
  (if x1 < 0 then (some (0, M)) else (if x2 < 0 then (some (0, M)) else (if (M p 1) < x1 then (some (0, M)) else (if ((M p 1) - x1) < x2 then (some (0, M)) else (some (1, M))))))
set_option maxHeartbeats 4000000 in
set_option maxRecDepth 100000 in
theorem w_X4_holds {X : pm_X} {V : pm_V} (p : Nat) (M : pm_M) (x1 : Int32) (x2 : Int32) (hp : at_SH p) : pm_VF (f_X4_holds p M x1 x2) (pm_K X V mX4_holds 1 skC) (pm_J X V mX4_holds 1 (pm_wld V skC M) 0 [(0, .ref (V.1 p)), (1, .int x1), (2, .int x2)] []) := by
  unfold f_X4_holds
  refine jv_iloadn (j := 1) dX4_holds_0 rfl ?_
  refine jw_if_lt (tgt := 30) dX4_holds_1 rfl (fun c1 => ?_) (fun c1 => ?_)
  · refine jv_iconst (v := 0) dX4_holds_30 (by decide) ?_
    exact vf_zret dX4_holds_31 rfl (by decide)
  refine jv_iloadn (j := 2) dX4_holds_4 rfl ?_
  refine jw_if_lt (tgt := 30) dX4_holds_5 rfl (fun c5 => ?_) (fun c5 => ?_)
  · refine jv_iconst (v := 0) dX4_holds_30 (by decide) ?_
    exact vf_zret dX4_holds_31 rfl (by decide)
  refine jv_iloadn (j := 1) dX4_holds_8 rfl ?_
  refine jv_aloadn (j := 0) dX4_holds_9 rfl ?_
  refine hv_getI dX4_holds_10 fl4_15 (at_SH_0 hp) rfl ?_
  refine jw_ic_gt (tgt := 30) dX4_holds_13 rfl (fun c13 => ?_) (fun c13 => ?_)
  · refine jv_iconst (v := 0) dX4_holds_30 (by decide) ?_
    exact vf_zret dX4_holds_31 rfl (by decide)
  refine jv_iloadn (j := 2) dX4_holds_16 rfl ?_
  refine jv_aloadn (j := 0) dX4_holds_17 rfl ?_
  refine hv_getI dX4_holds_18 fl4_15 (at_SH_0 hp) rfl ?_
  refine jv_iloadn (j := 1) dX4_holds_21 rfl ?_
  refine jv_isub dX4_holds_22 ?_
  refine jw_ic_gt (tgt := 30) dX4_holds_23 rfl (fun c23 => ?_) (fun c23 => ?_)
  · refine jv_iconst (v := 0) dX4_holds_30 (by decide) ?_
    exact vf_zret dX4_holds_31 rfl (by decide)
  refine jv_iconst (v := 1) dX4_holds_26 (by decide) ?_
  refine jv_goto (tgt := 31) dX4_holds_27 rfl ?_
  exact vf_zret dX4_holds_31 rfl (by decide)
theorem c_X4_holds {p : Nat} {M : pm_M} {x1 : Int32} {x2 : Int32} (hp : at_SH p) {r : Int32} {M' : pm_M} (h : f_X4_holds p M x1 x2 = some (r, M')) (l : Launch) (V : pm_V) : pm_Ci l V skC yX4_holds mX4_holds 1 [.ref (V.1 p), .int x1, .int x2] M r M' := pm_metI (by decide) rfl (Nat.le_of_ble_eq_true rfl) h (fun _ => w_X4_holds p M x1 x2 hp)
def f_X6_note (p : Nat) (M : pm_M) (x1 : Int32) : Option pm_M :=
  (if 40 ≤ (M p 1) then (some M) else (pm_chk (pm_in (M p 1) 40) (pm_let (pm_up M (p + 1) (M p 1).toNatClampNeg x1) (fun M1 : pm_M => (pm_let (pm_up M1 p 1 ((M1 p 1) + 1)) (fun M2 : pm_M => (some M2)))))))
set_option maxHeartbeats 4000000 in
set_option maxRecDepth 100000 in
theorem w_X6_note {X : pm_X} {V : pm_V} (p : Nat) (M : pm_M) (x1 : Int32) (hp : at_VO p) : pm_VF (f_X6_note p M x1) (pm_Kv X V mX6_note 1 skC) (pm_J X V mX6_note 1 (pm_wld V skC M) 0 [(0, .ref (V.1 p)), (1, .int x1)] []) := by
  unfold f_X6_note
  refine jv_aloadn (j := 0) dX6_note_0 rfl ?_
  refine hv_getI dX6_note_1 fl6_15 (at_VO_0 hp) rfl ?_
  refine jv_bipush (v := 40) dX6_note_4 (by decide) ?_
  refine jw_ic_ge (tgt := 29) dX6_note_6 rfl (fun c6 => ?_) (fun c6 => ?_)
  · exact vf_vret dX6_note_29
  refine jv_aloadn (j := 0) dX6_note_9 rfl ?_
  refine hv_getR dX6_note_10 fl6_9 (at_VO_0 hp) rfl ?_
  refine jv_aloadn (j := 0) dX6_note_13 rfl ?_
  refine hv_getI dX6_note_14 fl6_15 (at_VO_0 hp) rfl ?_
  refine jv_iloadn (j := 1) dX6_note_17 rfl ?_
  refine hv_iastC dX6_note_18 (at_VO_1 hp) (fun _ => ?_)
  refine vf_letM (fun M1 => ?_)
  refine jv_aloadn (j := 0) dX6_note_19 rfl ?_
  refine jv_dup dX6_note_20 rfl ?_
  refine hv_getI dX6_note_21 fl6_15 (at_VO_0 hp) rfl ?_
  refine jv_iconst (v := 1) dX6_note_24 (by decide) ?_
  refine jv_iadd dX6_note_25 ?_
  refine hv_put dX6_note_26 fp6_15 (at_VO_0 hp) rfl rfl rfl ?_
  refine vf_letM (fun M2 => ?_)
  exact vf_vret dX6_note_29
theorem c_X6_note {p : Nat} {M : pm_M} {x1 : Int32} (hp : at_VO p) {M' : pm_M} (h : f_X6_note p M x1 = some M') (l : Launch) (V : pm_V) : pm_Cv l V skC yX6_note mX6_note 1 [.ref (V.1 p), .int x1] M M' := pm_metV (by decide) rfl (Nat.le_of_ble_eq_true rfl) rfl h (fun _ => w_X6_note p M x1 hp)
abbrev GT_X6_say : Type := (Nat → pm_M → Int32 → Int32 → Int32 → Int32 → Option (Int32 × pm_M)) × (Nat → pm_M → Int32 → Int32 → Int32 → Int32 → Option (Int32 × pm_M))
def lb_X6_say_25 (r : GT_X6_say) (p : Nat) (x2 : Int32) (x3 : Int32) (x4 : Int32) (M : pm_M) (ih : Int32 → Int32 → Option (Int32)) : Int32 → Int32 → Option (Int32) := fun (l5 : Int32) (l6 : Int32) =>
  (if 7 ≤ l6 then (some l5) else (if l5 ≤ 0 then (some l5) else (pm_chk (pm_in ((l5 * 4) + x2) 28) (if (pm_BODIES ((l5 * 4) + x2).toNatClampNeg) = 0 then (pm_chk (pm_in l5 7) (pm_let (pm_ABOVE l5.toNatClampNeg) (fun z26002 : Int32 => (ih z26002 (l6 + 1))))) else (some l5)))))
def lp_X6_say_25 (r : GT_X6_say) (p : Nat) (x2 : Int32) (x3 : Int32) (x4 : Int32) (M : pm_M) : Int32 → Int32 → Option (Int32) := pm_it (fun _ _ => none) (lb_X6_say_25 r p x2 x3 x4 M) pm_F
def rb_X6_say (r : GT_X6_say) : Nat → pm_M → Int32 → Int32 → Int32 → Int32 → Option (Int32 × pm_M) := fun p M x1 x2 x3 x4 =>
  (if x1 < 0 then (some (0, M)) else (if 7 ≤ x1 then (some (0, M)) else (if x4 ≤ 40 then (pm_b1 (lp_X6_say_25 r p x2 x3 x4 M x1 0) (fun (l1 : Int32) => (pm_chk (pm_in ((l1 * 4) + x2) 28) (pm_let (pm_BODIES ((l1 * 4) + x2).toNatClampNeg) (fun z2 : Int32 => (pm_b1 (f_X6_note p M z2) (fun M3 : pm_M => (pm_chk (pm_in l1 7) (pm_b2 (r.2 p M3 z2 (pm_ABOVE l1.toNatClampNeg) x3 (x4 + 1)) (fun (r5 : Int32) (M4 : pm_M) => (some (r5, M4)))))))))))) else (some (0, M)))))
def rb_X6_sayBody (r : GT_X6_say) : Nat → pm_M → Int32 → Int32 → Int32 → Int32 → Option (Int32 × pm_M) := fun p M x1 x2 x3 x4 =>
  (if x1 = 10 then (some ((x3 + (M p 3)), M)) else if x1 = 11 then (pm_b2 (r.1 p M (M p 2) 0 x3 x4) (fun (r2 : Int32) (M1 : pm_M) => (some ((r2 * 2), M1)))) else if x1 = 12 then (some ((x3 - (M p 4)), M)) else if x1 = 13 then (pm_b2 (r.1 p M (M p 2) 1 x3 x4) (fun (r4 : Int32) (M3 : pm_M) => (pm_b2 (r.1 p M3 (M3 p 2) 2 x3 x4) (fun (r6 : Int32) (M5 : pm_M) => (some ((r4 ^^^ r6), M5)))))) else if x1 = 20 then (pm_b2 (r.1 p M x2 2 x3 x4) (fun (r8 : Int32) (M7 : pm_M) => (some ((-r8), M7)))) else if x1 = 30 then (pm_b2 (r.1 p M x2 0 x3 x4) (fun (r10 : Int32) (M9 : pm_M) => (some ((r10 * 3), M9)))) else if x1 = 40 then (pm_b2 (r.1 p M x2 1 x3 x4) (fun (r12 : Int32) (M11 : pm_M) => (pm_b2 (r.1 p M11 (M11 p 2) 2 1 x4) (fun (r14 : Int32) (M13 : pm_M) => (some ((r12 - r14), M13)))))) else if x1 = 50 then (pm_b2 (r.1 p M x2 2 x3 x4) (fun (r16 : Int32) (M15 : pm_M) => (some ((r16 ^^^ (M15 p 3)), M15)))) else if x1 = 51 then (pm_b2 (r.1 p M (M p 2) 1 x3 x4) (fun (r18 : Int32) (M17 : pm_M) => (pm_b2 (r.1 p M17 x2 3 x3 x4) (fun (r20 : Int32) (M19 : pm_M) => (some ((r18 - r20), M19)))))) else if x1 = 60 then (pm_b2 (r.1 p M x2 3 x3 x4) (fun (r22 : Int32) (M21 : pm_M) => (pm_b2 (r.1 p M21 (M21 p 2) 0 2 x4) (fun (r24 : Int32) (M23 : pm_M) => (some ((r22 - r24), M23)))))) else if x1 = 70 then (pm_b2 (r.1 p M x2 1 (x3 + 1) x4) (fun (r26 : Int32) (M25 : pm_M) => (some (r26, M25)))) else (some (0, M)))
def fG_X6_say : Nat → GT_X6_say := pm_it ((fun _ _ _ _ _ _ => none, fun _ _ _ _ _ _ => none)) (fun r => (rb_X6_say r, rb_X6_sayBody r))
def GP_X6_say (n : Nat) (r : GT_X6_say) : Prop := (∀ {p : Nat}, (at_VO p) → ∀ (M : pm_M) (x1 : Int32) (x2 : Int32) (x3 : Int32) (x4 : Int32) (x : Int32) (M' : pm_M), r.1 p M x1 x2 x3 x4 = some (x, M') → ∀ (l : Launch) (V : pm_V), pm_Ci l V skC yX6_say mX6_say (2 + n) [.ref (V.1 p), .int x1, .int x2, .int x3, .int x4] M x M') ∧ (∀ {p : Nat}, (at_VO p) → ∀ (M : pm_M) (x1 : Int32) (x2 : Int32) (x3 : Int32) (x4 : Int32) (x : Int32) (M' : pm_M), r.2 p M x1 x2 x3 x4 = some (x, M') → ∀ (l : Launch) (V : pm_V), pm_Ci l V skC yX6_sayBody mX6_sayBody (2 + n) [.ref (V.1 p), .int x1, .int x2, .int x3, .int x4] M x M')
set_option maxHeartbeats 4000000 in
set_option maxRecDepth 100000 in
theorem wl_X6_say_25 {X : pm_X} {V : pm_V} {n : Nat} {r : GT_X6_say} (hr : GP_X6_say n r) (p : Nat) (x2 : Int32) (x3 : Int32) (x4 : Int32) (M : pm_M) (hp : at_VO p) : ∀ (l5 : Int32) (l6 : Int32), pm_VF (lp_X6_say_25 r p x2 x3 x4 M l5 l6) (fun b => (fun (l5 : Int32) => pm_J X V mX6_say (2 + (n + 1)) (pm_wld V skC M) 64 [(0, .ref (V.1 p)), (2, .int x2), (3, .int x3), (4, .int x4), (5, .int l5)] []) b) (pm_J X V mX6_say (2 + (n + 1)) (pm_wld V skC M) 25 [(0, .ref (V.1 p)), (2, .int x2), (3, .int x3), (4, .int x4), (5, .int l5), (6, .int l6)] []) := by
  refine pm_it_ind (P := fun (f : Int32 → Int32 → Option (Int32)) => ∀ (l5 : Int32) (l6 : Int32), pm_VF (f l5 l6) (fun b => (fun (l5 : Int32) => pm_J X V mX6_say (2 + (n + 1)) (pm_wld V skC M) 64 [(0, .ref (V.1 p)), (2, .int x2), (3, .int x3), (4, .int x4), (5, .int l5)] []) b) (pm_J X V mX6_say (2 + (n + 1)) (pm_wld V skC M) 25 [(0, .ref (V.1 p)), (2, .int x2), (3, .int x3), (4, .int x4), (5, .int l5), (6, .int l6)] [])) (fun _ _ => vf_none) (fun ih hih l5 l6 => ?_) pm_F
  · unfold lb_X6_say_25
    refine jv_iload (j := 5) dX6_say_25 rfl ?_
    refine jv_bipush (v := 7) dX6_say_27 (by decide) ?_
    refine jw_ic_ge (tgt := 64) dX6_say_29 rfl (fun c29 => ?_) (fun c29 => ?_)
    · exact vf_end (fun g => jr_sub [0, 1, 2, 3, 4] rfl g)
    refine jv_iload (j := 4) dX6_say_32 rfl ?_
    refine jw_if_le (tgt := 64) dX6_say_34 rfl (fun c34 => ?_) (fun c34 => ?_)
    · exact vf_end (fun g => jr_sub [0, 1, 2, 3, 4] rfl g)
    refine hv_getsB dX6_say_37 lk6_32 ?_
    refine jv_iload (j := 4) dX6_say_40 rfl ?_
    refine jv_iconst (v := 4) dX6_say_42 (by decide) ?_
    refine jv_imul dX6_say_43 ?_
    refine jv_iloadn (j := 1) dX6_say_44 rfl ?_
    refine jv_iadd dX6_say_45 ?_
    refine hv_tBC dX6_say_46 (fun _ => ?_)
    refine jw_if_ne (tgt := 64) dX6_say_47 rfl (fun c47 => ?_) (fun c47 => ?_)
    · refine hv_getsN (Or.inr (Or.inr ⟨rfl, rfl, rfl⟩)) rfl dX6_say_50 ?_
      refine jv_iload (j := 4) dX6_say_53 rfl ?_
      refine hv_tAC dX6_say_55 (fun _ => ?_)
      refine vf_letS (fun z26002 => ?_)
      refine jv_istore (L' := [(5, .int z26002), (0, .ref (V.1 p)), (2, .int x2), (3, .int x3), (4, .int x4), (6, .int l6)]) dX6_say_56 (Nat.le_of_ble_eq_true rfl) rfl ?_
      refine jv_iinc (j := 5) (v := l6 + 1) (L' := [(6, .int (l6 + 1)), (5, .int z26002), (0, .ref (V.1 p)), (2, .int x2), (3, .int x3), (4, .int x4)]) dX6_say_58 rfl rfl (Nat.le_of_ble_eq_true rfl) rfl ?_
      refine jv_goto (tgt := 25) dX6_say_61 rfl ?_
      exact vf_j (fun g => jr_sub [2, 3, 4, 5, 1, 0] rfl g) (hih z26002 (l6 + 1))
    exact vf_end (fun g => jr_sub [0, 1, 2, 3, 4] rfl g)
set_option maxHeartbeats 4000000 in
set_option maxRecDepth 100000 in
theorem w_X6_say {X : pm_X} {V : pm_V} {n : Nat} {r : GT_X6_say} (hr : GP_X6_say n r) (p : Nat) (M : pm_M) (x1 : Int32) (x2 : Int32) (x3 : Int32) (x4 : Int32) (hp : at_VO p) : pm_VF (rb_X6_say r p M x1 x2 x3 x4) (pm_K X V mX6_say (2 + (n + 1)) skC) (pm_J X V mX6_say (2 + (n + 1)) (pm_wld V skC M) 0 [(0, .ref (V.1 p)), (1, .int x1), (2, .int x2), (3, .int x3), (4, .int x4)] []) := by
  unfold rb_X6_say
  refine jv_iloadn (j := 1) dX6_say_0 rfl ?_
  refine jw_if_lt (tgt := 17) dX6_say_1 rfl (fun c1 => ?_) (fun c1 => ?_)
  · refine jv_iconst (v := 0) dX6_say_17 (by decide) ?_
    exact vf_ret dX6_say_18 rfl
  refine jv_iloadn (j := 1) dX6_say_4 rfl ?_
  refine jv_bipush (v := 7) dX6_say_5 (by decide) ?_
  refine jw_ic_ge (tgt := 17) dX6_say_7 rfl (fun c7 => ?_) (fun c7 => ?_)
  · refine jv_iconst (v := 0) dX6_say_17 (by decide) ?_
    exact vf_ret dX6_say_18 rfl
  refine jv_iload (j := 4) dX6_say_10 rfl ?_
  refine jv_bipush (v := 40) dX6_say_12 (by decide) ?_
  refine jw_ic_le (tgt := 19) dX6_say_14 rfl (fun c14 => ?_) (fun c14 => ?_)
  · refine jv_iloadn (j := 1) dX6_say_19 rfl ?_
    refine jv_istore (L' := [(5, .int x1), (0, .ref (V.1 p)), (1, .int x1), (2, .int x2), (3, .int x3), (4, .int x4)]) dX6_say_20 (Nat.le_of_ble_eq_true rfl) rfl ?_
    refine jv_iconst (v := 0) dX6_say_22 (by decide) ?_
    refine jv_istore (L' := [(6, .int 0), (5, .int x1), (0, .ref (V.1 p)), (1, .int x1), (2, .int x2), (3, .int x3), (4, .int x4)]) dX6_say_23 (Nat.le_of_ble_eq_true rfl) rfl ?_
    refine vl_b1 (P := fun (l5 : Int32) => pm_J X V mX6_say (2 + (n + 1)) (pm_wld V skC M) 64 [(0, .ref (V.1 p)), (2, .int x2), (3, .int x3), (4, .int x4), (5, .int l5)] []) (vf_j (fun g => jr_sub [2, 4, 5, 6, 1, 0] rfl g) (wl_X6_say_25 hr p x2 x3 x4 M hp x1 0)) ?_
    intro l1
    refine hv_getsB dX6_say_64 lk6_32 ?_
    refine jv_iload (j := 4) dX6_say_67 rfl ?_
    refine jv_iconst (v := 4) dX6_say_69 (by decide) ?_
    refine jv_imul dX6_say_70 ?_
    refine jv_iloadn (j := 1) dX6_say_71 rfl ?_
    refine jv_iadd dX6_say_72 ?_
    refine hv_tBC dX6_say_73 (fun _ => ?_)
    refine vf_letS (fun z2 => ?_)
    refine jv_istore (L' := [(6, .int z2), (0, .ref (V.1 p)), (2, .int x2), (3, .int x3), (4, .int x4), (5, .int l1)]) dX6_say_74 (Nat.le_of_ble_eq_true rfl) rfl ?_
    refine jv_aloadn (j := 1) dX6_say_76 rfl ?_
    refine jv_iload (j := 0) dX6_say_77 rfl ?_
    refine hv_callV (As := [.int z2]) dX6_say_79 lk6_38 kX6_note nX6_note (by omega) (Nat.le_of_ble_eq_true rfl) (at_VO_0 hp) rfl rfl rfl (fun _ e l => c_X6_note hp e l V) ?_
    intro M3
    refine jv_aloadn (j := 1) dX6_say_82 rfl ?_
    refine jv_iload (j := 0) dX6_say_83 rfl ?_
    refine hv_getsN (Or.inr (Or.inr ⟨rfl, rfl, rfl⟩)) rfl dX6_say_85 ?_
    refine jv_iload (j := 5) dX6_say_88 rfl ?_
    refine hv_tAC dX6_say_90 (fun _ => ?_)
    refine jv_iloadn (j := 3) dX6_say_91 rfl ?_
    refine jv_iload (j := 4) dX6_say_92 rfl ?_
    refine jv_iconst (v := 1) dX6_say_94 (by decide) ?_
    refine jv_iadd dX6_say_95 ?_
    refine hv_callI (As := [.int z2, .int (pm_ABOVE l1.toNatClampNeg), .int x3, .int (x4 + 1)]) dX6_say_96 lk6_42 kX6_sayBody nX6_sayBody (by omega) (Nat.le_of_ble_eq_true rfl) (at_VO_0 hp) rfl rfl rfl (fun _ _ e l => hr.2 hp _ _ _ _ _ _ _ e l V) ?_
    intro r5 M4
    exact vf_ret dX6_say_99 rfl
  refine jv_iconst (v := 0) dX6_say_17 (by decide) ?_
  exact vf_ret dX6_say_18 rfl
set_option maxHeartbeats 4000000 in
set_option maxRecDepth 100000 in
theorem w_X6_sayBody {X : pm_X} {V : pm_V} {n : Nat} {r : GT_X6_say} (hr : GP_X6_say n r) (p : Nat) (M : pm_M) (x1 : Int32) (x2 : Int32) (x3 : Int32) (x4 : Int32) (hp : at_VO p) : pm_VF (rb_X6_sayBody r p M x1 x2 x3 x4) (pm_K X V mX6_sayBody (2 + (n + 1)) skC) (pm_J X V mX6_sayBody (2 + (n + 1)) (pm_wld V skC M) 0 [(0, .ref (V.1 p)), (1, .int x1), (2, .int x2), (3, .int x3), (4, .int x4)] []) := by
  unfold rb_X6_sayBody
  refine jv_iloadn (j := 1) dX6_sayBody_0 rfl ?_
  refine vf_case (fun c1_0 => ?_) (fun c1_0 => ?_)
  · refine jv_lin (v := 10) (tgt := 100) dX6_sayBody_1 c1_0 (by decide) rfl rfl ?_
    refine jv_iloadn (j := 3) dX6_sayBody_100 rfl ?_
    refine jv_aloadn (j := 0) dX6_sayBody_101 rfl ?_
    refine hv_getI dX6_sayBody_102 fl6_22 (at_VO_0 hp) rfl ?_
    refine jv_iadd dX6_sayBody_105 ?_
    exact vf_ret dX6_sayBody_106 rfl
  refine vf_case (fun c1_1 => ?_) (fun c1_1 => ?_)
  · refine jv_lin (v := 11) (tgt := 107) dX6_sayBody_1 c1_1 (by decide) rfl rfl ?_
    refine jv_aloadn (j := 0) dX6_sayBody_107 rfl ?_
    refine jv_aloadn (j := 0) dX6_sayBody_108 rfl ?_
    refine hv_getI dX6_sayBody_109 fl6_19 (at_VO_0 hp) rfl ?_
    refine jv_iconst (v := 0) dX6_sayBody_112 (by decide) ?_
    refine jv_iloadn (j := 3) dX6_sayBody_113 rfl ?_
    refine jv_iload (j := 4) dX6_sayBody_114 rfl ?_
    refine hv_callI (As := [.int (M p 2), .int 0, .int x3, .int x4]) dX6_sayBody_116 lk6_28 kX6_say nX6_say (by omega) (Nat.le_of_ble_eq_true rfl) (at_VO_0 hp) rfl rfl rfl (fun _ _ e l => hr.1 hp _ _ _ _ _ _ _ e l V) ?_
    intro r2 M1
    refine jv_iconst (v := 2) dX6_sayBody_119 (by decide) ?_
    refine jv_imul dX6_sayBody_120 ?_
    exact vf_ret dX6_sayBody_121 rfl
  refine vf_case (fun c1_2 => ?_) (fun c1_2 => ?_)
  · refine jv_lin (v := 12) (tgt := 122) dX6_sayBody_1 c1_2 (by decide) rfl rfl ?_
    refine jv_iloadn (j := 3) dX6_sayBody_122 rfl ?_
    refine jv_aloadn (j := 0) dX6_sayBody_123 rfl ?_
    refine hv_getI dX6_sayBody_124 fl6_25 (at_VO_0 hp) rfl ?_
    refine jv_isub dX6_sayBody_127 ?_
    exact vf_ret dX6_sayBody_128 rfl
  refine vf_case (fun c1_3 => ?_) (fun c1_3 => ?_)
  · refine jv_lin (v := 13) (tgt := 129) dX6_sayBody_1 c1_3 (by decide) rfl rfl ?_
    refine jv_aloadn (j := 0) dX6_sayBody_129 rfl ?_
    refine jv_aloadn (j := 0) dX6_sayBody_130 rfl ?_
    refine hv_getI dX6_sayBody_131 fl6_19 (at_VO_0 hp) rfl ?_
    refine jv_iconst (v := 1) dX6_sayBody_134 (by decide) ?_
    refine jv_iloadn (j := 3) dX6_sayBody_135 rfl ?_
    refine jv_iload (j := 4) dX6_sayBody_136 rfl ?_
    refine hv_callI (As := [.int (M p 2), .int 1, .int x3, .int x4]) dX6_sayBody_138 lk6_28 kX6_say nX6_say (by omega) (Nat.le_of_ble_eq_true rfl) (at_VO_0 hp) rfl rfl rfl (fun _ _ e l => hr.1 hp _ _ _ _ _ _ _ e l V) ?_
    intro r4 M3
    refine jv_aloadn (j := 0) dX6_sayBody_141 rfl ?_
    refine jv_aloadn (j := 0) dX6_sayBody_142 rfl ?_
    refine hv_getI dX6_sayBody_143 fl6_19 (at_VO_0 hp) rfl ?_
    refine jv_iconst (v := 2) dX6_sayBody_146 (by decide) ?_
    refine jv_iloadn (j := 3) dX6_sayBody_147 rfl ?_
    refine jv_iload (j := 4) dX6_sayBody_148 rfl ?_
    refine hv_callI (As := [.int (M3 p 2), .int 2, .int x3, .int x4]) dX6_sayBody_150 lk6_28 kX6_say nX6_say (by omega) (Nat.le_of_ble_eq_true rfl) (at_VO_0 hp) rfl rfl rfl (fun _ _ e l => hr.1 hp _ _ _ _ _ _ _ e l V) ?_
    intro r6 M5
    refine jv_ixor dX6_sayBody_153 ?_
    exact vf_ret dX6_sayBody_154 rfl
  refine vf_case (fun c1_4 => ?_) (fun c1_4 => ?_)
  · refine jv_lin (v := 20) (tgt := 155) dX6_sayBody_1 c1_4 (by decide) rfl rfl ?_
    refine jv_aloadn (j := 0) dX6_sayBody_155 rfl ?_
    refine jv_iloadn (j := 2) dX6_sayBody_156 rfl ?_
    refine jv_iconst (v := 2) dX6_sayBody_157 (by decide) ?_
    refine jv_iloadn (j := 3) dX6_sayBody_158 rfl ?_
    refine jv_iload (j := 4) dX6_sayBody_159 rfl ?_
    refine hv_callI (As := [.int x2, .int 2, .int x3, .int x4]) dX6_sayBody_161 lk6_28 kX6_say nX6_say (by omega) (Nat.le_of_ble_eq_true rfl) (at_VO_0 hp) rfl rfl rfl (fun _ _ e l => hr.1 hp _ _ _ _ _ _ _ e l V) ?_
    intro r8 M7
    refine jv_ineg dX6_sayBody_164 ?_
    exact vf_ret dX6_sayBody_165 rfl
  refine vf_case (fun c1_5 => ?_) (fun c1_5 => ?_)
  · refine jv_lin (v := 30) (tgt := 166) dX6_sayBody_1 c1_5 (by decide) rfl rfl ?_
    refine jv_aloadn (j := 0) dX6_sayBody_166 rfl ?_
    refine jv_iloadn (j := 2) dX6_sayBody_167 rfl ?_
    refine jv_iconst (v := 0) dX6_sayBody_168 (by decide) ?_
    refine jv_iloadn (j := 3) dX6_sayBody_169 rfl ?_
    refine jv_iload (j := 4) dX6_sayBody_170 rfl ?_
    refine hv_callI (As := [.int x2, .int 0, .int x3, .int x4]) dX6_sayBody_172 lk6_28 kX6_say nX6_say (by omega) (Nat.le_of_ble_eq_true rfl) (at_VO_0 hp) rfl rfl rfl (fun _ _ e l => hr.1 hp _ _ _ _ _ _ _ e l V) ?_
    intro r10 M9
    refine jv_iconst (v := 3) dX6_sayBody_175 (by decide) ?_
    refine jv_imul dX6_sayBody_176 ?_
    exact vf_ret dX6_sayBody_177 rfl
  refine vf_case (fun c1_6 => ?_) (fun c1_6 => ?_)
  · refine jv_lin (v := 40) (tgt := 178) dX6_sayBody_1 c1_6 (by decide) rfl rfl ?_
    refine jv_aloadn (j := 0) dX6_sayBody_178 rfl ?_
    refine jv_iloadn (j := 2) dX6_sayBody_179 rfl ?_
    refine jv_iconst (v := 1) dX6_sayBody_180 (by decide) ?_
    refine jv_iloadn (j := 3) dX6_sayBody_181 rfl ?_
    refine jv_iload (j := 4) dX6_sayBody_182 rfl ?_
    refine hv_callI (As := [.int x2, .int 1, .int x3, .int x4]) dX6_sayBody_184 lk6_28 kX6_say nX6_say (by omega) (Nat.le_of_ble_eq_true rfl) (at_VO_0 hp) rfl rfl rfl (fun _ _ e l => hr.1 hp _ _ _ _ _ _ _ e l V) ?_
    intro r12 M11
    refine jv_aloadn (j := 0) dX6_sayBody_187 rfl ?_
    refine jv_aloadn (j := 0) dX6_sayBody_188 rfl ?_
    refine hv_getI dX6_sayBody_189 fl6_19 (at_VO_0 hp) rfl ?_
    refine jv_iconst (v := 2) dX6_sayBody_192 (by decide) ?_
    refine jv_iconst (v := 1) dX6_sayBody_193 (by decide) ?_
    refine jv_iload (j := 4) dX6_sayBody_194 rfl ?_
    refine hv_callI (As := [.int (M11 p 2), .int 2, .int 1, .int x4]) dX6_sayBody_196 lk6_28 kX6_say nX6_say (by omega) (Nat.le_of_ble_eq_true rfl) (at_VO_0 hp) rfl rfl rfl (fun _ _ e l => hr.1 hp _ _ _ _ _ _ _ e l V) ?_
    intro r14 M13
    refine jv_isub dX6_sayBody_199 ?_
    exact vf_ret dX6_sayBody_200 rfl
  refine vf_case (fun c1_7 => ?_) (fun c1_7 => ?_)
  · refine jv_lin (v := 50) (tgt := 201) dX6_sayBody_1 c1_7 (by decide) rfl rfl ?_
    refine jv_aloadn (j := 0) dX6_sayBody_201 rfl ?_
    refine jv_iloadn (j := 2) dX6_sayBody_202 rfl ?_
    refine jv_iconst (v := 2) dX6_sayBody_203 (by decide) ?_
    refine jv_iloadn (j := 3) dX6_sayBody_204 rfl ?_
    refine jv_iload (j := 4) dX6_sayBody_205 rfl ?_
    refine hv_callI (As := [.int x2, .int 2, .int x3, .int x4]) dX6_sayBody_207 lk6_28 kX6_say nX6_say (by omega) (Nat.le_of_ble_eq_true rfl) (at_VO_0 hp) rfl rfl rfl (fun _ _ e l => hr.1 hp _ _ _ _ _ _ _ e l V) ?_
    intro r16 M15
    refine jv_aloadn (j := 0) dX6_sayBody_210 rfl ?_
    refine hv_getI dX6_sayBody_211 fl6_22 (at_VO_0 hp) rfl ?_
    refine jv_ixor dX6_sayBody_214 ?_
    exact vf_ret dX6_sayBody_215 rfl
  refine vf_case (fun c1_8 => ?_) (fun c1_8 => ?_)
  · refine jv_lin (v := 51) (tgt := 216) dX6_sayBody_1 c1_8 (by decide) rfl rfl ?_
    refine jv_aloadn (j := 0) dX6_sayBody_216 rfl ?_
    refine jv_aloadn (j := 0) dX6_sayBody_217 rfl ?_
    refine hv_getI dX6_sayBody_218 fl6_19 (at_VO_0 hp) rfl ?_
    refine jv_iconst (v := 1) dX6_sayBody_221 (by decide) ?_
    refine jv_iloadn (j := 3) dX6_sayBody_222 rfl ?_
    refine jv_iload (j := 4) dX6_sayBody_223 rfl ?_
    refine hv_callI (As := [.int (M p 2), .int 1, .int x3, .int x4]) dX6_sayBody_225 lk6_28 kX6_say nX6_say (by omega) (Nat.le_of_ble_eq_true rfl) (at_VO_0 hp) rfl rfl rfl (fun _ _ e l => hr.1 hp _ _ _ _ _ _ _ e l V) ?_
    intro r18 M17
    refine jv_aloadn (j := 0) dX6_sayBody_228 rfl ?_
    refine jv_iloadn (j := 2) dX6_sayBody_229 rfl ?_
    refine jv_iconst (v := 3) dX6_sayBody_230 (by decide) ?_
    refine jv_iloadn (j := 3) dX6_sayBody_231 rfl ?_
    refine jv_iload (j := 4) dX6_sayBody_232 rfl ?_
    refine hv_callI (As := [.int x2, .int 3, .int x3, .int x4]) dX6_sayBody_234 lk6_28 kX6_say nX6_say (by omega) (Nat.le_of_ble_eq_true rfl) (at_VO_0 hp) rfl rfl rfl (fun _ _ e l => hr.1 hp _ _ _ _ _ _ _ e l V) ?_
    intro r20 M19
    refine jv_isub dX6_sayBody_237 ?_
    exact vf_ret dX6_sayBody_238 rfl
  refine vf_case (fun c1_9 => ?_) (fun c1_9 => ?_)
  · refine jv_lin (v := 60) (tgt := 239) dX6_sayBody_1 c1_9 (by decide) rfl rfl ?_
    refine jv_aloadn (j := 0) dX6_sayBody_239 rfl ?_
    refine jv_iloadn (j := 2) dX6_sayBody_240 rfl ?_
    refine jv_iconst (v := 3) dX6_sayBody_241 (by decide) ?_
    refine jv_iloadn (j := 3) dX6_sayBody_242 rfl ?_
    refine jv_iload (j := 4) dX6_sayBody_243 rfl ?_
    refine hv_callI (As := [.int x2, .int 3, .int x3, .int x4]) dX6_sayBody_245 lk6_28 kX6_say nX6_say (by omega) (Nat.le_of_ble_eq_true rfl) (at_VO_0 hp) rfl rfl rfl (fun _ _ e l => hr.1 hp _ _ _ _ _ _ _ e l V) ?_
    intro r22 M21
    refine jv_aloadn (j := 0) dX6_sayBody_248 rfl ?_
    refine jv_aloadn (j := 0) dX6_sayBody_249 rfl ?_
    refine hv_getI dX6_sayBody_250 fl6_19 (at_VO_0 hp) rfl ?_
    refine jv_iconst (v := 0) dX6_sayBody_253 (by decide) ?_
    refine jv_iconst (v := 2) dX6_sayBody_254 (by decide) ?_
    refine jv_iload (j := 4) dX6_sayBody_255 rfl ?_
    refine hv_callI (As := [.int (M21 p 2), .int 0, .int 2, .int x4]) dX6_sayBody_257 lk6_28 kX6_say nX6_say (by omega) (Nat.le_of_ble_eq_true rfl) (at_VO_0 hp) rfl rfl rfl (fun _ _ e l => hr.1 hp _ _ _ _ _ _ _ e l V) ?_
    intro r24 M23
    refine jv_isub dX6_sayBody_260 ?_
    exact vf_ret dX6_sayBody_261 rfl
  refine vf_case (fun c1_10 => ?_) (fun c1_10 => ?_)
  · refine jv_lin (v := 70) (tgt := 262) dX6_sayBody_1 c1_10 (by decide) rfl rfl ?_
    refine jv_aloadn (j := 0) dX6_sayBody_262 rfl ?_
    refine jv_iloadn (j := 2) dX6_sayBody_263 rfl ?_
    refine jv_iconst (v := 1) dX6_sayBody_264 (by decide) ?_
    refine jv_iloadn (j := 3) dX6_sayBody_265 rfl ?_
    refine jv_iconst (v := 1) dX6_sayBody_266 (by decide) ?_
    refine jv_iadd dX6_sayBody_267 ?_
    refine jv_iload (j := 4) dX6_sayBody_268 rfl ?_
    refine hv_callI (As := [.int x2, .int 1, .int (x3 + 1), .int x4]) dX6_sayBody_270 lk6_28 kX6_say nX6_say (by omega) (Nat.le_of_ble_eq_true rfl) (at_VO_0 hp) rfl rfl rfl (fun _ _ e l => hr.1 hp _ _ _ _ _ _ _ e l V) ?_
    intro r26 M25
    exact vf_ret dX6_sayBody_273 rfl
  refine jw_lout (tgt := 274) [10, 11, 12, 13, 20, 30, 40, 50, 51, 60, 70] dX6_sayBody_1 rfl rfl rfl (pm_n1 c1_0 (pm_n1 c1_1 (pm_n1 c1_2 (pm_n1 c1_3 (pm_n1 c1_4 (pm_n1 c1_5 (pm_n1 c1_6 (pm_n1 c1_7 (pm_n1 c1_8 (pm_n1 c1_9 (pm_n1 c1_10 pm_n0))))))))))) ?_
  refine jv_iconst (v := 0) dX6_sayBody_274 (by decide) ?_
  exact vf_ret dX6_sayBody_275 rfl
set_option maxHeartbeats 4000000 in
set_option maxRecDepth 100000 in
theorem cG_X6_say : ∀ n, GP_X6_say n (fG_X6_say n)
  | 0 => ⟨(fun _ _ _ _ _ _ _ _ h => by cases h), (fun _ _ _ _ _ _ _ _ h => by cases h)⟩
  | n + 1 => by
    have ih := cG_X6_say n
    exact ⟨(fun hp M x1 x2 x3 x4 x M' h l V => pm_metI (by decide) rfl (Nat.le_of_ble_eq_true rfl) h (fun _ => w_X6_say ih _ M x1 x2 x3 x4 hp)), (fun hp M x1 x2 x3 x4 x M' h l V => pm_metI (by decide) rfl (Nat.le_of_ble_eq_true rfl) h (fun _ => w_X6_sayBody ih _ M x1 x2 x3 x4 hp))⟩
def f_X6_say : Nat → pm_M → Int32 → Int32 → Int32 → Int32 → Option (Int32 × pm_M) := (fG_X6_say pm_D).1
theorem c_X6_say {p : Nat} {M : pm_M} {x1 : Int32} {x2 : Int32} {x3 : Int32} {x4 : Int32} (hp : at_VO p) {x : Int32} {M' : pm_M} (h : f_X6_say p M x1 x2 x3 x4 = some (x, M')) (l : Launch) (V : pm_V) : pm_Ci l V skC yX6_say mX6_say 102 [.ref (V.1 p), .int x1, .int x2, .int x3, .int x4] M x M' := (cG_X6_say pm_D).1 hp _ _ _ _ _ _ _ h l V
def f_X6_sayBody : Nat → pm_M → Int32 → Int32 → Int32 → Int32 → Option (Int32 × pm_M) := (fG_X6_say pm_D).2
theorem c_X6_sayBody {p : Nat} {M : pm_M} {x1 : Int32} {x2 : Int32} {x3 : Int32} {x4 : Int32} (hp : at_VO p) {x : Int32} {M' : pm_M} (h : f_X6_sayBody p M x1 x2 x3 x4 = some (x, M')) (l : Launch) (V : pm_V) : pm_Ci l V skC yX6_sayBody mX6_sayBody 102 [.ref (V.1 p), .int x1, .int x2, .int x3, .int x4] M x M' := (cG_X6_say pm_D).2 hp _ _ _ _ _ _ _ h l V
def f_X6_answer (p : Nat) (M : pm_M) (x1 : Int32) (x2 : Int32) (x3 : Int32) (x4 : Int32) (x5 : Int32) : Option (Int32 × pm_M) :=
  (pm_let (pm_up M p 2 x1) (fun M1 : pm_M => (pm_let (pm_up M1 p 3 x2) (fun M2 : pm_M => (pm_let (pm_up M2 p 4 x3) (fun M3 : pm_M => (pm_let (pm_up M3 p 1 0) (fun M4 : pm_M => (pm_b2 (f_X6_say p M4 (M4 p 2) x4 x5 0) (fun (r6 : Int32) (M5 : pm_M) => (some (r6, M5))))))))))))
set_option maxHeartbeats 4000000 in
set_option maxRecDepth 100000 in
theorem w_X6_answer {X : pm_X} {V : pm_V} (p : Nat) (M : pm_M) (x1 : Int32) (x2 : Int32) (x3 : Int32) (x4 : Int32) (x5 : Int32) (hp : at_VO p) : pm_VF (f_X6_answer p M x1 x2 x3 x4 x5) (pm_K X V mX6_answer 103 skC) (pm_J X V mX6_answer 103 (pm_wld V skC M) 0 [(0, .ref (V.1 p)), (1, .int x1), (2, .int x2), (3, .int x3), (4, .int x4), (5, .int x5)] []) := by
  unfold f_X6_answer
  refine jv_aloadn (j := 0) dX6_answer_0 rfl ?_
  refine jv_iloadn (j := 1) dX6_answer_1 rfl ?_
  refine hv_put dX6_answer_2 fp6_19 (at_VO_0 hp) rfl rfl rfl ?_
  refine vf_letM (fun M1 => ?_)
  refine jv_aloadn (j := 0) dX6_answer_5 rfl ?_
  refine jv_iloadn (j := 2) dX6_answer_6 rfl ?_
  refine hv_put dX6_answer_7 fp6_22 (at_VO_0 hp) rfl rfl rfl ?_
  refine vf_letM (fun M2 => ?_)
  refine jv_aloadn (j := 0) dX6_answer_10 rfl ?_
  refine jv_iloadn (j := 3) dX6_answer_11 rfl ?_
  refine hv_put dX6_answer_12 fp6_25 (at_VO_0 hp) rfl rfl rfl ?_
  refine vf_letM (fun M3 => ?_)
  refine jv_aloadn (j := 0) dX6_answer_15 rfl ?_
  refine jv_iconst (v := 0) dX6_answer_16 (by decide) ?_
  refine hv_put dX6_answer_17 fp6_15 (at_VO_0 hp) rfl rfl rfl ?_
  refine vf_letM (fun M4 => ?_)
  refine jv_aloadn (j := 0) dX6_answer_20 rfl ?_
  refine jv_aloadn (j := 0) dX6_answer_21 rfl ?_
  refine hv_getI dX6_answer_22 fl6_19 (at_VO_0 hp) rfl ?_
  refine jv_iload (j := 4) dX6_answer_25 rfl ?_
  refine jv_iload (j := 5) dX6_answer_27 rfl ?_
  refine jv_iconst (v := 0) dX6_answer_29 (by decide) ?_
  refine hv_callI (As := [.int (M4 p 2), .int x4, .int x5, .int 0]) dX6_answer_30 lk6_28 kX6_say nX6_say (Nat.le_of_ble_eq_true rfl) (Nat.le_of_ble_eq_true rfl) (at_VO_0 hp) rfl rfl rfl (fun _ _ e l => c_X6_say hp e l V) ?_
  intro r6 M5
  exact vf_ret dX6_answer_33 rfl
theorem c_X6_answer {p : Nat} {M : pm_M} {x1 : Int32} {x2 : Int32} {x3 : Int32} {x4 : Int32} {x5 : Int32} (hp : at_VO p) {r : Int32} {M' : pm_M} (h : f_X6_answer p M x1 x2 x3 x4 x5 = some (r, M')) (l : Launch) (V : pm_V) : pm_Ci l V skC yX6_answer mX6_answer 103 [.ref (V.1 p), .int x1, .int x2, .int x3, .int x4, .int x5] M r M' := pm_metI (by decide) rfl (Nat.le_of_ble_eq_true rfl) h (fun _ => w_X6_answer p M x1 x2 x3 x4 x5 hp)
