def lb_X5_copyFrom_24 (p : Nat) (a1 : Nat) (ih : Int32 → pm_M → Option (pm_M)) : Int32 → pm_M → Option (pm_M) := fun (l2 : Int32) (Ml : pm_M) =>
  (if 2 ≤ l2 then (some Ml) else (pm_chk (pm_in l2 2) (pm_b1 (f_X1_take (p + 19 + 3 * l2.toNatClampNeg) Ml ((a1 + 19 + 3 * l2.toNatClampNeg) + 1) (Ml (a1 + 19 + 3 * l2.toNatClampNeg) 3)) (fun M25003 : pm_M => (ih (l2 + 1) M25003)))))
def lp_X5_copyFrom_24 (p : Nat) (a1 : Nat) : Int32 → pm_M → Option (pm_M) := pm_it (fun _ _ => none) (lb_X5_copyFrom_24 p a1) pm_F
def f_X5_copyFrom (p : Nat) (M : pm_M) (a1 : Nat) : Option pm_M :=
  (pm_b1 (f_X3_copyFrom (p + 1) M (a1 + 1)) (fun M1 : pm_M => (pm_b1 (f_X0_copyFrom (p + 13) M1 (a1 + 13)) (fun M2 : pm_M => (pm_b1 (lp_X5_copyFrom_24 p a1 0 M2) (fun (M3 : pm_M) => (pm_let (pm_up M3 p 3 (M3 a1 3)) (fun M4 : pm_M => (pm_let (pm_up M4 p 4 (M4 a1 4)) (fun M5 : pm_M => (pm_let (pm_cpy M5 (a1 + 25) (0 : Int32).toNatClampNeg (p + 25) (0 : Int32).toNatClampNeg (50 : Int32).toNatClampNeg) (fun M6 : pm_M => (pm_let (pm_up M6 p 6 (M6 a1 6)) (fun M7 : pm_M => (pm_let (pm_cpy M7 (a1 + 26) (0 : Int32).toNatClampNeg (p + 26) (0 : Int32).toNatClampNeg (20 : Int32).toNatClampNeg) (fun M8 : pm_M => (pm_let (pm_up M8 p 8 (M8 a1 8)) (fun M9 : pm_M => (some M9)))))))))))))))))))
set_option maxHeartbeats 4000000 in
set_option maxRecDepth 100000 in
theorem wl_X5_copyFrom_24 {X : pm_X} {V : pm_V} (p : Nat) (a1 : Nat) (hp : at_VA p) (h1a : at_VA a1) : ∀ (l2 : Int32) (Ml : pm_M), pm_VF (lp_X5_copyFrom_24 p a1 l2 Ml) (fun b => (fun (Ml : pm_M) => pm_J X V mX5_copyFrom 2 (pm_wld V skC Ml) 62 [(0, .ref (V.1 p)), (1, .ref (V.1 a1))] []) b) (pm_J X V mX5_copyFrom 2 (pm_wld V skC Ml) 24 [(0, .ref (V.1 p)), (1, .ref (V.1 a1)), (2, .int l2)] []) := by
  refine pm_it_ind (P := fun (f : Int32 → pm_M → Option (pm_M)) => ∀ (l2 : Int32) (Ml : pm_M), pm_VF (f l2 Ml) (fun b => (fun (Ml : pm_M) => pm_J X V mX5_copyFrom 2 (pm_wld V skC Ml) 62 [(0, .ref (V.1 p)), (1, .ref (V.1 a1))] []) b) (pm_J X V mX5_copyFrom 2 (pm_wld V skC Ml) 24 [(0, .ref (V.1 p)), (1, .ref (V.1 a1)), (2, .int l2)] [])) (fun _ _ => vf_none) (fun ih hih l2 Ml => ?_) pm_F
  · unfold lb_X5_copyFrom_24
    refine jv_iloadn (j := 2) dX5_copyFrom_24 rfl ?_
    refine jv_iconst (v := 2) dX5_copyFrom_25 (by decide) ?_
    refine jw_ic_ge (tgt := 62) dX5_copyFrom_26 rfl (fun c26 => ?_) (fun c26 => ?_)
    · exact vf_end (fun g => jr_sub [0, 1] rfl g)
    refine jv_aloadn (j := 0) dX5_copyFrom_29 rfl ?_
    refine hv_getR dX5_copyFrom_30 fl5_30 (at_VA_0 hp) rfl ?_
    refine jv_iloadn (j := 2) dX5_copyFrom_33 rfl ?_
    refine vf_chk (fun q25002 => ?_)
    refine hv_aald dX5_copyFrom_34 (at_VA_18 hp) (ty := .object "RainShares$Law") (fun _ => rfl) rfl q25002 (pl_law q25002) ?_
    refine jv_aloadn (j := 1) dX5_copyFrom_35 rfl ?_
    refine hv_getR dX5_copyFrom_36 fl5_30 (at_VA_0 h1a) rfl ?_
    refine jv_iloadn (j := 2) dX5_copyFrom_39 rfl ?_
    refine hv_aald dX5_copyFrom_40 (at_VA_18 h1a) (ty := .object "RainShares$Law") (fun _ => rfl) rfl q25002 (pl_law q25002) ?_
    refine hv_getR dX5_copyFrom_41 fl5_70 (at_LW_0 (at_VA_lawi h1a q25002)) rfl ?_
    refine jv_aloadn (j := 1) dX5_copyFrom_44 rfl ?_
    refine hv_getR dX5_copyFrom_45 fl5_30 (at_VA_0 h1a) rfl ?_
    refine jv_iloadn (j := 2) dX5_copyFrom_48 rfl ?_
    refine hv_aald dX5_copyFrom_49 (at_VA_18 h1a) (ty := .object "RainShares$Law") (fun _ => rfl) rfl q25002 (pl_law q25002) ?_
    refine hv_getI dX5_copyFrom_50 fl5_73 (at_LW_0 (at_VA_lawi h1a q25002)) rfl ?_
    refine hv_callV (As := [.ref (V.1 ((a1 + 19 + 3 * l2.toNatClampNeg) + 1)), .int (Ml (a1 + 19 + 3 * l2.toNatClampNeg) 3)]) dX5_copyFrom_53 lk5_76 kX1_take nX1_take (Nat.le_of_ble_eq_true rfl) (Nat.le_of_ble_eq_true rfl) (at_LW_0 (at_VA_lawi hp q25002)) rfl rfl rfl (fun _ e l => c_X1_take (at_VA_lawi hp q25002) (at_LW_1 (at_VA_lawi h1a q25002)) e l V) ?_
    intro M25003
    refine jv_iinc (j := 2) (v := l2 + 1) (L' := [(2, .int (l2 + 1)), (0, .ref (V.1 p)), (1, .ref (V.1 a1))]) dX5_copyFrom_56 rfl rfl (Nat.le_of_ble_eq_true rfl) rfl ?_
    refine jv_goto (tgt := 24) dX5_copyFrom_59 rfl ?_
    exact vf_j (fun g => jr_sub [1, 2, 0] rfl g) (hih (l2 + 1) M25003)
set_option maxHeartbeats 4000000 in
set_option maxRecDepth 100000 in
theorem w_X5_copyFrom {X : pm_X} {V : pm_V} (p : Nat) (M : pm_M) (a1 : Nat) (hp : at_VA p) (h1a : at_VA a1) : pm_VF (f_X5_copyFrom p M a1) (pm_Kv X V mX5_copyFrom 2 skC) (pm_J X V mX5_copyFrom 2 (pm_wld V skC M) 0 [(0, .ref (V.1 p)), (1, .ref (V.1 a1))] []) := by
  unfold f_X5_copyFrom
  refine jv_aloadn (j := 0) dX5_copyFrom_0 rfl ?_
  refine hv_getR dX5_copyFrom_1 fl5_12 (at_VA_0 hp) rfl ?_
  refine jv_aloadn (j := 1) dX5_copyFrom_4 rfl ?_
  refine hv_getR dX5_copyFrom_5 fl5_12 (at_VA_0 h1a) rfl ?_
  refine hv_callV (As := [.ref (V.1 (a1 + 1))]) dX5_copyFrom_8 lk5_63 kX3_copyFrom nX3_copyFrom (Nat.le_of_ble_eq_true rfl) (Nat.le_of_ble_eq_true rfl) (at_RO_0 (at_VA_ro hp)) rfl rfl rfl (fun _ e l => c_X3_copyFrom (at_VA_ro hp) (at_VA_ro h1a) e l V) ?_
  intro M1
  refine jv_aloadn (j := 0) dX5_copyFrom_11 rfl ?_
  refine hv_getR dX5_copyFrom_12 fl5_21 (at_VA_0 hp) rfl ?_
  refine jv_aloadn (j := 1) dX5_copyFrom_15 rfl ?_
  refine hv_getR dX5_copyFrom_16 fl5_21 (at_VA_0 h1a) rfl ?_
  refine hv_callV (As := [.ref (V.1 (a1 + 13))]) dX5_copyFrom_19 lk5_67 kX0_copyFrom nX0_copyFrom (Nat.le_of_ble_eq_true rfl) (Nat.le_of_ble_eq_true rfl) (at_CL_0 (at_VA_cl hp)) rfl rfl rfl (fun _ e l => c_X0_copyFrom (at_VA_cl hp) (at_VA_cl h1a) e l V) ?_
  intro M2
  refine jv_iconst (v := 0) dX5_copyFrom_22 (by decide) ?_
  refine jv_istoren (L' := [(2, .int 0), (0, .ref (V.1 p)), (1, .ref (V.1 a1))]) dX5_copyFrom_23 (Nat.le_of_ble_eq_true rfl) rfl ?_
  refine vl_b1 (P := fun (Ml : pm_M) => pm_J X V mX5_copyFrom 2 (pm_wld V skC Ml) 62 [(0, .ref (V.1 p)), (1, .ref (V.1 a1))] []) (vf_j (fun g => jr_sub [1, 2, 0] rfl g) (wl_X5_copyFrom_24 p a1 hp h1a 0 M2)) ?_
  intro M3
  refine jv_aloadn (j := 0) dX5_copyFrom_62 rfl ?_
  refine jv_aloadn (j := 1) dX5_copyFrom_63 rfl ?_
  refine hv_getI dX5_copyFrom_64 fl5_34 (at_VA_0 h1a) rfl ?_
  refine hv_put dX5_copyFrom_67 fp5_34 (at_VA_0 hp) rfl rfl rfl ?_
  refine vf_letM (fun M4 => ?_)
  refine jv_aloadn (j := 0) dX5_copyFrom_70 rfl ?_
  refine jv_aloadn (j := 1) dX5_copyFrom_71 rfl ?_
  refine hv_getI dX5_copyFrom_72 fl5_38 (at_VA_0 h1a) rfl ?_
  refine hv_put dX5_copyFrom_75 fp5_38 (at_VA_0 hp) rfl rfl rfl ?_
  refine vf_letM (fun M5 => ?_)
  refine jv_aloadn (j := 1) dX5_copyFrom_78 rfl ?_
  refine hv_getR dX5_copyFrom_79 fl5_41 (at_VA_0 h1a) rfl ?_
  refine jv_iconst (v := 0) dX5_copyFrom_82 (by decide) ?_
  refine jv_aloadn (j := 0) dX5_copyFrom_83 rfl ?_
  refine hv_getR dX5_copyFrom_84 fl5_41 (at_VA_0 hp) rfl ?_
  refine jv_iconst (v := 0) dX5_copyFrom_87 (by decide) ?_
  refine jv_bipush (v := 50) dX5_copyFrom_88 (by decide) ?_
  refine hv_copy dX5_copyFrom_90 lk5_80 lkS_n lkS_s lkS_i (Nat.le_of_ble_eq_true rfl) (at_VA_25 h1a) (at_VA_25 hp) (by decide) ?_
  refine vf_letM (fun M6 => ?_)
  refine jv_aloadn (j := 0) dX5_copyFrom_93 rfl ?_
  refine jv_aloadn (j := 1) dX5_copyFrom_94 rfl ?_
  refine hv_getI dX5_copyFrom_95 fl5_45 (at_VA_0 h1a) rfl ?_
  refine hv_put dX5_copyFrom_98 fp5_45 (at_VA_0 hp) rfl rfl rfl ?_
  refine vf_letM (fun M7 => ?_)
  refine jv_aloadn (j := 1) dX5_copyFrom_101 rfl ?_
  refine hv_getR dX5_copyFrom_102 fl5_48 (at_VA_0 h1a) rfl ?_
  refine jv_iconst (v := 0) dX5_copyFrom_105 (by decide) ?_
  refine jv_aloadn (j := 0) dX5_copyFrom_106 rfl ?_
  refine hv_getR dX5_copyFrom_107 fl5_48 (at_VA_0 hp) rfl ?_
  refine jv_iconst (v := 0) dX5_copyFrom_110 (by decide) ?_
  refine jv_bipush (v := 20) dX5_copyFrom_111 (by decide) ?_
  refine hv_copy dX5_copyFrom_113 lk5_80 lkS_n lkS_s lkS_i (Nat.le_of_ble_eq_true rfl) (at_VA_26 h1a) (at_VA_26 hp) (by decide) ?_
  refine vf_letM (fun M8 => ?_)
  refine jv_aloadn (j := 0) dX5_copyFrom_116 rfl ?_
  refine jv_aloadn (j := 1) dX5_copyFrom_117 rfl ?_
  refine hv_getI dX5_copyFrom_118 fl5_51 (at_VA_0 h1a) rfl ?_
  refine hv_put dX5_copyFrom_121 fp5_51 (at_VA_0 hp) rfl rfl rfl ?_
  refine vf_letM (fun M9 => ?_)
  exact vf_vret dX5_copyFrom_124
theorem c_X5_copyFrom {p : Nat} {M : pm_M} {a1 : Nat} (hp : at_VA p) (h1a : at_VA a1) {M' : pm_M} (h : f_X5_copyFrom p M a1 = some M') (l : Launch) (V : pm_V) : pm_Cv l V skC yX5_copyFrom mX5_copyFrom 2 [.ref (V.1 p), .ref (V.1 a1)] M M' := pm_metV (by decide) rfl (Nat.le_of_ble_eq_true rfl) rfl h (fun _ => w_X5_copyFrom p M a1 hp h1a)
def f_X5_dropsOn (p : Nat) (M : pm_M) (x1 : Int32) (x2 : Int32) : Option (Int32 × pm_M) :=
  (pm_chk (pm_in x1 5) (pm_let (M ((p + 13) + 2) x1.toNatClampNeg) (fun z1 : Int32 => (pm_chk (pm_in x1 5) (pm_let (M ((p + 13) + 4) x1.toNatClampNeg) (fun z2 : Int32 => (pm_b2 (f_X1_given (p + 19) M z2 (M p 3) z1) (fun (r4 : Int32) (M3 : pm_M) => (pm_chk (pm_in x1 5) (pm_let (M3 ((p + 13) + 1) x1.toNatClampNeg) (fun z5 : Int32 => (if z5.toInt < 1 ∨ 6 < z5.toInt then (some (r4, M3)) else if z5 = 1 then (some ((pm_max 0 (r4 - (z2 / 10))), M3)) else if z5 = 2 then (some ((r4 + ((pm_rem (M3 p 3) 2) * z1)), M3)) else if z5 = 3 then (pm_b2 (f_X3_sharesOf (p + 1) M3 x2) (fun (r7 : Int32) (M6 : pm_M) => (some ((pm_min r4 r7), M6)))) else if z5 = 4 then (some ((pm_max 0 (r4 - (z2 / 10))), M3)) else if z5 = 5 then (some ((r4 + ((pm_rem (M3 p 3) 2) * z1)), M3)) else if z5 = 6 then (pm_b2 (f_X3_sharesOf (p + 1) M3 x2) (fun (r9 : Int32) (M8 : pm_M) => (some (((pm_min r4 r9) / 2), M8)))) else none))))))))))))
set_option maxHeartbeats 4000000 in
set_option maxRecDepth 100000 in
theorem w_X5_dropsOn {X : pm_X} {V : pm_V} (p : Nat) (M : pm_M) (x1 : Int32) (x2 : Int32) (hp : at_VA p) : pm_VF (f_X5_dropsOn p M x1 x2) (pm_K X V mX5_dropsOn 3 skC) (pm_J X V mX5_dropsOn 3 (pm_wld V skC M) 0 [(0, .ref (V.1 p)), (1, .int x1), (2, .int x2)] []) := by
  unfold f_X5_dropsOn
  refine jv_aloadn (j := 0) dX5_dropsOn_0 rfl ?_
  refine hv_getR dX5_dropsOn_1 fl5_21 (at_VA_0 hp) rfl ?_
  refine hv_getR dX5_dropsOn_4 fl5_86 (at_CL_0 (at_VA_cl hp)) rfl ?_
  refine jv_iloadn (j := 1) dX5_dropsOn_7 rfl ?_
  refine hv_ialdC dX5_dropsOn_8 (at_CL_2 (at_VA_cl hp)) (fun _ => ?_)
  refine vf_letS (fun z1 => ?_)
  refine jv_istoren (L' := [(3, .int z1), (0, .ref (V.1 p)), (1, .int x1), (2, .int x2)]) dX5_dropsOn_9 (Nat.le_of_ble_eq_true rfl) rfl ?_
  refine jv_aloadn (j := 1) dX5_dropsOn_10 rfl ?_
  refine hv_getR dX5_dropsOn_11 fl5_21 (at_VA_0 hp) rfl ?_
  refine hv_getR dX5_dropsOn_14 fl5_89 (at_CL_0 (at_VA_cl hp)) rfl ?_
  refine jv_iloadn (j := 2) dX5_dropsOn_17 rfl ?_
  refine hv_ialdC dX5_dropsOn_18 (at_CL_4 (at_VA_cl hp)) (fun _ => ?_)
  refine vf_letS (fun z2 => ?_)
  refine jv_istore (L' := [(4, .int z2), (3, .int z1), (0, .ref (V.1 p)), (1, .int x1), (2, .int x2)]) dX5_dropsOn_19 (Nat.le_of_ble_eq_true rfl) rfl ?_
  refine jv_aloadn (j := 2) dX5_dropsOn_21 rfl ?_
  refine hv_getR dX5_dropsOn_22 fl5_30 (at_VA_0 hp) rfl ?_
  refine jv_iconst (v := 0) dX5_dropsOn_25 (by decide) ?_
  refine hv_aald dX5_dropsOn_26 (at_VA_18 hp) (ty := .object "RainShares$Law") (fun _ => rfl) rfl rfl rfl ?_
  refine jv_iload (j := 0) dX5_dropsOn_27 rfl ?_
  refine jv_aloadn (j := 2) dX5_dropsOn_29 rfl ?_
  refine hv_getI dX5_dropsOn_30 fl5_34 (at_VA_0 hp) rfl ?_
  refine jv_iloadn (j := 1) dX5_dropsOn_33 rfl ?_
  refine hv_callI (As := [.int z2, .int (M p 3), .int z1]) dX5_dropsOn_34 lk5_92 kX1_given nX1_given (Nat.le_of_ble_eq_true rfl) (Nat.le_of_ble_eq_true rfl) (at_LW_0 (at_VA_l0 hp)) rfl rfl rfl (fun _ _ e l => c_X1_given (at_VA_l0 hp) e l V) ?_
  intro r4 M3
  refine jv_istore (L' := [(5, .int r4), (4, .int z2), (3, .int z1), (0, .ref (V.1 p)), (1, .int x1), (2, .int x2)]) dX5_dropsOn_37 (Nat.le_of_ble_eq_true rfl) rfl ?_
  refine jv_aloadn (j := 3) dX5_dropsOn_39 rfl ?_
  refine hv_getR dX5_dropsOn_40 fl5_21 (at_VA_0 hp) rfl ?_
  refine hv_getR dX5_dropsOn_43 fl5_96 (at_CL_0 (at_VA_cl hp)) rfl ?_
  refine jv_iloadn (j := 4) dX5_dropsOn_46 rfl ?_
  refine hv_ialdC dX5_dropsOn_47 (at_CL_1 (at_VA_cl hp)) (fun _ => ?_)
  refine vf_letS (fun z5 => ?_)
  refine vf_case (fun c48 => ?_) (fun _ => ?_)
  · refine jv_tout (tgt := 143) dX5_dropsOn_48 c48 rfl ?_
    refine jv_iload (j := 0) dX5_dropsOn_143 rfl ?_
    exact vf_ret dX5_dropsOn_145 rfl
  refine vf_case (fun c48 => ?_) (fun _ => ?_)
  · refine jv_tin (v := 1) (tgt := 88) dX5_dropsOn_48 c48 (by decide) (by decide) rfl rfl ?_
    refine jv_iconst (v := 0) dX5_dropsOn_88 (by decide) ?_
    refine jv_iload (j := 0) dX5_dropsOn_89 rfl ?_
    refine jv_iload (j := 1) dX5_dropsOn_91 rfl ?_
    refine jv_bipush (v := 10) dX5_dropsOn_93 (by decide) ?_
    refine jv_idiv dX5_dropsOn_95 (by decide) ?_
    refine jv_isub dX5_dropsOn_96 ?_
    refine hv_max dX5_dropsOn_97 lk5_99 lkM_max.1 lkM_i lkM_max.2 (Nat.le_of_ble_eq_true rfl) ?_
    exact vf_ret dX5_dropsOn_100 rfl
  refine vf_case (fun c48 => ?_) (fun _ => ?_)
  · refine jv_tin (v := 2) (tgt := 101) dX5_dropsOn_48 c48 (by decide) (by decide) rfl rfl ?_
    refine jv_iload (j := 0) dX5_dropsOn_101 rfl ?_
    refine jv_aloadn (j := 3) dX5_dropsOn_103 rfl ?_
    refine hv_getI dX5_dropsOn_104 fl5_34 (at_VA_0 hp) rfl ?_
    refine jv_iconst (v := 2) dX5_dropsOn_107 (by decide) ?_
    refine jv_irem dX5_dropsOn_108 (by decide) ?_
    refine jv_iloadn (j := 2) dX5_dropsOn_109 rfl ?_
    refine jv_imul dX5_dropsOn_110 ?_
    refine jv_iadd dX5_dropsOn_111 ?_
    exact vf_ret dX5_dropsOn_112 rfl
  refine vf_case (fun c48 => ?_) (fun _ => ?_)
  · refine jv_tin (v := 3) (tgt := 113) dX5_dropsOn_48 c48 (by decide) (by decide) rfl rfl ?_
    refine jv_iload (j := 0) dX5_dropsOn_113 rfl ?_
    refine jv_aloadn (j := 3) dX5_dropsOn_115 rfl ?_
    refine hv_getR dX5_dropsOn_116 fl5_12 (at_VA_0 hp) rfl ?_
    refine jv_iloadn (j := 5) dX5_dropsOn_119 rfl ?_
    refine hv_callI (As := [.int x2]) dX5_dropsOn_120 lk5_105 kX3_sharesOf nX3_sharesOf (Nat.le_of_ble_eq_true rfl) (Nat.le_of_ble_eq_true rfl) (at_RO_0 (at_VA_ro hp)) rfl rfl rfl (fun _ _ e l => c_X3_sharesOf (at_VA_ro hp) e l V) ?_
    intro r7 M6
    refine hv_min dX5_dropsOn_123 lk5_109 lkM_min.1 lkM_i lkM_min.2 (Nat.le_of_ble_eq_true rfl) ?_
    exact vf_ret dX5_dropsOn_126 rfl
  refine vf_case (fun c48 => ?_) (fun _ => ?_)
  · refine jv_tin (v := 4) (tgt := 88) dX5_dropsOn_48 c48 (by decide) (by decide) rfl rfl ?_
    refine jv_iconst (v := 0) dX5_dropsOn_88 (by decide) ?_
    refine jv_iload (j := 0) dX5_dropsOn_89 rfl ?_
    refine jv_iload (j := 1) dX5_dropsOn_91 rfl ?_
    refine jv_bipush (v := 10) dX5_dropsOn_93 (by decide) ?_
    refine jv_idiv dX5_dropsOn_95 (by decide) ?_
    refine jv_isub dX5_dropsOn_96 ?_
    refine hv_max dX5_dropsOn_97 lk5_99 lkM_max.1 lkM_i lkM_max.2 (Nat.le_of_ble_eq_true rfl) ?_
    exact vf_ret dX5_dropsOn_100 rfl
  refine vf_case (fun c48 => ?_) (fun _ => ?_)
  · refine jv_tin (v := 5) (tgt := 101) dX5_dropsOn_48 c48 (by decide) (by decide) rfl rfl ?_
    refine jv_iload (j := 0) dX5_dropsOn_101 rfl ?_
    refine jv_aloadn (j := 3) dX5_dropsOn_103 rfl ?_
    refine hv_getI dX5_dropsOn_104 fl5_34 (at_VA_0 hp) rfl ?_
    refine jv_iconst (v := 2) dX5_dropsOn_107 (by decide) ?_
    refine jv_irem dX5_dropsOn_108 (by decide) ?_
    refine jv_iloadn (j := 2) dX5_dropsOn_109 rfl ?_
    refine jv_imul dX5_dropsOn_110 ?_
    refine jv_iadd dX5_dropsOn_111 ?_
    exact vf_ret dX5_dropsOn_112 rfl
  refine vf_case (fun c48 => ?_) (fun _ => ?_)
  · refine jv_tin (v := 6) (tgt := 127) dX5_dropsOn_48 c48 (by decide) (by decide) rfl rfl ?_
    refine jv_iload (j := 0) dX5_dropsOn_127 rfl ?_
    refine jv_aloadn (j := 3) dX5_dropsOn_129 rfl ?_
    refine hv_getR dX5_dropsOn_130 fl5_12 (at_VA_0 hp) rfl ?_
    refine jv_iloadn (j := 5) dX5_dropsOn_133 rfl ?_
    refine hv_callI (As := [.int x2]) dX5_dropsOn_134 lk5_105 kX3_sharesOf nX3_sharesOf (Nat.le_of_ble_eq_true rfl) (Nat.le_of_ble_eq_true rfl) (at_RO_0 (at_VA_ro hp)) rfl rfl rfl (fun _ _ e l => c_X3_sharesOf (at_VA_ro hp) e l V) ?_
    intro r9 M8
    refine hv_min dX5_dropsOn_137 lk5_109 lkM_min.1 lkM_i lkM_min.2 (Nat.le_of_ble_eq_true rfl) ?_
    refine jv_iconst (v := 2) dX5_dropsOn_140 (by decide) ?_
    refine jv_idiv dX5_dropsOn_141 (by decide) ?_
    exact vf_ret dX5_dropsOn_142 rfl
  exact vf_none
theorem c_X5_dropsOn {p : Nat} {M : pm_M} {x1 : Int32} {x2 : Int32} (hp : at_VA p) {r : Int32} {M' : pm_M} (h : f_X5_dropsOn p M x1 x2 = some (r, M')) (l : Launch) (V : pm_V) : pm_Ci l V skC yX5_dropsOn mX5_dropsOn 3 [.ref (V.1 p), .int x1, .int x2] M r M' := pm_metI (by decide) rfl (Nat.le_of_ble_eq_true rfl) h (fun _ => w_X5_dropsOn p M x1 x2 hp)
def f_X5_rest (M : pm_M) (x1 : Int32) (x2 : Int32) : Option (Int32 × pm_M) :=
  (if x2 ≤ 0 then (some (0, M)) else (pm_chk (pm_nz x2) (some ((pm_rem x1 x2), M))))
set_option maxHeartbeats 4000000 in
set_option maxRecDepth 100000 in
theorem w_X5_rest {X : pm_X} {V : pm_V} (M : pm_M) (x1 : Int32) (x2 : Int32)  : pm_VF (f_X5_rest M x1 x2) (pm_K X V mX5_rest 1 skC) (pm_J X V mX5_rest 1 (pm_wld V skC M) 0 [(0, .int x1), (1, .int x2)] []) := by
  unfold f_X5_rest
  refine jv_iloadn (j := 1) dX5_rest_0 rfl ?_
  refine jw_if_le (tgt := 10) dX5_rest_1 rfl (fun c1 => ?_) (fun c1 => ?_)
  · refine jv_iconst (v := 0) dX5_rest_10 (by decide) ?_
    exact vf_ret dX5_rest_11 rfl
  refine jv_iloadn (j := 0) dX5_rest_4 rfl ?_
  refine jv_iloadn (j := 1) dX5_rest_5 rfl ?_
  refine jv_iremC dX5_rest_6 ?_
  refine jv_goto (tgt := 11) dX5_rest_7 rfl ?_
  exact vf_ret dX5_rest_11 rfl
theorem c_X5_rest {M : pm_M} {x1 : Int32} {x2 : Int32}  {r : Int32} {M' : pm_M} (h : f_X5_rest M x1 x2 = some (r, M')) (l : Launch) (V : pm_V) : pm_Ci l V skC yX5_rest mX5_rest 1 [.int x1, .int x2] M r M' := pm_metI (by decide) rfl (Nat.le_of_ble_eq_true rfl) h (fun _ => w_X5_rest M x1 x2 )
def f_X5_nextOver (p : Nat) (M : pm_M) (x1 : Int32) : Option (Int32 × pm_M) :=
  (pm_chk (pm_in x1 5) (pm_let (M ((p + 13) + 1) x1.toNatClampNeg) (fun z1 : Int32 => (if z1.toInt < 3 ∨ 6 < z1.toInt then (pm_chk (pm_in x1 5) (pm_let ((M ((p + 13) + 3) x1.toNatClampNeg) + 1) (fun z2 : Int32 => (pm_b2 (f_X5_rest M z2 (M (p + 1) 0)) (fun (r4 : Int32) (M3 : pm_M) => (some (r4, M3))))))) else if z1 = 3 then (pm_chk (pm_in x1 5) (pm_let (M ((p + 13) + 2) x1.toNatClampNeg) (fun z5 : Int32 => (pm_b2 (f_X5_rest M z5 (M (p + 1) 0)) (fun (r7 : Int32) (M6 : pm_M) => (some (r7, M6))))))) else if z1 = 4 then (pm_chk (pm_in x1 5) (pm_chk (pm_in x1 5) (pm_let (((M ((p + 13) + 3) x1.toNatClampNeg) + 1) + (M ((p + 13) + 2) x1.toNatClampNeg)) (fun z8 : Int32 => (pm_b2 (f_X5_rest M z8 (M (p + 1) 0)) (fun (r10 : Int32) (M9 : pm_M) => (some (r10, M9)))))))) else if z1 = 5 then (pm_let (M p 3) (fun z11 : Int32 => (pm_b2 (f_X5_rest M z11 (M (p + 1) 0)) (fun (r13 : Int32) (M12 : pm_M) => (some (r13, M12)))))) else if z1 = 6 then (pm_chk (pm_in x1 5) (pm_let (M ((p + 13) + 2) x1.toNatClampNeg) (fun z14 : Int32 => (pm_b2 (f_X5_rest M z14 (M (p + 1) 0)) (fun (r16 : Int32) (M15 : pm_M) => (some (r16, M15))))))) else none))))
set_option maxHeartbeats 4000000 in
set_option maxRecDepth 100000 in
theorem w_X5_nextOver {X : pm_X} {V : pm_V} (p : Nat) (M : pm_M) (x1 : Int32) (hp : at_VA p) : pm_VF (f_X5_nextOver p M x1) (pm_K X V mX5_nextOver 2 skC) (pm_J X V mX5_nextOver 2 (pm_wld V skC M) 0 [(0, .ref (V.1 p)), (1, .int x1)] []) := by
  unfold f_X5_nextOver
  refine jv_aloadn (j := 0) dX5_nextOver_0 rfl ?_
  refine hv_getR dX5_nextOver_1 fl5_21 (at_VA_0 hp) rfl ?_
  refine hv_getR dX5_nextOver_4 fl5_96 (at_CL_0 (at_VA_cl hp)) rfl ?_
  refine jv_iloadn (j := 1) dX5_nextOver_7 rfl ?_
  refine hv_ialdC dX5_nextOver_8 (at_CL_1 (at_VA_cl hp)) (fun _ => ?_)
  refine vf_letS (fun z1 => ?_)
  refine vf_case (fun c9 => ?_) (fun _ => ?_)
  · refine jv_tout (tgt := 86) dX5_nextOver_9 c9 rfl ?_
    refine jv_aloadn (j := 0) dX5_nextOver_86 rfl ?_
    refine hv_getR dX5_nextOver_87 fl5_21 (at_VA_0 hp) rfl ?_
    refine hv_getR dX5_nextOver_90 fl5_112 (at_CL_0 (at_VA_cl hp)) rfl ?_
    refine jv_iloadn (j := 1) dX5_nextOver_93 rfl ?_
    refine hv_ialdC dX5_nextOver_94 (at_CL_3 (at_VA_cl hp)) (fun _ => ?_)
    refine jv_iconst (v := 1) dX5_nextOver_95 (by decide) ?_
    refine jv_iadd dX5_nextOver_96 ?_
    refine vf_letS (fun z2 => ?_)
    refine jv_istoren (L' := [(2, .int z2), (0, .ref (V.1 p)), (1, .int x1)]) dX5_nextOver_97 (Nat.le_of_ble_eq_true rfl) rfl ?_
    refine jv_iloadn (j := 0) dX5_nextOver_98 rfl ?_
    refine jv_aloadn (j := 1) dX5_nextOver_99 rfl ?_
    refine hv_getR dX5_nextOver_100 fl5_12 (at_VA_0 hp) rfl ?_
    refine hv_getI dX5_nextOver_103 fl5_115 (at_RO_0 (at_VA_ro hp)) rfl ?_
    refine hv_callS (As := [.int z2, .int (M (p + 1) 0)]) dX5_nextOver_106 lk5_118 kX5_rest nX5_rest (Nat.le_of_ble_eq_true rfl) (Nat.le_of_ble_eq_true rfl) rfl (fun _ _ e l => c_X5_rest  e l V) ?_
    intro r4 M3
    exact vf_ret dX5_nextOver_109 rfl
  refine vf_case (fun c9 => ?_) (fun _ => ?_)
  · refine jv_tin (v := 3) (tgt := 65) dX5_nextOver_9 c9 (by decide) (by decide) rfl rfl ?_
    refine jv_aloadn (j := 0) dX5_nextOver_65 rfl ?_
    refine hv_getR dX5_nextOver_66 fl5_21 (at_VA_0 hp) rfl ?_
    refine hv_getR dX5_nextOver_69 fl5_86 (at_CL_0 (at_VA_cl hp)) rfl ?_
    refine jv_iloadn (j := 1) dX5_nextOver_72 rfl ?_
    refine hv_ialdC dX5_nextOver_73 (at_CL_2 (at_VA_cl hp)) (fun _ => ?_)
    refine vf_letS (fun z5 => ?_)
    refine jv_istoren (L' := [(2, .int z5), (0, .ref (V.1 p)), (1, .int x1)]) dX5_nextOver_74 (Nat.le_of_ble_eq_true rfl) rfl ?_
    refine jv_goto (tgt := 98) dX5_nextOver_75 rfl ?_
    refine jv_iloadn (j := 0) dX5_nextOver_98 rfl ?_
    refine jv_aloadn (j := 1) dX5_nextOver_99 rfl ?_
    refine hv_getR dX5_nextOver_100 fl5_12 (at_VA_0 hp) rfl ?_
    refine hv_getI dX5_nextOver_103 fl5_115 (at_RO_0 (at_VA_ro hp)) rfl ?_
    refine hv_callS (As := [.int z5, .int (M (p + 1) 0)]) dX5_nextOver_106 lk5_118 kX5_rest nX5_rest (Nat.le_of_ble_eq_true rfl) (Nat.le_of_ble_eq_true rfl) rfl (fun _ _ e l => c_X5_rest  e l V) ?_
    intro r7 M6
    exact vf_ret dX5_nextOver_109 rfl
  refine vf_case (fun c9 => ?_) (fun _ => ?_)
  · refine jv_tin (v := 4) (tgt := 40) dX5_nextOver_9 c9 (by decide) (by decide) rfl rfl ?_
    refine jv_aloadn (j := 0) dX5_nextOver_40 rfl ?_
    refine hv_getR dX5_nextOver_41 fl5_21 (at_VA_0 hp) rfl ?_
    refine hv_getR dX5_nextOver_44 fl5_112 (at_CL_0 (at_VA_cl hp)) rfl ?_
    refine jv_iloadn (j := 1) dX5_nextOver_47 rfl ?_
    refine hv_ialdC dX5_nextOver_48 (at_CL_3 (at_VA_cl hp)) (fun _ => ?_)
    refine jv_iconst (v := 1) dX5_nextOver_49 (by decide) ?_
    refine jv_iadd dX5_nextOver_50 ?_
    refine jv_aloadn (j := 0) dX5_nextOver_51 rfl ?_
    refine hv_getR dX5_nextOver_52 fl5_21 (at_VA_0 hp) rfl ?_
    refine hv_getR dX5_nextOver_55 fl5_86 (at_CL_0 (at_VA_cl hp)) rfl ?_
    refine jv_iloadn (j := 1) dX5_nextOver_58 rfl ?_
    refine hv_ialdC dX5_nextOver_59 (at_CL_2 (at_VA_cl hp)) (fun _ => ?_)
    refine jv_iadd dX5_nextOver_60 ?_
    refine vf_letS (fun z8 => ?_)
    refine jv_istoren (L' := [(2, .int z8), (0, .ref (V.1 p)), (1, .int x1)]) dX5_nextOver_61 (Nat.le_of_ble_eq_true rfl) rfl ?_
    refine jv_goto (tgt := 98) dX5_nextOver_62 rfl ?_
    refine jv_iloadn (j := 0) dX5_nextOver_98 rfl ?_
    refine jv_aloadn (j := 1) dX5_nextOver_99 rfl ?_
    refine hv_getR dX5_nextOver_100 fl5_12 (at_VA_0 hp) rfl ?_
    refine hv_getI dX5_nextOver_103 fl5_115 (at_RO_0 (at_VA_ro hp)) rfl ?_
    refine hv_callS (As := [.int z8, .int (M (p + 1) 0)]) dX5_nextOver_106 lk5_118 kX5_rest nX5_rest (Nat.le_of_ble_eq_true rfl) (Nat.le_of_ble_eq_true rfl) rfl (fun _ _ e l => c_X5_rest  e l V) ?_
    intro r10 M9
    exact vf_ret dX5_nextOver_109 rfl
  refine vf_case (fun c9 => ?_) (fun _ => ?_)
  · refine jv_tin (v := 5) (tgt := 78) dX5_nextOver_9 c9 (by decide) (by decide) rfl rfl ?_
    refine jv_aloadn (j := 0) dX5_nextOver_78 rfl ?_
    refine hv_getI dX5_nextOver_79 fl5_34 (at_VA_0 hp) rfl ?_
    refine vf_letS (fun z11 => ?_)
    refine jv_istoren (L' := [(2, .int z11), (0, .ref (V.1 p)), (1, .int x1)]) dX5_nextOver_82 (Nat.le_of_ble_eq_true rfl) rfl ?_
    refine jv_goto (tgt := 98) dX5_nextOver_83 rfl ?_
    refine jv_iloadn (j := 0) dX5_nextOver_98 rfl ?_
    refine jv_aloadn (j := 1) dX5_nextOver_99 rfl ?_
    refine hv_getR dX5_nextOver_100 fl5_12 (at_VA_0 hp) rfl ?_
    refine hv_getI dX5_nextOver_103 fl5_115 (at_RO_0 (at_VA_ro hp)) rfl ?_
    refine hv_callS (As := [.int z11, .int (M (p + 1) 0)]) dX5_nextOver_106 lk5_118 kX5_rest nX5_rest (Nat.le_of_ble_eq_true rfl) (Nat.le_of_ble_eq_true rfl) rfl (fun _ _ e l => c_X5_rest  e l V) ?_
    intro r13 M12
    exact vf_ret dX5_nextOver_109 rfl
  refine vf_case (fun c9 => ?_) (fun _ => ?_)
  · refine jv_tin (v := 6) (tgt := 65) dX5_nextOver_9 c9 (by decide) (by decide) rfl rfl ?_
    refine jv_aloadn (j := 0) dX5_nextOver_65 rfl ?_
    refine hv_getR dX5_nextOver_66 fl5_21 (at_VA_0 hp) rfl ?_
    refine hv_getR dX5_nextOver_69 fl5_86 (at_CL_0 (at_VA_cl hp)) rfl ?_
    refine jv_iloadn (j := 1) dX5_nextOver_72 rfl ?_
    refine hv_ialdC dX5_nextOver_73 (at_CL_2 (at_VA_cl hp)) (fun _ => ?_)
    refine vf_letS (fun z14 => ?_)
    refine jv_istoren (L' := [(2, .int z14), (0, .ref (V.1 p)), (1, .int x1)]) dX5_nextOver_74 (Nat.le_of_ble_eq_true rfl) rfl ?_
    refine jv_goto (tgt := 98) dX5_nextOver_75 rfl ?_
    refine jv_iloadn (j := 0) dX5_nextOver_98 rfl ?_
    refine jv_aloadn (j := 1) dX5_nextOver_99 rfl ?_
    refine hv_getR dX5_nextOver_100 fl5_12 (at_VA_0 hp) rfl ?_
    refine hv_getI dX5_nextOver_103 fl5_115 (at_RO_0 (at_VA_ro hp)) rfl ?_
    refine hv_callS (As := [.int z14, .int (M (p + 1) 0)]) dX5_nextOver_106 lk5_118 kX5_rest nX5_rest (Nat.le_of_ble_eq_true rfl) (Nat.le_of_ble_eq_true rfl) rfl (fun _ _ e l => c_X5_rest  e l V) ?_
    intro r16 M15
    exact vf_ret dX5_nextOver_109 rfl
  exact vf_none
theorem c_X5_nextOver {p : Nat} {M : pm_M} {x1 : Int32} (hp : at_VA p) {r : Int32} {M' : pm_M} (h : f_X5_nextOver p M x1 = some (r, M')) (l : Launch) (V : pm_V) : pm_Ci l V skC yX5_nextOver mX5_nextOver 2 [.ref (V.1 p), .int x1] M r M' := pm_metI (by decide) rfl (Nat.le_of_ble_eq_true rfl) h (fun _ => w_X5_nextOver p M x1 hp)
def lb_X5_aim_26 (p : Nat) (r2 : Int32) (ih : Int32 → pm_M → Option (pm_M)) : Int32 → pm_M → Option (pm_M) := fun (l2 : Int32) (Ml : pm_M) =>
  (if (Ml (p + 13) 0) ≤ l2 then (some Ml) else (pm_b2 (f_X0_isSpent (p + 13) Ml l2) (fun (r27003 : Int32) (M27002 : pm_M) => (if r27003 = 0 then (if r2 < 0 then (pm_chk (pm_in l2 5) (pm_chk (pm_in l2 5) (pm_let (pm_up M27002 (p + 28) l2.toNatClampNeg (M27002 ((p + 13) + 3) l2.toNatClampNeg)) (fun M27004 : pm_M => (pm_chk (pm_in l2 5) (pm_b2 (f_X5_dropsOn p M27004 l2 (M27004 (p + 28) l2.toNatClampNeg)) (fun (r27006 : Int32) (M27005 : pm_M) => (pm_chk (pm_in l2 5) (pm_let (pm_up M27005 (p + 29) l2.toNatClampNeg r27006) (fun M27007 : pm_M => (ih (l2 + 1) M27007))))))))))) else (pm_chk (pm_in l2 5) (pm_let (pm_up M27002 (p + 28) l2.toNatClampNeg r2) (fun M27008 : pm_M => (pm_chk (pm_in l2 5) (pm_b2 (f_X5_dropsOn p M27008 l2 (M27008 (p + 28) l2.toNatClampNeg)) (fun (r27010 : Int32) (M27009 : pm_M) => (pm_chk (pm_in l2 5) (pm_let (pm_up M27009 (p + 29) l2.toNatClampNeg r27010) (fun M27011 : pm_M => (ih (l2 + 1) M27011))))))))))) else (pm_chk (pm_in l2 5) (pm_let (pm_up M27002 (p + 28) l2.toNatClampNeg (-1)) (fun M27012 : pm_M => (pm_chk (pm_in l2 5) (pm_let (pm_up M27012 (p + 29) l2.toNatClampNeg 0) (fun M27013 : pm_M => (ih (l2 + 1) M27013)))))))))))
def lp_X5_aim_26 (p : Nat) (r2 : Int32) : Int32 → pm_M → Option (pm_M) := pm_it (fun _ _ => none) (lb_X5_aim_26 p r2) pm_F
def lb_X5_aim_26b (p : Nat) (ih : Int32 → pm_M → Option (pm_M)) : Int32 → pm_M → Option (pm_M) := fun (l2 : Int32) (Ml : pm_M) =>
  (if (Ml (p + 13) 0) ≤ l2 then (some Ml) else (pm_b2 (f_X0_isSpent (p + 13) Ml l2) (fun (r27003 : Int32) (M27002 : pm_M) => (if r27003 = 0 then (pm_chk (pm_in l2 5) (pm_chk (pm_in l2 5) (pm_let (pm_up M27002 (p + 28) l2.toNatClampNeg (M27002 ((p + 13) + 3) l2.toNatClampNeg)) (fun M27004 : pm_M => (pm_chk (pm_in l2 5) (pm_b2 (f_X5_dropsOn p M27004 l2 (M27004 (p + 28) l2.toNatClampNeg)) (fun (r27006 : Int32) (M27005 : pm_M) => (pm_chk (pm_in l2 5) (pm_let (pm_up M27005 (p + 29) l2.toNatClampNeg r27006) (fun M27007 : pm_M => (ih (l2 + 1) M27007))))))))))) else (pm_chk (pm_in l2 5) (pm_let (pm_up M27002 (p + 28) l2.toNatClampNeg (-1)) (fun M27008 : pm_M => (pm_chk (pm_in l2 5) (pm_let (pm_up M27008 (p + 29) l2.toNatClampNeg 0) (fun M27009 : pm_M => (ih (l2 + 1) M27009)))))))))))
def lp_X5_aim_26b (p : Nat) : Int32 → pm_M → Option (pm_M) := pm_it (fun _ _ => none) (lb_X5_aim_26b p) pm_F
def f_X5_aim (p : Nat) (M : pm_M) : Option pm_M :=
  (if (pm_rem (M p 3) 7) = 6 then (pm_b2 (f_X3_mostInArrears (p + 1) M) (fun (r2 : Int32) (M1 : pm_M) => (pm_b1 (lp_X5_aim_26 p r2 0 M1) (fun (M3 : pm_M) => (some M3))))) else (pm_b1 (lp_X5_aim_26b p 0 M) (fun (M4 : pm_M) => (some M4))))
set_option maxHeartbeats 4000000 in
set_option maxRecDepth 100000 in
theorem wl_X5_aim_26 {X : pm_X} {V : pm_V} (p : Nat) (r2 : Int32) (hp : at_VA p) : ∀ (l2 : Int32) (Ml : pm_M), pm_VF (lp_X5_aim_26 p r2 l2 Ml) (fun b => (fun (Ml : pm_M) => pm_J X V mX5_aim 4 (pm_wld V skC Ml) 111 [] []) b) (pm_J X V mX5_aim 4 (pm_wld V skC Ml) 26 [(0, .ref (V.1 p)), (1, .int r2), (2, .int l2)] []) := by
  refine pm_it_ind (P := fun (f : Int32 → pm_M → Option (pm_M)) => ∀ (l2 : Int32) (Ml : pm_M), pm_VF (f l2 Ml) (fun b => (fun (Ml : pm_M) => pm_J X V mX5_aim 4 (pm_wld V skC Ml) 111 [] []) b) (pm_J X V mX5_aim 4 (pm_wld V skC Ml) 26 [(0, .ref (V.1 p)), (1, .int r2), (2, .int l2)] [])) (fun _ _ => vf_none) (fun ih hih l2 Ml => ?_) pm_F
  · unfold lb_X5_aim_26
    refine jv_iloadn (j := 2) dX5_aim_26 rfl ?_
    refine jv_aloadn (j := 0) dX5_aim_27 rfl ?_
    refine hv_getR dX5_aim_28 fl5_21 (at_VA_0 hp) rfl ?_
    refine hv_getI dX5_aim_31 fl5_137 (at_CL_0 (at_VA_cl hp)) rfl ?_
    refine jw_ic_ge (tgt := 111) dX5_aim_34 rfl (fun c34 => ?_) (fun c34 => ?_)
    · exact vf_end (fun g => jr_sub [] rfl g)
    refine jv_aloadn (j := 0) dX5_aim_37 rfl ?_
    refine hv_getR dX5_aim_38 fl5_21 (at_VA_0 hp) rfl ?_
    refine jv_iloadn (j := 2) dX5_aim_41 rfl ?_
    refine hv_callI (As := [.int l2]) dX5_aim_42 lk5_138 kX0_isSpent nX0_isSpent (Nat.le_of_ble_eq_true rfl) (Nat.le_of_ble_eq_true rfl) (at_CL_0 (at_VA_cl hp)) rfl rfl rfl (fun _ _ e l => c_X0_isSpent (at_VA_cl hp) e l V) ?_
    intro r27003 M27002
    refine jw_if_eq (tgt := 65) dX5_aim_45 rfl (fun c45 => ?_) (fun c45 => ?_)
    · refine jv_aloadn (j := 0) dX5_aim_65 rfl ?_
      refine hv_getR dX5_aim_66 fl5_57 (at_VA_0 hp) rfl ?_
      refine jv_iloadn (j := 2) dX5_aim_69 rfl ?_
      refine jv_iloadn (j := 1) dX5_aim_70 rfl ?_
      refine jw_if_lt (tgt := 78) dX5_aim_71 rfl (fun c71 => ?_) (fun c71 => ?_)
      · refine jv_aloadn (j := 0) dX5_aim_78 rfl ?_
        refine hv_getR dX5_aim_79 fl5_21 (at_VA_0 hp) rfl ?_
        refine hv_getR dX5_aim_82 fl5_112 (at_CL_0 (at_VA_cl hp)) rfl ?_
        refine jv_iloadn (j := 2) dX5_aim_85 rfl ?_
        refine hv_ialdC dX5_aim_86 (at_CL_3 (at_VA_cl hp)) (fun _ => ?_)
        refine hv_iastC dX5_aim_87 (at_VA_28 hp) (fun _ => ?_)
        refine vf_letM (fun M27004 => ?_)
        refine jv_aloadn (j := 0) dX5_aim_88 rfl ?_
        refine hv_getR dX5_aim_89 fl5_60 (at_VA_0 hp) rfl ?_
        refine jv_iloadn (j := 2) dX5_aim_92 rfl ?_
        refine jv_aloadn (j := 0) dX5_aim_93 rfl ?_
        refine jv_iloadn (j := 2) dX5_aim_94 rfl ?_
        refine jv_aloadn (j := 0) dX5_aim_95 rfl ?_
        refine hv_getR dX5_aim_96 fl5_57 (at_VA_0 hp) rfl ?_
        refine jv_iloadn (j := 2) dX5_aim_99 rfl ?_
        refine hv_ialdC dX5_aim_100 (at_VA_28 hp) (fun _ => ?_)
        refine hv_callI (As := [.int l2, .int (M27004 (p + 28) l2.toNatClampNeg)]) dX5_aim_101 lk5_142 kX5_dropsOn nX5_dropsOn (Nat.le_of_ble_eq_true rfl) (Nat.le_of_ble_eq_true rfl) (at_VA_0 hp) rfl rfl rfl (fun _ _ e l => c_X5_dropsOn hp e l V) ?_
        intro r27006 M27005
        refine hv_iastC dX5_aim_104 (at_VA_29 hp) (fun _ => ?_)
        refine vf_letM (fun M27007 => ?_)
        refine jv_iinc (j := 2) (v := l2 + 1) (L' := [(2, .int (l2 + 1)), (0, .ref (V.1 p)), (1, .int r2)]) dX5_aim_105 rfl rfl (Nat.le_of_ble_eq_true rfl) rfl ?_
        refine jv_goto (tgt := 26) dX5_aim_108 rfl ?_
        exact vf_j (fun g => jr_sub [1, 2, 0] rfl g) (hih (l2 + 1) M27007)
      refine jv_iloadn (j := 1) dX5_aim_74 rfl ?_
      refine jv_goto (tgt := 87) dX5_aim_75 rfl ?_
      refine hv_iastC dX5_aim_87 (at_VA_28 hp) (fun _ => ?_)
      refine vf_letM (fun M27008 => ?_)
      refine jv_aloadn (j := 0) dX5_aim_88 rfl ?_
      refine hv_getR dX5_aim_89 fl5_60 (at_VA_0 hp) rfl ?_
      refine jv_iloadn (j := 2) dX5_aim_92 rfl ?_
      refine jv_aloadn (j := 0) dX5_aim_93 rfl ?_
      refine jv_iloadn (j := 2) dX5_aim_94 rfl ?_
      refine jv_aloadn (j := 0) dX5_aim_95 rfl ?_
      refine hv_getR dX5_aim_96 fl5_57 (at_VA_0 hp) rfl ?_
      refine jv_iloadn (j := 2) dX5_aim_99 rfl ?_
      refine hv_ialdC dX5_aim_100 (at_VA_28 hp) (fun _ => ?_)
      refine hv_callI (As := [.int l2, .int (M27008 (p + 28) l2.toNatClampNeg)]) dX5_aim_101 lk5_142 kX5_dropsOn nX5_dropsOn (Nat.le_of_ble_eq_true rfl) (Nat.le_of_ble_eq_true rfl) (at_VA_0 hp) rfl rfl rfl (fun _ _ e l => c_X5_dropsOn hp e l V) ?_
      intro r27010 M27009
      refine hv_iastC dX5_aim_104 (at_VA_29 hp) (fun _ => ?_)
      refine vf_letM (fun M27011 => ?_)
      refine jv_iinc (j := 2) (v := l2 + 1) (L' := [(2, .int (l2 + 1)), (0, .ref (V.1 p)), (1, .int r2)]) dX5_aim_105 rfl rfl (Nat.le_of_ble_eq_true rfl) rfl ?_
      refine jv_goto (tgt := 26) dX5_aim_108 rfl ?_
      exact vf_j (fun g => jr_sub [1, 2, 0] rfl g) (hih (l2 + 1) M27011)
    refine jv_aloadn (j := 0) dX5_aim_48 rfl ?_
    refine hv_getR dX5_aim_49 fl5_57 (at_VA_0 hp) rfl ?_
    refine jv_iloadn (j := 2) dX5_aim_52 rfl ?_
    refine jv_iconst (v := -1) dX5_aim_53 (by decide) ?_
    refine hv_iastC dX5_aim_54 (at_VA_28 hp) (fun _ => ?_)
    refine vf_letM (fun M27012 => ?_)
    refine jv_aloadn (j := 0) dX5_aim_55 rfl ?_
    refine hv_getR dX5_aim_56 fl5_60 (at_VA_0 hp) rfl ?_
    refine jv_iloadn (j := 2) dX5_aim_59 rfl ?_
    refine jv_iconst (v := 0) dX5_aim_60 (by decide) ?_
    refine hv_iastC dX5_aim_61 (at_VA_29 hp) (fun _ => ?_)
    refine vf_letM (fun M27013 => ?_)
    refine jv_goto (tgt := 105) dX5_aim_62 rfl ?_
    refine jv_iinc (j := 2) (v := l2 + 1) (L' := [(2, .int (l2 + 1)), (0, .ref (V.1 p)), (1, .int r2)]) dX5_aim_105 rfl rfl (Nat.le_of_ble_eq_true rfl) rfl ?_
    refine jv_goto (tgt := 26) dX5_aim_108 rfl ?_
    exact vf_j (fun g => jr_sub [1, 2, 0] rfl g) (hih (l2 + 1) M27013)
set_option maxHeartbeats 4000000 in
set_option maxRecDepth 100000 in
theorem wl_X5_aim_26b {X : pm_X} {V : pm_V} (p : Nat) (hp : at_VA p) : ∀ (l2 : Int32) (Ml : pm_M), pm_VF (lp_X5_aim_26b p l2 Ml) (fun b => (fun (Ml : pm_M) => pm_J X V mX5_aim 4 (pm_wld V skC Ml) 111 [] []) b) (pm_J X V mX5_aim 4 (pm_wld V skC Ml) 26 [(0, .ref (V.1 p)), (1, .int (-1)), (2, .int l2)] []) := by
  refine pm_it_ind (P := fun (f : Int32 → pm_M → Option (pm_M)) => ∀ (l2 : Int32) (Ml : pm_M), pm_VF (f l2 Ml) (fun b => (fun (Ml : pm_M) => pm_J X V mX5_aim 4 (pm_wld V skC Ml) 111 [] []) b) (pm_J X V mX5_aim 4 (pm_wld V skC Ml) 26 [(0, .ref (V.1 p)), (1, .int (-1)), (2, .int l2)] [])) (fun _ _ => vf_none) (fun ih hih l2 Ml => ?_) pm_F
  · unfold lb_X5_aim_26b
    refine jv_iloadn (j := 2) dX5_aim_26 rfl ?_
    refine jv_aloadn (j := 0) dX5_aim_27 rfl ?_
    refine hv_getR dX5_aim_28 fl5_21 (at_VA_0 hp) rfl ?_
    refine hv_getI dX5_aim_31 fl5_137 (at_CL_0 (at_VA_cl hp)) rfl ?_
    refine jw_ic_ge (tgt := 111) dX5_aim_34 rfl (fun c34 => ?_) (fun c34 => ?_)
    · exact vf_end (fun g => jr_sub [] rfl g)
    refine jv_aloadn (j := 0) dX5_aim_37 rfl ?_
    refine hv_getR dX5_aim_38 fl5_21 (at_VA_0 hp) rfl ?_
    refine jv_iloadn (j := 2) dX5_aim_41 rfl ?_
    refine hv_callI (As := [.int l2]) dX5_aim_42 lk5_138 kX0_isSpent nX0_isSpent (Nat.le_of_ble_eq_true rfl) (Nat.le_of_ble_eq_true rfl) (at_CL_0 (at_VA_cl hp)) rfl rfl rfl (fun _ _ e l => c_X0_isSpent (at_VA_cl hp) e l V) ?_
    intro r27003 M27002
    refine jw_if_eq (tgt := 65) dX5_aim_45 rfl (fun c45 => ?_) (fun c45 => ?_)
    · refine jv_aloadn (j := 0) dX5_aim_65 rfl ?_
      refine hv_getR dX5_aim_66 fl5_57 (at_VA_0 hp) rfl ?_
      refine jv_iloadn (j := 2) dX5_aim_69 rfl ?_
      refine jv_iloadn (j := 1) dX5_aim_70 rfl ?_
      refine vf_j (fun g => jr_if_lt (tgt := 78) dX5_aim_71 rfl (fun _ => g) (fun h => absurd (by decide) h)) ?_
      refine jv_aloadn (j := 0) dX5_aim_78 rfl ?_
      refine hv_getR dX5_aim_79 fl5_21 (at_VA_0 hp) rfl ?_
      refine hv_getR dX5_aim_82 fl5_112 (at_CL_0 (at_VA_cl hp)) rfl ?_
      refine jv_iloadn (j := 2) dX5_aim_85 rfl ?_
      refine hv_ialdC dX5_aim_86 (at_CL_3 (at_VA_cl hp)) (fun _ => ?_)
      refine hv_iastC dX5_aim_87 (at_VA_28 hp) (fun _ => ?_)
      refine vf_letM (fun M27004 => ?_)
      refine jv_aloadn (j := 0) dX5_aim_88 rfl ?_
      refine hv_getR dX5_aim_89 fl5_60 (at_VA_0 hp) rfl ?_
      refine jv_iloadn (j := 2) dX5_aim_92 rfl ?_
      refine jv_aloadn (j := 0) dX5_aim_93 rfl ?_
      refine jv_iloadn (j := 2) dX5_aim_94 rfl ?_
      refine jv_aloadn (j := 0) dX5_aim_95 rfl ?_
      refine hv_getR dX5_aim_96 fl5_57 (at_VA_0 hp) rfl ?_
      refine jv_iloadn (j := 2) dX5_aim_99 rfl ?_
      refine hv_ialdC dX5_aim_100 (at_VA_28 hp) (fun _ => ?_)
      refine hv_callI (As := [.int l2, .int (M27004 (p + 28) l2.toNatClampNeg)]) dX5_aim_101 lk5_142 kX5_dropsOn nX5_dropsOn (Nat.le_of_ble_eq_true rfl) (Nat.le_of_ble_eq_true rfl) (at_VA_0 hp) rfl rfl rfl (fun _ _ e l => c_X5_dropsOn hp e l V) ?_
      intro r27006 M27005
      refine hv_iastC dX5_aim_104 (at_VA_29 hp) (fun _ => ?_)
      refine vf_letM (fun M27007 => ?_)
      refine jv_iinc (j := 2) (v := l2 + 1) (L' := [(2, .int (l2 + 1)), (0, .ref (V.1 p)), (1, .int (-1))]) dX5_aim_105 rfl rfl (Nat.le_of_ble_eq_true rfl) rfl ?_
      refine jv_goto (tgt := 26) dX5_aim_108 rfl ?_
      exact vf_j (fun g => jr_sub [1, 2, 0] rfl g) (hih (l2 + 1) M27007)
    refine jv_aloadn (j := 0) dX5_aim_48 rfl ?_
    refine hv_getR dX5_aim_49 fl5_57 (at_VA_0 hp) rfl ?_
    refine jv_iloadn (j := 2) dX5_aim_52 rfl ?_
    refine jv_iconst (v := -1) dX5_aim_53 (by decide) ?_
    refine hv_iastC dX5_aim_54 (at_VA_28 hp) (fun _ => ?_)
    refine vf_letM (fun M27008 => ?_)
    refine jv_aloadn (j := 0) dX5_aim_55 rfl ?_
    refine hv_getR dX5_aim_56 fl5_60 (at_VA_0 hp) rfl ?_
    refine jv_iloadn (j := 2) dX5_aim_59 rfl ?_
    refine jv_iconst (v := 0) dX5_aim_60 (by decide) ?_
    refine hv_iastC dX5_aim_61 (at_VA_29 hp) (fun _ => ?_)
    refine vf_letM (fun M27009 => ?_)
    refine jv_goto (tgt := 105) dX5_aim_62 rfl ?_
    refine jv_iinc (j := 2) (v := l2 + 1) (L' := [(2, .int (l2 + 1)), (0, .ref (V.1 p)), (1, .int (-1))]) dX5_aim_105 rfl rfl (Nat.le_of_ble_eq_true rfl) rfl ?_
    refine jv_goto (tgt := 26) dX5_aim_108 rfl ?_
    exact vf_j (fun g => jr_sub [1, 2, 0] rfl g) (hih (l2 + 1) M27009)
set_option maxHeartbeats 4000000 in
set_option maxRecDepth 100000 in
theorem w_X5_aim {X : pm_X} {V : pm_V} (p : Nat) (M : pm_M) (hp : at_VA p) : pm_VF (f_X5_aim p M) (pm_Kv X V mX5_aim 4 skC) (pm_J X V mX5_aim 4 (pm_wld V skC M) 0 [(0, .ref (V.1 p))] []) := by
  unfold f_X5_aim
  refine jv_aloadn (j := 0) dX5_aim_0 rfl ?_
  refine hv_getI dX5_aim_1 fl5_34 (at_VA_0 hp) rfl ?_
  refine jv_bipush (v := 7) dX5_aim_4 (by decide) ?_
  refine jv_irem dX5_aim_6 (by decide) ?_
  refine jv_bipush (v := 6) dX5_aim_7 (by decide) ?_
  refine jw_ic_ne (tgt := 22) dX5_aim_9 rfl (fun c9 => ?_) (fun c9 => ?_)
  · refine jv_aloadn (j := 0) dX5_aim_12 rfl ?_
    refine hv_getR dX5_aim_13 fl5_12 (at_VA_0 hp) rfl ?_
    refine hv_callI (As := []) dX5_aim_16 lk5_133 kX3_mostInArrears nX3_mostInArrears (Nat.le_of_ble_eq_true rfl) (Nat.le_of_ble_eq_true rfl) (at_RO_0 (at_VA_ro hp)) rfl rfl rfl (fun _ _ e l => c_X3_mostInArrears (at_VA_ro hp) e l V) ?_
    intro r2 M1
    refine jv_goto (tgt := 23) dX5_aim_19 rfl ?_
    refine jv_istoren (L' := [(1, .int r2), (0, .ref (V.1 p))]) dX5_aim_23 (Nat.le_of_ble_eq_true rfl) rfl ?_
    refine jv_iconst (v := 0) dX5_aim_24 (by decide) ?_
    refine jv_istoren (L' := [(2, .int 0), (1, .int r2), (0, .ref (V.1 p))]) dX5_aim_25 (Nat.le_of_ble_eq_true rfl) rfl ?_
    refine vl_b1 (P := fun (Ml : pm_M) => pm_J X V mX5_aim 4 (pm_wld V skC Ml) 111 [] []) (vf_j (fun g => jr_sub [2, 1, 0] rfl g) (wl_X5_aim_26 p r2 hp 0 M1)) ?_
    intro M3
    exact vf_vret dX5_aim_111
  refine jv_iconst (v := -1) dX5_aim_22 (by decide) ?_
  refine jv_istoren (L' := [(1, .int (-1)), (0, .ref (V.1 p))]) dX5_aim_23 (Nat.le_of_ble_eq_true rfl) rfl ?_
  refine jv_iconst (v := 0) dX5_aim_24 (by decide) ?_
  refine jv_istoren (L' := [(2, .int 0), (1, .int (-1)), (0, .ref (V.1 p))]) dX5_aim_25 (Nat.le_of_ble_eq_true rfl) rfl ?_
  refine vl_b1 (P := fun (Ml : pm_M) => pm_J X V mX5_aim 4 (pm_wld V skC Ml) 111 [] []) (vf_j (fun g => jr_sub [2, 1, 0] rfl g) (wl_X5_aim_26b p hp 0 M)) ?_
  intro M4
  exact vf_vret dX5_aim_111
theorem c_X5_aim {p : Nat} {M : pm_M} (hp : at_VA p) {M' : pm_M} (h : f_X5_aim p M = some M') (l : Launch) (V : pm_V) : pm_Cv l V skC yX5_aim mX5_aim 4 [.ref (V.1 p)] M M' := pm_metV (by decide) rfl (Nat.le_of_ble_eq_true rfl) rfl h (fun _ => w_X5_aim p M hp)
def lb_X5_rain_2 (p : Nat) (ih : Int32 → pm_M → Option (pm_M)) : Int32 → pm_M → Option (pm_M) := fun (l1 : Int32) (Ml : pm_M) =>
  (if 6 ≤ l1 then (some Ml) else (pm_chk (pm_in l1 6) (pm_let (pm_up Ml (p + 27) l1.toNatClampNeg 0) (fun M3002 : pm_M => (ih (l1 + 1) M3002)))))
def lp_X5_rain_2 (p : Nat) : Int32 → pm_M → Option (pm_M) := pm_it (fun _ _ => none) (lb_X5_rain_2 p) pm_F
def lb_X5_rain_23 (p : Nat) (ih : Int32 → pm_M → Option (pm_M)) : Int32 → pm_M → Option (pm_M) := fun (l1 : Int32) (Ml : pm_M) =>
  (if (Ml (p + 13) 0) ≤ l1 then (some Ml) else (pm_chk (pm_in l1 5) (pm_let (Ml (p + 28) l1.toNatClampNeg) (fun z24002 : Int32 => (pm_b2 (f_X3_has (p + 1) Ml z24002) (fun (r24004 : Int32) (M24003 : pm_M) => (if r24004 = 0 then (ih (l1 + 1) M24003) else (pm_chk (pm_in z24002 6) (pm_chk (pm_in l1 5) (pm_chk (pm_in z24002 6) (pm_let (pm_up M24003 (p + 27) z24002.toNatClampNeg ((M24003 (p + 27) z24002.toNatClampNeg) + (M24003 (p + 29) l1.toNatClampNeg))) (fun M24005 : pm_M => (pm_chk (pm_in z24002 6) (pm_chk (pm_in l1 5) (pm_chk (pm_in z24002 6) (pm_let (pm_up M24005 ((p + 1) + 3) z24002.toNatClampNeg (pm_min 99999 ((M24005 ((p + 1) + 3) z24002.toNatClampNeg) + (M24005 (p + 29) l1.toNatClampNeg)))) (fun M24006 : pm_M => (pm_chk (pm_in l1 5) (pm_chk (pm_in l1 5) (pm_let (pm_up M24006 ((p + 13) + 4) l1.toNatClampNeg (pm_min 99 ((M24006 ((p + 13) + 4) l1.toNatClampNeg) + 1))) (fun M24007 : pm_M => (ih (l1 + 1) M24007))))))))))))))))))))))
def lp_X5_rain_23 (p : Nat) : Int32 → pm_M → Option (pm_M) := pm_it (fun _ _ => none) (lb_X5_rain_23 p) pm_F
def f_X5_rain (p : Nat) (M : pm_M) : Option pm_M :=
  (pm_b1 (lp_X5_rain_2 p 0 M) (fun (M1 : pm_M) => (pm_b1 (lp_X5_rain_23 p 0 M1) (fun (M2 : pm_M) => (some M2)))))
set_option maxHeartbeats 4000000 in
set_option maxRecDepth 100000 in
theorem wl_X5_rain_2 {X : pm_X} {V : pm_V} (p : Nat) (hp : at_VA p) : ∀ (l1 : Int32) (Ml : pm_M), pm_VF (lp_X5_rain_2 p l1 Ml) (fun b => (fun (Ml : pm_M) => pm_J X V mX5_rain 2 (pm_wld V skC Ml) 21 [(0, .ref (V.1 p))] []) b) (pm_J X V mX5_rain 2 (pm_wld V skC Ml) 2 [(0, .ref (V.1 p)), (1, .int l1)] []) := by
  refine pm_it_ind (P := fun (f : Int32 → pm_M → Option (pm_M)) => ∀ (l1 : Int32) (Ml : pm_M), pm_VF (f l1 Ml) (fun b => (fun (Ml : pm_M) => pm_J X V mX5_rain 2 (pm_wld V skC Ml) 21 [(0, .ref (V.1 p))] []) b) (pm_J X V mX5_rain 2 (pm_wld V skC Ml) 2 [(0, .ref (V.1 p)), (1, .int l1)] [])) (fun _ _ => vf_none) (fun ih hih l1 Ml => ?_) pm_F
  · unfold lb_X5_rain_2
    refine jv_iloadn (j := 1) dX5_rain_2 rfl ?_
    refine jv_bipush (v := 6) dX5_rain_3 (by decide) ?_
    refine jw_ic_ge (tgt := 21) dX5_rain_5 rfl (fun c5 => ?_) (fun c5 => ?_)
    · exact vf_end (fun g => jr_sub [0] rfl g)
    refine jv_aloadn (j := 0) dX5_rain_8 rfl ?_
    refine hv_getR dX5_rain_9 fl5_54 (at_VA_0 hp) rfl ?_
    refine jv_iloadn (j := 1) dX5_rain_12 rfl ?_
    refine jv_iconst (v := 0) dX5_rain_13 (by decide) ?_
    refine hv_iastC dX5_rain_14 (at_VA_27 hp) (fun _ => ?_)
    refine vf_letM (fun M3002 => ?_)
    refine jv_iinc (j := 1) (v := l1 + 1) (L' := [(1, .int (l1 + 1)), (0, .ref (V.1 p))]) dX5_rain_15 rfl rfl (Nat.le_of_ble_eq_true rfl) rfl ?_
    refine jv_goto (tgt := 2) dX5_rain_18 rfl ?_
    exact vf_j (fun g => jr_sub [1, 0] rfl g) (hih (l1 + 1) M3002)
set_option maxHeartbeats 4000000 in
set_option maxRecDepth 100000 in
theorem wl_X5_rain_23 {X : pm_X} {V : pm_V} (p : Nat) (hp : at_VA p) : ∀ (l1 : Int32) (Ml : pm_M), pm_VF (lp_X5_rain_23 p l1 Ml) (fun b => (fun (Ml : pm_M) => pm_J X V mX5_rain 2 (pm_wld V skC Ml) 128 [] []) b) (pm_J X V mX5_rain 2 (pm_wld V skC Ml) 23 [(0, .ref (V.1 p)), (1, .int l1)] []) := by
  refine pm_it_ind (P := fun (f : Int32 → pm_M → Option (pm_M)) => ∀ (l1 : Int32) (Ml : pm_M), pm_VF (f l1 Ml) (fun b => (fun (Ml : pm_M) => pm_J X V mX5_rain 2 (pm_wld V skC Ml) 128 [] []) b) (pm_J X V mX5_rain 2 (pm_wld V skC Ml) 23 [(0, .ref (V.1 p)), (1, .int l1)] [])) (fun _ _ => vf_none) (fun ih hih l1 Ml => ?_) pm_F
  · unfold lb_X5_rain_23
    refine jv_iloadn (j := 1) dX5_rain_23 rfl ?_
    refine jv_aloadn (j := 0) dX5_rain_24 rfl ?_
    refine hv_getR dX5_rain_25 fl5_21 (at_VA_0 hp) rfl ?_
    refine hv_getI dX5_rain_28 fl5_137 (at_CL_0 (at_VA_cl hp)) rfl ?_
    refine jw_ic_ge (tgt := 128) dX5_rain_31 rfl (fun c31 => ?_) (fun c31 => ?_)
    · exact vf_end (fun g => jr_sub [] rfl g)
    refine jv_aloadn (j := 0) dX5_rain_34 rfl ?_
    refine hv_getR dX5_rain_35 fl5_57 (at_VA_0 hp) rfl ?_
    refine jv_iloadn (j := 1) dX5_rain_38 rfl ?_
    refine hv_ialdC dX5_rain_39 (at_VA_28 hp) (fun _ => ?_)
    refine vf_letS (fun z24002 => ?_)
    refine jv_istoren (L' := [(2, .int z24002), (0, .ref (V.1 p)), (1, .int l1)]) dX5_rain_40 (Nat.le_of_ble_eq_true rfl) rfl ?_
    refine jv_aloadn (j := 1) dX5_rain_41 rfl ?_
    refine hv_getR dX5_rain_42 fl5_12 (at_VA_0 hp) rfl ?_
    refine jv_iloadn (j := 0) dX5_rain_45 rfl ?_
    refine hv_callI (As := [.int z24002]) dX5_rain_46 lk5_145 kX3_has nX3_has (Nat.le_of_ble_eq_true rfl) (Nat.le_of_ble_eq_true rfl) (at_RO_0 (at_VA_ro hp)) rfl rfl rfl (fun _ _ e l => c_X3_has (at_VA_ro hp) e l V) ?_
    intro r24004 M24003
    refine jw_if_eq (tgt := 122) dX5_rain_49 rfl (fun c49 => ?_) (fun c49 => ?_)
    · refine jv_iinc (j := 2) (v := l1 + 1) (L' := [(1, .int (l1 + 1)), (2, .int z24002), (0, .ref (V.1 p))]) dX5_rain_122 rfl rfl (Nat.le_of_ble_eq_true rfl) rfl ?_
      refine jv_goto (tgt := 23) dX5_rain_125 rfl ?_
      exact vf_j (fun g => jr_sub [2, 0] rfl g) (hih (l1 + 1) M24003)
    refine jv_aloadn (j := 1) dX5_rain_52 rfl ?_
    refine hv_getR dX5_rain_53 fl5_54 (at_VA_0 hp) rfl ?_
    refine jv_iloadn (j := 0) dX5_rain_56 rfl ?_
    refine jv_dup2 dX5_rain_57 rfl rfl ?_
    refine hv_ialdC dX5_rain_58 (at_VA_27 hp) (fun _ => ?_)
    refine jv_aloadn (j := 1) dX5_rain_59 rfl ?_
    refine hv_getR dX5_rain_60 fl5_60 (at_VA_0 hp) rfl ?_
    refine jv_iloadn (j := 2) dX5_rain_63 rfl ?_
    refine hv_ialdC dX5_rain_64 (at_VA_29 hp) (fun _ => ?_)
    refine jv_iadd dX5_rain_65 ?_
    refine hv_iastC dX5_rain_66 (at_VA_27 hp) (fun _ => ?_)
    refine vf_letM (fun M24005 => ?_)
    refine jv_aloadn (j := 1) dX5_rain_67 rfl ?_
    refine hv_getR dX5_rain_68 fl5_12 (at_VA_0 hp) rfl ?_
    refine hv_getR dX5_rain_71 fl5_148 (at_RO_0 (at_VA_ro hp)) rfl ?_
    refine jv_iloadn (j := 0) dX5_rain_74 rfl ?_
    refine jv_ldc dX5_rain_75 lk5_151 ?_
    refine jv_aloadn (j := 1) dX5_rain_77 rfl ?_
    refine hv_getR dX5_rain_78 fl5_12 (at_VA_0 hp) rfl ?_
    refine hv_getR dX5_rain_81 fl5_148 (at_RO_0 (at_VA_ro hp)) rfl ?_
    refine jv_iloadn (j := 0) dX5_rain_84 rfl ?_
    refine hv_ialdC dX5_rain_85 (at_RO_3 (at_VA_ro hp)) (fun _ => ?_)
    refine jv_aloadn (j := 1) dX5_rain_86 rfl ?_
    refine hv_getR dX5_rain_87 fl5_60 (at_VA_0 hp) rfl ?_
    refine jv_iloadn (j := 2) dX5_rain_90 rfl ?_
    refine hv_ialdC dX5_rain_91 (at_VA_29 hp) (fun _ => ?_)
    refine jv_iadd dX5_rain_92 ?_
    refine hv_min dX5_rain_93 lk5_109 lkM_min.1 lkM_i lkM_min.2 (Nat.le_of_ble_eq_true rfl) ?_
    refine hv_iastC dX5_rain_96 (at_RO_3 (at_VA_ro hp)) (fun _ => ?_)
    refine vf_letM (fun M24006 => ?_)
    refine jv_aloadn (j := 1) dX5_rain_97 rfl ?_
    refine hv_getR dX5_rain_98 fl5_21 (at_VA_0 hp) rfl ?_
    refine hv_getR dX5_rain_101 fl5_89 (at_CL_0 (at_VA_cl hp)) rfl ?_
    refine jv_iloadn (j := 2) dX5_rain_104 rfl ?_
    refine jv_bipush (v := 99) dX5_rain_105 (by decide) ?_
    refine jv_aloadn (j := 1) dX5_rain_107 rfl ?_
    refine hv_getR dX5_rain_108 fl5_21 (at_VA_0 hp) rfl ?_
    refine hv_getR dX5_rain_111 fl5_89 (at_CL_0 (at_VA_cl hp)) rfl ?_
    refine jv_iloadn (j := 2) dX5_rain_114 rfl ?_
    refine hv_ialdC dX5_rain_115 (at_CL_4 (at_VA_cl hp)) (fun _ => ?_)
    refine jv_iconst (v := 1) dX5_rain_116 (by decide) ?_
    refine jv_iadd dX5_rain_117 ?_
    refine hv_min dX5_rain_118 lk5_109 lkM_min.1 lkM_i lkM_min.2 (Nat.le_of_ble_eq_true rfl) ?_
    refine hv_iastC dX5_rain_121 (at_CL_4 (at_VA_cl hp)) (fun _ => ?_)
    refine vf_letM (fun M24007 => ?_)
    refine jv_iinc (j := 2) (v := l1 + 1) (L' := [(1, .int (l1 + 1)), (2, .int z24002), (0, .ref (V.1 p))]) dX5_rain_122 rfl rfl (Nat.le_of_ble_eq_true rfl) rfl ?_
    refine jv_goto (tgt := 23) dX5_rain_125 rfl ?_
    exact vf_j (fun g => jr_sub [2, 0] rfl g) (hih (l1 + 1) M24007)
set_option maxHeartbeats 4000000 in
set_option maxRecDepth 100000 in
theorem w_X5_rain {X : pm_X} {V : pm_V} (p : Nat) (M : pm_M) (hp : at_VA p) : pm_VF (f_X5_rain p M) (pm_Kv X V mX5_rain 2 skC) (pm_J X V mX5_rain 2 (pm_wld V skC M) 0 [(0, .ref (V.1 p))] []) := by
  unfold f_X5_rain
  refine jv_iconst (v := 0) dX5_rain_0 (by decide) ?_
  refine jv_istoren (L' := [(1, .int 0), (0, .ref (V.1 p))]) dX5_rain_1 (Nat.le_of_ble_eq_true rfl) rfl ?_
  refine vl_b1 (P := fun (Ml : pm_M) => pm_J X V mX5_rain 2 (pm_wld V skC Ml) 21 [(0, .ref (V.1 p))] []) (vf_j (fun g => jr_sub [1, 0] rfl g) (wl_X5_rain_2 p hp 0 M)) ?_
  intro M1
  refine jv_iconst (v := 0) dX5_rain_21 (by decide) ?_
  refine jv_istoren (L' := [(1, .int 0), (0, .ref (V.1 p))]) dX5_rain_22 (Nat.le_of_ble_eq_true rfl) rfl ?_
  refine vl_b1 (P := fun (Ml : pm_M) => pm_J X V mX5_rain 2 (pm_wld V skC Ml) 128 [] []) (vf_j (fun g => jr_sub [1, 0] rfl g) (wl_X5_rain_23 p hp 0 M1)) ?_
  intro M2
  exact vf_vret dX5_rain_128
theorem c_X5_rain {p : Nat} {M : pm_M} (hp : at_VA p) {M' : pm_M} (h : f_X5_rain p M = some M') (l : Launch) (V : pm_V) : pm_Cv l V skC yX5_rain mX5_rain 2 [.ref (V.1 p)] M M' := pm_metV (by decide) rfl (Nat.le_of_ble_eq_true rfl) rfl h (fun _ => w_X5_rain p M hp)
def lb_X5_charge_2 (p : Nat) (ih : Int32 → pm_M → Option (pm_M)) : Int32 → pm_M → Option (pm_M) := fun (l1 : Int32) (Ml : pm_M) =>
  (if (Ml (p + 1) 0) ≤ l1 then (some Ml) else (pm_chk (pm_in l1 6) (pm_chk (pm_in l1 6) (pm_let ((Ml (p + 27) l1.toNatClampNeg) - (Ml ((p + 1) + 1) l1.toNatClampNeg)) (fun z3002 : Int32 => (if z3002 ≤ 0 then (ih (l1 + 1) Ml) else (pm_chk (pm_in l1 6) (pm_chk (pm_in l1 6) (pm_b2 (f_X1_given (p + 22) Ml (Ml ((p + 1) + 1) l1.toNatClampNeg) (Ml ((p + 1) + 4) l1.toNatClampNeg) (Ml p 3)) (fun (r3004 : Int32) (M3003 : pm_M) => (pm_chk (pm_in l1 6) (pm_chk (pm_in l1 6) (pm_let (pm_up M3003 ((p + 1) + 2) l1.toNatClampNeg (pm_min 9999 ((M3003 ((p + 1) + 2) l1.toNatClampNeg) + (z3002 * r3004)))) (fun M3005 : pm_M => (ih (l1 + 1) M3005)))))))))))))))
def lp_X5_charge_2 (p : Nat) : Int32 → pm_M → Option (pm_M) := pm_it (fun _ _ => none) (lb_X5_charge_2 p) pm_F
def f_X5_charge (p : Nat) (M : pm_M) : Option pm_M :=
  (pm_b1 (lp_X5_charge_2 p 0 M) (fun (M1 : pm_M) => (some M1)))
set_option maxHeartbeats 4000000 in
set_option maxRecDepth 100000 in
theorem wl_X5_charge_2 {X : pm_X} {V : pm_V} (p : Nat) (hp : at_VA p) : ∀ (l1 : Int32) (Ml : pm_M), pm_VF (lp_X5_charge_2 p l1 Ml) (fun b => (fun (Ml : pm_M) => pm_J X V mX5_charge 3 (pm_wld V skC Ml) 100 [] []) b) (pm_J X V mX5_charge 3 (pm_wld V skC Ml) 2 [(0, .ref (V.1 p)), (1, .int l1)] []) := by
  refine pm_it_ind (P := fun (f : Int32 → pm_M → Option (pm_M)) => ∀ (l1 : Int32) (Ml : pm_M), pm_VF (f l1 Ml) (fun b => (fun (Ml : pm_M) => pm_J X V mX5_charge 3 (pm_wld V skC Ml) 100 [] []) b) (pm_J X V mX5_charge 3 (pm_wld V skC Ml) 2 [(0, .ref (V.1 p)), (1, .int l1)] [])) (fun _ _ => vf_none) (fun ih hih l1 Ml => ?_) pm_F
  · unfold lb_X5_charge_2
    refine jv_iloadn (j := 1) dX5_charge_2 rfl ?_
    refine jv_aloadn (j := 0) dX5_charge_3 rfl ?_
    refine hv_getR dX5_charge_4 fl5_12 (at_VA_0 hp) rfl ?_
    refine hv_getI dX5_charge_7 fl5_115 (at_RO_0 (at_VA_ro hp)) rfl ?_
    refine jw_ic_ge (tgt := 100) dX5_charge_10 rfl (fun c10 => ?_) (fun c10 => ?_)
    · exact vf_end (fun g => jr_sub [] rfl g)
    refine jv_aloadn (j := 0) dX5_charge_13 rfl ?_
    refine hv_getR dX5_charge_14 fl5_54 (at_VA_0 hp) rfl ?_
    refine jv_iloadn (j := 1) dX5_charge_17 rfl ?_
    refine hv_ialdC dX5_charge_18 (at_VA_27 hp) (fun _ => ?_)
    refine jv_aloadn (j := 0) dX5_charge_19 rfl ?_
    refine hv_getR dX5_charge_20 fl5_12 (at_VA_0 hp) rfl ?_
    refine hv_getR dX5_charge_23 fl5_152 (at_RO_0 (at_VA_ro hp)) rfl ?_
    refine jv_iloadn (j := 1) dX5_charge_26 rfl ?_
    refine hv_ialdC dX5_charge_27 (at_RO_1 (at_VA_ro hp)) (fun _ => ?_)
    refine jv_isub dX5_charge_28 ?_
    refine vf_letS (fun z3002 => ?_)
    refine jv_istoren (L' := [(2, .int z3002), (0, .ref (V.1 p)), (1, .int l1)]) dX5_charge_29 (Nat.le_of_ble_eq_true rfl) rfl ?_
    refine jv_iloadn (j := 0) dX5_charge_30 rfl ?_
    refine jw_if_le (tgt := 94) dX5_charge_31 rfl (fun c31 => ?_) (fun c31 => ?_)
    · refine jv_iinc (j := 2) (v := l1 + 1) (L' := [(1, .int (l1 + 1)), (2, .int z3002), (0, .ref (V.1 p))]) dX5_charge_94 rfl rfl (Nat.le_of_ble_eq_true rfl) rfl ?_
      refine jv_goto (tgt := 2) dX5_charge_97 rfl ?_
      exact vf_j (fun g => jr_sub [2, 0] rfl g) (hih (l1 + 1) Ml)
    refine jv_aloadn (j := 1) dX5_charge_34 rfl ?_
    refine hv_getR dX5_charge_35 fl5_30 (at_VA_0 hp) rfl ?_
    refine jv_iconst (v := 1) dX5_charge_38 (by decide) ?_
    refine hv_aald dX5_charge_39 (at_VA_18 hp) (ty := .object "RainShares$Law") (fun _ => rfl) rfl rfl rfl ?_
    refine jv_aloadn (j := 1) dX5_charge_40 rfl ?_
    refine hv_getR dX5_charge_41 fl5_12 (at_VA_0 hp) rfl ?_
    refine hv_getR dX5_charge_44 fl5_152 (at_RO_0 (at_VA_ro hp)) rfl ?_
    refine jv_iloadn (j := 2) dX5_charge_47 rfl ?_
    refine hv_ialdC dX5_charge_48 (at_RO_1 (at_VA_ro hp)) (fun _ => ?_)
    refine jv_aloadn (j := 1) dX5_charge_49 rfl ?_
    refine hv_getR dX5_charge_50 fl5_12 (at_VA_0 hp) rfl ?_
    refine hv_getR dX5_charge_53 fl5_155 (at_RO_0 (at_VA_ro hp)) rfl ?_
    refine jv_iloadn (j := 2) dX5_charge_56 rfl ?_
    refine hv_ialdC dX5_charge_57 (at_RO_4 (at_VA_ro hp)) (fun _ => ?_)
    refine jv_aloadn (j := 1) dX5_charge_58 rfl ?_
    refine hv_getI dX5_charge_59 fl5_34 (at_VA_0 hp) rfl ?_
    refine hv_callI (As := [.int (Ml ((p + 1) + 1) l1.toNatClampNeg), .int (Ml ((p + 1) + 4) l1.toNatClampNeg), .int (Ml p 3)]) dX5_charge_62 lk5_92 kX1_given nX1_given (Nat.le_of_ble_eq_true rfl) (Nat.le_of_ble_eq_true rfl) (at_LW_0 (at_VA_l1 hp)) rfl rfl rfl (fun _ _ e l => c_X1_given (at_VA_l1 hp) e l V) ?_
    intro r3004 M3003
    refine jv_istoren (L' := [(3, .int r3004), (2, .int z3002), (0, .ref (V.1 p)), (1, .int l1)]) dX5_charge_65 (Nat.le_of_ble_eq_true rfl) rfl ?_
    refine jv_aloadn (j := 2) dX5_charge_66 rfl ?_
    refine hv_getR dX5_charge_67 fl5_12 (at_VA_0 hp) rfl ?_
    refine hv_getR dX5_charge_70 fl5_158 (at_RO_0 (at_VA_ro hp)) rfl ?_
    refine jv_iloadn (j := 3) dX5_charge_73 rfl ?_
    refine jv_sipush (v := 9999) dX5_charge_74 (by decide) ?_
    refine jv_aloadn (j := 2) dX5_charge_77 rfl ?_
    refine hv_getR dX5_charge_78 fl5_12 (at_VA_0 hp) rfl ?_
    refine hv_getR dX5_charge_81 fl5_158 (at_RO_0 (at_VA_ro hp)) rfl ?_
    refine jv_iloadn (j := 3) dX5_charge_84 rfl ?_
    refine hv_ialdC dX5_charge_85 (at_RO_2 (at_VA_ro hp)) (fun _ => ?_)
    refine jv_iloadn (j := 1) dX5_charge_86 rfl ?_
    refine jv_iloadn (j := 0) dX5_charge_87 rfl ?_
    refine jv_imul dX5_charge_88 ?_
    refine jv_iadd dX5_charge_89 ?_
    refine hv_min dX5_charge_90 lk5_109 lkM_min.1 lkM_i lkM_min.2 (Nat.le_of_ble_eq_true rfl) ?_
    refine hv_iastC dX5_charge_93 (at_RO_2 (at_VA_ro hp)) (fun _ => ?_)
    refine vf_letM (fun M3005 => ?_)
    refine jv_iinc (j := 3) (v := l1 + 1) (L' := [(1, .int (l1 + 1)), (3, .int r3004), (2, .int z3002), (0, .ref (V.1 p))]) dX5_charge_94 rfl rfl (Nat.le_of_ble_eq_true rfl) rfl ?_
    refine jv_goto (tgt := 2) dX5_charge_97 rfl ?_
    exact vf_j (fun g => jr_sub [3, 0] rfl g) (hih (l1 + 1) M3005)
set_option maxHeartbeats 4000000 in
set_option maxRecDepth 100000 in
theorem w_X5_charge {X : pm_X} {V : pm_V} (p : Nat) (M : pm_M) (hp : at_VA p) : pm_VF (f_X5_charge p M) (pm_Kv X V mX5_charge 3 skC) (pm_J X V mX5_charge 3 (pm_wld V skC M) 0 [(0, .ref (V.1 p))] []) := by
  unfold f_X5_charge
  refine jv_iconst (v := 0) dX5_charge_0 (by decide) ?_
  refine jv_istoren (L' := [(1, .int 0), (0, .ref (V.1 p))]) dX5_charge_1 (Nat.le_of_ble_eq_true rfl) rfl ?_
  refine vl_b1 (P := fun (Ml : pm_M) => pm_J X V mX5_charge 3 (pm_wld V skC Ml) 100 [] []) (vf_j (fun g => jr_sub [1, 0] rfl g) (wl_X5_charge_2 p hp 0 M)) ?_
  intro M1
  exact vf_vret dX5_charge_100
theorem c_X5_charge {p : Nat} {M : pm_M} (hp : at_VA p) {M' : pm_M} (h : f_X5_charge p M = some M') (l : Launch) (V : pm_V) : pm_Cv l V skC yX5_charge mX5_charge 3 [.ref (V.1 p)] M M' := pm_metV (by decide) rfl (Nat.le_of_ble_eq_true rfl) rfl h (fun _ => w_X5_charge p M hp)
def lb_X5_drift_2 (p : Nat) (ih : Int32 → pm_M → Option (pm_M)) : Int32 → pm_M → Option (pm_M) := fun (l1 : Int32) (Ml : pm_M) =>
  (if (Ml (p + 13) 0) ≤ l1 then (some Ml) else (pm_b2 (f_X5_nextOver p Ml l1) (fun (r3003 : Int32) (M3002 : pm_M) => (pm_chk (pm_in l1 5) (pm_let (pm_up M3002 ((p + 13) + 3) l1.toNatClampNeg r3003) (fun M3004 : pm_M => (ih (l1 + 1) M3004)))))))
def lp_X5_drift_2 (p : Nat) : Int32 → pm_M → Option (pm_M) := pm_it (fun _ _ => none) (lb_X5_drift_2 p) pm_F
def f_X5_drift (p : Nat) (M : pm_M) : Option pm_M :=
  (pm_b1 (lp_X5_drift_2 p 0 M) (fun (M1 : pm_M) => (some M1)))
set_option maxHeartbeats 4000000 in
set_option maxRecDepth 100000 in
theorem wl_X5_drift_2 {X : pm_X} {V : pm_V} (p : Nat) (hp : at_VA p) : ∀ (l1 : Int32) (Ml : pm_M), pm_VF (lp_X5_drift_2 p l1 Ml) (fun b => (fun (Ml : pm_M) => pm_J X V mX5_drift 3 (pm_wld V skC Ml) 33 [] []) b) (pm_J X V mX5_drift 3 (pm_wld V skC Ml) 2 [(0, .ref (V.1 p)), (1, .int l1)] []) := by
  refine pm_it_ind (P := fun (f : Int32 → pm_M → Option (pm_M)) => ∀ (l1 : Int32) (Ml : pm_M), pm_VF (f l1 Ml) (fun b => (fun (Ml : pm_M) => pm_J X V mX5_drift 3 (pm_wld V skC Ml) 33 [] []) b) (pm_J X V mX5_drift 3 (pm_wld V skC Ml) 2 [(0, .ref (V.1 p)), (1, .int l1)] [])) (fun _ _ => vf_none) (fun ih hih l1 Ml => ?_) pm_F
  · unfold lb_X5_drift_2
    refine jv_iloadn (j := 1) dX5_drift_2 rfl ?_
    refine jv_aloadn (j := 0) dX5_drift_3 rfl ?_
    refine hv_getR dX5_drift_4 fl5_21 (at_VA_0 hp) rfl ?_
    refine hv_getI dX5_drift_7 fl5_137 (at_CL_0 (at_VA_cl hp)) rfl ?_
    refine jw_ic_ge (tgt := 33) dX5_drift_10 rfl (fun c10 => ?_) (fun c10 => ?_)
    · exact vf_end (fun g => jr_sub [] rfl g)
    refine jv_aloadn (j := 0) dX5_drift_13 rfl ?_
    refine hv_getR dX5_drift_14 fl5_21 (at_VA_0 hp) rfl ?_
    refine hv_getR dX5_drift_17 fl5_112 (at_CL_0 (at_VA_cl hp)) rfl ?_
    refine jv_iloadn (j := 1) dX5_drift_20 rfl ?_
    refine jv_aloadn (j := 0) dX5_drift_21 rfl ?_
    refine jv_iloadn (j := 1) dX5_drift_22 rfl ?_
    refine hv_callI (As := [.int l1]) dX5_drift_23 lk5_161 kX5_nextOver nX5_nextOver (Nat.le_of_ble_eq_true rfl) (Nat.le_of_ble_eq_true rfl) (at_VA_0 hp) rfl rfl rfl (fun _ _ e l => c_X5_nextOver hp e l V) ?_
    intro r3003 M3002
    refine hv_iastC dX5_drift_26 (at_CL_3 (at_VA_cl hp)) (fun _ => ?_)
    refine vf_letM (fun M3004 => ?_)
    refine jv_iinc (j := 1) (v := l1 + 1) (L' := [(1, .int (l1 + 1)), (0, .ref (V.1 p))]) dX5_drift_27 rfl rfl (Nat.le_of_ble_eq_true rfl) rfl ?_
    refine jv_goto (tgt := 2) dX5_drift_30 rfl ?_
    exact vf_j (fun g => jr_sub [1, 0] rfl g) (hih (l1 + 1) M3004)
set_option maxHeartbeats 4000000 in
set_option maxRecDepth 100000 in
theorem w_X5_drift {X : pm_X} {V : pm_V} (p : Nat) (M : pm_M) (hp : at_VA p) : pm_VF (f_X5_drift p M) (pm_Kv X V mX5_drift 3 skC) (pm_J X V mX5_drift 3 (pm_wld V skC M) 0 [(0, .ref (V.1 p))] []) := by
  unfold f_X5_drift
  refine jv_iconst (v := 0) dX5_drift_0 (by decide) ?_
  refine jv_istoren (L' := [(1, .int 0), (0, .ref (V.1 p))]) dX5_drift_1 (Nat.le_of_ble_eq_true rfl) rfl ?_
  refine vl_b1 (P := fun (Ml : pm_M) => pm_J X V mX5_drift 3 (pm_wld V skC Ml) 33 [] []) (vf_j (fun g => jr_sub [1, 0] rfl g) (wl_X5_drift_2 p hp 0 M)) ?_
  intro M1
  exact vf_vret dX5_drift_33
theorem c_X5_drift {p : Nat} {M : pm_M} (hp : at_VA p) {M' : pm_M} (h : f_X5_drift p M = some M') (l : Launch) (V : pm_V) : pm_Cv l V skC yX5_drift mX5_drift 3 [.ref (V.1 p)] M M' := pm_metV (by decide) rfl (Nat.le_of_ble_eq_true rfl) rfl h (fun _ => w_X5_drift p M hp)
def lb_X5_passDays_2 (p : Nat) (x1 : Int32) (ih : Int32 → pm_M → Option (pm_M)) : Int32 → pm_M → Option (pm_M) := fun (l2 : Int32) (Ml : pm_M) =>
  (if x1 ≤ l2 then (some Ml) else (pm_b1 (f_X5_aim p Ml) (fun M3002 : pm_M => (pm_b1 (f_X5_rain p M3002) (fun M3003 : pm_M => (pm_b1 (f_X5_charge p M3003) (fun M3004 : pm_M => (pm_b1 (f_X5_drift p M3004) (fun M3005 : pm_M => (pm_let (pm_up M3005 p 3 ((M3005 p 3) + 1)) (fun M3006 : pm_M => (ih (l2 + 1) M3006))))))))))))
def lp_X5_passDays_2 (p : Nat) (x1 : Int32) : Int32 → pm_M → Option (pm_M) := pm_it (fun _ _ => none) (lb_X5_passDays_2 p x1) pm_F
def f_X5_passDays (p : Nat) (M : pm_M) (x1 : Int32) : Option pm_M :=
  (pm_b1 (lp_X5_passDays_2 p x1 0 M) (fun (M1 : pm_M) => (some M1)))
set_option maxHeartbeats 4000000 in
set_option maxRecDepth 100000 in
theorem wl_X5_passDays_2 {X : pm_X} {V : pm_V} (p : Nat) (x1 : Int32) (hp : at_VA p) : ∀ (l2 : Int32) (Ml : pm_M), pm_VF (lp_X5_passDays_2 p x1 l2 Ml) (fun b => (fun (Ml : pm_M) => pm_J X V mX5_passDays 5 (pm_wld V skC Ml) 39 [] []) b) (pm_J X V mX5_passDays 5 (pm_wld V skC Ml) 2 [(0, .ref (V.1 p)), (1, .int x1), (2, .int l2)] []) := by
  refine pm_it_ind (P := fun (f : Int32 → pm_M → Option (pm_M)) => ∀ (l2 : Int32) (Ml : pm_M), pm_VF (f l2 Ml) (fun b => (fun (Ml : pm_M) => pm_J X V mX5_passDays 5 (pm_wld V skC Ml) 39 [] []) b) (pm_J X V mX5_passDays 5 (pm_wld V skC Ml) 2 [(0, .ref (V.1 p)), (1, .int x1), (2, .int l2)] [])) (fun _ _ => vf_none) (fun ih hih l2 Ml => ?_) pm_F
  · unfold lb_X5_passDays_2
    refine jv_iloadn (j := 2) dX5_passDays_2 rfl ?_
    refine jv_iloadn (j := 1) dX5_passDays_3 rfl ?_
    refine jw_ic_ge (tgt := 39) dX5_passDays_4 rfl (fun c4 => ?_) (fun c4 => ?_)
    · exact vf_end (fun g => jr_sub [] rfl g)
    refine jv_aloadn (j := 0) dX5_passDays_7 rfl ?_
    refine hv_callV (As := []) dX5_passDays_8 lk5_121 kX5_aim nX5_aim (Nat.le_of_ble_eq_true rfl) (Nat.le_of_ble_eq_true rfl) (at_VA_0 hp) rfl rfl rfl (fun _ e l => c_X5_aim hp e l V) ?_
    intro M3002
    refine jv_aloadn (j := 0) dX5_passDays_11 rfl ?_
    refine hv_callV (As := []) dX5_passDays_12 lk5_124 kX5_rain nX5_rain (Nat.le_of_ble_eq_true rfl) (Nat.le_of_ble_eq_true rfl) (at_VA_0 hp) rfl rfl rfl (fun _ e l => c_X5_rain hp e l V) ?_
    intro M3003
    refine jv_aloadn (j := 0) dX5_passDays_15 rfl ?_
    refine hv_callV (As := []) dX5_passDays_16 lk5_127 kX5_charge nX5_charge (Nat.le_of_ble_eq_true rfl) (Nat.le_of_ble_eq_true rfl) (at_VA_0 hp) rfl rfl rfl (fun _ e l => c_X5_charge hp e l V) ?_
    intro M3004
    refine jv_aloadn (j := 0) dX5_passDays_19 rfl ?_
    refine hv_callV (As := []) dX5_passDays_20 lk5_130 kX5_drift nX5_drift (Nat.le_of_ble_eq_true rfl) (Nat.le_of_ble_eq_true rfl) (at_VA_0 hp) rfl rfl rfl (fun _ e l => c_X5_drift hp e l V) ?_
    intro M3005
    refine jv_aloadn (j := 0) dX5_passDays_23 rfl ?_
    refine jv_dup dX5_passDays_24 rfl ?_
    refine hv_getI dX5_passDays_25 fl5_34 (at_VA_0 hp) rfl ?_
    refine jv_iconst (v := 1) dX5_passDays_28 (by decide) ?_
    refine jv_iadd dX5_passDays_29 ?_
    refine hv_put dX5_passDays_30 fp5_34 (at_VA_0 hp) rfl rfl rfl ?_
    refine vf_letM (fun M3006 => ?_)
    refine jv_iinc (j := 2) (v := l2 + 1) (L' := [(2, .int (l2 + 1)), (0, .ref (V.1 p)), (1, .int x1)]) dX5_passDays_33 rfl rfl (Nat.le_of_ble_eq_true rfl) rfl ?_
    refine jv_goto (tgt := 2) dX5_passDays_36 rfl ?_
    exact vf_j (fun g => jr_sub [1, 2, 0] rfl g) (hih (l2 + 1) M3006)
set_option maxHeartbeats 4000000 in
set_option maxRecDepth 100000 in
theorem w_X5_passDays {X : pm_X} {V : pm_V} (p : Nat) (M : pm_M) (x1 : Int32) (hp : at_VA p) : pm_VF (f_X5_passDays p M x1) (pm_Kv X V mX5_passDays 5 skC) (pm_J X V mX5_passDays 5 (pm_wld V skC M) 0 [(0, .ref (V.1 p)), (1, .int x1)] []) := by
  unfold f_X5_passDays
  refine jv_iconst (v := 0) dX5_passDays_0 (by decide) ?_
  refine jv_istoren (L' := [(2, .int 0), (0, .ref (V.1 p)), (1, .int x1)]) dX5_passDays_1 (Nat.le_of_ble_eq_true rfl) rfl ?_
  refine vl_b1 (P := fun (Ml : pm_M) => pm_J X V mX5_passDays 5 (pm_wld V skC Ml) 39 [] []) (vf_j (fun g => jr_sub [1, 2, 0] rfl g) (wl_X5_passDays_2 p x1 hp 0 M)) ?_
  intro M1
  exact vf_vret dX5_passDays_39
theorem c_X5_passDays {p : Nat} {M : pm_M} {x1 : Int32} (hp : at_VA p) {M' : pm_M} (h : f_X5_passDays p M x1 = some M') (l : Launch) (V : pm_V) : pm_Cv l V skC yX5_passDays mX5_passDays 5 [.ref (V.1 p), .int x1] M M' := pm_metV (by decide) rfl (Nat.le_of_ble_eq_true rfl) rfl h (fun _ => w_X5_passDays p M x1 hp)
def lb_X5_wouldGive_2 (p : Nat) (a2 : Nat) (x1 : Int32) (M : pm_M) (ih : Int32 → Option ((Unit) ⊕ (Int32 × pm_M))) : Int32 → Option ((Unit) ⊕ (Int32 × pm_M)) := fun (l3 : Int32) =>
  (if (M (p + 13) 0) ≤ l3 then (some (Sum.inl ())) else (if ((pm_shr x1 l3) &&& 1) = 1 then (pm_chk (pm_in l3 5) (if 0 ≤ (M (p + 28) l3.toNatClampNeg) then (ih (l3 + 1)) else (some (Sum.inr (0, M))))) else (ih (l3 + 1))))
def lp_X5_wouldGive_2 (p : Nat) (a2 : Nat) (x1 : Int32) (M : pm_M) : Int32 → Option ((Unit) ⊕ (Int32 × pm_M)) := pm_it (fun _ => none) (lb_X5_wouldGive_2 p a2 x1 M) pm_F
def lb_X5_wouldGive_58 (p : Nat) (a2 : Nat) (x1 : Int32) (l3 : Int32) (M : pm_M) (ih : Int32 → Int32 → Option (Int32)) : Int32 → Int32 → Option (Int32) := fun (l4 : Int32) (l5 : Int32) =>
  (if (M (p + 13) 0) ≤ l5 then (some l4) else (if ((pm_shr x1 l5) &&& 1) = 1 then (pm_chk (pm_in l5 5) (if (M (p + 28) l5.toNatClampNeg) = l3 then (pm_chk (pm_in l5 5) (pm_let (l4 + (M (p + 29) l5.toNatClampNeg)) (fun z59002 : Int32 => (ih z59002 (l5 + 1))))) else (ih l4 (l5 + 1)))) else (ih l4 (l5 + 1))))
def lp_X5_wouldGive_58 (p : Nat) (a2 : Nat) (x1 : Int32) (l3 : Int32) (M : pm_M) : Int32 → Int32 → Option (Int32) := pm_it (fun _ _ => none) (lb_X5_wouldGive_58 p a2 x1 l3 M) pm_F
def lb_X5_wouldGive_41 (p : Nat) (a2 : Nat) (x1 : Int32) (M : pm_M) (ih : Int32 → Option ((Unit) ⊕ (Int32 × pm_M))) : Int32 → Option ((Unit) ⊕ (Int32 × pm_M)) := fun (l3 : Int32) =>
  (if (M (p + 1) 0) ≤ l3 then (some (Sum.inl ())) else (pm_b1 (lp_X5_wouldGive_58 p a2 x1 l3 M 0 0) (fun (l42002 : Int32) => (pm_chk (pm_in l3 40) (if l42002 = (M a2 l3.toNatClampNeg) then (ih (l3 + 1)) else (some (Sum.inr (0, M))))))))
def lp_X5_wouldGive_41 (p : Nat) (a2 : Nat) (x1 : Int32) (M : pm_M) : Int32 → Option ((Unit) ⊕ (Int32 × pm_M)) := pm_it (fun _ => none) (lb_X5_wouldGive_41 p a2 x1 M) pm_F
def f_X5_wouldGive (p : Nat) (M : pm_M) (x1 : Int32) (a2 : Nat) : Option (Int32 × pm_M) :=
  (pm_s1 (lp_X5_wouldGive_2 p a2 x1 M 0) (fun _ => (pm_s1 (lp_X5_wouldGive_41 p a2 x1 M 0) (fun _ => (some (1, M))))))
set_option maxHeartbeats 4000000 in
set_option maxRecDepth 100000 in
theorem wl_X5_wouldGive_2 {X : pm_X} {V : pm_V} (p : Nat) (a2 : Nat) (x1 : Int32) (M : pm_M) (hp : at_VA p) (h2a : skC[a2]? = some (.inl (0, 40) : pm_Sh)) : ∀ (l3 : Int32), pm_VF (lp_X5_wouldGive_2 p a2 x1 M l3) (Sum.elim (fun b => (fun (_ : Unit) => pm_J X V mX5_wouldGive 1 (pm_wld V skC M) 39 [(0, .ref (V.1 p)), (1, .int x1), (2, .ref (V.1 a2))] []) b) (pm_K X V mX5_wouldGive 1 skC)) (pm_J X V mX5_wouldGive 1 (pm_wld V skC M) 2 [(0, .ref (V.1 p)), (1, .int x1), (2, .ref (V.1 a2)), (3, .int l3)] []) := by
  refine pm_it_ind (P := fun (f : Int32 → Option ((Unit) ⊕ (Int32 × pm_M))) => ∀ (l3 : Int32), pm_VF (f l3) (Sum.elim (fun b => (fun (_ : Unit) => pm_J X V mX5_wouldGive 1 (pm_wld V skC M) 39 [(0, .ref (V.1 p)), (1, .int x1), (2, .ref (V.1 a2))] []) b) (pm_K X V mX5_wouldGive 1 skC)) (pm_J X V mX5_wouldGive 1 (pm_wld V skC M) 2 [(0, .ref (V.1 p)), (1, .int x1), (2, .ref (V.1 a2)), (3, .int l3)] [])) (fun _ => vf_none) (fun ih hih l3 => ?_) pm_F
  · unfold lb_X5_wouldGive_2
    refine jv_iloadn (j := 3) dX5_wouldGive_2 rfl ?_
    refine jv_aloadn (j := 0) dX5_wouldGive_3 rfl ?_
    refine hv_getR dX5_wouldGive_4 fl5_21 (at_VA_0 hp) rfl ?_
    refine hv_getI dX5_wouldGive_7 fl5_137 (at_CL_0 (at_VA_cl hp)) rfl ?_
    refine jw_ic_ge (tgt := 39) dX5_wouldGive_10 rfl (fun c10 => ?_) (fun c10 => ?_)
    · exact vf_inl (fun g => jr_sub [0, 1, 2] rfl g)
    refine jv_iloadn (j := 1) dX5_wouldGive_13 rfl ?_
    refine jv_iloadn (j := 3) dX5_wouldGive_14 rfl ?_
    refine jv_ishr dX5_wouldGive_15 ?_
    refine jv_iconst (v := 1) dX5_wouldGive_16 (by decide) ?_
    refine jv_iand dX5_wouldGive_17 ?_
    refine jv_iconst (v := 1) dX5_wouldGive_18 (by decide) ?_
    refine jw_ic_ne (tgt := 33) dX5_wouldGive_19 rfl (fun c19 => ?_) (fun c19 => ?_)
    · refine jv_aloadn (j := 0) dX5_wouldGive_22 rfl ?_
      refine hv_getR dX5_wouldGive_23 fl5_57 (at_VA_0 hp) rfl ?_
      refine jv_iloadn (j := 3) dX5_wouldGive_26 rfl ?_
      refine hv_ialdC dX5_wouldGive_27 (at_VA_28 hp) (fun _ => ?_)
      refine jw_if_ge (tgt := 33) dX5_wouldGive_28 rfl (fun c28 => ?_) (fun c28 => ?_)
      · refine jv_iinc (j := 3) (v := l3 + 1) (L' := [(3, .int (l3 + 1)), (0, .ref (V.1 p)), (1, .int x1), (2, .ref (V.1 a2))]) dX5_wouldGive_33 rfl rfl (Nat.le_of_ble_eq_true rfl) rfl ?_
        refine jv_goto (tgt := 2) dX5_wouldGive_36 rfl ?_
        exact vf_j (fun g => jr_sub [1, 2, 3, 0] rfl g) (hih (l3 + 1))
      refine jv_iconst (v := 0) dX5_wouldGive_31 (by decide) ?_
      exact vf_inr (vf_zret dX5_wouldGive_32 rfl (by decide))
    refine jv_iinc (j := 3) (v := l3 + 1) (L' := [(3, .int (l3 + 1)), (0, .ref (V.1 p)), (1, .int x1), (2, .ref (V.1 a2))]) dX5_wouldGive_33 rfl rfl (Nat.le_of_ble_eq_true rfl) rfl ?_
    refine jv_goto (tgt := 2) dX5_wouldGive_36 rfl ?_
    exact vf_j (fun g => jr_sub [1, 2, 3, 0] rfl g) (hih (l3 + 1))
set_option maxHeartbeats 4000000 in
set_option maxRecDepth 100000 in
theorem wl_X5_wouldGive_58 {X : pm_X} {V : pm_V} (p : Nat) (a2 : Nat) (x1 : Int32) (l3 : Int32) (M : pm_M) (hp : at_VA p) (h2a : skC[a2]? = some (.inl (0, 40) : pm_Sh)) : ∀ (l4 : Int32) (l5 : Int32), pm_VF (lp_X5_wouldGive_58 p a2 x1 l3 M l4 l5) (fun b => (fun (l4 : Int32) => pm_J X V mX5_wouldGive 1 (pm_wld V skC M) 109 [(0, .ref (V.1 p)), (1, .int x1), (2, .ref (V.1 a2)), (3, .int l3), (4, .int l4)] []) b) (pm_J X V mX5_wouldGive 1 (pm_wld V skC M) 58 [(0, .ref (V.1 p)), (1, .int x1), (2, .ref (V.1 a2)), (3, .int l3), (4, .int l4), (5, .int l5)] []) := by
  refine pm_it_ind (P := fun (f : Int32 → Int32 → Option (Int32)) => ∀ (l4 : Int32) (l5 : Int32), pm_VF (f l4 l5) (fun b => (fun (l4 : Int32) => pm_J X V mX5_wouldGive 1 (pm_wld V skC M) 109 [(0, .ref (V.1 p)), (1, .int x1), (2, .ref (V.1 a2)), (3, .int l3), (4, .int l4)] []) b) (pm_J X V mX5_wouldGive 1 (pm_wld V skC M) 58 [(0, .ref (V.1 p)), (1, .int x1), (2, .ref (V.1 a2)), (3, .int l3), (4, .int l4), (5, .int l5)] [])) (fun _ _ => vf_none) (fun ih hih l4 l5 => ?_) pm_F
  · unfold lb_X5_wouldGive_58
    refine jv_iload (j := 5) dX5_wouldGive_58 rfl ?_
    refine jv_aloadn (j := 0) dX5_wouldGive_60 rfl ?_
    refine hv_getR dX5_wouldGive_61 fl5_21 (at_VA_0 hp) rfl ?_
    refine hv_getI dX5_wouldGive_64 fl5_137 (at_CL_0 (at_VA_cl hp)) rfl ?_
    refine jw_ic_ge (tgt := 109) dX5_wouldGive_67 rfl (fun c67 => ?_) (fun c67 => ?_)
    · exact vf_end (fun g => jr_sub [0, 1, 2, 3, 4] rfl g)
    refine jv_iloadn (j := 1) dX5_wouldGive_70 rfl ?_
    refine jv_iload (j := 5) dX5_wouldGive_71 rfl ?_
    refine jv_ishr dX5_wouldGive_73 ?_
    refine jv_iconst (v := 1) dX5_wouldGive_74 (by decide) ?_
    refine jv_iand dX5_wouldGive_75 ?_
    refine jv_iconst (v := 1) dX5_wouldGive_76 (by decide) ?_
    refine jw_ic_ne (tgt := 103) dX5_wouldGive_77 rfl (fun c77 => ?_) (fun c77 => ?_)
    · refine jv_aloadn (j := 0) dX5_wouldGive_80 rfl ?_
      refine hv_getR dX5_wouldGive_81 fl5_57 (at_VA_0 hp) rfl ?_
      refine jv_iload (j := 5) dX5_wouldGive_84 rfl ?_
      refine hv_ialdC dX5_wouldGive_86 (at_VA_28 hp) (fun _ => ?_)
      refine jv_iloadn (j := 3) dX5_wouldGive_87 rfl ?_
      refine jw_ic_ne (tgt := 103) dX5_wouldGive_88 rfl (fun c88 => ?_) (fun c88 => ?_)
      · refine jv_iload (j := 4) dX5_wouldGive_91 rfl ?_
        refine jv_aloadn (j := 0) dX5_wouldGive_93 rfl ?_
        refine hv_getR dX5_wouldGive_94 fl5_60 (at_VA_0 hp) rfl ?_
        refine jv_iload (j := 5) dX5_wouldGive_97 rfl ?_
        refine hv_ialdC dX5_wouldGive_99 (at_VA_29 hp) (fun _ => ?_)
        refine jv_iadd dX5_wouldGive_100 ?_
        refine vf_letS (fun z59002 => ?_)
        refine jv_istore (L' := [(4, .int z59002), (0, .ref (V.1 p)), (1, .int x1), (2, .ref (V.1 a2)), (3, .int l3), (5, .int l5)]) dX5_wouldGive_101 (Nat.le_of_ble_eq_true rfl) rfl ?_
        refine jv_iinc (j := 5) (v := l5 + 1) (L' := [(5, .int (l5 + 1)), (4, .int z59002), (0, .ref (V.1 p)), (1, .int x1), (2, .ref (V.1 a2)), (3, .int l3)]) dX5_wouldGive_103 rfl rfl (Nat.le_of_ble_eq_true rfl) rfl ?_
        refine jv_goto (tgt := 58) dX5_wouldGive_106 rfl ?_
        exact vf_j (fun g => jr_sub [2, 3, 4, 5, 1, 0] rfl g) (hih z59002 (l5 + 1))
      refine jv_iinc (j := 5) (v := l5 + 1) (L' := [(5, .int (l5 + 1)), (0, .ref (V.1 p)), (1, .int x1), (2, .ref (V.1 a2)), (3, .int l3), (4, .int l4)]) dX5_wouldGive_103 rfl rfl (Nat.le_of_ble_eq_true rfl) rfl ?_
      refine jv_goto (tgt := 58) dX5_wouldGive_106 rfl ?_
      exact vf_j (fun g => jr_sub [1, 2, 3, 4, 5, 0] rfl g) (hih l4 (l5 + 1))
    refine jv_iinc (j := 5) (v := l5 + 1) (L' := [(5, .int (l5 + 1)), (0, .ref (V.1 p)), (1, .int x1), (2, .ref (V.1 a2)), (3, .int l3), (4, .int l4)]) dX5_wouldGive_103 rfl rfl (Nat.le_of_ble_eq_true rfl) rfl ?_
    refine jv_goto (tgt := 58) dX5_wouldGive_106 rfl ?_
    exact vf_j (fun g => jr_sub [1, 2, 3, 4, 5, 0] rfl g) (hih l4 (l5 + 1))
set_option maxHeartbeats 4000000 in
set_option maxRecDepth 100000 in
theorem wl_X5_wouldGive_41 {X : pm_X} {V : pm_V} (p : Nat) (a2 : Nat) (x1 : Int32) (M : pm_M) (hp : at_VA p) (h2a : skC[a2]? = some (.inl (0, 40) : pm_Sh)) : ∀ (l3 : Int32), pm_VF (lp_X5_wouldGive_41 p a2 x1 M l3) (Sum.elim (fun b => (fun (_ : Unit) => pm_J X V mX5_wouldGive 1 (pm_wld V skC M) 125 [] []) b) (pm_K X V mX5_wouldGive 1 skC)) (pm_J X V mX5_wouldGive 1 (pm_wld V skC M) 41 [(0, .ref (V.1 p)), (1, .int x1), (2, .ref (V.1 a2)), (3, .int l3)] []) := by
  refine pm_it_ind (P := fun (f : Int32 → Option ((Unit) ⊕ (Int32 × pm_M))) => ∀ (l3 : Int32), pm_VF (f l3) (Sum.elim (fun b => (fun (_ : Unit) => pm_J X V mX5_wouldGive 1 (pm_wld V skC M) 125 [] []) b) (pm_K X V mX5_wouldGive 1 skC)) (pm_J X V mX5_wouldGive 1 (pm_wld V skC M) 41 [(0, .ref (V.1 p)), (1, .int x1), (2, .ref (V.1 a2)), (3, .int l3)] [])) (fun _ => vf_none) (fun ih hih l3 => ?_) pm_F
  · unfold lb_X5_wouldGive_41
    refine jv_iloadn (j := 3) dX5_wouldGive_41 rfl ?_
    refine jv_aloadn (j := 0) dX5_wouldGive_42 rfl ?_
    refine hv_getR dX5_wouldGive_43 fl5_12 (at_VA_0 hp) rfl ?_
    refine hv_getI dX5_wouldGive_46 fl5_115 (at_RO_0 (at_VA_ro hp)) rfl ?_
    refine jw_ic_ge (tgt := 125) dX5_wouldGive_49 rfl (fun c49 => ?_) (fun c49 => ?_)
    · exact vf_inl (fun g => jr_sub [] rfl g)
    refine jv_iconst (v := 0) dX5_wouldGive_52 (by decide) ?_
    refine jv_istore (L' := [(4, .int 0), (0, .ref (V.1 p)), (1, .int x1), (2, .ref (V.1 a2)), (3, .int l3)]) dX5_wouldGive_53 (Nat.le_of_ble_eq_true rfl) rfl ?_
    refine jv_iconst (v := 0) dX5_wouldGive_55 (by decide) ?_
    refine jv_istore (L' := [(5, .int 0), (4, .int 0), (0, .ref (V.1 p)), (1, .int x1), (2, .ref (V.1 a2)), (3, .int l3)]) dX5_wouldGive_56 (Nat.le_of_ble_eq_true rfl) rfl ?_
    refine vl_b1 (P := fun (l4 : Int32) => pm_J X V mX5_wouldGive 1 (pm_wld V skC M) 109 [(0, .ref (V.1 p)), (1, .int x1), (2, .ref (V.1 a2)), (3, .int l3), (4, .int l4)] []) (vf_j (fun g => jr_sub [2, 3, 4, 5, 1, 0] rfl g) (wl_X5_wouldGive_58 p a2 x1 l3 M hp h2a 0 0)) ?_
    intro l42002
    refine jv_iload (j := 4) dX5_wouldGive_109 rfl ?_
    refine jv_aloadn (j := 2) dX5_wouldGive_111 rfl ?_
    refine jv_iloadn (j := 3) dX5_wouldGive_112 rfl ?_
    refine hv_ialdC dX5_wouldGive_113 h2a (fun _ => ?_)
    refine jw_ic_eq (tgt := 119) dX5_wouldGive_114 rfl (fun c114 => ?_) (fun c114 => ?_)
    · refine jv_iinc (j := 3) (v := l3 + 1) (L' := [(3, .int (l3 + 1)), (0, .ref (V.1 p)), (1, .int x1), (2, .ref (V.1 a2)), (4, .int l42002)]) dX5_wouldGive_119 rfl rfl (Nat.le_of_ble_eq_true rfl) rfl ?_
      refine jv_goto (tgt := 41) dX5_wouldGive_122 rfl ?_
      exact vf_j (fun g => jr_sub [1, 2, 3, 0] rfl g) (hih (l3 + 1))
    refine jv_iconst (v := 0) dX5_wouldGive_117 (by decide) ?_
    exact vf_inr (vf_zret dX5_wouldGive_118 rfl (by decide))
set_option maxHeartbeats 4000000 in
set_option maxRecDepth 100000 in
theorem w_X5_wouldGive {X : pm_X} {V : pm_V} (p : Nat) (M : pm_M) (x1 : Int32) (a2 : Nat) (hp : at_VA p) (h2a : skC[a2]? = some (.inl (0, 40) : pm_Sh)) : pm_VF (f_X5_wouldGive p M x1 a2) (pm_K X V mX5_wouldGive 1 skC) (pm_J X V mX5_wouldGive 1 (pm_wld V skC M) 0 [(0, .ref (V.1 p)), (1, .int x1), (2, .ref (V.1 a2))] []) := by
  unfold f_X5_wouldGive
  refine jv_iconst (v := 0) dX5_wouldGive_0 (by decide) ?_
  refine jv_istoren (L' := [(3, .int 0), (0, .ref (V.1 p)), (1, .int x1), (2, .ref (V.1 a2))]) dX5_wouldGive_1 (Nat.le_of_ble_eq_true rfl) rfl ?_
  refine vl_s1 (P := fun (_ : Unit) => pm_J X V mX5_wouldGive 1 (pm_wld V skC M) 39 [(0, .ref (V.1 p)), (1, .int x1), (2, .ref (V.1 a2))] []) (vf_j (fun g => jr_sub [1, 2, 3, 0] rfl g) (wl_X5_wouldGive_2 p a2 x1 M hp h2a 0)) ?_
  intro _
  refine jv_iconst (v := 0) dX5_wouldGive_39 (by decide) ?_
  refine jv_istoren (L' := [(3, .int 0), (0, .ref (V.1 p)), (1, .int x1), (2, .ref (V.1 a2))]) dX5_wouldGive_40 (Nat.le_of_ble_eq_true rfl) rfl ?_
  refine vl_s1 (P := fun (_ : Unit) => pm_J X V mX5_wouldGive 1 (pm_wld V skC M) 125 [] []) (vf_j (fun g => jr_sub [1, 2, 3, 0] rfl g) (wl_X5_wouldGive_41 p a2 x1 M hp h2a 0)) ?_
  intro _
  refine jv_iconst (v := 1) dX5_wouldGive_125 (by decide) ?_
  exact vf_zret dX5_wouldGive_126 rfl (by decide)
theorem c_X5_wouldGive {p : Nat} {M : pm_M} {x1 : Int32} {a2 : Nat} (hp : at_VA p) (h2a : skC[a2]? = some (.inl (0, 40) : pm_Sh)) {r : Int32} {M' : pm_M} (h : f_X5_wouldGive p M x1 a2 = some (r, M')) (l : Launch) (V : pm_V) : pm_Ci l V skC yX5_wouldGive mX5_wouldGive 1 [.ref (V.1 p), .int x1, .ref (V.1 a2)] M r M' := pm_metI (by decide) rfl (Nat.le_of_ble_eq_true rfl) h (fun _ => w_X5_wouldGive p M x1 a2 hp h2a)
def f_X5_draw (p : Nat) (M : pm_M) : Option (Int32 × pm_M) :=
  (pm_let (pm_up M p 4 (((M p 4) * 1103515245) + 12345)) (fun M1 : pm_M => (some ((pm_ushr (M1 p 4) 8), M1))))
set_option maxHeartbeats 4000000 in
set_option maxRecDepth 100000 in
theorem w_X5_draw {X : pm_X} {V : pm_V} (p : Nat) (M : pm_M) (hp : at_VA p) : pm_VF (f_X5_draw p M) (pm_K X V mX5_draw 1 skC) (pm_J X V mX5_draw 1 (pm_wld V skC M) 0 [(0, .ref (V.1 p))] []) := by
  unfold f_X5_draw
  refine jv_aloadn (j := 0) dX5_draw_0 rfl ?_
  refine jv_aloadn (j := 0) dX5_draw_1 rfl ?_
  refine hv_getI dX5_draw_2 fl5_38 (at_VA_0 hp) rfl ?_
  refine jv_ldc dX5_draw_5 lk5_167 ?_
  refine jv_imul dX5_draw_7 ?_
  refine jv_sipush (v := 12345) dX5_draw_8 (by decide) ?_
  refine jv_iadd dX5_draw_11 ?_
  refine hv_put dX5_draw_12 fp5_38 (at_VA_0 hp) rfl rfl rfl ?_
  refine vf_letM (fun M1 => ?_)
  refine jv_aloadn (j := 0) dX5_draw_15 rfl ?_
  refine hv_getI dX5_draw_16 fl5_38 (at_VA_0 hp) rfl ?_
  refine jv_bipush (v := 8) dX5_draw_19 (by decide) ?_
  refine jv_iushr dX5_draw_21 ?_
  exact vf_ret dX5_draw_22 rfl
theorem c_X5_draw {p : Nat} {M : pm_M} (hp : at_VA p) {r : Int32} {M' : pm_M} (h : f_X5_draw p M = some (r, M')) (l : Launch) (V : pm_V) : pm_Ci l V skC yX5_draw mX5_draw 1 [.ref (V.1 p)] M r M' := pm_metI (by decide) rfl (Nat.le_of_ble_eq_true rfl) h (fun _ => w_X5_draw p M hp)
def f_X5_scatter (p : Nat) (M : pm_M) : Option pm_M :=
  (if (M (p + 13) 0) ≤ 0 then (some M) else (pm_b2 (f_X5_draw p M) (fun (r2 : Int32) (M1 : pm_M) => (pm_b2 (f_X5_rest M1 r2 (M1 (p + 13) 0)) (fun (r4 : Int32) (M3 : pm_M) => (pm_b2 (f_X5_draw p M3) (fun (r6 : Int32) (M5 : pm_M) => (pm_b2 (f_X5_rest M5 r6 (M5 (p + 1) 0)) (fun (r8 : Int32) (M7 : pm_M) => (pm_chk (pm_in r4 5) (pm_let (pm_up M7 ((p + 13) + 3) r4.toNatClampNeg r8) (fun M9 : pm_M => (some M9)))))))))))))
set_option maxHeartbeats 4000000 in
set_option maxRecDepth 100000 in
theorem w_X5_scatter {X : pm_X} {V : pm_V} (p : Nat) (M : pm_M) (hp : at_VA p) : pm_VF (f_X5_scatter p M) (pm_Kv X V mX5_scatter 2 skC) (pm_J X V mX5_scatter 2 (pm_wld V skC M) 0 [(0, .ref (V.1 p))] []) := by
  unfold f_X5_scatter
  refine jv_aloadn (j := 0) dX5_scatter_0 rfl ?_
  refine hv_getR dX5_scatter_1 fl5_21 (at_VA_0 hp) rfl ?_
  refine hv_getI dX5_scatter_4 fl5_137 (at_CL_0 (at_VA_cl hp)) rfl ?_
  refine jw_if_le (tgt := 48) dX5_scatter_7 rfl (fun c7 => ?_) (fun c7 => ?_)
  · exact vf_vret dX5_scatter_48
  refine jv_aloadn (j := 0) dX5_scatter_10 rfl ?_
  refine hv_callI (As := []) dX5_scatter_11 lk5_164 kX5_draw nX5_draw (Nat.le_of_ble_eq_true rfl) (Nat.le_of_ble_eq_true rfl) (at_VA_0 hp) rfl rfl rfl (fun _ _ e l => c_X5_draw hp e l V) ?_
  intro r2 M1
  refine jv_aloadn (j := 0) dX5_scatter_14 rfl ?_
  refine hv_getR dX5_scatter_15 fl5_21 (at_VA_0 hp) rfl ?_
  refine hv_getI dX5_scatter_18 fl5_137 (at_CL_0 (at_VA_cl hp)) rfl ?_
  refine hv_callS (As := [.int r2, .int (M1 (p + 13) 0)]) dX5_scatter_21 lk5_118 kX5_rest nX5_rest (Nat.le_of_ble_eq_true rfl) (Nat.le_of_ble_eq_true rfl) rfl (fun _ _ e l => c_X5_rest  e l V) ?_
  intro r4 M3
  refine jv_istoren (L' := [(1, .int r4), (0, .ref (V.1 p))]) dX5_scatter_24 (Nat.le_of_ble_eq_true rfl) rfl ?_
  refine jv_aloadn (j := 1) dX5_scatter_25 rfl ?_
  refine hv_getR dX5_scatter_26 fl5_21 (at_VA_0 hp) rfl ?_
  refine hv_getR dX5_scatter_29 fl5_112 (at_CL_0 (at_VA_cl hp)) rfl ?_
  refine jv_iloadn (j := 0) dX5_scatter_32 rfl ?_
  refine jv_aloadn (j := 1) dX5_scatter_33 rfl ?_
  refine hv_callI (As := []) dX5_scatter_34 lk5_164 kX5_draw nX5_draw (Nat.le_of_ble_eq_true rfl) (Nat.le_of_ble_eq_true rfl) (at_VA_0 hp) rfl rfl rfl (fun _ _ e l => c_X5_draw hp e l V) ?_
  intro r6 M5
  refine jv_aloadn (j := 1) dX5_scatter_37 rfl ?_
  refine hv_getR dX5_scatter_38 fl5_12 (at_VA_0 hp) rfl ?_
  refine hv_getI dX5_scatter_41 fl5_115 (at_RO_0 (at_VA_ro hp)) rfl ?_
  refine hv_callS (As := [.int r6, .int (M5 (p + 1) 0)]) dX5_scatter_44 lk5_118 kX5_rest nX5_rest (Nat.le_of_ble_eq_true rfl) (Nat.le_of_ble_eq_true rfl) rfl (fun _ _ e l => c_X5_rest  e l V) ?_
  intro r8 M7
  refine hv_iastC dX5_scatter_47 (at_CL_3 (at_VA_cl hp)) (fun _ => ?_)
  refine vf_letM (fun M9 => ?_)
  exact vf_vret dX5_scatter_48
theorem c_X5_scatter {p : Nat} {M : pm_M} (hp : at_VA p) {M' : pm_M} (h : f_X5_scatter p M = some M') (l : Launch) (V : pm_V) : pm_Cv l V skC yX5_scatter mX5_scatter 2 [.ref (V.1 p)] M M' := pm_metV (by decide) rfl (Nat.le_of_ble_eq_true rfl) rfl h (fun _ => w_X5_scatter p M hp)
