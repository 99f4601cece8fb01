def f_X7_within (M : pm_M) (x1 : Int32) (x2 : Int32) (x3 : Int32) : Option (Int32 × pm_M) :=
  (if x1 < x2 then (some (0, M)) else (if x3 < x1 then (some (0, M)) else (some (1, M))))
set_option maxHeartbeats 4000000 in
set_option maxRecDepth 100000 in
theorem w_X7_within {X : pm_X} {V : pm_V} (M : pm_M) (x1 : Int32) (x2 : Int32) (x3 : Int32)  : pm_VF (f_X7_within M x1 x2 x3) (pm_K X V mX7_within 1 skC) (pm_J X V mX7_within 1 (pm_wld V skC M) 0 [(0, .int x1), (1, .int x2), (2, .int x3)] []) := by
  unfold f_X7_within
  refine jv_iloadn (j := 0) dX7_within_0 rfl ?_
  refine jv_iloadn (j := 1) dX7_within_1 rfl ?_
  refine jw_ic_lt (tgt := 14) dX7_within_2 rfl (fun c2 => ?_) (fun c2 => ?_)
  · refine jv_iconst (v := 0) dX7_within_14 (by decide) ?_
    exact vf_zret dX7_within_15 rfl (by decide)
  refine jv_iloadn (j := 0) dX7_within_5 rfl ?_
  refine jv_iloadn (j := 2) dX7_within_6 rfl ?_
  refine jw_ic_gt (tgt := 14) dX7_within_7 rfl (fun c7 => ?_) (fun c7 => ?_)
  · refine jv_iconst (v := 0) dX7_within_14 (by decide) ?_
    exact vf_zret dX7_within_15 rfl (by decide)
  refine jv_iconst (v := 1) dX7_within_10 (by decide) ?_
  refine jv_goto (tgt := 15) dX7_within_11 rfl ?_
  exact vf_zret dX7_within_15 rfl (by decide)
theorem c_X7_within {M : pm_M} {x1 : Int32} {x2 : Int32} {x3 : Int32}  {r : Int32} {M' : pm_M} (h : f_X7_within M x1 x2 x3 = some (r, M')) (l : Launch) (V : pm_V) : pm_Ci l V skC yX7_within mX7_within 1 [.int x1, .int x2, .int x3] M r M' := pm_metI (by decide) rfl (Nat.le_of_ble_eq_true rfl) h (fun _ => w_X7_within M x1 x2 x3 )
def f_X7_error (M : pm_M) (x1 : Int32) : Option (Int32 × pm_M) :=
  (pm_chk (pm_in x1 6) (pm_chk (pm_in x1 6) (pm_let (pm_up M 105 x1.toNatClampNeg ((M 105 x1.toNatClampNeg) + 1)) (fun M1 : pm_M => (some (((-1000000000) - x1), M1))))))
set_option maxHeartbeats 4000000 in
set_option maxRecDepth 100000 in
theorem w_X7_error {X : pm_X} {V : pm_V} (M : pm_M) (x1 : Int32)  : pm_VF (f_X7_error M x1) (pm_K X V mX7_error 1 skC) (pm_J X V mX7_error 1 (pm_wld V skC M) 0 [(0, .ref (V.1 0)), (1, .int x1)] []) := by
  unfold f_X7_error
  refine jv_aloadn (j := 0) dX7_error_0 rfl ?_
  refine hv_getR dX7_error_1 fl7_46 at_RS_0 rfl ?_
  refine jv_iloadn (j := 1) dX7_error_4 rfl ?_
  refine jv_dup2 dX7_error_5 rfl rfl ?_
  refine hv_ialdC dX7_error_6 at_RS_105 (fun _ => ?_)
  refine jv_iconst (v := 1) dX7_error_7 (by decide) ?_
  refine jv_iadd dX7_error_8 ?_
  refine hv_iastC dX7_error_9 at_RS_105 (fun _ => ?_)
  refine vf_letM (fun M1 => ?_)
  refine jv_ldcw dX7_error_10 lk7_299 ?_
  refine jv_iloadn (j := 1) dX7_error_13 rfl ?_
  refine jv_isub dX7_error_14 ?_
  exact vf_ret dX7_error_15 rfl
theorem c_X7_error {M : pm_M} {x1 : Int32}  {r : Int32} {M' : pm_M} (h : f_X7_error M x1 = some (r, M')) (l : Launch) (V : pm_V) : pm_Ci l V skC yX7_error mX7_error 1 [.ref (V.1 0), .int x1] M r M' := pm_metI (by decide) rfl (Nat.le_of_ble_eq_true rfl) h (fun _ => w_X7_error M x1 )
def f_X7_roof (M : pm_M) (x1 : Int32) : Option (Int32 × pm_M) :=
  (pm_b2 (f_X7_within M x1 0 99) (fun (r2 : Int32) (M1 : pm_M) => (if r2 = 0 then (pm_b2 (f_X7_error M1 1) (fun (r4 : Int32) (M3 : pm_M) => (some (r4, M3)))) else (if (M1 (1 + 1) 0) < 6 then (pm_b2 (f_X3_add (1 + 1) M1 x1) (fun (r6 : Int32) (M5 : pm_M) => (some (r6, M5)))) else (pm_b2 (f_X7_error M1 4) (fun (r8 : Int32) (M7 : pm_M) => (some (r8, M7))))))))
set_option maxHeartbeats 4000000 in
set_option maxRecDepth 100000 in
theorem w_X7_roof {X : pm_X} {V : pm_V} (M : pm_M) (x1 : Int32)  : pm_VF (f_X7_roof M x1) (pm_K X V mX7_roof 2 skC) (pm_J X V mX7_roof 2 (pm_wld V skC M) 0 [(0, .ref (V.1 0)), (1, .int x1)] []) := by
  unfold f_X7_roof
  refine jv_iloadn (j := 1) dX7_roof_0 rfl ?_
  refine jv_iconst (v := 0) dX7_roof_1 (by decide) ?_
  refine jv_bipush (v := 99) dX7_roof_2 (by decide) ?_
  refine hv_callS (As := [.int x1, .int 0, .int 99]) dX7_roof_4 lk7_51 kX7_within nX7_within (Nat.le_of_ble_eq_true rfl) (Nat.le_of_ble_eq_true rfl) rfl (fun _ _ e l => c_X7_within  e l V) ?_
  intro r2 M1
  refine jw_if_ne (tgt := 16) dX7_roof_7 rfl (fun c7 => ?_) (fun c7 => ?_)
  · refine jv_aloadn (j := 0) dX7_roof_10 rfl ?_
    refine jv_iconst (v := 1) dX7_roof_11 (by decide) ?_
    refine hv_callI (As := [.int 1]) dX7_roof_12 lk7_55 kX7_error nX7_error (Nat.le_of_ble_eq_true rfl) (Nat.le_of_ble_eq_true rfl) at_RS_0 rfl rfl rfl (fun _ _ e l => c_X7_error  e l V) ?_
    intro r4 M3
    exact vf_ret dX7_roof_15 rfl
  refine jv_aloadn (j := 0) dX7_roof_16 rfl ?_
  refine hv_getR dX7_roof_17 fl7_10 at_RS_0 rfl ?_
  refine hv_getR dX7_roof_20 fl7_59 (at_VA_0 at_RS_now) rfl ?_
  refine hv_getI dX7_roof_23 fl7_63 (at_RO_0 (at_VA_ro at_RS_now)) rfl ?_
  refine jv_bipush (v := 6) dX7_roof_26 (by decide) ?_
  refine jw_ic_lt (tgt := 37) dX7_roof_28 rfl (fun c28 => ?_) (fun c28 => ?_)
  · refine jv_aloadn (j := 0) dX7_roof_37 rfl ?_
    refine hv_getR dX7_roof_38 fl7_10 at_RS_0 rfl ?_
    refine hv_getR dX7_roof_41 fl7_59 (at_VA_0 at_RS_now) rfl ?_
    refine jv_iloadn (j := 1) dX7_roof_44 rfl ?_
    refine hv_callI (As := [.int x1]) dX7_roof_45 lk7_68 kX3_add nX3_add (Nat.le_of_ble_eq_true rfl) (Nat.le_of_ble_eq_true rfl) (at_RO_0 (at_VA_ro at_RS_now)) rfl rfl rfl (fun _ _ e l => c_X3_add (at_VA_ro at_RS_now) e l V) ?_
    intro r6 M5
    exact vf_ret dX7_roof_48 rfl
  refine jv_aloadn (j := 0) dX7_roof_31 rfl ?_
  refine jv_iconst (v := 4) dX7_roof_32 (by decide) ?_
  refine hv_callI (As := [.int 4]) dX7_roof_33 lk7_55 kX7_error nX7_error (Nat.le_of_ble_eq_true rfl) (Nat.le_of_ble_eq_true rfl) at_RS_0 rfl rfl rfl (fun _ _ e l => c_X7_error  e l V) ?_
  intro r8 M7
  exact vf_ret dX7_roof_36 rfl
theorem c_X7_roof {M : pm_M} {x1 : Int32}  {r : Int32} {M' : pm_M} (h : f_X7_roof M x1 = some (r, M')) (l : Launch) (V : pm_V) : pm_Ci l V skC yX7_roof mX7_roof 2 [.ref (V.1 0), .int x1] M r M' := pm_metI (by decide) rfl (Nat.le_of_ble_eq_true rfl) h (fun _ => w_X7_roof M x1 )
def f_X7_ofRoof (M : pm_M) (x1 : Int32) (x2 : Int32) : Option (Int32 × pm_M) :=
  (pm_b2 (f_X3_has (1 + 1) M x1) (fun (r2 : Int32) (M1 : pm_M) => (if r2 = 0 then (pm_b2 (f_X7_error M1 1) (fun (r4 : Int32) (M3 : pm_M) => (some (r4, M3)))) else (if x2.toInt < 0 ∨ 5 < x2.toInt then (pm_b2 (f_X7_error M1 1) (fun (r6 : Int32) (M5 : pm_M) => (some (r6, M5)))) else if x2 = 0 then (pm_chk (pm_in x1 6) (some ((M1 ((1 + 1) + 1) x1.toNatClampNeg), M1))) else if x2 = 1 then (pm_chk (pm_in x1 6) (some ((M1 ((1 + 1) + 2) x1.toNatClampNeg), M1))) else if x2 = 2 then (pm_chk (pm_in x1 6) (some ((M1 ((1 + 1) + 3) x1.toNatClampNeg), M1))) else if x2 = 3 then (pm_chk (pm_in x1 6) (some ((M1 ((1 + 1) + 4) x1.toNatClampNeg), M1))) else if x2 = 4 then (pm_b2 (f_X0_setOver (1 + 13) M1 x1) (fun (r8 : Int32) (M7 : pm_M) => (some (r8, M7)))) else if x2 = 5 then (pm_b2 (f_X3_owedToAll (1 + 1) M1 x1) (fun (r10 : Int32) (M9 : pm_M) => (some (r10, M9)))) else none))))
set_option maxHeartbeats 4000000 in
set_option maxRecDepth 100000 in
theorem w_X7_ofRoof {X : pm_X} {V : pm_V} (M : pm_M) (x1 : Int32) (x2 : Int32)  : pm_VF (f_X7_ofRoof M x1 x2) (pm_K X V mX7_ofRoof 3 skC) (pm_J X V mX7_ofRoof 3 (pm_wld V skC M) 0 [(0, .ref (V.1 0)), (1, .int x1), (2, .int x2)] []) := by
  unfold f_X7_ofRoof
  refine jv_aloadn (j := 0) dX7_ofRoof_0 rfl ?_
  refine hv_getR dX7_ofRoof_1 fl7_10 at_RS_0 rfl ?_
  refine hv_getR dX7_ofRoof_4 fl7_59 (at_VA_0 at_RS_now) rfl ?_
  refine jv_iloadn (j := 1) dX7_ofRoof_7 rfl ?_
  refine hv_callI (As := [.int x1]) dX7_ofRoof_8 lk7_71 kX3_has nX3_has (Nat.le_of_ble_eq_true rfl) (Nat.le_of_ble_eq_true rfl) (at_RO_0 (at_VA_ro at_RS_now)) rfl rfl rfl (fun _ _ e l => c_X3_has (at_VA_ro at_RS_now) e l V) ?_
  intro r2 M1
  refine jw_if_ne (tgt := 20) dX7_ofRoof_11 rfl (fun c11 => ?_) (fun c11 => ?_)
  · refine jv_aloadn (j := 0) dX7_ofRoof_14 rfl ?_
    refine jv_iconst (v := 1) dX7_ofRoof_15 (by decide) ?_
    refine hv_callI (As := [.int 1]) dX7_ofRoof_16 lk7_55 kX7_error nX7_error (Nat.le_of_ble_eq_true rfl) (Nat.le_of_ble_eq_true rfl) at_RS_0 rfl rfl rfl (fun _ _ e l => c_X7_error  e l V) ?_
    intro r4 M3
    exact vf_ret dX7_ofRoof_19 rfl
  refine jv_iloadn (j := 2) dX7_ofRoof_20 rfl ?_
  refine vf_case (fun c21 => ?_) (fun _ => ?_)
  · refine jv_tout (tgt := 136) dX7_ofRoof_21 c21 rfl ?_
    refine jv_aloadn (j := 0) dX7_ofRoof_136 rfl ?_
    refine jv_iconst (v := 1) dX7_ofRoof_137 (by decide) ?_
    refine hv_callI (As := [.int 1]) dX7_ofRoof_138 lk7_55 kX7_error nX7_error (Nat.le_of_ble_eq_true rfl) (Nat.le_of_ble_eq_true rfl) at_RS_0 rfl rfl rfl (fun _ _ e l => c_X7_error  e l V) ?_
    intro r6 M5
    exact vf_ret dX7_ofRoof_141 rfl
  refine vf_case (fun c21 => ?_) (fun _ => ?_)
  · refine jv_tin (v := 0) (tgt := 60) dX7_ofRoof_21 c21 (by decide) (by decide) rfl rfl ?_
    refine jv_aloadn (j := 0) dX7_ofRoof_60 rfl ?_
    refine hv_getR dX7_ofRoof_61 fl7_10 at_RS_0 rfl ?_
    refine hv_getR dX7_ofRoof_64 fl7_59 (at_VA_0 at_RS_now) rfl ?_
    refine hv_getR dX7_ofRoof_67 fl7_75 (at_RO_0 (at_VA_ro at_RS_now)) rfl ?_
    refine jv_iloadn (j := 1) dX7_ofRoof_70 rfl ?_
    refine hv_ialdC dX7_ofRoof_71 (at_RO_1 (at_VA_ro at_RS_now)) (fun _ => ?_)
    exact vf_ret dX7_ofRoof_72 rfl
  refine vf_case (fun c21 => ?_) (fun _ => ?_)
  · refine jv_tin (v := 1) (tgt := 73) dX7_ofRoof_21 c21 (by decide) (by decide) rfl rfl ?_
    refine jv_aloadn (j := 0) dX7_ofRoof_73 rfl ?_
    refine hv_getR dX7_ofRoof_74 fl7_10 at_RS_0 rfl ?_
    refine hv_getR dX7_ofRoof_77 fl7_59 (at_VA_0 at_RS_now) rfl ?_
    refine hv_getR dX7_ofRoof_80 fl7_78 (at_RO_0 (at_VA_ro at_RS_now)) rfl ?_
    refine jv_iloadn (j := 1) dX7_ofRoof_83 rfl ?_
    refine hv_ialdC dX7_ofRoof_84 (at_RO_2 (at_VA_ro at_RS_now)) (fun _ => ?_)
    exact vf_ret dX7_ofRoof_85 rfl
  refine vf_case (fun c21 => ?_) (fun _ => ?_)
  · refine jv_tin (v := 2) (tgt := 86) dX7_ofRoof_21 c21 (by decide) (by decide) rfl rfl ?_
    refine jv_aloadn (j := 0) dX7_ofRoof_86 rfl ?_
    refine hv_getR dX7_ofRoof_87 fl7_10 at_RS_0 rfl ?_
    refine hv_getR dX7_ofRoof_90 fl7_59 (at_VA_0 at_RS_now) rfl ?_
    refine hv_getR dX7_ofRoof_93 fl7_81 (at_RO_0 (at_VA_ro at_RS_now)) rfl ?_
    refine jv_iloadn (j := 1) dX7_ofRoof_96 rfl ?_
    refine hv_ialdC dX7_ofRoof_97 (at_RO_3 (at_VA_ro at_RS_now)) (fun _ => ?_)
    exact vf_ret dX7_ofRoof_98 rfl
  refine vf_case (fun c21 => ?_) (fun _ => ?_)
  · refine jv_tin (v := 3) (tgt := 99) dX7_ofRoof_21 c21 (by decide) (by decide) rfl rfl ?_
    refine jv_aloadn (j := 0) dX7_ofRoof_99 rfl ?_
    refine hv_getR dX7_ofRoof_100 fl7_10 at_RS_0 rfl ?_
    refine hv_getR dX7_ofRoof_103 fl7_59 (at_VA_0 at_RS_now) rfl ?_
    refine hv_getR dX7_ofRoof_106 fl7_84 (at_RO_0 (at_VA_ro at_RS_now)) rfl ?_
    refine jv_iloadn (j := 1) dX7_ofRoof_109 rfl ?_
    refine hv_ialdC dX7_ofRoof_110 (at_RO_4 (at_VA_ro at_RS_now)) (fun _ => ?_)
    exact vf_ret dX7_ofRoof_111 rfl
  refine vf_case (fun c21 => ?_) (fun _ => ?_)
  · refine jv_tin (v := 4) (tgt := 112) dX7_ofRoof_21 c21 (by decide) (by decide) rfl rfl ?_
    refine jv_aloadn (j := 0) dX7_ofRoof_112 rfl ?_
    refine hv_getR dX7_ofRoof_113 fl7_10 at_RS_0 rfl ?_
    refine hv_getR dX7_ofRoof_116 fl7_87 (at_VA_0 at_RS_now) rfl ?_
    refine jv_iloadn (j := 1) dX7_ofRoof_119 rfl ?_
    refine hv_callI (As := [.int x1]) dX7_ofRoof_120 lk7_91 kX0_setOver nX0_setOver (Nat.le_of_ble_eq_true rfl) (Nat.le_of_ble_eq_true rfl) (at_CL_0 (at_VA_cl at_RS_now)) rfl rfl rfl (fun _ _ e l => c_X0_setOver (at_VA_cl at_RS_now) e l V) ?_
    intro r8 M7
    exact vf_ret dX7_ofRoof_123 rfl
  refine vf_case (fun c21 => ?_) (fun _ => ?_)
  · refine jv_tin (v := 5) (tgt := 124) dX7_ofRoof_21 c21 (by decide) (by decide) rfl rfl ?_
    refine jv_aloadn (j := 0) dX7_ofRoof_124 rfl ?_
    refine hv_getR dX7_ofRoof_125 fl7_10 at_RS_0 rfl ?_
    refine hv_getR dX7_ofRoof_128 fl7_59 (at_VA_0 at_RS_now) rfl ?_
    refine jv_iloadn (j := 1) dX7_ofRoof_131 rfl ?_
    refine hv_callI (As := [.int x1]) dX7_ofRoof_132 lk7_96 kX3_owedToAll nX3_owedToAll (Nat.le_of_ble_eq_true rfl) (Nat.le_of_ble_eq_true rfl) (at_RO_0 (at_VA_ro at_RS_now)) rfl rfl rfl (fun _ _ e l => c_X3_owedToAll (at_VA_ro at_RS_now) e l V) ?_
    intro r10 M9
    exact vf_ret dX7_ofRoof_135 rfl
  exact vf_none
theorem c_X7_ofRoof {M : pm_M} {x1 : Int32} {x2 : Int32}  {r : Int32} {M' : pm_M} (h : f_X7_ofRoof M x1 x2 = some (r, M')) (l : Launch) (V : pm_V) : pm_Ci l V skC yX7_ofRoof mX7_ofRoof 3 [.ref (V.1 0), .int x1, .int x2] M r M' := pm_metI (by decide) rfl (Nat.le_of_ble_eq_true rfl) h (fun _ => w_X7_ofRoof M x1 x2 )
def f_X7_replace (M : pm_M) (n1 : Nat) (a1 : Nat) (x2 : Int32) (x3 : Int32) (x4 : Int32) : Option (Int32 × pm_M) :=
  (pm_b2 (f_X7_within M x3 0 x4) (fun (r2 : Int32) (M1 : pm_M) => (if r2 = 0 then (pm_b2 (f_X7_error M1 1) (fun (r4 : Int32) (M3 : pm_M) => (some (r4, M3)))) else (pm_chk (pm_in x2 n1) (pm_let (M1 a1 x2.toNatClampNeg) (fun z5 : Int32 => (pm_chk (pm_in x2 n1) (pm_let (pm_up M1 a1 x2.toNatClampNeg x3) (fun M6 : pm_M => (some (z5, M6)))))))))))
set_option maxHeartbeats 4000000 in
set_option maxRecDepth 100000 in
theorem w_X7_replace {X : pm_X} {V : pm_V} (M : pm_M) (n1 : Nat) (a1 : Nat) (x2 : Int32) (x3 : Int32) (x4 : Int32) (h1a : skC[a1]? = some (.inl (0, n1) : pm_Sh)) : pm_VF (f_X7_replace M n1 a1 x2 x3 x4) (pm_K X V mX7_replace 2 skC) (pm_J X V mX7_replace 2 (pm_wld V skC M) 0 [(0, .ref (V.1 0)), (1, .ref (V.1 a1)), (2, .int x2), (3, .int x3), (4, .int x4)] []) := by
  unfold f_X7_replace
  refine jv_iloadn (j := 3) dX7_replace_0 rfl ?_
  refine jv_iconst (v := 0) dX7_replace_1 (by decide) ?_
  refine jv_iload (j := 4) dX7_replace_2 rfl ?_
  refine hv_callS (As := [.int x3, .int 0, .int x4]) dX7_replace_4 lk7_51 kX7_within nX7_within (Nat.le_of_ble_eq_true rfl) (Nat.le_of_ble_eq_true rfl) rfl (fun _ _ e l => c_X7_within  e l V) ?_
  intro r2 M1
  refine jw_if_ne (tgt := 16) dX7_replace_7 rfl (fun c7 => ?_) (fun c7 => ?_)
  · refine jv_aloadn (j := 0) dX7_replace_10 rfl ?_
    refine jv_iconst (v := 1) dX7_replace_11 (by decide) ?_
    refine hv_callI (As := [.int 1]) dX7_replace_12 lk7_55 kX7_error nX7_error (Nat.le_of_ble_eq_true rfl) (Nat.le_of_ble_eq_true rfl) at_RS_0 rfl rfl rfl (fun _ _ e l => c_X7_error  e l V) ?_
    intro r4 M3
    exact vf_ret dX7_replace_15 rfl
  refine jv_aloadn (j := 1) dX7_replace_16 rfl ?_
  refine jv_iloadn (j := 2) dX7_replace_17 rfl ?_
  refine hv_ialdC dX7_replace_18 h1a (fun _ => ?_)
  refine vf_letS (fun z5 => ?_)
  refine jv_istore (L' := [(5, .int z5), (0, .ref (V.1 0)), (1, .ref (V.1 a1)), (2, .int x2), (3, .int x3), (4, .int x4)]) dX7_replace_19 (Nat.le_of_ble_eq_true rfl) rfl ?_
  refine jv_aloadn (j := 2) dX7_replace_21 rfl ?_
  refine jv_iloadn (j := 3) dX7_replace_22 rfl ?_
  refine jv_iloadn (j := 4) dX7_replace_23 rfl ?_
  refine hv_iastC dX7_replace_24 h1a (fun _ => ?_)
  refine vf_letM (fun M6 => ?_)
  refine jv_iload (j := 0) dX7_replace_25 rfl ?_
  exact vf_ret dX7_replace_27 rfl
theorem c_X7_replace {M : pm_M} {n1 : Nat} {a1 : Nat} {x2 : Int32} {x3 : Int32} {x4 : Int32} (h1a : skC[a1]? = some (.inl (0, n1) : pm_Sh)) {r : Int32} {M' : pm_M} (h : f_X7_replace M n1 a1 x2 x3 x4 = some (r, M')) (l : Launch) (V : pm_V) : pm_Ci l V skC yX7_replace mX7_replace 2 [.ref (V.1 0), .ref (V.1 a1), .int x2, .int x3, .int x4] M r M' := pm_metI (by decide) rfl (Nat.le_of_ble_eq_true rfl) h (fun _ => w_X7_replace M n1 a1 x2 x3 x4 h1a)
def f_X7_change (M : pm_M) (x1 : Int32) (x2 : Int32) (x3 : Int32) : Option (Int32 × pm_M) :=
  (pm_b2 (f_X3_has (1 + 1) M x1) (fun (r2 : Int32) (M1 : pm_M) => (if r2 = 0 then (pm_b2 (f_X7_error M1 1) (fun (r4 : Int32) (M3 : pm_M) => (some (r4, M3)))) else (if x2.toInt < 0 ∨ 2 < x2.toInt then (pm_b2 (f_X7_error M1 1) (fun (r6 : Int32) (M5 : pm_M) => (some (r6, M5)))) else if x2 = 0 then (pm_b2 (f_X7_replace M1 6 ((1 + 1) + 1) x1 x3 99) (fun (r8 : Int32) (M7 : pm_M) => (some (r8, M7)))) else if x2 = 1 then (pm_b2 (f_X7_replace M1 6 ((1 + 1) + 2) x1 x3 9999) (fun (r10 : Int32) (M9 : pm_M) => (some (r10, M9)))) else if x2 = 2 then (pm_b2 (f_X7_replace M1 6 ((1 + 1) + 4) x1 x3 99) (fun (r12 : Int32) (M11 : pm_M) => (some (r12, M11)))) else none))))
set_option maxHeartbeats 4000000 in
set_option maxRecDepth 100000 in
theorem w_X7_change {X : pm_X} {V : pm_V} (M : pm_M) (x1 : Int32) (x2 : Int32) (x3 : Int32)  : pm_VF (f_X7_change M x1 x2 x3) (pm_K X V mX7_change 3 skC) (pm_J X V mX7_change 3 (pm_wld V skC M) 0 [(0, .ref (V.1 0)), (1, .int x1), (2, .int x2), (3, .int x3)] []) := by
  unfold f_X7_change
  refine jv_aloadn (j := 0) dX7_change_0 rfl ?_
  refine hv_getR dX7_change_1 fl7_10 at_RS_0 rfl ?_
  refine hv_getR dX7_change_4 fl7_59 (at_VA_0 at_RS_now) rfl ?_
  refine jv_iloadn (j := 1) dX7_change_7 rfl ?_
  refine hv_callI (As := [.int x1]) dX7_change_8 lk7_71 kX3_has nX3_has (Nat.le_of_ble_eq_true rfl) (Nat.le_of_ble_eq_true rfl) (at_RO_0 (at_VA_ro at_RS_now)) rfl rfl rfl (fun _ _ e l => c_X3_has (at_VA_ro at_RS_now) e l V) ?_
  intro r2 M1
  refine jw_if_ne (tgt := 20) dX7_change_11 rfl (fun c11 => ?_) (fun c11 => ?_)
  · refine jv_aloadn (j := 0) dX7_change_14 rfl ?_
    refine jv_iconst (v := 1) dX7_change_15 (by decide) ?_
    refine hv_callI (As := [.int 1]) dX7_change_16 lk7_55 kX7_error nX7_error (Nat.le_of_ble_eq_true rfl) (Nat.le_of_ble_eq_true rfl) at_RS_0 rfl rfl rfl (fun _ _ e l => c_X7_error  e l V) ?_
    intro r4 M3
    exact vf_ret dX7_change_19 rfl
  refine jv_iloadn (j := 2) dX7_change_20 rfl ?_
  refine vf_case (fun c21 => ?_) (fun _ => ?_)
  · refine jv_tout (tgt := 106) dX7_change_21 c21 rfl ?_
    refine jv_aloadn (j := 0) dX7_change_106 rfl ?_
    refine jv_iconst (v := 1) dX7_change_107 (by decide) ?_
    refine hv_callI (As := [.int 1]) dX7_change_108 lk7_55 kX7_error nX7_error (Nat.le_of_ble_eq_true rfl) (Nat.le_of_ble_eq_true rfl) at_RS_0 rfl rfl rfl (fun _ _ e l => c_X7_error  e l V) ?_
    intro r6 M5
    exact vf_ret dX7_change_111 rfl
  refine vf_case (fun c21 => ?_) (fun _ => ?_)
  · refine jv_tin (v := 0) (tgt := 48) dX7_change_21 c21 (by decide) (by decide) rfl rfl ?_
    refine jv_aloadn (j := 0) dX7_change_48 rfl ?_
    refine jv_aloadn (j := 0) dX7_change_49 rfl ?_
    refine hv_getR dX7_change_50 fl7_10 at_RS_0 rfl ?_
    refine hv_getR dX7_change_53 fl7_59 (at_VA_0 at_RS_now) rfl ?_
    refine hv_getR dX7_change_56 fl7_75 (at_RO_0 (at_VA_ro at_RS_now)) rfl ?_
    refine jv_iloadn (j := 1) dX7_change_59 rfl ?_
    refine jv_iloadn (j := 3) dX7_change_60 rfl ?_
    refine jv_bipush (v := 99) dX7_change_61 (by decide) ?_
    refine hv_callI (As := [.ref (V.1 ((1 + 1) + 1)), .int x1, .int x3, .int 99]) dX7_change_63 lk7_99 kX7_replace nX7_replace (Nat.le_of_ble_eq_true rfl) (Nat.le_of_ble_eq_true rfl) at_RS_0 rfl rfl rfl (fun _ _ e l => c_X7_replace (at_RO_1 (at_VA_ro at_RS_now)) e l V) ?_
    intro r8 M7
    exact vf_ret dX7_change_66 rfl
  refine vf_case (fun c21 => ?_) (fun _ => ?_)
  · refine jv_tin (v := 1) (tgt := 67) dX7_change_21 c21 (by decide) (by decide) rfl rfl ?_
    refine jv_aloadn (j := 0) dX7_change_67 rfl ?_
    refine jv_aloadn (j := 0) dX7_change_68 rfl ?_
    refine hv_getR dX7_change_69 fl7_10 at_RS_0 rfl ?_
    refine hv_getR dX7_change_72 fl7_59 (at_VA_0 at_RS_now) rfl ?_
    refine hv_getR dX7_change_75 fl7_78 (at_RO_0 (at_VA_ro at_RS_now)) rfl ?_
    refine jv_iloadn (j := 1) dX7_change_78 rfl ?_
    refine jv_iloadn (j := 3) dX7_change_79 rfl ?_
    refine jv_sipush (v := 9999) dX7_change_80 (by decide) ?_
    refine hv_callI (As := [.ref (V.1 ((1 + 1) + 2)), .int x1, .int x3, .int 9999]) dX7_change_83 lk7_99 kX7_replace nX7_replace (Nat.le_of_ble_eq_true rfl) (Nat.le_of_ble_eq_true rfl) at_RS_0 rfl rfl rfl (fun _ _ e l => c_X7_replace (at_RO_2 (at_VA_ro at_RS_now)) e l V) ?_
    intro r10 M9
    exact vf_ret dX7_change_86 rfl
  refine vf_case (fun c21 => ?_) (fun _ => ?_)
  · refine jv_tin (v := 2) (tgt := 87) dX7_change_21 c21 (by decide) (by decide) rfl rfl ?_
    refine jv_aloadn (j := 0) dX7_change_87 rfl ?_
    refine jv_aloadn (j := 0) dX7_change_88 rfl ?_
    refine hv_getR dX7_change_89 fl7_10 at_RS_0 rfl ?_
    refine hv_getR dX7_change_92 fl7_59 (at_VA_0 at_RS_now) rfl ?_
    refine hv_getR dX7_change_95 fl7_84 (at_RO_0 (at_VA_ro at_RS_now)) rfl ?_
    refine jv_iloadn (j := 1) dX7_change_98 rfl ?_
    refine jv_iloadn (j := 3) dX7_change_99 rfl ?_
    refine jv_bipush (v := 99) dX7_change_100 (by decide) ?_
    refine hv_callI (As := [.ref (V.1 ((1 + 1) + 4)), .int x1, .int x3, .int 99]) dX7_change_102 lk7_99 kX7_replace nX7_replace (Nat.le_of_ble_eq_true rfl) (Nat.le_of_ble_eq_true rfl) at_RS_0 rfl rfl rfl (fun _ _ e l => c_X7_replace (at_RO_4 (at_VA_ro at_RS_now)) e l V) ?_
    intro r12 M11
    exact vf_ret dX7_change_105 rfl
  exact vf_none
theorem c_X7_change {M : pm_M} {x1 : Int32} {x2 : Int32} {x3 : Int32}  {r : Int32} {M' : pm_M} (h : f_X7_change M x1 x2 x3 = some (r, M')) (l : Launch) (V : pm_V) : pm_Ci l V skC yX7_change mX7_change 3 [.ref (V.1 0), .int x1, .int x2, .int x3] M r M' := pm_metI (by decide) rfl (Nat.le_of_ble_eq_true rfl) h (fun _ => w_X7_change M x1 x2 x3 )
def f_X7_owe (M : pm_M) (x1 : Int32) (x2 : Int32) (x3 : Int32) : Option (Int32 × pm_M) :=
  (pm_b2 (f_X3_areTwo (1 + 1) M x1 x2) (fun (r2 : Int32) (M1 : pm_M) => (if r2 = 0 then (pm_b2 (f_X7_error M1 1) (fun (r4 : Int32) (M3 : pm_M) => (some (r4, M3)))) else (pm_chk (pm_in x1 6) (pm_b2 (f_X7_replace M1 6 ((1 + 1) + 6 + x1.toNatClampNeg) x2 x3 999) (fun (r7 : Int32) (M6 : pm_M) => (some (r7, M6))))))))
set_option maxHeartbeats 4000000 in
set_option maxRecDepth 100000 in
theorem w_X7_owe {X : pm_X} {V : pm_V} (M : pm_M) (x1 : Int32) (x2 : Int32) (x3 : Int32)  : pm_VF (f_X7_owe M x1 x2 x3) (pm_K X V mX7_owe 3 skC) (pm_J X V mX7_owe 3 (pm_wld V skC M) 0 [(0, .ref (V.1 0)), (1, .int x1), (2, .int x2), (3, .int x3)] []) := by
  unfold f_X7_owe
  refine jv_aloadn (j := 0) dX7_owe_0 rfl ?_
  refine hv_getR dX7_owe_1 fl7_10 at_RS_0 rfl ?_
  refine hv_getR dX7_owe_4 fl7_59 (at_VA_0 at_RS_now) rfl ?_
  refine jv_iloadn (j := 1) dX7_owe_7 rfl ?_
  refine jv_iloadn (j := 2) dX7_owe_8 rfl ?_
  refine hv_callI (As := [.int x1, .int x2]) dX7_owe_9 lk7_103 kX3_areTwo nX3_areTwo (Nat.le_of_ble_eq_true rfl) (Nat.le_of_ble_eq_true rfl) (at_RO_0 (at_VA_ro at_RS_now)) rfl rfl rfl (fun _ _ e l => c_X3_areTwo (at_VA_ro at_RS_now) e l V) ?_
  intro r2 M1
  refine jw_if_ne (tgt := 21) dX7_owe_12 rfl (fun c12 => ?_) (fun c12 => ?_)
  · refine jv_aloadn (j := 0) dX7_owe_15 rfl ?_
    refine jv_iconst (v := 1) dX7_owe_16 (by decide) ?_
    refine hv_callI (As := [.int 1]) dX7_owe_17 lk7_55 kX7_error nX7_error (Nat.le_of_ble_eq_true rfl) (Nat.le_of_ble_eq_true rfl) at_RS_0 rfl rfl rfl (fun _ _ e l => c_X7_error  e l V) ?_
    intro r4 M3
    exact vf_ret dX7_owe_20 rfl
  refine jv_aloadn (j := 0) dX7_owe_21 rfl ?_
  refine jv_aloadn (j := 0) dX7_owe_22 rfl ?_
  refine hv_getR dX7_owe_23 fl7_10 at_RS_0 rfl ?_
  refine hv_getR dX7_owe_26 fl7_59 (at_VA_0 at_RS_now) rfl ?_
  refine hv_getR dX7_owe_29 fl7_107 (at_RO_0 (at_VA_ro at_RS_now)) rfl ?_
  refine jv_iloadn (j := 1) dX7_owe_32 rfl ?_
  refine vf_chk (fun q5 => ?_)
  refine hv_aald dX7_owe_33 (at_RO_5 (at_VA_ro at_RS_now)) (ty := .array .int) (fun _ => rfl) rfl q5 (pl_row q5) ?_
  refine jv_iloadn (j := 2) dX7_owe_34 rfl ?_
  refine jv_iloadn (j := 3) dX7_owe_35 rfl ?_
  refine jv_sipush (v := 999) dX7_owe_36 (by decide) ?_
  refine hv_callI (As := [.ref (V.1 ((1 + 1) + 6 + x1.toNatClampNeg)), .int x2, .int x3, .int 999]) dX7_owe_39 lk7_99 kX7_replace nX7_replace (Nat.le_of_ble_eq_true rfl) (Nat.le_of_ble_eq_true rfl) at_RS_0 rfl rfl rfl (fun _ _ e l => c_X7_replace (at_RO_rowi (at_VA_ro at_RS_now) q5) e l V) ?_
  intro r7 M6
  exact vf_ret dX7_owe_42 rfl
theorem c_X7_owe {M : pm_M} {x1 : Int32} {x2 : Int32} {x3 : Int32}  {r : Int32} {M' : pm_M} (h : f_X7_owe M x1 x2 x3 = some (r, M')) (l : Launch) (V : pm_V) : pm_Ci l V skC yX7_owe mX7_owe 3 [.ref (V.1 0), .int x1, .int x2, .int x3] M r M' := pm_metI (by decide) rfl (Nat.le_of_ble_eq_true rfl) h (fun _ => w_X7_owe M x1 x2 x3 )
def f_X7_owed (M : pm_M) (x1 : Int32) (x2 : Int32) : Option (Int32 × pm_M) :=
  (pm_b2 (f_X3_areTwo (1 + 1) M x1 x2) (fun (r2 : Int32) (M1 : pm_M) => (if r2 = 0 then (pm_b2 (f_X7_error M1 1) (fun (r4 : Int32) (M3 : pm_M) => (some (r4, M3)))) else (pm_chk (pm_in x1 6) (pm_chk (pm_in x2 6) (some ((M1 ((1 + 1) + 6 + x1.toNatClampNeg) x2.toNatClampNeg), M1)))))))
set_option maxHeartbeats 4000000 in
set_option maxRecDepth 100000 in
theorem w_X7_owed {X : pm_X} {V : pm_V} (M : pm_M) (x1 : Int32) (x2 : Int32)  : pm_VF (f_X7_owed M x1 x2) (pm_K X V mX7_owed 3 skC) (pm_J X V mX7_owed 3 (pm_wld V skC M) 0 [(0, .ref (V.1 0)), (1, .int x1), (2, .int x2)] []) := by
  unfold f_X7_owed
  refine jv_aloadn (j := 0) dX7_owed_0 rfl ?_
  refine hv_getR dX7_owed_1 fl7_10 at_RS_0 rfl ?_
  refine hv_getR dX7_owed_4 fl7_59 (at_VA_0 at_RS_now) rfl ?_
  refine jv_iloadn (j := 1) dX7_owed_7 rfl ?_
  refine jv_iloadn (j := 2) dX7_owed_8 rfl ?_
  refine hv_callI (As := [.int x1, .int x2]) dX7_owed_9 lk7_103 kX3_areTwo nX3_areTwo (Nat.le_of_ble_eq_true rfl) (Nat.le_of_ble_eq_true rfl) (at_RO_0 (at_VA_ro at_RS_now)) rfl rfl rfl (fun _ _ e l => c_X3_areTwo (at_VA_ro at_RS_now) e l V) ?_
  intro r2 M1
  refine jw_if_ne (tgt := 21) dX7_owed_12 rfl (fun c12 => ?_) (fun c12 => ?_)
  · refine jv_aloadn (j := 0) dX7_owed_15 rfl ?_
    refine jv_iconst (v := 1) dX7_owed_16 (by decide) ?_
    refine hv_callI (As := [.int 1]) dX7_owed_17 lk7_55 kX7_error nX7_error (Nat.le_of_ble_eq_true rfl) (Nat.le_of_ble_eq_true rfl) at_RS_0 rfl rfl rfl (fun _ _ e l => c_X7_error  e l V) ?_
    intro r4 M3
    exact vf_ret dX7_owed_20 rfl
  refine jv_aloadn (j := 0) dX7_owed_21 rfl ?_
  refine hv_getR dX7_owed_22 fl7_10 at_RS_0 rfl ?_
  refine hv_getR dX7_owed_25 fl7_59 (at_VA_0 at_RS_now) rfl ?_
  refine hv_getR dX7_owed_28 fl7_107 (at_RO_0 (at_VA_ro at_RS_now)) rfl ?_
  refine jv_iloadn (j := 1) dX7_owed_31 rfl ?_
  refine vf_chk (fun q5 => ?_)
  refine hv_aald dX7_owed_32 (at_RO_5 (at_VA_ro at_RS_now)) (ty := .array .int) (fun _ => rfl) rfl q5 (pl_row q5) ?_
  refine jv_iloadn (j := 2) dX7_owed_33 rfl ?_
  refine hv_ialdC dX7_owed_34 (at_RO_rowi (at_VA_ro at_RS_now) q5) (fun _ => ?_)
  exact vf_ret dX7_owed_35 rfl
theorem c_X7_owed {M : pm_M} {x1 : Int32} {x2 : Int32}  {r : Int32} {M' : pm_M} (h : f_X7_owed M x1 x2 = some (r, M')) (l : Launch) (V : pm_V) : pm_Ci l V skC yX7_owed mX7_owed 3 [.ref (V.1 0), .int x1, .int x2] M r M' := pm_metI (by decide) rfl (Nat.le_of_ble_eq_true rfl) h (fun _ => w_X7_owed M x1 x2 )
def f_X7_pay (M : pm_M) (x1 : Int32) (x2 : Int32) : Option (Int32 × pm_M) :=
  (pm_b2 (f_X3_has (1 + 1) M x1) (fun (r2 : Int32) (M1 : pm_M) => (if r2 = 0 then (pm_b2 (f_X7_error M1 1) (fun (r4 : Int32) (M3 : pm_M) => (some (r4, M3)))) else (pm_b2 (f_X7_within M1 x2 1 9999) (fun (r6 : Int32) (M5 : pm_M) => (if r6 = 0 then (pm_b2 (f_X7_error M5 1) (fun (r8 : Int32) (M7 : pm_M) => (some (r8, M7)))) else (pm_chk (pm_in x1 6) (if x2 ≤ (M5 ((1 + 1) + 2) x1.toNatClampNeg) then (pm_chk (pm_in x1 6) (pm_chk (pm_in x1 6) (pm_let (pm_up M5 ((1 + 1) + 2) x1.toNatClampNeg ((M5 ((1 + 1) + 2) x1.toNatClampNeg) - x2)) (fun M9 : pm_M => (pm_chk (pm_in x1 6) (some ((M9 ((1 + 1) + 2) x1.toNatClampNeg), M9))))))) else (pm_b2 (f_X7_error M5 3) (fun (r11 : Int32) (M10 : pm_M) => (some (r11, M10))))))))))))
set_option maxHeartbeats 4000000 in
set_option maxRecDepth 100000 in
theorem w_X7_pay {X : pm_X} {V : pm_V} (M : pm_M) (x1 : Int32) (x2 : Int32)  : pm_VF (f_X7_pay M x1 x2) (pm_K X V mX7_pay 2 skC) (pm_J X V mX7_pay 2 (pm_wld V skC M) 0 [(0, .ref (V.1 0)), (1, .int x1), (2, .int x2)] []) := by
  unfold f_X7_pay
  refine jv_aloadn (j := 0) dX7_pay_0 rfl ?_
  refine hv_getR dX7_pay_1 fl7_10 at_RS_0 rfl ?_
  refine hv_getR dX7_pay_4 fl7_59 (at_VA_0 at_RS_now) rfl ?_
  refine jv_iloadn (j := 1) dX7_pay_7 rfl ?_
  refine hv_callI (As := [.int x1]) dX7_pay_8 lk7_71 kX3_has nX3_has (Nat.le_of_ble_eq_true rfl) (Nat.le_of_ble_eq_true rfl) (at_RO_0 (at_VA_ro at_RS_now)) rfl rfl rfl (fun _ _ e l => c_X3_has (at_VA_ro at_RS_now) e l V) ?_
  intro r2 M1
  refine jw_if_eq (tgt := 25) dX7_pay_11 rfl (fun c11 => ?_) (fun c11 => ?_)
  · refine jv_aloadn (j := 0) dX7_pay_25 rfl ?_
    refine jv_iconst (v := 1) dX7_pay_26 (by decide) ?_
    refine hv_callI (As := [.int 1]) dX7_pay_27 lk7_55 kX7_error nX7_error (Nat.le_of_ble_eq_true rfl) (Nat.le_of_ble_eq_true rfl) at_RS_0 rfl rfl rfl (fun _ _ e l => c_X7_error  e l V) ?_
    intro r4 M3
    exact vf_ret dX7_pay_30 rfl
  refine jv_iloadn (j := 2) dX7_pay_14 rfl ?_
  refine jv_iconst (v := 1) dX7_pay_15 (by decide) ?_
  refine jv_sipush (v := 9999) dX7_pay_16 (by decide) ?_
  refine hv_callS (As := [.int x2, .int 1, .int 9999]) dX7_pay_19 lk7_51 kX7_within nX7_within (Nat.le_of_ble_eq_true rfl) (Nat.le_of_ble_eq_true rfl) rfl (fun _ _ e l => c_X7_within  e l V) ?_
  intro r6 M5
  refine jw_if_ne (tgt := 31) dX7_pay_22 rfl (fun c22 => ?_) (fun c22 => ?_)
  · refine jv_aloadn (j := 0) dX7_pay_25 rfl ?_
    refine jv_iconst (v := 1) dX7_pay_26 (by decide) ?_
    refine hv_callI (As := [.int 1]) dX7_pay_27 lk7_55 kX7_error nX7_error (Nat.le_of_ble_eq_true rfl) (Nat.le_of_ble_eq_true rfl) at_RS_0 rfl rfl rfl (fun _ _ e l => c_X7_error  e l V) ?_
    intro r8 M7
    exact vf_ret dX7_pay_30 rfl
  refine jv_aloadn (j := 0) dX7_pay_31 rfl ?_
  refine hv_getR dX7_pay_32 fl7_10 at_RS_0 rfl ?_
  refine hv_getR dX7_pay_35 fl7_59 (at_VA_0 at_RS_now) rfl ?_
  refine hv_getR dX7_pay_38 fl7_78 (at_RO_0 (at_VA_ro at_RS_now)) rfl ?_
  refine jv_iloadn (j := 1) dX7_pay_41 rfl ?_
  refine hv_ialdC dX7_pay_42 (at_RO_2 (at_VA_ro at_RS_now)) (fun _ => ?_)
  refine jv_iloadn (j := 2) dX7_pay_43 rfl ?_
  refine jw_ic_ge (tgt := 53) dX7_pay_44 rfl (fun c44 => ?_) (fun c44 => ?_)
  · refine jv_aloadn (j := 0) dX7_pay_53 rfl ?_
    refine hv_getR dX7_pay_54 fl7_10 at_RS_0 rfl ?_
    refine hv_getR dX7_pay_57 fl7_59 (at_VA_0 at_RS_now) rfl ?_
    refine hv_getR dX7_pay_60 fl7_78 (at_RO_0 (at_VA_ro at_RS_now)) rfl ?_
    refine jv_iloadn (j := 1) dX7_pay_63 rfl ?_
    refine jv_dup2 dX7_pay_64 rfl rfl ?_
    refine hv_ialdC dX7_pay_65 (at_RO_2 (at_VA_ro at_RS_now)) (fun _ => ?_)
    refine jv_iloadn (j := 2) dX7_pay_66 rfl ?_
    refine jv_isub dX7_pay_67 ?_
    refine hv_iastC dX7_pay_68 (at_RO_2 (at_VA_ro at_RS_now)) (fun _ => ?_)
    refine vf_letM (fun M9 => ?_)
    refine jv_aloadn (j := 0) dX7_pay_69 rfl ?_
    refine hv_getR dX7_pay_70 fl7_10 at_RS_0 rfl ?_
    refine hv_getR dX7_pay_73 fl7_59 (at_VA_0 at_RS_now) rfl ?_
    refine hv_getR dX7_pay_76 fl7_78 (at_RO_0 (at_VA_ro at_RS_now)) rfl ?_
    refine jv_iloadn (j := 1) dX7_pay_79 rfl ?_
    refine hv_ialdC dX7_pay_80 (at_RO_2 (at_VA_ro at_RS_now)) (fun _ => ?_)
    exact vf_ret dX7_pay_81 rfl
  refine jv_aloadn (j := 0) dX7_pay_47 rfl ?_
  refine jv_iconst (v := 3) dX7_pay_48 (by decide) ?_
  refine hv_callI (As := [.int 3]) dX7_pay_49 lk7_55 kX7_error nX7_error (Nat.le_of_ble_eq_true rfl) (Nat.le_of_ble_eq_true rfl) at_RS_0 rfl rfl rfl (fun _ _ e l => c_X7_error  e l V) ?_
  intro r11 M10
  exact vf_ret dX7_pay_52 rfl
theorem c_X7_pay {M : pm_M} {x1 : Int32} {x2 : Int32}  {r : Int32} {M' : pm_M} (h : f_X7_pay M x1 x2 = some (r, M')) (l : Launch) (V : pm_V) : pm_Ci l V skC yX7_pay mX7_pay 2 [.ref (V.1 0), .int x1, .int x2] M r M' := pm_metI (by decide) rfl (Nat.le_of_ble_eq_true rfl) h (fun _ => w_X7_pay M x1 x2 )
def f_X7_sell (M : pm_M) (x1 : Int32) (x2 : Int32) (x3 : Int32) : Option (Int32 × pm_M) :=
  (pm_b2 (f_X3_areTwo (1 + 1) M x1 x2) (fun (r2 : Int32) (M1 : pm_M) => (if r2 = 0 then (pm_b2 (f_X7_error M1 1) (fun (r4 : Int32) (M3 : pm_M) => (some (r4, M3)))) else (pm_b2 (f_X7_within M1 x3 1 99) (fun (r6 : Int32) (M5 : pm_M) => (if r6 = 0 then (pm_b2 (f_X7_error M5 1) (fun (r8 : Int32) (M7 : pm_M) => (some (r8, M7)))) else (pm_chk (pm_in x1 6) (if (M5 ((1 + 1) + 1) x1.toNatClampNeg) < x3 then (pm_b2 (f_X7_error M5 3) (fun (r10 : Int32) (M9 : pm_M) => (some (r10, M9)))) else (pm_chk (pm_in x2 6) (if ((M5 ((1 + 1) + 1) x2.toNatClampNeg) + x3) ≤ 99 then (pm_chk (pm_in x1 6) (pm_chk (pm_in x1 6) (pm_let (pm_up M5 ((1 + 1) + 1) x1.toNatClampNeg ((M5 ((1 + 1) + 1) x1.toNatClampNeg) - x3)) (fun M11 : pm_M => (pm_chk (pm_in x2 6) (pm_chk (pm_in x2 6) (pm_let (pm_up M11 ((1 + 1) + 1) x2.toNatClampNeg ((M11 ((1 + 1) + 1) x2.toNatClampNeg) + x3)) (fun M12 : pm_M => (pm_chk (pm_in x1 6) (some ((M12 ((1 + 1) + 1) x1.toNatClampNeg), M12))))))))))) else (pm_b2 (f_X7_error M5 3) (fun (r14 : Int32) (M13 : pm_M) => (some (r14, M13))))))))))))))
set_option maxHeartbeats 4000000 in
set_option maxRecDepth 100000 in
theorem w_X7_sell {X : pm_X} {V : pm_V} (M : pm_M) (x1 : Int32) (x2 : Int32) (x3 : Int32)  : pm_VF (f_X7_sell M x1 x2 x3) (pm_K X V mX7_sell 3 skC) (pm_J X V mX7_sell 3 (pm_wld V skC M) 0 [(0, .ref (V.1 0)), (1, .int x1), (2, .int x2), (3, .int x3)] []) := by
  unfold f_X7_sell
  refine jv_aloadn (j := 0) dX7_sell_0 rfl ?_
  refine hv_getR dX7_sell_1 fl7_10 at_RS_0 rfl ?_
  refine hv_getR dX7_sell_4 fl7_59 (at_VA_0 at_RS_now) rfl ?_
  refine jv_iloadn (j := 1) dX7_sell_7 rfl ?_
  refine jv_iloadn (j := 2) dX7_sell_8 rfl ?_
  refine hv_callI (As := [.int x1, .int x2]) dX7_sell_9 lk7_103 kX3_areTwo nX3_areTwo (Nat.le_of_ble_eq_true rfl) (Nat.le_of_ble_eq_true rfl) (at_RO_0 (at_VA_ro at_RS_now)) rfl rfl rfl (fun _ _ e l => c_X3_areTwo (at_VA_ro at_RS_now) e l V) ?_
  intro r2 M1
  refine jw_if_eq (tgt := 25) dX7_sell_12 rfl (fun c12 => ?_) (fun c12 => ?_)
  · refine jv_aloadn (j := 0) dX7_sell_25 rfl ?_
    refine jv_iconst (v := 1) dX7_sell_26 (by decide) ?_
    refine hv_callI (As := [.int 1]) dX7_sell_27 lk7_55 kX7_error nX7_error (Nat.le_of_ble_eq_true rfl) (Nat.le_of_ble_eq_true rfl) at_RS_0 rfl rfl rfl (fun _ _ e l => c_X7_error  e l V) ?_
    intro r4 M3
    exact vf_ret dX7_sell_30 rfl
  refine jv_iloadn (j := 3) dX7_sell_15 rfl ?_
  refine jv_iconst (v := 1) dX7_sell_16 (by decide) ?_
  refine jv_bipush (v := 99) dX7_sell_17 (by decide) ?_
  refine hv_callS (As := [.int x3, .int 1, .int 99]) dX7_sell_19 lk7_51 kX7_within nX7_within (Nat.le_of_ble_eq_true rfl) (Nat.le_of_ble_eq_true rfl) rfl (fun _ _ e l => c_X7_within  e l V) ?_
  intro r6 M5
  refine jw_if_ne (tgt := 31) dX7_sell_22 rfl (fun c22 => ?_) (fun c22 => ?_)
  · refine jv_aloadn (j := 0) dX7_sell_25 rfl ?_
    refine jv_iconst (v := 1) dX7_sell_26 (by decide) ?_
    refine hv_callI (As := [.int 1]) dX7_sell_27 lk7_55 kX7_error nX7_error (Nat.le_of_ble_eq_true rfl) (Nat.le_of_ble_eq_true rfl) at_RS_0 rfl rfl rfl (fun _ _ e l => c_X7_error  e l V) ?_
    intro r8 M7
    exact vf_ret dX7_sell_30 rfl
  refine jv_aloadn (j := 0) dX7_sell_31 rfl ?_
  refine hv_getR dX7_sell_32 fl7_10 at_RS_0 rfl ?_
  refine hv_getR dX7_sell_35 fl7_59 (at_VA_0 at_RS_now) rfl ?_
  refine hv_getR dX7_sell_38 fl7_75 (at_RO_0 (at_VA_ro at_RS_now)) rfl ?_
  refine jv_astore (L' := [(4, .ref (V.1 ((1 + 1) + 1))), (0, .ref (V.1 0)), (1, .int x1), (2, .int x2), (3, .int x3)]) dX7_sell_41 (Nat.le_of_ble_eq_true rfl) rfl ?_
  refine jv_aload (j := 0) dX7_sell_43 rfl ?_
  refine jv_iloadn (j := 2) dX7_sell_45 rfl ?_
  refine hv_ialdC dX7_sell_46 (at_RO_1 (at_VA_ro at_RS_now)) (fun _ => ?_)
  refine jv_iloadn (j := 4) dX7_sell_47 rfl ?_
  refine jw_ic_lt (tgt := 62) dX7_sell_48 rfl (fun c48 => ?_) (fun c48 => ?_)
  · refine jv_aloadn (j := 1) dX7_sell_62 rfl ?_
    refine jv_iconst (v := 3) dX7_sell_63 (by decide) ?_
    refine hv_callI (As := [.int 3]) dX7_sell_64 lk7_55 kX7_error nX7_error (Nat.le_of_ble_eq_true rfl) (Nat.le_of_ble_eq_true rfl) at_RS_0 rfl rfl rfl (fun _ _ e l => c_X7_error  e l V) ?_
    intro r10 M9
    exact vf_ret dX7_sell_67 rfl
  refine jv_aload (j := 0) dX7_sell_51 rfl ?_
  refine jv_iloadn (j := 3) dX7_sell_53 rfl ?_
  refine hv_ialdC dX7_sell_54 (at_RO_1 (at_VA_ro at_RS_now)) (fun _ => ?_)
  refine jv_iloadn (j := 4) dX7_sell_55 rfl ?_
  refine jv_iadd dX7_sell_56 ?_
  refine jv_bipush (v := 99) dX7_sell_57 (by decide) ?_
  refine jw_ic_le (tgt := 68) dX7_sell_59 rfl (fun c59 => ?_) (fun c59 => ?_)
  · refine jv_aload (j := 0) dX7_sell_68 rfl ?_
    refine jv_iloadn (j := 2) dX7_sell_70 rfl ?_
    refine jv_dup2 dX7_sell_71 rfl rfl ?_
    refine hv_ialdC dX7_sell_72 (at_RO_1 (at_VA_ro at_RS_now)) (fun _ => ?_)
    refine jv_iloadn (j := 4) dX7_sell_73 rfl ?_
    refine jv_isub dX7_sell_74 ?_
    refine hv_iastC dX7_sell_75 (at_RO_1 (at_VA_ro at_RS_now)) (fun _ => ?_)
    refine vf_letM (fun M11 => ?_)
    refine jv_aload (j := 0) dX7_sell_76 rfl ?_
    refine jv_iloadn (j := 3) dX7_sell_78 rfl ?_
    refine jv_dup2 dX7_sell_79 rfl rfl ?_
    refine hv_ialdC dX7_sell_80 (at_RO_1 (at_VA_ro at_RS_now)) (fun _ => ?_)
    refine jv_iloadn (j := 4) dX7_sell_81 rfl ?_
    refine jv_iadd dX7_sell_82 ?_
    refine hv_iastC dX7_sell_83 (at_RO_1 (at_VA_ro at_RS_now)) (fun _ => ?_)
    refine vf_letM (fun M12 => ?_)
    refine jv_aload (j := 0) dX7_sell_84 rfl ?_
    refine jv_iloadn (j := 2) dX7_sell_86 rfl ?_
    refine hv_ialdC dX7_sell_87 (at_RO_1 (at_VA_ro at_RS_now)) (fun _ => ?_)
    exact vf_ret dX7_sell_88 rfl
  refine jv_aloadn (j := 1) dX7_sell_62 rfl ?_
  refine jv_iconst (v := 3) dX7_sell_63 (by decide) ?_
  refine hv_callI (As := [.int 3]) dX7_sell_64 lk7_55 kX7_error nX7_error (Nat.le_of_ble_eq_true rfl) (Nat.le_of_ble_eq_true rfl) at_RS_0 rfl rfl rfl (fun _ _ e l => c_X7_error  e l V) ?_
  intro r14 M13
  exact vf_ret dX7_sell_67 rfl
theorem c_X7_sell {M : pm_M} {x1 : Int32} {x2 : Int32} {x3 : Int32}  {r : Int32} {M' : pm_M} (h : f_X7_sell M x1 x2 x3 = some (r, M')) (l : Launch) (V : pm_V) : pm_Ci l V skC yX7_sell mX7_sell 3 [.ref (V.1 0), .int x1, .int x2, .int x3] M r M' := pm_metI (by decide) rfl (Nat.le_of_ble_eq_true rfl) h (fun _ => w_X7_sell M x1 x2 x3 )
def f_X7_isKindAndM (M : pm_M) (x1 : Int32) : Option (Int32 × pm_M) :=
  (pm_b2 (f_X7_within M x1 0 69) (fun (r2 : Int32) (M1 : pm_M) => (pm_chk (pm_zo r2) (some (r2, M1)))))
set_option maxHeartbeats 4000000 in
set_option maxRecDepth 100000 in
theorem w_X7_isKindAndM {X : pm_X} {V : pm_V} (M : pm_M) (x1 : Int32)  : pm_VF (f_X7_isKindAndM M x1) (pm_K X V mX7_isKindAndM 2 skC) (pm_J X V mX7_isKindAndM 2 (pm_wld V skC M) 0 [(0, .int x1)] []) := by
  unfold f_X7_isKindAndM
  refine jv_iloadn (j := 0) dX7_isKindAndM_0 rfl ?_
  refine jv_iconst (v := 0) dX7_isKindAndM_1 (by decide) ?_
  refine jv_bipush (v := 69) dX7_isKindAndM_2 (by decide) ?_
  refine hv_callS (As := [.int x1, .int 0, .int 69]) dX7_isKindAndM_4 lk7_51 kX7_within nX7_within (Nat.le_of_ble_eq_true rfl) (Nat.le_of_ble_eq_true rfl) rfl (fun _ _ e l => c_X7_within  e l V) ?_
  intro r2 M1
  refine vf_chk (fun hz => ?_)
  exact vf_zret dX7_isKindAndM_7 rfl hz
theorem c_X7_isKindAndM {M : pm_M} {x1 : Int32}  {r : Int32} {M' : pm_M} (h : f_X7_isKindAndM M x1 = some (r, M')) (l : Launch) (V : pm_V) : pm_Ci l V skC yX7_isKindAndM mX7_isKindAndM 2 [.int x1] M r M' := pm_metI (by decide) rfl (Nat.le_of_ble_eq_true rfl) h (fun _ => w_X7_isKindAndM M x1 )
def f_X7_cloud (M : pm_M) (x1 : Int32) (x2 : Int32) : Option (Int32 × pm_M) :=
  (pm_b2 (f_X7_isKindAndM M x1) (fun (r2 : Int32) (M1 : pm_M) => (if r2 = 0 then (pm_b2 (f_X7_error M1 1) (fun (r4 : Int32) (M3 : pm_M) => (some (r4, M3)))) else (pm_b2 (f_X3_has (1 + 1) M1 x2) (fun (r6 : Int32) (M5 : pm_M) => (if r6 = 0 then (pm_b2 (f_X7_error M5 1) (fun (r8 : Int32) (M7 : pm_M) => (some (r8, M7)))) else (if (M5 (1 + 13) 0) < 5 then (pm_b2 (f_X0_add (1 + 13) M5 x1 x2) (fun (r10 : Int32) (M9 : pm_M) => (some (r10, M9)))) else (pm_b2 (f_X7_error M5 4) (fun (r12 : Int32) (M11 : pm_M) => (some (r12, M11)))))))))))
set_option maxHeartbeats 4000000 in
set_option maxRecDepth 100000 in
theorem w_X7_cloud {X : pm_X} {V : pm_V} (M : pm_M) (x1 : Int32) (x2 : Int32)  : pm_VF (f_X7_cloud M x1 x2) (pm_K X V mX7_cloud 3 skC) (pm_J X V mX7_cloud 3 (pm_wld V skC M) 0 [(0, .ref (V.1 0)), (1, .int x1), (2, .int x2)] []) := by
  unfold f_X7_cloud
  refine jv_iloadn (j := 1) dX7_cloud_0 rfl ?_
  refine hv_callS (As := [.int x1]) dX7_cloud_1 lk7_111 kX7_isKindAndM nX7_isKindAndM (Nat.le_of_ble_eq_true rfl) (Nat.le_of_ble_eq_true rfl) rfl (fun _ _ e l => c_X7_isKindAndM  e l V) ?_
  intro r2 M1
  refine jw_if_eq (tgt := 21) dX7_cloud_4 rfl (fun c4 => ?_) (fun c4 => ?_)
  · refine jv_aloadn (j := 0) dX7_cloud_21 rfl ?_
    refine jv_iconst (v := 1) dX7_cloud_22 (by decide) ?_
    refine hv_callI (As := [.int 1]) dX7_cloud_23 lk7_55 kX7_error nX7_error (Nat.le_of_ble_eq_true rfl) (Nat.le_of_ble_eq_true rfl) at_RS_0 rfl rfl rfl (fun _ _ e l => c_X7_error  e l V) ?_
    intro r4 M3
    exact vf_ret dX7_cloud_26 rfl
  refine jv_aloadn (j := 0) dX7_cloud_7 rfl ?_
  refine hv_getR dX7_cloud_8 fl7_10 at_RS_0 rfl ?_
  refine hv_getR dX7_cloud_11 fl7_59 (at_VA_0 at_RS_now) rfl ?_
  refine jv_iloadn (j := 2) dX7_cloud_14 rfl ?_
  refine hv_callI (As := [.int x2]) dX7_cloud_15 lk7_71 kX3_has nX3_has (Nat.le_of_ble_eq_true rfl) (Nat.le_of_ble_eq_true rfl) (at_RO_0 (at_VA_ro at_RS_now)) rfl rfl rfl (fun _ _ e l => c_X3_has (at_VA_ro at_RS_now) e l V) ?_
  intro r6 M5
  refine jw_if_ne (tgt := 27) dX7_cloud_18 rfl (fun c18 => ?_) (fun c18 => ?_)
  · refine jv_aloadn (j := 0) dX7_cloud_21 rfl ?_
    refine jv_iconst (v := 1) dX7_cloud_22 (by decide) ?_
    refine hv_callI (As := [.int 1]) dX7_cloud_23 lk7_55 kX7_error nX7_error (Nat.le_of_ble_eq_true rfl) (Nat.le_of_ble_eq_true rfl) at_RS_0 rfl rfl rfl (fun _ _ e l => c_X7_error  e l V) ?_
    intro r8 M7
    exact vf_ret dX7_cloud_26 rfl
  refine jv_aloadn (j := 0) dX7_cloud_27 rfl ?_
  refine hv_getR dX7_cloud_28 fl7_10 at_RS_0 rfl ?_
  refine hv_getR dX7_cloud_31 fl7_87 (at_VA_0 at_RS_now) rfl ?_
  refine hv_getI dX7_cloud_34 fl7_114 (at_CL_0 (at_VA_cl at_RS_now)) rfl ?_
  refine jv_iconst (v := 5) dX7_cloud_37 (by decide) ?_
  refine jw_ic_lt (tgt := 47) dX7_cloud_38 rfl (fun c38 => ?_) (fun c38 => ?_)
  · refine jv_aloadn (j := 0) dX7_cloud_47 rfl ?_
    refine hv_getR dX7_cloud_48 fl7_10 at_RS_0 rfl ?_
    refine hv_getR dX7_cloud_51 fl7_87 (at_VA_0 at_RS_now) rfl ?_
    refine jv_iloadn (j := 1) dX7_cloud_54 rfl ?_
    refine jv_iloadn (j := 2) dX7_cloud_55 rfl ?_
    refine hv_callI (As := [.int x1, .int x2]) dX7_cloud_56 lk7_115 kX0_add nX0_add (Nat.le_of_ble_eq_true rfl) (Nat.le_of_ble_eq_true rfl) (at_CL_0 (at_VA_cl at_RS_now)) rfl rfl rfl (fun _ _ e l => c_X0_add (at_VA_cl at_RS_now) e l V) ?_
    intro r10 M9
    exact vf_ret dX7_cloud_59 rfl
  refine jv_aloadn (j := 0) dX7_cloud_41 rfl ?_
  refine jv_iconst (v := 4) dX7_cloud_42 (by decide) ?_
  refine hv_callI (As := [.int 4]) dX7_cloud_43 lk7_55 kX7_error nX7_error (Nat.le_of_ble_eq_true rfl) (Nat.le_of_ble_eq_true rfl) at_RS_0 rfl rfl rfl (fun _ _ e l => c_X7_error  e l V) ?_
  intro r12 M11
  exact vf_ret dX7_cloud_46 rfl
theorem c_X7_cloud {M : pm_M} {x1 : Int32} {x2 : Int32}  {r : Int32} {M' : pm_M} (h : f_X7_cloud M x1 x2 = some (r, M')) (l : Launch) (V : pm_V) : pm_Ci l V skC yX7_cloud mX7_cloud 3 [.ref (V.1 0), .int x1, .int x2] M r M' := pm_metI (by decide) rfl (Nat.le_of_ble_eq_true rfl) h (fun _ => w_X7_cloud M x1 x2 )
def f_X7_ofCloud (M : pm_M) (x1 : Int32) (x2 : Int32) : Option (Int32 × pm_M) :=
  (pm_b2 (f_X0_has (1 + 13) M x1) (fun (r2 : Int32) (M1 : pm_M) => (if r2 = 0 then (pm_b2 (f_X7_error M1 1) (fun (r4 : Int32) (M3 : pm_M) => (some (r4, M3)))) else (if x2.toInt < 0 ∨ 7 < x2.toInt then (pm_b2 (f_X7_error M1 1) (fun (r6 : Int32) (M5 : pm_M) => (some (r6, M5)))) else if x2 = 0 then (pm_chk (pm_in x1 5) (some ((M1 ((1 + 13) + 1) x1.toNatClampNeg), M1))) else if x2 = 1 then (pm_chk (pm_in x1 5) (some ((M1 ((1 + 13) + 2) x1.toNatClampNeg), M1))) else if x2 = 2 then (pm_chk (pm_in x1 5) (some ((M1 ((1 + 13) + 3) x1.toNatClampNeg), M1))) else if x2 = 3 then (pm_chk (pm_in x1 5) (some ((M1 ((1 + 13) + 4) x1.toNatClampNeg), M1))) else if x2 = 4 then (pm_b2 (f_X0_lasting (1 + 13) M1 x1) (fun (r8 : Int32) (M7 : pm_M) => (some (r8, M7)))) else if x2 = 5 then (pm_b2 (f_X0_isSpent (1 + 13) M1 x1) (fun (r10 : Int32) (M9 : pm_M) => (if r10 = 0 then (some (0, M9)) else (some (1, M9))))) else if x2 = 6 then (pm_chk (pm_in x1 5) (pm_b2 (f_X5_dropsOn 1 M1 x1 (M1 ((1 + 13) + 3) x1.toNatClampNeg)) (fun (r12 : Int32) (M11 : pm_M) => (some (r12, M11))))) else if x2 = 7 then (pm_b2 (f_X5_nextOver 1 M1 x1) (fun (r14 : Int32) (M13 : pm_M) => (some (r14, M13)))) else none))))
set_option maxHeartbeats 4000000 in
set_option maxRecDepth 100000 in
theorem w_X7_ofCloud {X : pm_X} {V : pm_V} (M : pm_M) (x1 : Int32) (x2 : Int32)  : pm_VF (f_X7_ofCloud M x1 x2) (pm_K X V mX7_ofCloud 4 skC) (pm_J X V mX7_ofCloud 4 (pm_wld V skC M) 0 [(0, .ref (V.1 0)), (1, .int x1), (2, .int x2)] []) := by
  unfold f_X7_ofCloud
  refine jv_aloadn (j := 0) dX7_ofCloud_0 rfl ?_
  refine hv_getR dX7_ofCloud_1 fl7_10 at_RS_0 rfl ?_
  refine hv_getR dX7_ofCloud_4 fl7_87 (at_VA_0 at_RS_now) rfl ?_
  refine jv_iloadn (j := 1) dX7_ofCloud_7 rfl ?_
  refine hv_callI (As := [.int x1]) dX7_ofCloud_8 lk7_118 kX0_has nX0_has (Nat.le_of_ble_eq_true rfl) (Nat.le_of_ble_eq_true rfl) (at_CL_0 (at_VA_cl at_RS_now)) rfl rfl rfl (fun _ _ e l => c_X0_has (at_VA_cl at_RS_now) e l V) ?_
  intro r2 M1
  refine jw_if_ne (tgt := 20) dX7_ofCloud_11 rfl (fun c11 => ?_) (fun c11 => ?_)
  · refine jv_aloadn (j := 0) dX7_ofCloud_14 rfl ?_
    refine jv_iconst (v := 1) dX7_ofCloud_15 (by decide) ?_
    refine hv_callI (As := [.int 1]) dX7_ofCloud_16 lk7_55 kX7_error nX7_error (Nat.le_of_ble_eq_true rfl) (Nat.le_of_ble_eq_true rfl) at_RS_0 rfl rfl rfl (fun _ _ e l => c_X7_error  e l V) ?_
    intro r4 M3
    exact vf_ret dX7_ofCloud_19 rfl
  refine jv_iloadn (j := 2) dX7_ofCloud_20 rfl ?_
  refine vf_case (fun c21 => ?_) (fun _ => ?_)
  · refine jv_tout (tgt := 182) dX7_ofCloud_21 c21 rfl ?_
    refine jv_aloadn (j := 0) dX7_ofCloud_182 rfl ?_
    refine jv_iconst (v := 1) dX7_ofCloud_183 (by decide) ?_
    refine hv_callI (As := [.int 1]) dX7_ofCloud_184 lk7_55 kX7_error nX7_error (Nat.le_of_ble_eq_true rfl) (Nat.le_of_ble_eq_true rfl) at_RS_0 rfl rfl rfl (fun _ _ e l => c_X7_error  e l V) ?_
    intro r6 M5
    exact vf_ret dX7_ofCloud_187 rfl
  refine vf_case (fun c21 => ?_) (fun _ => ?_)
  · refine jv_tin (v := 0) (tgt := 68) dX7_ofCloud_21 c21 (by decide) (by decide) rfl rfl ?_
    refine jv_aloadn (j := 0) dX7_ofCloud_68 rfl ?_
    refine hv_getR dX7_ofCloud_69 fl7_10 at_RS_0 rfl ?_
    refine hv_getR dX7_ofCloud_72 fl7_87 (at_VA_0 at_RS_now) rfl ?_
    refine hv_getR dX7_ofCloud_75 fl7_119 (at_CL_0 (at_VA_cl at_RS_now)) rfl ?_
    refine jv_iloadn (j := 1) dX7_ofCloud_78 rfl ?_
    refine hv_ialdC dX7_ofCloud_79 (at_CL_1 (at_VA_cl at_RS_now)) (fun _ => ?_)
    exact vf_ret dX7_ofCloud_80 rfl
  refine vf_case (fun c21 => ?_) (fun _ => ?_)
  · refine jv_tin (v := 1) (tgt := 81) dX7_ofCloud_21 c21 (by decide) (by decide) rfl rfl ?_
    refine jv_aloadn (j := 0) dX7_ofCloud_81 rfl ?_
    refine hv_getR dX7_ofCloud_82 fl7_10 at_RS_0 rfl ?_
    refine hv_getR dX7_ofCloud_85 fl7_87 (at_VA_0 at_RS_now) rfl ?_
    refine hv_getR dX7_ofCloud_88 fl7_122 (at_CL_0 (at_VA_cl at_RS_now)) rfl ?_
    refine jv_iloadn (j := 1) dX7_ofCloud_91 rfl ?_
    refine hv_ialdC dX7_ofCloud_92 (at_CL_2 (at_VA_cl at_RS_now)) (fun _ => ?_)
    exact vf_ret dX7_ofCloud_93 rfl
  refine vf_case (fun c21 => ?_) (fun _ => ?_)
  · refine jv_tin (v := 2) (tgt := 94) dX7_ofCloud_21 c21 (by decide) (by decide) rfl rfl ?_
    refine jv_aloadn (j := 0) dX7_ofCloud_94 rfl ?_
    refine hv_getR dX7_ofCloud_95 fl7_10 at_RS_0 rfl ?_
    refine hv_getR dX7_ofCloud_98 fl7_87 (at_VA_0 at_RS_now) rfl ?_
    refine hv_getR dX7_ofCloud_101 fl7_125 (at_CL_0 (at_VA_cl at_RS_now)) rfl ?_
    refine jv_iloadn (j := 1) dX7_ofCloud_104 rfl ?_
    refine hv_ialdC dX7_ofCloud_105 (at_CL_3 (at_VA_cl at_RS_now)) (fun _ => ?_)
    exact vf_ret dX7_ofCloud_106 rfl
  refine vf_case (fun c21 => ?_) (fun _ => ?_)
  · refine jv_tin (v := 3) (tgt := 107) dX7_ofCloud_21 c21 (by decide) (by decide) rfl rfl ?_
    refine jv_aloadn (j := 0) dX7_ofCloud_107 rfl ?_
    refine hv_getR dX7_ofCloud_108 fl7_10 at_RS_0 rfl ?_
    refine hv_getR dX7_ofCloud_111 fl7_87 (at_VA_0 at_RS_now) rfl ?_
    refine hv_getR dX7_ofCloud_114 fl7_128 (at_CL_0 (at_VA_cl at_RS_now)) rfl ?_
    refine jv_iloadn (j := 1) dX7_ofCloud_117 rfl ?_
    refine hv_ialdC dX7_ofCloud_118 (at_CL_4 (at_VA_cl at_RS_now)) (fun _ => ?_)
    exact vf_ret dX7_ofCloud_119 rfl
  refine vf_case (fun c21 => ?_) (fun _ => ?_)
  · refine jv_tin (v := 4) (tgt := 120) dX7_ofCloud_21 c21 (by decide) (by decide) rfl rfl ?_
    refine jv_aloadn (j := 0) dX7_ofCloud_120 rfl ?_
    refine hv_getR dX7_ofCloud_121 fl7_10 at_RS_0 rfl ?_
    refine hv_getR dX7_ofCloud_124 fl7_87 (at_VA_0 at_RS_now) rfl ?_
    refine jv_iloadn (j := 1) dX7_ofCloud_127 rfl ?_
    refine hv_callI (As := [.int x1]) dX7_ofCloud_128 lk7_131 kX0_lasting nX0_lasting (Nat.le_of_ble_eq_true rfl) (Nat.le_of_ble_eq_true rfl) (at_CL_0 (at_VA_cl at_RS_now)) rfl rfl rfl (fun _ _ e l => c_X0_lasting (at_VA_cl at_RS_now) e l V) ?_
    intro r8 M7
    exact vf_ret dX7_ofCloud_131 rfl
  refine vf_case (fun c21 => ?_) (fun _ => ?_)
  · refine jv_tin (v := 5) (tgt := 132) dX7_ofCloud_21 c21 (by decide) (by decide) rfl rfl ?_
    refine jv_aloadn (j := 0) dX7_ofCloud_132 rfl ?_
    refine hv_getR dX7_ofCloud_133 fl7_10 at_RS_0 rfl ?_
    refine hv_getR dX7_ofCloud_136 fl7_87 (at_VA_0 at_RS_now) rfl ?_
    refine jv_iloadn (j := 1) dX7_ofCloud_139 rfl ?_
    refine hv_callI (As := [.int x1]) dX7_ofCloud_140 lk7_134 kX0_isSpent nX0_isSpent (Nat.le_of_ble_eq_true rfl) (Nat.le_of_ble_eq_true rfl) (at_CL_0 (at_VA_cl at_RS_now)) rfl rfl rfl (fun _ _ e l => c_X0_isSpent (at_VA_cl at_RS_now) e l V) ?_
    intro r10 M9
    refine jw_if_eq (tgt := 150) dX7_ofCloud_143 rfl (fun c143 => ?_) (fun c143 => ?_)
    · refine jv_iconst (v := 0) dX7_ofCloud_150 (by decide) ?_
      exact vf_ret dX7_ofCloud_151 rfl
    refine jv_iconst (v := 1) dX7_ofCloud_146 (by decide) ?_
    refine jv_goto (tgt := 151) dX7_ofCloud_147 rfl ?_
    exact vf_ret dX7_ofCloud_151 rfl
  refine vf_case (fun c21 => ?_) (fun _ => ?_)
  · refine jv_tin (v := 6) (tgt := 152) dX7_ofCloud_21 c21 (by decide) (by decide) rfl rfl ?_
    refine jv_aloadn (j := 0) dX7_ofCloud_152 rfl ?_
    refine hv_getR dX7_ofCloud_153 fl7_10 at_RS_0 rfl ?_
    refine jv_iloadn (j := 1) dX7_ofCloud_156 rfl ?_
    refine jv_aloadn (j := 0) dX7_ofCloud_157 rfl ?_
    refine hv_getR dX7_ofCloud_158 fl7_10 at_RS_0 rfl ?_
    refine hv_getR dX7_ofCloud_161 fl7_87 (at_VA_0 at_RS_now) rfl ?_
    refine hv_getR dX7_ofCloud_164 fl7_125 (at_CL_0 (at_VA_cl at_RS_now)) rfl ?_
    refine jv_iloadn (j := 1) dX7_ofCloud_167 rfl ?_
    refine hv_ialdC dX7_ofCloud_168 (at_CL_3 (at_VA_cl at_RS_now)) (fun _ => ?_)
    refine hv_callI (As := [.int x1, .int (M1 ((1 + 13) + 3) x1.toNatClampNeg)]) dX7_ofCloud_169 lk7_137 kX5_dropsOn nX5_dropsOn (Nat.le_of_ble_eq_true rfl) (Nat.le_of_ble_eq_true rfl) (at_VA_0 at_RS_now) rfl rfl rfl (fun _ _ e l => c_X5_dropsOn at_RS_now e l V) ?_
    intro r12 M11
    exact vf_ret dX7_ofCloud_172 rfl
  refine vf_case (fun c21 => ?_) (fun _ => ?_)
  · refine jv_tin (v := 7) (tgt := 173) dX7_ofCloud_21 c21 (by decide) (by decide) rfl rfl ?_
    refine jv_aloadn (j := 0) dX7_ofCloud_173 rfl ?_
    refine hv_getR dX7_ofCloud_174 fl7_10 at_RS_0 rfl ?_
    refine jv_iloadn (j := 1) dX7_ofCloud_177 rfl ?_
    refine hv_callI (As := [.int x1]) dX7_ofCloud_178 lk7_140 kX5_nextOver nX5_nextOver (Nat.le_of_ble_eq_true rfl) (Nat.le_of_ble_eq_true rfl) (at_VA_0 at_RS_now) rfl rfl rfl (fun _ _ e l => c_X5_nextOver at_RS_now e l V) ?_
    intro r14 M13
    exact vf_ret dX7_ofCloud_181 rfl
  exact vf_none
theorem c_X7_ofCloud {M : pm_M} {x1 : Int32} {x2 : Int32}  {r : Int32} {M' : pm_M} (h : f_X7_ofCloud M x1 x2 = some (r, M')) (l : Launch) (V : pm_V) : pm_Ci l V skC yX7_ofCloud mX7_ofCloud 4 [.ref (V.1 0), .int x1, .int x2] M r M' := pm_metI (by decide) rfl (Nat.le_of_ble_eq_true rfl) h (fun _ => w_X7_ofCloud M x1 x2 )
def f_X7_become (M : pm_M) (x1 : Int32) (x2 : Int32) : Option (Int32 × pm_M) :=
  (pm_b2 (f_X0_has (1 + 13) M x1) (fun (r2 : Int32) (M1 : pm_M) => (if r2 = 0 then (pm_b2 (f_X7_error M1 1) (fun (r4 : Int32) (M3 : pm_M) => (some (r4, M3)))) else (pm_b2 (f_X7_isKindAndM M1 x2) (fun (r6 : Int32) (M5 : pm_M) => (if r6 = 0 then (pm_b2 (f_X7_error M5 1) (fun (r8 : Int32) (M7 : pm_M) => (some (r8, M7)))) else (pm_chk (pm_in x1 5) (pm_let (M5 ((1 + 13) + 1) x1.toNatClampNeg) (fun z9 : Int32 => (pm_b1 (f_X0_setKind (1 + 13) M5 x1 x2) (fun M10 : pm_M => (some (z9, M10)))))))))))))
set_option maxHeartbeats 4000000 in
set_option maxRecDepth 100000 in
theorem w_X7_become {X : pm_X} {V : pm_V} (M : pm_M) (x1 : Int32) (x2 : Int32)  : pm_VF (f_X7_become M x1 x2) (pm_K X V mX7_become 3 skC) (pm_J X V mX7_become 3 (pm_wld V skC M) 0 [(0, .ref (V.1 0)), (1, .int x1), (2, .int x2)] []) := by
  unfold f_X7_become
  refine jv_aloadn (j := 0) dX7_become_0 rfl ?_
  refine hv_getR dX7_become_1 fl7_10 at_RS_0 rfl ?_
  refine hv_getR dX7_become_4 fl7_87 (at_VA_0 at_RS_now) rfl ?_
  refine jv_iloadn (j := 1) dX7_become_7 rfl ?_
  refine hv_callI (As := [.int x1]) dX7_become_8 lk7_118 kX0_has nX0_has (Nat.le_of_ble_eq_true rfl) (Nat.le_of_ble_eq_true rfl) (at_CL_0 (at_VA_cl at_RS_now)) rfl rfl rfl (fun _ _ e l => c_X0_has (at_VA_cl at_RS_now) e l V) ?_
  intro r2 M1
  refine jw_if_eq (tgt := 21) dX7_become_11 rfl (fun c11 => ?_) (fun c11 => ?_)
  · refine jv_aloadn (j := 0) dX7_become_21 rfl ?_
    refine jv_iconst (v := 1) dX7_become_22 (by decide) ?_
    refine hv_callI (As := [.int 1]) dX7_become_23 lk7_55 kX7_error nX7_error (Nat.le_of_ble_eq_true rfl) (Nat.le_of_ble_eq_true rfl) at_RS_0 rfl rfl rfl (fun _ _ e l => c_X7_error  e l V) ?_
    intro r4 M3
    exact vf_ret dX7_become_26 rfl
  refine jv_iloadn (j := 2) dX7_become_14 rfl ?_
  refine hv_callS (As := [.int x2]) dX7_become_15 lk7_111 kX7_isKindAndM nX7_isKindAndM (Nat.le_of_ble_eq_true rfl) (Nat.le_of_ble_eq_true rfl) rfl (fun _ _ e l => c_X7_isKindAndM  e l V) ?_
  intro r6 M5
  refine jw_if_ne (tgt := 27) dX7_become_18 rfl (fun c18 => ?_) (fun c18 => ?_)
  · refine jv_aloadn (j := 0) dX7_become_21 rfl ?_
    refine jv_iconst (v := 1) dX7_become_22 (by decide) ?_
    refine hv_callI (As := [.int 1]) dX7_become_23 lk7_55 kX7_error nX7_error (Nat.le_of_ble_eq_true rfl) (Nat.le_of_ble_eq_true rfl) at_RS_0 rfl rfl rfl (fun _ _ e l => c_X7_error  e l V) ?_
    intro r8 M7
    exact vf_ret dX7_become_26 rfl
  refine jv_aloadn (j := 0) dX7_become_27 rfl ?_
  refine hv_getR dX7_become_28 fl7_10 at_RS_0 rfl ?_
  refine hv_getR dX7_become_31 fl7_87 (at_VA_0 at_RS_now) rfl ?_
  refine hv_getR dX7_become_34 fl7_119 (at_CL_0 (at_VA_cl at_RS_now)) rfl ?_
  refine jv_iloadn (j := 1) dX7_become_37 rfl ?_
  refine hv_ialdC dX7_become_38 (at_CL_1 (at_VA_cl at_RS_now)) (fun _ => ?_)
  refine vf_letS (fun z9 => ?_)
  refine jv_istoren (L' := [(3, .int z9), (0, .ref (V.1 0)), (1, .int x1), (2, .int x2)]) dX7_become_39 (Nat.le_of_ble_eq_true rfl) rfl ?_
  refine jv_aloadn (j := 1) dX7_become_40 rfl ?_
  refine hv_getR dX7_become_41 fl7_10 at_RS_0 rfl ?_
  refine hv_getR dX7_become_44 fl7_87 (at_VA_0 at_RS_now) rfl ?_
  refine jv_iloadn (j := 2) dX7_become_47 rfl ?_
  refine jv_iloadn (j := 3) dX7_become_48 rfl ?_
  refine hv_callV (As := [.int x1, .int x2]) dX7_become_49 lk7_143 kX0_setKind nX0_setKind (Nat.le_of_ble_eq_true rfl) (Nat.le_of_ble_eq_true rfl) (at_CL_0 (at_VA_cl at_RS_now)) rfl rfl rfl (fun _ e l => c_X0_setKind (at_VA_cl at_RS_now) e l V) ?_
  intro M10
  refine jv_iloadn (j := 0) dX7_become_52 rfl ?_
  exact vf_ret dX7_become_53 rfl
theorem c_X7_become {M : pm_M} {x1 : Int32} {x2 : Int32}  {r : Int32} {M' : pm_M} (h : f_X7_become M x1 x2 = some (r, M')) (l : Launch) (V : pm_V) : pm_Ci l V skC yX7_become mX7_become 3 [.ref (V.1 0), .int x1, .int x2] M r M' := pm_metI (by decide) rfl (Nat.le_of_ble_eq_true rfl) h (fun _ => w_X7_become M x1 x2 )
def f_X7_as (M : pm_M) (x1 : Int32) (x2 : Int32) : Option (Int32 × pm_M) :=
  (pm_b2 (f_X0_has (1 + 13) M x1) (fun (r2 : Int32) (M1 : pm_M) => (if r2 = 0 then (pm_b2 (f_X7_error M1 1) (fun (r4 : Int32) (M3 : pm_M) => (some (r4, M3)))) else (pm_b2 (f_X7_within M1 x2 0 6) (fun (r6 : Int32) (M5 : pm_M) => (if r6 = 0 then (pm_b2 (f_X7_error M5 1) (fun (r8 : Int32) (M7 : pm_M) => (some (r8, M7)))) else (pm_b2 (f_X0_isOf (1 + 13) M5 x1 x2) (fun (r10 : Int32) (M9 : pm_M) => (if r10 = 0 then (pm_b2 (f_X7_error M9 5) (fun (r12 : Int32) (M11 : pm_M) => (some (r12, M11)))) else (pm_chk (pm_in x1 5) (some ((M9 ((1 + 13) + 2) x1.toNatClampNeg), M9))))))))))))
set_option maxHeartbeats 4000000 in
set_option maxRecDepth 100000 in
theorem w_X7_as {X : pm_X} {V : pm_V} (M : pm_M) (x1 : Int32) (x2 : Int32)  : pm_VF (f_X7_as M x1 x2) (pm_K X V mX7_as 2 skC) (pm_J X V mX7_as 2 (pm_wld V skC M) 0 [(0, .ref (V.1 0)), (1, .int x1), (2, .int x2)] []) := by
  unfold f_X7_as
  refine jv_aloadn (j := 0) dX7_as_0 rfl ?_
  refine hv_getR dX7_as_1 fl7_10 at_RS_0 rfl ?_
  refine hv_getR dX7_as_4 fl7_87 (at_VA_0 at_RS_now) rfl ?_
  refine jv_iloadn (j := 1) dX7_as_7 rfl ?_
  refine hv_callI (As := [.int x1]) dX7_as_8 lk7_118 kX0_has nX0_has (Nat.le_of_ble_eq_true rfl) (Nat.le_of_ble_eq_true rfl) (at_CL_0 (at_VA_cl at_RS_now)) rfl rfl rfl (fun _ _ e l => c_X0_has (at_VA_cl at_RS_now) e l V) ?_
  intro r2 M1
  refine jw_if_eq (tgt := 24) dX7_as_11 rfl (fun c11 => ?_) (fun c11 => ?_)
  · refine jv_aloadn (j := 0) dX7_as_24 rfl ?_
    refine jv_iconst (v := 1) dX7_as_25 (by decide) ?_
    refine hv_callI (As := [.int 1]) dX7_as_26 lk7_55 kX7_error nX7_error (Nat.le_of_ble_eq_true rfl) (Nat.le_of_ble_eq_true rfl) at_RS_0 rfl rfl rfl (fun _ _ e l => c_X7_error  e l V) ?_
    intro r4 M3
    exact vf_ret dX7_as_29 rfl
  refine jv_iloadn (j := 2) dX7_as_14 rfl ?_
  refine jv_iconst (v := 0) dX7_as_15 (by decide) ?_
  refine jv_bipush (v := 6) dX7_as_16 (by decide) ?_
  refine hv_callS (As := [.int x2, .int 0, .int 6]) dX7_as_18 lk7_51 kX7_within nX7_within (Nat.le_of_ble_eq_true rfl) (Nat.le_of_ble_eq_true rfl) rfl (fun _ _ e l => c_X7_within  e l V) ?_
  intro r6 M5
  refine jw_if_ne (tgt := 30) dX7_as_21 rfl (fun c21 => ?_) (fun c21 => ?_)
  · refine jv_aloadn (j := 0) dX7_as_24 rfl ?_
    refine jv_iconst (v := 1) dX7_as_25 (by decide) ?_
    refine hv_callI (As := [.int 1]) dX7_as_26 lk7_55 kX7_error nX7_error (Nat.le_of_ble_eq_true rfl) (Nat.le_of_ble_eq_true rfl) at_RS_0 rfl rfl rfl (fun _ _ e l => c_X7_error  e l V) ?_
    intro r8 M7
    exact vf_ret dX7_as_29 rfl
  refine jv_aloadn (j := 0) dX7_as_30 rfl ?_
  refine hv_getR dX7_as_31 fl7_10 at_RS_0 rfl ?_
  refine hv_getR dX7_as_34 fl7_87 (at_VA_0 at_RS_now) rfl ?_
  refine jv_iloadn (j := 1) dX7_as_37 rfl ?_
  refine jv_iloadn (j := 2) dX7_as_38 rfl ?_
  refine hv_callI (As := [.int x1, .int x2]) dX7_as_39 lk7_147 kX0_isOf nX0_isOf (Nat.le_of_ble_eq_true rfl) (Nat.le_of_ble_eq_true rfl) (at_CL_0 (at_VA_cl at_RS_now)) rfl rfl rfl (fun _ _ e l => c_X0_isOf (at_VA_cl at_RS_now) e l V) ?_
  intro r10 M9
  refine jw_if_ne (tgt := 51) dX7_as_42 rfl (fun c42 => ?_) (fun c42 => ?_)
  · refine jv_aloadn (j := 0) dX7_as_45 rfl ?_
    refine jv_iconst (v := 5) dX7_as_46 (by decide) ?_
    refine hv_callI (As := [.int 5]) dX7_as_47 lk7_55 kX7_error nX7_error (Nat.le_of_ble_eq_true rfl) (Nat.le_of_ble_eq_true rfl) at_RS_0 rfl rfl rfl (fun _ _ e l => c_X7_error  e l V) ?_
    intro r12 M11
    exact vf_ret dX7_as_50 rfl
  refine jv_aloadn (j := 0) dX7_as_51 rfl ?_
  refine hv_getR dX7_as_52 fl7_10 at_RS_0 rfl ?_
  refine hv_getR dX7_as_55 fl7_87 (at_VA_0 at_RS_now) rfl ?_
  refine hv_getR dX7_as_58 fl7_122 (at_CL_0 (at_VA_cl at_RS_now)) rfl ?_
  refine jv_iloadn (j := 1) dX7_as_61 rfl ?_
  refine hv_ialdC dX7_as_62 (at_CL_2 (at_VA_cl at_RS_now)) (fun _ => ?_)
  exact vf_ret dX7_as_63 rfl
theorem c_X7_as {M : pm_M} {x1 : Int32} {x2 : Int32}  {r : Int32} {M' : pm_M} (h : f_X7_as M x1 x2 = some (r, M')) (l : Launch) (V : pm_V) : pm_Ci l V skC yX7_as mX7_as 2 [.ref (V.1 0), .int x1, .int x2] M r M' := pm_metI (by decide) rfl (Nat.le_of_ble_eq_true rfl) h (fun _ => w_X7_as M x1 x2 )
def f_X7_lead (M : pm_M) (x1 : Int32) (x2 : Int32) (x3 : Int32) : Option (Int32 × pm_M) :=
  (pm_b2 (f_X0_has (1 + 13) M x1) (fun (r2 : Int32) (M1 : pm_M) => (if r2 = 0 then (pm_b2 (f_X7_error M1 1) (fun (r4 : Int32) (M3 : pm_M) => (some (r4, M3)))) else (if x2 = 0 then (pm_b2 (f_X7_replace M1 5 ((1 + 13) + 3) x1 x3 ((M1 (1 + 1) 0) - 1)) (fun (r6 : Int32) (M5 : pm_M) => (some (r6, M5)))) else if x2 = 1 then (pm_b2 (f_X7_replace M1 5 ((1 + 13) + 4) x1 x3 99) (fun (r8 : Int32) (M7 : pm_M) => (some (r8, M7)))) else (pm_b2 (f_X7_error M1 1) (fun (r10 : Int32) (M9 : pm_M) => (some (r10, M9))))))))
set_option maxHeartbeats 4000000 in
set_option maxRecDepth 100000 in
theorem w_X7_lead {X : pm_X} {V : pm_V} (M : pm_M) (x1 : Int32) (x2 : Int32) (x3 : Int32)  : pm_VF (f_X7_lead M x1 x2 x3) (pm_K X V mX7_lead 3 skC) (pm_J X V mX7_lead 3 (pm_wld V skC M) 0 [(0, .ref (V.1 0)), (1, .int x1), (2, .int x2), (3, .int x3)] []) := by
  unfold f_X7_lead
  refine jv_aloadn (j := 0) dX7_lead_0 rfl ?_
  refine hv_getR dX7_lead_1 fl7_10 at_RS_0 rfl ?_
  refine hv_getR dX7_lead_4 fl7_87 (at_VA_0 at_RS_now) rfl ?_
  refine jv_iloadn (j := 1) dX7_lead_7 rfl ?_
  refine hv_callI (As := [.int x1]) dX7_lead_8 lk7_118 kX0_has nX0_has (Nat.le_of_ble_eq_true rfl) (Nat.le_of_ble_eq_true rfl) (at_CL_0 (at_VA_cl at_RS_now)) rfl rfl rfl (fun _ _ e l => c_X0_has (at_VA_cl at_RS_now) e l V) ?_
  intro r2 M1
  refine jw_if_ne (tgt := 20) dX7_lead_11 rfl (fun c11 => ?_) (fun c11 => ?_)
  · refine jv_aloadn (j := 0) dX7_lead_14 rfl ?_
    refine jv_iconst (v := 1) dX7_lead_15 (by decide) ?_
    refine hv_callI (As := [.int 1]) dX7_lead_16 lk7_55 kX7_error nX7_error (Nat.le_of_ble_eq_true rfl) (Nat.le_of_ble_eq_true rfl) at_RS_0 rfl rfl rfl (fun _ _ e l => c_X7_error  e l V) ?_
    intro r4 M3
    exact vf_ret dX7_lead_19 rfl
  refine jv_iloadn (j := 2) dX7_lead_20 rfl ?_
  refine vf_case (fun c21_0 => ?_) (fun c21_0 => ?_)
  · refine jv_lin (v := 0) (tgt := 48) dX7_lead_21 c21_0 (by decide) rfl rfl ?_
    refine jv_aloadn (j := 0) dX7_lead_48 rfl ?_
    refine jv_aloadn (j := 0) dX7_lead_49 rfl ?_
    refine hv_getR dX7_lead_50 fl7_10 at_RS_0 rfl ?_
    refine hv_getR dX7_lead_53 fl7_87 (at_VA_0 at_RS_now) rfl ?_
    refine hv_getR dX7_lead_56 fl7_125 (at_CL_0 (at_VA_cl at_RS_now)) rfl ?_
    refine jv_iloadn (j := 1) dX7_lead_59 rfl ?_
    refine jv_iloadn (j := 3) dX7_lead_60 rfl ?_
    refine jv_aloadn (j := 0) dX7_lead_61 rfl ?_
    refine hv_getR dX7_lead_62 fl7_10 at_RS_0 rfl ?_
    refine hv_getR dX7_lead_65 fl7_59 (at_VA_0 at_RS_now) rfl ?_
    refine hv_getI dX7_lead_68 fl7_63 (at_RO_0 (at_VA_ro at_RS_now)) rfl ?_
    refine jv_iconst (v := 1) dX7_lead_71 (by decide) ?_
    refine jv_isub dX7_lead_72 ?_
    refine hv_callI (As := [.ref (V.1 ((1 + 13) + 3)), .int x1, .int x3, .int ((M1 (1 + 1) 0) - 1)]) dX7_lead_73 lk7_99 kX7_replace nX7_replace (Nat.le_of_ble_eq_true rfl) (Nat.le_of_ble_eq_true rfl) at_RS_0 rfl rfl rfl (fun _ _ e l => c_X7_replace (at_CL_3 (at_VA_cl at_RS_now)) e l V) ?_
    intro r6 M5
    exact vf_ret dX7_lead_76 rfl
  refine vf_case (fun c21_1 => ?_) (fun c21_1 => ?_)
  · refine jv_lin (v := 1) (tgt := 77) dX7_lead_21 c21_1 (by decide) rfl rfl ?_
    refine jv_aloadn (j := 0) dX7_lead_77 rfl ?_
    refine jv_aloadn (j := 0) dX7_lead_78 rfl ?_
    refine hv_getR dX7_lead_79 fl7_10 at_RS_0 rfl ?_
    refine hv_getR dX7_lead_82 fl7_87 (at_VA_0 at_RS_now) rfl ?_
    refine hv_getR dX7_lead_85 fl7_128 (at_CL_0 (at_VA_cl at_RS_now)) rfl ?_
    refine jv_iloadn (j := 1) dX7_lead_88 rfl ?_
    refine jv_iloadn (j := 3) dX7_lead_89 rfl ?_
    refine jv_bipush (v := 99) dX7_lead_90 (by decide) ?_
    refine hv_callI (As := [.ref (V.1 ((1 + 13) + 4)), .int x1, .int x3, .int 99]) dX7_lead_92 lk7_99 kX7_replace nX7_replace (Nat.le_of_ble_eq_true rfl) (Nat.le_of_ble_eq_true rfl) at_RS_0 rfl rfl rfl (fun _ _ e l => c_X7_replace (at_CL_4 (at_VA_cl at_RS_now)) e l V) ?_
    intro r8 M7
    exact vf_ret dX7_lead_95 rfl
  refine jw_lout (tgt := 96) [0, 1] dX7_lead_21 rfl rfl rfl (pm_n1 c21_0 (pm_n1 c21_1 pm_n0)) ?_
  refine jv_aloadn (j := 0) dX7_lead_96 rfl ?_
  refine jv_iconst (v := 1) dX7_lead_97 (by decide) ?_
  refine hv_callI (As := [.int 1]) dX7_lead_98 lk7_55 kX7_error nX7_error (Nat.le_of_ble_eq_true rfl) (Nat.le_of_ble_eq_true rfl) at_RS_0 rfl rfl rfl (fun _ _ e l => c_X7_error  e l V) ?_
  intro r10 M9
  exact vf_ret dX7_lead_101 rfl
theorem c_X7_lead {M : pm_M} {x1 : Int32} {x2 : Int32} {x3 : Int32}  {r : Int32} {M' : pm_M} (h : f_X7_lead M x1 x2 x3 = some (r, M')) (l : Launch) (V : pm_V) : pm_Ci l V skC yX7_lead mX7_lead 3 [.ref (V.1 0), .int x1, .int x2, .int x3] M r M' := pm_metI (by decide) rfl (Nat.le_of_ble_eq_true rfl) h (fun _ => w_X7_lead M x1 x2 x3 )
def lb_X7_feed_39 (x1 : Int64) (x2 : Int32) (ih : Int32 → pm_M → Option (pm_M)) : Int32 → pm_M → Option (pm_M) := fun (l4 : Int32) (Ml : pm_M) =>
  (if x2 ≤ l4 then (some Ml) else (pm_chk (pm_in (Ml 1 6) 50) (pm_let (pm_up Ml (1 + 25) (Ml 1 6).toNatClampNeg ((((x1.toUInt64 >>> ((8 * l4).toInt64.toUInt64 &&& Int64.toUInt64 63)).toInt64).toInt32) &&& 255)) (fun M40002 : pm_M => (pm_let (pm_up M40002 1 6 ((M40002 1 6) + 1)) (fun M40003 : pm_M => (ih (l4 + 1) M40003)))))))
def lp_X7_feed_39 (x1 : Int64) (x2 : Int32) : Int32 → pm_M → Option (pm_M) := pm_it (fun _ _ => none) (lb_X7_feed_39 x1 x2) pm_F
def f_X7_feed (M : pm_M) (x1 : Int64) (x2 : Int32) : Option (Int32 × pm_M) :=
  (pm_b2 (f_X7_within M x2 1 8) (fun (r2 : Int32) (M1 : pm_M) => (if r2 = 0 then (pm_b2 (f_X7_error M1 1) (fun (r4 : Int32) (M3 : pm_M) => (some (r4, M3)))) else (if ((M1 1 6) + x2) ≤ 50 then (pm_b1 (lp_X7_feed_39 x1 x2 0 M1) (fun (M5 : pm_M) => (some ((M5 1 6), M5)))) else (pm_b2 (f_X7_error M1 4) (fun (r7 : Int32) (M6 : pm_M) => (some (r7, M6))))))))
set_option maxHeartbeats 4000000 in
set_option maxRecDepth 100000 in
theorem wl_X7_feed_39 {X : pm_X} {V : pm_V} (x1 : Int64) (x2 : Int32)  : ∀ (l4 : Int32) (Ml : pm_M), pm_VF (lp_X7_feed_39 x1 x2 l4 Ml) (fun b => (fun (Ml : pm_M) => pm_J X V mX7_feed 2 (pm_wld V skC Ml) 91 [(0, .ref (V.1 0))] []) b) (pm_J X V mX7_feed 2 (pm_wld V skC Ml) 39 [(0, .ref (V.1 0)), (1, .long x1), (3, .int x2), (4, .int l4)] []) := by
  refine pm_it_ind (P := fun (f : Int32 → pm_M → Option (pm_M)) => ∀ (l4 : Int32) (Ml : pm_M), pm_VF (f l4 Ml) (fun b => (fun (Ml : pm_M) => pm_J X V mX7_feed 2 (pm_wld V skC Ml) 91 [(0, .ref (V.1 0))] []) b) (pm_J X V mX7_feed 2 (pm_wld V skC Ml) 39 [(0, .ref (V.1 0)), (1, .long x1), (3, .int x2), (4, .int l4)] [])) (fun _ _ => vf_none) (fun ih hih l4 Ml => ?_) pm_F
  · unfold lb_X7_feed_39
    refine jv_iload (j := 3) dX7_feed_39 rfl ?_
    refine jv_iloadn (j := 2) dX7_feed_41 rfl ?_
    refine jw_ic_ge (tgt := 91) dX7_feed_42 rfl (fun c42 => ?_) (fun c42 => ?_)
    · exact vf_end (fun g => jr_sub [0] rfl g)
    refine jv_aloadn (j := 0) dX7_feed_45 rfl ?_
    refine hv_getR dX7_feed_46 fl7_10 at_RS_0 rfl ?_
    refine hv_getR dX7_feed_49 fl7_153 (at_VA_0 at_RS_now) rfl ?_
    refine jv_aloadn (j := 0) dX7_feed_52 rfl ?_
    refine hv_getR dX7_feed_53 fl7_10 at_RS_0 rfl ?_
    refine hv_getI dX7_feed_56 fl7_150 (at_VA_0 at_RS_now) rfl ?_
    refine jv_lloadn (j := 1) dX7_feed_59 rfl ?_
    refine jv_bipush (v := 8) dX7_feed_60 (by decide) ?_
    refine jv_iload (j := 3) dX7_feed_62 rfl ?_
    refine jv_imul dX7_feed_64 ?_
    refine jv_lushr dX7_feed_65 ?_
    refine jv_l2i dX7_feed_66 ?_
    refine jv_sipush (v := 255) dX7_feed_67 (by decide) ?_
    refine jv_iand dX7_feed_70 ?_
    refine hv_iastC dX7_feed_71 (at_VA_25 at_RS_now) (fun _ => ?_)
    refine vf_letM (fun M40002 => ?_)
    refine jv_aloadn (j := 0) dX7_feed_72 rfl ?_
    refine hv_getR dX7_feed_73 fl7_10 at_RS_0 rfl ?_
    refine jv_dup dX7_feed_76 rfl ?_
    refine hv_getI dX7_feed_77 fl7_150 (at_VA_0 at_RS_now) rfl ?_
    refine jv_iconst (v := 1) dX7_feed_80 (by decide) ?_
    refine jv_iadd dX7_feed_81 ?_
    refine hv_put dX7_feed_82 fp7_150 (at_VA_0 at_RS_now) rfl rfl rfl ?_
    refine vf_letM (fun M40003 => ?_)
    refine jv_iinc (j := 3) (v := l4 + 1) (L' := [(4, .int (l4 + 1)), (0, .ref (V.1 0)), (1, .long x1), (3, .int x2)]) dX7_feed_85 rfl rfl (Nat.le_of_ble_eq_true rfl) rfl ?_
    refine jv_goto (tgt := 39) dX7_feed_88 rfl ?_
    exact vf_j (fun g => jr_sub [1, 2, 3, 0] rfl g) (hih (l4 + 1) M40003)
set_option maxHeartbeats 4000000 in
set_option maxRecDepth 100000 in
theorem w_X7_feed {X : pm_X} {V : pm_V} (M : pm_M) (x1 : Int64) (x2 : Int32)  : pm_VF (f_X7_feed M x1 x2) (pm_K X V mX7_feed 2 skC) (pm_J X V mX7_feed 2 (pm_wld V skC M) 0 [(0, .ref (V.1 0)), (1, .long x1), (3, .int x2)] []) := by
  unfold f_X7_feed
  refine jv_iloadn (j := 2) dX7_feed_0 rfl ?_
  refine jv_iconst (v := 1) dX7_feed_1 (by decide) ?_
  refine jv_bipush (v := 8) dX7_feed_2 (by decide) ?_
  refine hv_callS (As := [.int x2, .int 1, .int 8]) dX7_feed_4 lk7_51 kX7_within nX7_within (Nat.le_of_ble_eq_true rfl) (Nat.le_of_ble_eq_true rfl) rfl (fun _ _ e l => c_X7_within  e l V) ?_
  intro r2 M1
  refine jw_if_ne (tgt := 16) dX7_feed_7 rfl (fun c7 => ?_) (fun c7 => ?_)
  · refine jv_aloadn (j := 0) dX7_feed_10 rfl ?_
    refine jv_iconst (v := 1) dX7_feed_11 (by decide) ?_
    refine hv_callI (As := [.int 1]) dX7_feed_12 lk7_55 kX7_error nX7_error (Nat.le_of_ble_eq_true rfl) (Nat.le_of_ble_eq_true rfl) at_RS_0 rfl rfl rfl (fun _ _ e l => c_X7_error  e l V) ?_
    intro r4 M3
    exact vf_ret dX7_feed_15 rfl
  refine jv_aloadn (j := 0) dX7_feed_16 rfl ?_
  refine hv_getR dX7_feed_17 fl7_10 at_RS_0 rfl ?_
  refine hv_getI dX7_feed_20 fl7_150 (at_VA_0 at_RS_now) rfl ?_
  refine jv_iloadn (j := 2) dX7_feed_23 rfl ?_
  refine jv_iadd dX7_feed_24 ?_
  refine jv_bipush (v := 50) dX7_feed_25 (by decide) ?_
  refine jw_ic_le (tgt := 36) dX7_feed_27 rfl (fun c27 => ?_) (fun c27 => ?_)
  · refine jv_iconst (v := 0) dX7_feed_36 (by decide) ?_
    refine jv_istore (L' := [(4, .int 0), (0, .ref (V.1 0)), (1, .long x1), (3, .int x2)]) dX7_feed_37 (Nat.le_of_ble_eq_true rfl) rfl ?_
    refine vl_b1 (P := fun (Ml : pm_M) => pm_J X V mX7_feed 2 (pm_wld V skC Ml) 91 [(0, .ref (V.1 0))] []) (vf_j (fun g => jr_sub [1, 2, 3, 0] rfl g) (wl_X7_feed_39 x1 x2  0 M1)) ?_
    intro M5
    refine jv_aloadn (j := 0) dX7_feed_91 rfl ?_
    refine hv_getR dX7_feed_92 fl7_10 at_RS_0 rfl ?_
    refine hv_getI dX7_feed_95 fl7_150 (at_VA_0 at_RS_now) rfl ?_
    exact vf_ret dX7_feed_98 rfl
  refine jv_aloadn (j := 0) dX7_feed_30 rfl ?_
  refine jv_iconst (v := 4) dX7_feed_31 (by decide) ?_
  refine hv_callI (As := [.int 4]) dX7_feed_32 lk7_55 kX7_error nX7_error (Nat.le_of_ble_eq_true rfl) (Nat.le_of_ble_eq_true rfl) at_RS_0 rfl rfl rfl (fun _ _ e l => c_X7_error  e l V) ?_
  intro r7 M6
  exact vf_ret dX7_feed_35 rfl
theorem c_X7_feed {M : pm_M} {x1 : Int64} {x2 : Int32}  {r : Int32} {M' : pm_M} (h : f_X7_feed M x1 x2 = some (r, M')) (l : Launch) (V : pm_V) : pm_Ci l V skC yX7_feed mX7_feed 2 [.ref (V.1 0), .long x1, .int x2] M r M' := pm_metI (by decide) rfl (Nat.le_of_ble_eq_true rfl) h (fun _ => w_X7_feed M x1 x2 )
def f_X7_text (M : pm_M) (x1 : Int32) : Option (Int32 × pm_M) :=
  (pm_b2 (f_X7_within M x1 0 1) (fun (r2 : Int32) (M1 : pm_M) => (if r2 = 0 then (pm_b2 (f_X7_error M1 1) (fun (r4 : Int32) (M3 : pm_M) => (some (r4, M3)))) else (pm_b2 (f_X2_read 91 M1 (1 + 25) (M1 1 6) x1) (fun (r6 : Int32) (M5 : pm_M) => (pm_let (pm_up M5 1 6 0) (fun M7 : pm_M => (if r6 < 0 then (pm_chk (pm_in x1 2) (pm_b1 (f_X1_take (1 + 19 + 3 * x1.toNatClampNeg) M7 (91 + 1) (M7 91 1)) (fun M9 : pm_M => (some (1, M9))))) else (some (((-10) - r6), M7))))))))))
set_option maxHeartbeats 4000000 in
set_option maxRecDepth 100000 in
theorem w_X7_text {X : pm_X} {V : pm_V} (M : pm_M) (x1 : Int32)  : pm_VF (f_X7_text M x1) (pm_K X V mX7_text 105 skC) (pm_J X V mX7_text 105 (pm_wld V skC M) 0 [(0, .ref (V.1 0)), (1, .int x1)] []) := by
  unfold f_X7_text
  refine jv_iloadn (j := 1) dX7_text_0 rfl ?_
  refine jv_iconst (v := 0) dX7_text_1 (by decide) ?_
  refine jv_iconst (v := 1) dX7_text_2 (by decide) ?_
  refine hv_callS (As := [.int x1, .int 0, .int 1]) dX7_text_3 lk7_51 kX7_within nX7_within (Nat.le_of_ble_eq_true rfl) (Nat.le_of_ble_eq_true rfl) rfl (fun _ _ e l => c_X7_within  e l V) ?_
  intro r2 M1
  refine jw_if_ne (tgt := 15) dX7_text_6 rfl (fun c6 => ?_) (fun c6 => ?_)
  · refine jv_aloadn (j := 0) dX7_text_9 rfl ?_
    refine jv_iconst (v := 1) dX7_text_10 (by decide) ?_
    refine hv_callI (As := [.int 1]) dX7_text_11 lk7_55 kX7_error nX7_error (Nat.le_of_ble_eq_true rfl) (Nat.le_of_ble_eq_true rfl) at_RS_0 rfl rfl rfl (fun _ _ e l => c_X7_error  e l V) ?_
    intro r4 M3
    exact vf_ret dX7_text_14 rfl
  refine jv_aloadn (j := 0) dX7_text_15 rfl ?_
  refine hv_getR dX7_text_16 fl7_29 at_RS_0 rfl ?_
  refine jv_aloadn (j := 0) dX7_text_19 rfl ?_
  refine hv_getR dX7_text_20 fl7_10 at_RS_0 rfl ?_
  refine hv_getR dX7_text_23 fl7_153 (at_VA_0 at_RS_now) rfl ?_
  refine jv_aloadn (j := 0) dX7_text_26 rfl ?_
  refine hv_getR dX7_text_27 fl7_10 at_RS_0 rfl ?_
  refine hv_getI dX7_text_30 fl7_150 (at_VA_0 at_RS_now) rfl ?_
  refine jv_iloadn (j := 1) dX7_text_33 rfl ?_
  refine hv_callI (As := [.ref (V.1 (1 + 25)), .int (M1 1 6), .int x1]) dX7_text_34 lk7_156 kX2_read nX2_read (Nat.le_of_ble_eq_true rfl) (Nat.le_of_ble_eq_true rfl) (at_RD_0 at_RS_reader) rfl rfl rfl (fun _ _ e l => c_X2_read at_RS_reader (at_VA_25 at_RS_now) e l V) ?_
  intro r6 M5
  refine jv_istoren (L' := [(2, .int r6), (0, .ref (V.1 0)), (1, .int x1)]) dX7_text_37 (Nat.le_of_ble_eq_true rfl) rfl ?_
  refine jv_aloadn (j := 1) dX7_text_38 rfl ?_
  refine hv_getR dX7_text_39 fl7_10 at_RS_0 rfl ?_
  refine jv_iconst (v := 0) dX7_text_42 (by decide) ?_
  refine hv_put dX7_text_43 fp7_150 (at_VA_0 at_RS_now) rfl rfl rfl ?_
  refine vf_letM (fun M7 => ?_)
  refine jv_iloadn (j := 0) dX7_text_46 rfl ?_
  refine jw_if_lt (tgt := 55) dX7_text_47 rfl (fun c47 => ?_) (fun c47 => ?_)
  · refine jv_aloadn (j := 1) dX7_text_55 rfl ?_
    refine hv_getR dX7_text_56 fl7_10 at_RS_0 rfl ?_
    refine hv_getR dX7_text_59 fl7_160 (at_VA_0 at_RS_now) rfl ?_
    refine jv_iloadn (j := 2) dX7_text_62 rfl ?_
    refine vf_chk (fun q8 => ?_)
    refine hv_aald dX7_text_63 (at_VA_18 at_RS_now) (ty := .object "RainShares$Law") (fun _ => rfl) rfl q8 (pl_law q8) ?_
    refine jv_aloadn (j := 1) dX7_text_64 rfl ?_
    refine hv_getR dX7_text_65 fl7_29 at_RS_0 rfl ?_
    refine hv_getR dX7_text_68 fl7_164 (at_RD_0 at_RS_reader) rfl ?_
    refine jv_aloadn (j := 1) dX7_text_71 rfl ?_
    refine hv_getR dX7_text_72 fl7_29 at_RS_0 rfl ?_
    refine hv_getI dX7_text_75 fl7_167 (at_RD_0 at_RS_reader) rfl ?_
    refine hv_callV (As := [.ref (V.1 (91 + 1)), .int (M7 91 1)]) dX7_text_78 lk7_170 kX1_take nX1_take (Nat.le_of_ble_eq_true rfl) (Nat.le_of_ble_eq_true rfl) (at_LW_0 (at_VA_lawi at_RS_now q8)) rfl rfl rfl (fun _ e l => c_X1_take (at_VA_lawi at_RS_now q8) (at_RD_1 at_RS_reader) e l V) ?_
    intro M9
    refine jv_iconst (v := 1) dX7_text_81 (by decide) ?_
    exact vf_ret dX7_text_82 rfl
  refine jv_bipush (v := -10) dX7_text_50 (by decide) ?_
  refine jv_iloadn (j := 0) dX7_text_52 rfl ?_
  refine jv_isub dX7_text_53 ?_
  exact vf_ret dX7_text_54 rfl
theorem c_X7_text {M : pm_M} {x1 : Int32}  {r : Int32} {M' : pm_M} (h : f_X7_text M x1 = some (r, M')) (l : Launch) (V : pm_V) : pm_Ci l V skC yX7_text mX7_text 105 [.ref (V.1 0), .int x1] M r M' := pm_metI (by decide) rfl (Nat.le_of_ble_eq_true rfl) h (fun _ => w_X7_text M x1 )
def f_X7_law (M : pm_M) (x1 : Int32) (x2 : Int32) (x3 : Int32) (x4 : Int32) : Option (Int32 × pm_M) :=
  (pm_b2 (f_X7_within M x1 0 1) (fun (r2 : Int32) (M1 : pm_M) => (if r2 = 0 then (pm_b2 (f_X7_error M1 1) (fun (r4 : Int32) (M3 : pm_M) => (some (r4, M3)))) else (pm_chk (pm_in x1 2) (pm_b2 (f_X1_given (1 + 19 + 3 * x1.toNatClampNeg) M1 x2 x3 x4) (fun (r7 : Int32) (M6 : pm_M) => (some (r7, M6))))))))
set_option maxHeartbeats 4000000 in
set_option maxRecDepth 100000 in
theorem w_X7_law {X : pm_X} {V : pm_V} (M : pm_M) (x1 : Int32) (x2 : Int32) (x3 : Int32) (x4 : Int32)  : pm_VF (f_X7_law M x1 x2 x3 x4) (pm_K X V mX7_law 3 skC) (pm_J X V mX7_law 3 (pm_wld V skC M) 0 [(0, .ref (V.1 0)), (1, .int x1), (2, .int x2), (3, .int x3), (4, .int x4)] []) := by
  unfold f_X7_law
  refine jv_iloadn (j := 1) dX7_law_0 rfl ?_
  refine jv_iconst (v := 0) dX7_law_1 (by decide) ?_
  refine jv_iconst (v := 1) dX7_law_2 (by decide) ?_
  refine hv_callS (As := [.int x1, .int 0, .int 1]) dX7_law_3 lk7_51 kX7_within nX7_within (Nat.le_of_ble_eq_true rfl) (Nat.le_of_ble_eq_true rfl) rfl (fun _ _ e l => c_X7_within  e l V) ?_
  intro r2 M1
  refine jw_if_ne (tgt := 15) dX7_law_6 rfl (fun c6 => ?_) (fun c6 => ?_)
  · refine jv_aloadn (j := 0) dX7_law_9 rfl ?_
    refine jv_iconst (v := 1) dX7_law_10 (by decide) ?_
    refine hv_callI (As := [.int 1]) dX7_law_11 lk7_55 kX7_error nX7_error (Nat.le_of_ble_eq_true rfl) (Nat.le_of_ble_eq_true rfl) at_RS_0 rfl rfl rfl (fun _ _ e l => c_X7_error  e l V) ?_
    intro r4 M3
    exact vf_ret dX7_law_14 rfl
  refine jv_aloadn (j := 0) dX7_law_15 rfl ?_
  refine hv_getR dX7_law_16 fl7_10 at_RS_0 rfl ?_
  refine hv_getR dX7_law_19 fl7_160 (at_VA_0 at_RS_now) rfl ?_
  refine jv_iloadn (j := 1) dX7_law_22 rfl ?_
  refine vf_chk (fun q5 => ?_)
  refine hv_aald dX7_law_23 (at_VA_18 at_RS_now) (ty := .object "RainShares$Law") (fun _ => rfl) rfl q5 (pl_law q5) ?_
  refine jv_iloadn (j := 2) dX7_law_24 rfl ?_
  refine jv_iloadn (j := 3) dX7_law_25 rfl ?_
  refine jv_iload (j := 4) dX7_law_26 rfl ?_
  refine hv_callI (As := [.int x2, .int x3, .int x4]) dX7_law_28 lk7_176 kX1_given nX1_given (Nat.le_of_ble_eq_true rfl) (Nat.le_of_ble_eq_true rfl) (at_LW_0 (at_VA_lawi at_RS_now q5)) rfl rfl rfl (fun _ _ e l => c_X1_given (at_VA_lawi at_RS_now q5) e l V) ?_
  intro r7 M6
  exact vf_ret dX7_law_31 rfl
theorem c_X7_law {M : pm_M} {x1 : Int32} {x2 : Int32} {x3 : Int32} {x4 : Int32}  {r : Int32} {M' : pm_M} (h : f_X7_law M x1 x2 x3 x4 = some (r, M')) (l : Launch) (V : pm_V) : pm_Ci l V skC yX7_law mX7_law 3 [.ref (V.1 0), .int x1, .int x2, .int x3, .int x4] M r M' := pm_metI (by decide) rfl (Nat.le_of_ble_eq_true rfl) h (fun _ => w_X7_law M x1 x2 x3 x4 )
def f_X7_days (M : pm_M) (x1 : Int32) : Option (Int32 × pm_M) :=
  (pm_b2 (f_X7_within M x1 1 60) (fun (r2 : Int32) (M1 : pm_M) => (if r2 = 0 then (pm_b2 (f_X7_error M1 1) (fun (r4 : Int32) (M3 : pm_M) => (some (r4, M3)))) else (if ((M1 1 3) + x1) ≤ 9999 then (pm_b1 (f_X5_passDays 1 M1 x1) (fun M5 : pm_M => (pm_b2 (f_X3_sum (1 + 1) M5 ((1 + 1) + 3)) (fun (r7 : Int32) (M6 : pm_M) => (some (r7, M6)))))) else (pm_b2 (f_X7_error M1 3) (fun (r9 : Int32) (M8 : pm_M) => (some (r9, M8))))))))
set_option maxHeartbeats 4000000 in
set_option maxRecDepth 100000 in
theorem w_X7_days {X : pm_X} {V : pm_V} (M : pm_M) (x1 : Int32)  : pm_VF (f_X7_days M x1) (pm_K X V mX7_days 6 skC) (pm_J X V mX7_days 6 (pm_wld V skC M) 0 [(0, .ref (V.1 0)), (1, .int x1)] []) := by
  unfold f_X7_days
  refine jv_iloadn (j := 1) dX7_days_0 rfl ?_
  refine jv_iconst (v := 1) dX7_days_1 (by decide) ?_
  refine jv_bipush (v := 60) dX7_days_2 (by decide) ?_
  refine hv_callS (As := [.int x1, .int 1, .int 60]) dX7_days_4 lk7_51 kX7_within nX7_within (Nat.le_of_ble_eq_true rfl) (Nat.le_of_ble_eq_true rfl) rfl (fun _ _ e l => c_X7_within  e l V) ?_
  intro r2 M1
  refine jw_if_ne (tgt := 16) dX7_days_7 rfl (fun c7 => ?_) (fun c7 => ?_)
  · refine jv_aloadn (j := 0) dX7_days_10 rfl ?_
    refine jv_iconst (v := 1) dX7_days_11 (by decide) ?_
    refine hv_callI (As := [.int 1]) dX7_days_12 lk7_55 kX7_error nX7_error (Nat.le_of_ble_eq_true rfl) (Nat.le_of_ble_eq_true rfl) at_RS_0 rfl rfl rfl (fun _ _ e l => c_X7_error  e l V) ?_
    intro r4 M3
    exact vf_ret dX7_days_15 rfl
  refine jv_aloadn (j := 0) dX7_days_16 rfl ?_
  refine hv_getR dX7_days_17 fl7_10 at_RS_0 rfl ?_
  refine hv_getI dX7_days_20 fl7_180 (at_VA_0 at_RS_now) rfl ?_
  refine jv_iloadn (j := 1) dX7_days_23 rfl ?_
  refine jv_iadd dX7_days_24 ?_
  refine jv_sipush (v := 9999) dX7_days_25 (by decide) ?_
  refine jw_ic_le (tgt := 37) dX7_days_28 rfl (fun c28 => ?_) (fun c28 => ?_)
  · refine jv_aloadn (j := 0) dX7_days_37 rfl ?_
    refine hv_getR dX7_days_38 fl7_10 at_RS_0 rfl ?_
    refine jv_iloadn (j := 1) dX7_days_41 rfl ?_
    refine hv_callV (As := [.int x1]) dX7_days_42 lk7_183 kX5_passDays nX5_passDays (Nat.le_of_ble_eq_true rfl) (Nat.le_of_ble_eq_true rfl) (at_VA_0 at_RS_now) rfl rfl rfl (fun _ e l => c_X5_passDays at_RS_now e l V) ?_
    intro M5
    refine jv_aloadn (j := 0) dX7_days_45 rfl ?_
    refine hv_getR dX7_days_46 fl7_10 at_RS_0 rfl ?_
    refine hv_getR dX7_days_49 fl7_59 (at_VA_0 at_RS_now) rfl ?_
    refine jv_aloadn (j := 0) dX7_days_52 rfl ?_
    refine hv_getR dX7_days_53 fl7_10 at_RS_0 rfl ?_
    refine hv_getR dX7_days_56 fl7_59 (at_VA_0 at_RS_now) rfl ?_
    refine hv_getR dX7_days_59 fl7_81 (at_RO_0 (at_VA_ro at_RS_now)) rfl ?_
    refine hv_callI (As := [.ref (V.1 ((1 + 1) + 3))]) dX7_days_62 lk7_187 kX3_sum nX3_sum (Nat.le_of_ble_eq_true rfl) (Nat.le_of_ble_eq_true rfl) (at_RO_0 (at_VA_ro at_RS_now)) rfl rfl rfl (fun _ _ e l => c_X3_sum (at_VA_ro at_RS_now) (at_RO_3 (at_VA_ro at_RS_now)) e l V) ?_
    intro r7 M6
    exact vf_ret dX7_days_65 rfl
  refine jv_aloadn (j := 0) dX7_days_31 rfl ?_
  refine jv_iconst (v := 3) dX7_days_32 (by decide) ?_
  refine hv_callI (As := [.int 3]) dX7_days_33 lk7_55 kX7_error nX7_error (Nat.le_of_ble_eq_true rfl) (Nat.le_of_ble_eq_true rfl) at_RS_0 rfl rfl rfl (fun _ _ e l => c_X7_error  e l V) ?_
  intro r9 M8
  exact vf_ret dX7_days_36 rfl
theorem c_X7_days {M : pm_M} {x1 : Int32}  {r : Int32} {M' : pm_M} (h : f_X7_days M x1 = some (r, M')) (l : Launch) (V : pm_V) : pm_Ci l V skC yX7_days mX7_days 6 [.ref (V.1 0), .int x1] M r M' := pm_metI (by decide) rfl (Nat.le_of_ble_eq_true rfl) h (fun _ => w_X7_days M x1 )
def lb_X7_loose_39 (x1 : Int32) (ih : Int32 → pm_M → Option (pm_M)) : Int32 → pm_M → Option (pm_M) := fun (l2 : Int32) (Ml : pm_M) =>
  (if x1 ≤ l2 then (some Ml) else (pm_b1 (f_X5_scatter 1 Ml) (fun M40002 : pm_M => (pm_b1 (f_X5_passDays 1 M40002 1) (fun M40003 : pm_M => (ih (l2 + 1) M40003))))))
def lp_X7_loose_39 (x1 : Int32) : Int32 → pm_M → Option (pm_M) := pm_it (fun _ _ => none) (lb_X7_loose_39 x1) pm_F
def f_X7_loose (M : pm_M) (x1 : Int32) : Option (Int32 × pm_M) :=
  (pm_b2 (f_X7_within M x1 1 40) (fun (r2 : Int32) (M1 : pm_M) => (if r2 = 0 then (pm_b2 (f_X7_error M1 1) (fun (r4 : Int32) (M3 : pm_M) => (some (r4, M3)))) else (if ((M1 1 3) + x1) ≤ 9999 then (pm_b1 (lp_X7_loose_39 x1 0 M1) (fun (M5 : pm_M) => (pm_b2 (f_X3_sum (1 + 1) M5 ((1 + 1) + 3)) (fun (r7 : Int32) (M6 : pm_M) => (some (r7, M6)))))) else (pm_b2 (f_X7_error M1 3) (fun (r9 : Int32) (M8 : pm_M) => (some (r9, M8))))))))
set_option maxHeartbeats 4000000 in
set_option maxRecDepth 100000 in
theorem wl_X7_loose_39 {X : pm_X} {V : pm_V} (x1 : Int32)  : ∀ (l2 : Int32) (Ml : pm_M), pm_VF (lp_X7_loose_39 x1 l2 Ml) (fun b => (fun (Ml : pm_M) => pm_J X V mX7_loose 6 (pm_wld V skC Ml) 65 [(0, .ref (V.1 0))] []) b) (pm_J X V mX7_loose 6 (pm_wld V skC Ml) 39 [(0, .ref (V.1 0)), (1, .int x1), (2, .int l2)] []) := by
  refine pm_it_ind (P := fun (f : Int32 → pm_M → Option (pm_M)) => ∀ (l2 : Int32) (Ml : pm_M), pm_VF (f l2 Ml) (fun b => (fun (Ml : pm_M) => pm_J X V mX7_loose 6 (pm_wld V skC Ml) 65 [(0, .ref (V.1 0))] []) b) (pm_J X V mX7_loose 6 (pm_wld V skC Ml) 39 [(0, .ref (V.1 0)), (1, .int x1), (2, .int l2)] [])) (fun _ _ => vf_none) (fun ih hih l2 Ml => ?_) pm_F
  · unfold lb_X7_loose_39
    refine jv_iloadn (j := 2) dX7_loose_39 rfl ?_
    refine jv_iloadn (j := 1) dX7_loose_40 rfl ?_
    refine jw_ic_ge (tgt := 65) dX7_loose_41 rfl (fun c41 => ?_) (fun c41 => ?_)
    · exact vf_end (fun g => jr_sub [0] rfl g)
    refine jv_aloadn (j := 0) dX7_loose_44 rfl ?_
    refine hv_getR dX7_loose_45 fl7_10 at_RS_0 rfl ?_
    refine hv_callV (As := []) dX7_loose_48 lk7_191 kX5_scatter nX5_scatter (Nat.le_of_ble_eq_true rfl) (Nat.le_of_ble_eq_true rfl) (at_VA_0 at_RS_now) rfl rfl rfl (fun _ e l => c_X5_scatter at_RS_now e l V) ?_
    intro M40002
    refine jv_aloadn (j := 0) dX7_loose_51 rfl ?_
    refine hv_getR dX7_loose_52 fl7_10 at_RS_0 rfl ?_
    refine jv_iconst (v := 1) dX7_loose_55 (by decide) ?_
    refine hv_callV (As := [.int 1]) dX7_loose_56 lk7_183 kX5_passDays nX5_passDays (Nat.le_of_ble_eq_true rfl) (Nat.le_of_ble_eq_true rfl) (at_VA_0 at_RS_now) rfl rfl rfl (fun _ e l => c_X5_passDays at_RS_now e l V) ?_
    intro M40003
    refine jv_iinc (j := 2) (v := l2 + 1) (L' := [(2, .int (l2 + 1)), (0, .ref (V.1 0)), (1, .int x1)]) dX7_loose_59 rfl rfl (Nat.le_of_ble_eq_true rfl) rfl ?_
    refine jv_goto (tgt := 39) dX7_loose_62 rfl ?_
    exact vf_j (fun g => jr_sub [1, 2, 0] rfl g) (hih (l2 + 1) M40003)
set_option maxHeartbeats 4000000 in
set_option maxRecDepth 100000 in
theorem w_X7_loose {X : pm_X} {V : pm_V} (M : pm_M) (x1 : Int32)  : pm_VF (f_X7_loose M x1) (pm_K X V mX7_loose 6 skC) (pm_J X V mX7_loose 6 (pm_wld V skC M) 0 [(0, .ref (V.1 0)), (1, .int x1)] []) := by
  unfold f_X7_loose
  refine jv_iloadn (j := 1) dX7_loose_0 rfl ?_
  refine jv_iconst (v := 1) dX7_loose_1 (by decide) ?_
  refine jv_bipush (v := 40) dX7_loose_2 (by decide) ?_
  refine hv_callS (As := [.int x1, .int 1, .int 40]) dX7_loose_4 lk7_51 kX7_within nX7_within (Nat.le_of_ble_eq_true rfl) (Nat.le_of_ble_eq_true rfl) rfl (fun _ _ e l => c_X7_within  e l V) ?_
  intro r2 M1
  refine jw_if_ne (tgt := 16) dX7_loose_7 rfl (fun c7 => ?_) (fun c7 => ?_)
  · refine jv_aloadn (j := 0) dX7_loose_10 rfl ?_
    refine jv_iconst (v := 1) dX7_loose_11 (by decide) ?_
    refine hv_callI (As := [.int 1]) dX7_loose_12 lk7_55 kX7_error nX7_error (Nat.le_of_ble_eq_true rfl) (Nat.le_of_ble_eq_true rfl) at_RS_0 rfl rfl rfl (fun _ _ e l => c_X7_error  e l V) ?_
    intro r4 M3
    exact vf_ret dX7_loose_15 rfl
  refine jv_aloadn (j := 0) dX7_loose_16 rfl ?_
  refine hv_getR dX7_loose_17 fl7_10 at_RS_0 rfl ?_
  refine hv_getI dX7_loose_20 fl7_180 (at_VA_0 at_RS_now) rfl ?_
  refine jv_iloadn (j := 1) dX7_loose_23 rfl ?_
  refine jv_iadd dX7_loose_24 ?_
  refine jv_sipush (v := 9999) dX7_loose_25 (by decide) ?_
  refine jw_ic_le (tgt := 37) dX7_loose_28 rfl (fun c28 => ?_) (fun c28 => ?_)
  · refine jv_iconst (v := 0) dX7_loose_37 (by decide) ?_
    refine jv_istoren (L' := [(2, .int 0), (0, .ref (V.1 0)), (1, .int x1)]) dX7_loose_38 (Nat.le_of_ble_eq_true rfl) rfl ?_
    refine vl_b1 (P := fun (Ml : pm_M) => pm_J X V mX7_loose 6 (pm_wld V skC Ml) 65 [(0, .ref (V.1 0))] []) (vf_j (fun g => jr_sub [1, 2, 0] rfl g) (wl_X7_loose_39 x1  0 M1)) ?_
    intro M5
    refine jv_aloadn (j := 0) dX7_loose_65 rfl ?_
    refine hv_getR dX7_loose_66 fl7_10 at_RS_0 rfl ?_
    refine hv_getR dX7_loose_69 fl7_59 (at_VA_0 at_RS_now) rfl ?_
    refine jv_aloadn (j := 0) dX7_loose_72 rfl ?_
    refine hv_getR dX7_loose_73 fl7_10 at_RS_0 rfl ?_
    refine hv_getR dX7_loose_76 fl7_59 (at_VA_0 at_RS_now) rfl ?_
    refine hv_getR dX7_loose_79 fl7_81 (at_RO_0 (at_VA_ro at_RS_now)) rfl ?_
    refine hv_callI (As := [.ref (V.1 ((1 + 1) + 3))]) dX7_loose_82 lk7_187 kX3_sum nX3_sum (Nat.le_of_ble_eq_true rfl) (Nat.le_of_ble_eq_true rfl) (at_RO_0 (at_VA_ro at_RS_now)) rfl rfl rfl (fun _ _ e l => c_X3_sum (at_VA_ro at_RS_now) (at_RO_3 (at_VA_ro at_RS_now)) e l V) ?_
    intro r7 M6
    exact vf_ret dX7_loose_85 rfl
  refine jv_aloadn (j := 0) dX7_loose_31 rfl ?_
  refine jv_iconst (v := 3) dX7_loose_32 (by decide) ?_
  refine hv_callI (As := [.int 3]) dX7_loose_33 lk7_55 kX7_error nX7_error (Nat.le_of_ble_eq_true rfl) (Nat.le_of_ble_eq_true rfl) at_RS_0 rfl rfl rfl (fun _ _ e l => c_X7_error  e l V) ?_
  intro r9 M8
  exact vf_ret dX7_loose_36 rfl
theorem c_X7_loose {M : pm_M} {x1 : Int32}  {r : Int32} {M' : pm_M} (h : f_X7_loose M x1 = some (r, M')) (l : Launch) (V : pm_V) : pm_Ci l V skC yX7_loose mX7_loose 6 [.ref (V.1 0), .int x1] M r M' := pm_metI (by decide) rfl (Nat.le_of_ble_eq_true rfl) h (fun _ => w_X7_loose M x1 )
def f_X7_clear (M : pm_M) : Option (Int32 × pm_M) :=
  (pm_b2 (f_X3_clearDebts (1 + 1) M) (fun (r2 : Int32) (M1 : pm_M) => (some (r2, M1))))
set_option maxHeartbeats 4000000 in
set_option maxRecDepth 100000 in
theorem w_X7_clear {X : pm_X} {V : pm_V} (M : pm_M)  : pm_VF (f_X7_clear M) (pm_K X V mX7_clear 3 skC) (pm_J X V mX7_clear 3 (pm_wld V skC M) 0 [(0, .ref (V.1 0))] []) := by
  unfold f_X7_clear
  refine jv_aloadn (j := 0) dX7_clear_0 rfl ?_
  refine hv_getR dX7_clear_1 fl7_10 at_RS_0 rfl ?_
  refine hv_getR dX7_clear_4 fl7_59 (at_VA_0 at_RS_now) rfl ?_
  refine hv_callI (As := []) dX7_clear_7 lk7_194 kX3_clearDebts nX3_clearDebts (Nat.le_of_ble_eq_true rfl) (Nat.le_of_ble_eq_true rfl) (at_RO_0 (at_VA_ro at_RS_now)) rfl rfl rfl (fun _ _ e l => c_X3_clearDebts (at_VA_ro at_RS_now) e l V) ?_
  intro r2 M1
  exact vf_ret dX7_clear_10 rfl
theorem c_X7_clear {M : pm_M}  {r : Int32} {M' : pm_M} (h : f_X7_clear M = some (r, M')) (l : Launch) (V : pm_V) : pm_Ci l V skC yX7_clear mX7_clear 3 [.ref (V.1 0)] M r M' := pm_metI (by decide) rfl (Nat.le_of_ble_eq_true rfl) h (fun _ => w_X7_clear M )
def f_X7_then (M : pm_M) (x1 : Int32) (x2 : Int32) (x3 : Int32) : Option (Int32 × pm_M) :=
  (pm_b2 (f_X7_within M x1 0 60) (fun (r2 : Int32) (M1 : pm_M) => (if r2 = 0 then (pm_b2 (f_X7_error M1 1) (fun (r4 : Int32) (M3 : pm_M) => (some (r4, M3)))) else (pm_b2 (f_X3_has (1 + 1) M1 x2) (fun (r6 : Int32) (M5 : pm_M) => (if r6 = 0 then (pm_b2 (f_X7_error M5 1) (fun (r8 : Int32) (M7 : pm_M) => (some (r8, M7)))) else (pm_b2 (f_X7_within M5 x3 0 1) (fun (r10 : Int32) (M9 : pm_M) => (if r10 = 0 then (pm_b2 (f_X7_error M9 1) (fun (r12 : Int32) (M11 : pm_M) => (some (r12, M11)))) else (pm_b1 (f_X5_copyFrom 31 M9 1) (fun M13 : pm_M => (pm_b1 (f_X5_passDays 31 M13 x1) (fun M14 : pm_M => (if x3 = 0 then (pm_chk (pm_in x2 6) (some ((M14 ((31 + 1) + 2) x2.toNatClampNeg), M14))) else (pm_chk (pm_in x2 6) (some ((M14 ((31 + 1) + 3) x2.toNatClampNeg), M14)))))))))))))))))
set_option maxHeartbeats 4000000 in
set_option maxRecDepth 100000 in
theorem w_X7_then {X : pm_X} {V : pm_V} (M : pm_M) (x1 : Int32) (x2 : Int32) (x3 : Int32)  : pm_VF (f_X7_then M x1 x2 x3) (pm_K X V mX7_then 6 skC) (pm_J X V mX7_then 6 (pm_wld V skC M) 0 [(0, .ref (V.1 0)), (1, .int x1), (2, .int x2), (3, .int x3)] []) := by
  unfold f_X7_then
  refine jv_iloadn (j := 1) dX7_then_0 rfl ?_
  refine jv_iconst (v := 0) dX7_then_1 (by decide) ?_
  refine jv_bipush (v := 60) dX7_then_2 (by decide) ?_
  refine hv_callS (As := [.int x1, .int 0, .int 60]) dX7_then_4 lk7_51 kX7_within nX7_within (Nat.le_of_ble_eq_true rfl) (Nat.le_of_ble_eq_true rfl) rfl (fun _ _ e l => c_X7_within  e l V) ?_
  intro r2 M1
  refine jw_if_eq (tgt := 33) dX7_then_7 rfl (fun c7 => ?_) (fun c7 => ?_)
  · refine jv_aloadn (j := 0) dX7_then_33 rfl ?_
    refine jv_iconst (v := 1) dX7_then_34 (by decide) ?_
    refine hv_callI (As := [.int 1]) dX7_then_35 lk7_55 kX7_error nX7_error (Nat.le_of_ble_eq_true rfl) (Nat.le_of_ble_eq_true rfl) at_RS_0 rfl rfl rfl (fun _ _ e l => c_X7_error  e l V) ?_
    intro r4 M3
    exact vf_ret dX7_then_38 rfl
  refine jv_aloadn (j := 0) dX7_then_10 rfl ?_
  refine hv_getR dX7_then_11 fl7_10 at_RS_0 rfl ?_
  refine hv_getR dX7_then_14 fl7_59 (at_VA_0 at_RS_now) rfl ?_
  refine jv_iloadn (j := 2) dX7_then_17 rfl ?_
  refine hv_callI (As := [.int x2]) dX7_then_18 lk7_71 kX3_has nX3_has (Nat.le_of_ble_eq_true rfl) (Nat.le_of_ble_eq_true rfl) (at_RO_0 (at_VA_ro at_RS_now)) rfl rfl rfl (fun _ _ e l => c_X3_has (at_VA_ro at_RS_now) e l V) ?_
  intro r6 M5
  refine jw_if_eq (tgt := 33) dX7_then_21 rfl (fun c21 => ?_) (fun c21 => ?_)
  · refine jv_aloadn (j := 0) dX7_then_33 rfl ?_
    refine jv_iconst (v := 1) dX7_then_34 (by decide) ?_
    refine hv_callI (As := [.int 1]) dX7_then_35 lk7_55 kX7_error nX7_error (Nat.le_of_ble_eq_true rfl) (Nat.le_of_ble_eq_true rfl) at_RS_0 rfl rfl rfl (fun _ _ e l => c_X7_error  e l V) ?_
    intro r8 M7
    exact vf_ret dX7_then_38 rfl
  refine jv_iloadn (j := 3) dX7_then_24 rfl ?_
  refine jv_iconst (v := 0) dX7_then_25 (by decide) ?_
  refine jv_iconst (v := 1) dX7_then_26 (by decide) ?_
  refine hv_callS (As := [.int x3, .int 0, .int 1]) dX7_then_27 lk7_51 kX7_within nX7_within (Nat.le_of_ble_eq_true rfl) (Nat.le_of_ble_eq_true rfl) rfl (fun _ _ e l => c_X7_within  e l V) ?_
  intro r10 M9
  refine jw_if_ne (tgt := 39) dX7_then_30 rfl (fun c30 => ?_) (fun c30 => ?_)
  · refine jv_aloadn (j := 0) dX7_then_33 rfl ?_
    refine jv_iconst (v := 1) dX7_then_34 (by decide) ?_
    refine hv_callI (As := [.int 1]) dX7_then_35 lk7_55 kX7_error nX7_error (Nat.le_of_ble_eq_true rfl) (Nat.le_of_ble_eq_true rfl) at_RS_0 rfl rfl rfl (fun _ _ e l => c_X7_error  e l V) ?_
    intro r12 M11
    exact vf_ret dX7_then_38 rfl
  refine jv_aloadn (j := 0) dX7_then_39 rfl ?_
  refine hv_getR dX7_then_40 fl7_16 at_RS_0 rfl ?_
  refine jv_aloadn (j := 0) dX7_then_43 rfl ?_
  refine hv_getR dX7_then_44 fl7_10 at_RS_0 rfl ?_
  refine hv_callV (As := [.ref (V.1 1)]) dX7_then_47 lk7_198 kX5_copyFrom nX5_copyFrom (Nat.le_of_ble_eq_true rfl) (Nat.le_of_ble_eq_true rfl) (at_VA_0 at_RS_thought) rfl rfl rfl (fun _ e l => c_X5_copyFrom at_RS_thought at_RS_now e l V) ?_
  intro M13
  refine jv_aloadn (j := 0) dX7_then_50 rfl ?_
  refine hv_getR dX7_then_51 fl7_16 at_RS_0 rfl ?_
  refine jv_iloadn (j := 1) dX7_then_54 rfl ?_
  refine hv_callV (As := [.int x1]) dX7_then_55 lk7_183 kX5_passDays nX5_passDays (Nat.le_of_ble_eq_true rfl) (Nat.le_of_ble_eq_true rfl) (at_VA_0 at_RS_thought) rfl rfl rfl (fun _ e l => c_X5_passDays at_RS_thought e l V) ?_
  intro M14
  refine jv_iloadn (j := 3) dX7_then_58 rfl ?_
  refine jw_if_ne (tgt := 77) dX7_then_59 rfl (fun c59 => ?_) (fun c59 => ?_)
  · refine jv_aloadn (j := 0) dX7_then_62 rfl ?_
    refine hv_getR dX7_then_63 fl7_16 at_RS_0 rfl ?_
    refine hv_getR dX7_then_66 fl7_59 (at_VA_0 at_RS_thought) rfl ?_
    refine hv_getR dX7_then_69 fl7_78 (at_RO_0 (at_VA_ro at_RS_thought)) rfl ?_
    refine jv_iloadn (j := 2) dX7_then_72 rfl ?_
    refine hv_ialdC dX7_then_73 (at_RO_2 (at_VA_ro at_RS_thought)) (fun _ => ?_)
    refine jv_goto (tgt := 89) dX7_then_74 rfl ?_
    exact vf_ret dX7_then_89 rfl
  refine jv_aloadn (j := 0) dX7_then_77 rfl ?_
  refine hv_getR dX7_then_78 fl7_16 at_RS_0 rfl ?_
  refine hv_getR dX7_then_81 fl7_59 (at_VA_0 at_RS_thought) rfl ?_
  refine hv_getR dX7_then_84 fl7_81 (at_RO_0 (at_VA_ro at_RS_thought)) rfl ?_
  refine jv_iloadn (j := 2) dX7_then_87 rfl ?_
  refine hv_ialdC dX7_then_88 (at_RO_3 (at_VA_ro at_RS_thought)) (fun _ => ?_)
  exact vf_ret dX7_then_89 rfl
theorem c_X7_then {M : pm_M} {x1 : Int32} {x2 : Int32} {x3 : Int32}  {r : Int32} {M' : pm_M} (h : f_X7_then M x1 x2 x3 = some (r, M')) (l : Launch) (V : pm_V) : pm_Ci l V skC yX7_then mX7_then 6 [.ref (V.1 0), .int x1, .int x2, .int x3] M r M' := pm_metI (by decide) rfl (Nat.le_of_ble_eq_true rfl) h (fun _ => w_X7_then M x1 x2 x3 )
def lb_X7_drought_49 (x1 : Int32) (x2 : Int32) (ih : Int32 → Int32 → Int32 → pm_M → Option (Int32 × pm_M)) : Int32 → Int32 → Int32 → pm_M → Option (Int32 × pm_M) := fun (l3 : Int32) (l4 : Int32) (l5 : Int32) (Ml : pm_M) =>
  (if x2 ≤ l5 then (some (l3, Ml)) else (pm_b1 (f_X5_passDays 31 Ml 1) (fun M50002 : pm_M => (pm_chk (pm_in x1 6) (if (M50002 (31 + 27) x1.toNatClampNeg) = 0 then (pm_let (l4 + 1) (fun z50003 : Int32 => (pm_let (pm_max l3 z50003) (fun z50004 : Int32 => (ih z50004 z50003 (l5 + 1) M50002))))) else (pm_let (pm_max l3 0) (fun z50005 : Int32 => (ih z50005 0 (l5 + 1) M50002))))))))
def lp_X7_drought_49 (x1 : Int32) (x2 : Int32) : Int32 → Int32 → Int32 → pm_M → Option (Int32 × pm_M) := pm_it (fun _ _ _ _ => none) (lb_X7_drought_49 x1 x2) pm_F
def f_X7_drought (M : pm_M) (x1 : Int32) (x2 : Int32) : Option (Int32 × pm_M) :=
  (pm_b2 (f_X3_has (1 + 1) M x1) (fun (r2 : Int32) (M1 : pm_M) => (if r2 = 0 then (pm_b2 (f_X7_error M1 1) (fun (r4 : Int32) (M3 : pm_M) => (some (r4, M3)))) else (pm_b2 (f_X7_within M1 x2 1 60) (fun (r6 : Int32) (M5 : pm_M) => (if r6 = 0 then (pm_b2 (f_X7_error M5 1) (fun (r8 : Int32) (M7 : pm_M) => (some (r8, M7)))) else (pm_b1 (f_X5_copyFrom 31 M5 1) (fun M9 : pm_M => (pm_b2 (lp_X7_drought_49 x1 x2 0 0 0 M9) (fun (l10 : Int32) (M11 : pm_M) => (some (l10, M11))))))))))))
set_option maxHeartbeats 4000000 in
set_option maxRecDepth 100000 in
theorem wl_X7_drought_49 {X : pm_X} {V : pm_V} (x1 : Int32) (x2 : Int32)  : ∀ (l3 : Int32) (l4 : Int32) (l5 : Int32) (Ml : pm_M), pm_VF (lp_X7_drought_49 x1 x2 l3 l4 l5 Ml) (fun b => (fun (l3 : Int32) (Ml : pm_M) => pm_J X V mX7_drought 6 (pm_wld V skC Ml) 98 [(3, .int l3)] []) b.1 b.2) (pm_J X V mX7_drought 6 (pm_wld V skC Ml) 49 [(0, .ref (V.1 0)), (1, .int x1), (2, .int x2), (3, .int l3), (4, .int l4), (5, .int l5)] []) := by
  refine pm_it_ind (P := fun (f : Int32 → Int32 → Int32 → pm_M → Option (Int32 × pm_M)) => ∀ (l3 : Int32) (l4 : Int32) (l5 : Int32) (Ml : pm_M), pm_VF (f l3 l4 l5 Ml) (fun b => (fun (l3 : Int32) (Ml : pm_M) => pm_J X V mX7_drought 6 (pm_wld V skC Ml) 98 [(3, .int l3)] []) b.1 b.2) (pm_J X V mX7_drought 6 (pm_wld V skC Ml) 49 [(0, .ref (V.1 0)), (1, .int x1), (2, .int x2), (3, .int l3), (4, .int l4), (5, .int l5)] [])) (fun _ _ _ _ => vf_none) (fun ih hih l3 l4 l5 Ml => ?_) pm_F
  · unfold lb_X7_drought_49
    refine jv_iload (j := 5) dX7_drought_49 rfl ?_
    refine jv_iloadn (j := 2) dX7_drought_51 rfl ?_
    refine jw_ic_ge (tgt := 98) dX7_drought_52 rfl (fun c52 => ?_) (fun c52 => ?_)
    · exact vf_end (fun g => jr_sub [3] rfl g)
    refine jv_aloadn (j := 0) dX7_drought_55 rfl ?_
    refine hv_getR dX7_drought_56 fl7_16 at_RS_0 rfl ?_
    refine jv_iconst (v := 1) dX7_drought_59 (by decide) ?_
    refine hv_callV (As := [.int 1]) dX7_drought_60 lk7_183 kX5_passDays nX5_passDays (Nat.le_of_ble_eq_true rfl) (Nat.le_of_ble_eq_true rfl) (at_VA_0 at_RS_thought) rfl rfl rfl (fun _ e l => c_X5_passDays at_RS_thought e l V) ?_
    intro M50002
    refine jv_aloadn (j := 0) dX7_drought_63 rfl ?_
    refine hv_getR dX7_drought_64 fl7_16 at_RS_0 rfl ?_
    refine hv_getR dX7_drought_67 fl7_202 (at_VA_0 at_RS_thought) rfl ?_
    refine jv_iloadn (j := 1) dX7_drought_70 rfl ?_
    refine hv_ialdC dX7_drought_71 (at_VA_27 at_RS_thought) (fun _ => ?_)
    refine jw_if_ne (tgt := 82) dX7_drought_72 rfl (fun c72 => ?_) (fun c72 => ?_)
    · refine jv_iload (j := 4) dX7_drought_75 rfl ?_
      refine jv_iconst (v := 1) dX7_drought_77 (by decide) ?_
      refine jv_iadd dX7_drought_78 ?_
      refine jv_goto (tgt := 83) dX7_drought_79 rfl ?_
      refine vf_letS (fun z50003 => ?_)
      refine jv_istore (L' := [(4, .int z50003), (0, .ref (V.1 0)), (1, .int x1), (2, .int x2), (3, .int l3), (5, .int l5)]) dX7_drought_83 (Nat.le_of_ble_eq_true rfl) rfl ?_
      refine jv_iloadn (j := 4) dX7_drought_85 rfl ?_
      refine jv_iload (j := 0) dX7_drought_86 rfl ?_
      refine hv_max dX7_drought_88 lk7_205 lkM_max.1 lkM_i lkM_max.2 (Nat.le_of_ble_eq_true rfl) ?_
      refine vf_letS (fun z50004 => ?_)
      refine jv_istoren (L' := [(3, .int z50004), (4, .int z50003), (0, .ref (V.1 0)), (1, .int x1), (2, .int x2), (5, .int l5)]) dX7_drought_91 (Nat.le_of_ble_eq_true rfl) rfl ?_
      refine jv_iinc (j := 5) (v := l5 + 1) (L' := [(5, .int (l5 + 1)), (3, .int z50004), (4, .int z50003), (0, .ref (V.1 0)), (1, .int x1), (2, .int x2)]) dX7_drought_92 rfl rfl (Nat.le_of_ble_eq_true rfl) rfl ?_
      refine jv_goto (tgt := 49) dX7_drought_95 rfl ?_
      exact vf_j (fun g => jr_sub [3, 4, 5, 1, 2, 0] rfl g) (hih z50004 z50003 (l5 + 1) M50002)
    refine jv_iconst (v := 0) dX7_drought_82 (by decide) ?_
    refine jv_istore (L' := [(4, .int 0), (0, .ref (V.1 0)), (1, .int x1), (2, .int x2), (3, .int l3), (5, .int l5)]) dX7_drought_83 (Nat.le_of_ble_eq_true rfl) rfl ?_
    refine jv_iloadn (j := 4) dX7_drought_85 rfl ?_
    refine jv_iload (j := 0) dX7_drought_86 rfl ?_
    refine hv_max dX7_drought_88 lk7_205 lkM_max.1 lkM_i lkM_max.2 (Nat.le_of_ble_eq_true rfl) ?_
    refine vf_letS (fun z50005 => ?_)
    refine jv_istoren (L' := [(3, .int z50005), (4, .int 0), (0, .ref (V.1 0)), (1, .int x1), (2, .int x2), (5, .int l5)]) dX7_drought_91 (Nat.le_of_ble_eq_true rfl) rfl ?_
    refine jv_iinc (j := 5) (v := l5 + 1) (L' := [(5, .int (l5 + 1)), (3, .int z50005), (4, .int 0), (0, .ref (V.1 0)), (1, .int x1), (2, .int x2)]) dX7_drought_92 rfl rfl (Nat.le_of_ble_eq_true rfl) rfl ?_
    refine jv_goto (tgt := 49) dX7_drought_95 rfl ?_
    exact vf_j (fun g => jr_sub [3, 4, 5, 1, 2, 0] rfl g) (hih z50005 0 (l5 + 1) M50002)
set_option maxHeartbeats 4000000 in
set_option maxRecDepth 100000 in
theorem w_X7_drought {X : pm_X} {V : pm_V} (M : pm_M) (x1 : Int32) (x2 : Int32)  : pm_VF (f_X7_drought M x1 x2) (pm_K X V mX7_drought 6 skC) (pm_J X V mX7_drought 6 (pm_wld V skC M) 0 [(0, .ref (V.1 0)), (1, .int x1), (2, .int x2)] []) := by
  unfold f_X7_drought
  refine jv_aloadn (j := 0) dX7_drought_0 rfl ?_
  refine hv_getR dX7_drought_1 fl7_10 at_RS_0 rfl ?_
  refine hv_getR dX7_drought_4 fl7_59 (at_VA_0 at_RS_now) rfl ?_
  refine jv_iloadn (j := 1) dX7_drought_7 rfl ?_
  refine hv_callI (As := [.int x1]) dX7_drought_8 lk7_71 kX3_has nX3_has (Nat.le_of_ble_eq_true rfl) (Nat.le_of_ble_eq_true rfl) (at_RO_0 (at_VA_ro at_RS_now)) rfl rfl rfl (fun _ _ e l => c_X3_has (at_VA_ro at_RS_now) e l V) ?_
  intro r2 M1
  refine jw_if_eq (tgt := 24) dX7_drought_11 rfl (fun c11 => ?_) (fun c11 => ?_)
  · refine jv_aloadn (j := 0) dX7_drought_24 rfl ?_
    refine jv_iconst (v := 1) dX7_drought_25 (by decide) ?_
    refine hv_callI (As := [.int 1]) dX7_drought_26 lk7_55 kX7_error nX7_error (Nat.le_of_ble_eq_true rfl) (Nat.le_of_ble_eq_true rfl) at_RS_0 rfl rfl rfl (fun _ _ e l => c_X7_error  e l V) ?_
    intro r4 M3
    exact vf_ret dX7_drought_29 rfl
  refine jv_iloadn (j := 2) dX7_drought_14 rfl ?_
  refine jv_iconst (v := 1) dX7_drought_15 (by decide) ?_
  refine jv_bipush (v := 60) dX7_drought_16 (by decide) ?_
  refine hv_callS (As := [.int x2, .int 1, .int 60]) dX7_drought_18 lk7_51 kX7_within nX7_within (Nat.le_of_ble_eq_true rfl) (Nat.le_of_ble_eq_true rfl) rfl (fun _ _ e l => c_X7_within  e l V) ?_
  intro r6 M5
  refine jw_if_ne (tgt := 30) dX7_drought_21 rfl (fun c21 => ?_) (fun c21 => ?_)
  · refine jv_aloadn (j := 0) dX7_drought_24 rfl ?_
    refine jv_iconst (v := 1) dX7_drought_25 (by decide) ?_
    refine hv_callI (As := [.int 1]) dX7_drought_26 lk7_55 kX7_error nX7_error (Nat.le_of_ble_eq_true rfl) (Nat.le_of_ble_eq_true rfl) at_RS_0 rfl rfl rfl (fun _ _ e l => c_X7_error  e l V) ?_
    intro r8 M7
    exact vf_ret dX7_drought_29 rfl
  refine jv_aloadn (j := 0) dX7_drought_30 rfl ?_
  refine hv_getR dX7_drought_31 fl7_16 at_RS_0 rfl ?_
  refine jv_aloadn (j := 0) dX7_drought_34 rfl ?_
  refine hv_getR dX7_drought_35 fl7_10 at_RS_0 rfl ?_
  refine hv_callV (As := [.ref (V.1 1)]) dX7_drought_38 lk7_198 kX5_copyFrom nX5_copyFrom (Nat.le_of_ble_eq_true rfl) (Nat.le_of_ble_eq_true rfl) (at_VA_0 at_RS_thought) rfl rfl rfl (fun _ e l => c_X5_copyFrom at_RS_thought at_RS_now e l V) ?_
  intro M9
  refine jv_iconst (v := 0) dX7_drought_41 (by decide) ?_
  refine jv_istoren (L' := [(3, .int 0), (0, .ref (V.1 0)), (1, .int x1), (2, .int x2)]) dX7_drought_42 (Nat.le_of_ble_eq_true rfl) rfl ?_
  refine jv_iconst (v := 0) dX7_drought_43 (by decide) ?_
  refine jv_istore (L' := [(4, .int 0), (3, .int 0), (0, .ref (V.1 0)), (1, .int x1), (2, .int x2)]) dX7_drought_44 (Nat.le_of_ble_eq_true rfl) rfl ?_
  refine jv_iconst (v := 0) dX7_drought_46 (by decide) ?_
  refine jv_istore (L' := [(5, .int 0), (4, .int 0), (3, .int 0), (0, .ref (V.1 0)), (1, .int x1), (2, .int x2)]) dX7_drought_47 (Nat.le_of_ble_eq_true rfl) rfl ?_
  refine vl_b2 (P := fun (l3 : Int32) (Ml : pm_M) => pm_J X V mX7_drought 6 (pm_wld V skC Ml) 98 [(3, .int l3)] []) (vf_j (fun g => jr_sub [3, 4, 5, 2, 1, 0] rfl g) (wl_X7_drought_49 x1 x2  0 0 0 M9)) ?_
  intro l10 M11
  refine jv_iloadn (j := 0) dX7_drought_98 rfl ?_
  exact vf_ret dX7_drought_99 rfl
theorem c_X7_drought {M : pm_M} {x1 : Int32} {x2 : Int32}  {r : Int32} {M' : pm_M} (h : f_X7_drought M x1 x2 = some (r, M')) (l : Launch) (V : pm_V) : pm_Ci l V skC yX7_drought mX7_drought 6 [.ref (V.1 0), .int x1, .int x2] M r M' := pm_metI (by decide) rfl (Nat.le_of_ble_eq_true rfl) h (fun _ => w_X7_drought M x1 x2 )
def lb_X7_when_44 (x1 : Int32) (x2 : Int32) (ih : Int32 → pm_M → Option ((pm_M) ⊕ (Int32 × pm_M))) : Int32 → pm_M → Option ((pm_M) ⊕ (Int32 × pm_M)) := fun (l3 : Int32) (Ml : pm_M) =>
  (if 60 < l3 then (some (Sum.inl Ml)) else (pm_chk (pm_in x1 6) (if (Ml ((31 + 1) + 2) x1.toNatClampNeg) < x2 then (pm_b1 (f_X5_passDays 31 Ml 1) (fun M45002 : pm_M => (ih (l3 + 1) M45002))) else (some (Sum.inr (l3, Ml))))))
def lp_X7_when_44 (x1 : Int32) (x2 : Int32) : Int32 → pm_M → Option ((pm_M) ⊕ (Int32 × pm_M)) := pm_it (fun _ _ => none) (lb_X7_when_44 x1 x2) pm_F
def f_X7_when (M : pm_M) (x1 : Int32) (x2 : Int32) : Option (Int32 × pm_M) :=
  (pm_b2 (f_X3_has (1 + 1) M x1) (fun (r2 : Int32) (M1 : pm_M) => (if r2 = 0 then (pm_b2 (f_X7_error M1 1) (fun (r4 : Int32) (M3 : pm_M) => (some (r4, M3)))) else (pm_b2 (f_X7_within M1 x2 0 9999) (fun (r6 : Int32) (M5 : pm_M) => (if r6 = 0 then (pm_b2 (f_X7_error M5 1) (fun (r8 : Int32) (M7 : pm_M) => (some (r8, M7)))) else (pm_b1 (f_X5_copyFrom 31 M5 1) (fun M9 : pm_M => (pm_s1 (lp_X7_when_44 x1 x2 0 M9) (fun (M10 : pm_M) => (pm_b2 (f_X7_error M10 2) (fun (r12 : Int32) (M11 : pm_M) => (some (r12, M11))))))))))))))
set_option maxHeartbeats 4000000 in
set_option maxRecDepth 100000 in
theorem wl_X7_when_44 {X : pm_X} {V : pm_V} (x1 : Int32) (x2 : Int32)  : ∀ (l3 : Int32) (Ml : pm_M), pm_VF (lp_X7_when_44 x1 x2 l3 Ml) (Sum.elim (fun b => (fun (Ml : pm_M) => pm_J X V mX7_when 6 (pm_wld V skC Ml) 82 [(0, .ref (V.1 0))] []) b) (pm_K X V mX7_when 6 skC)) (pm_J X V mX7_when 6 (pm_wld V skC Ml) 44 [(0, .ref (V.1 0)), (1, .int x1), (2, .int x2), (3, .int l3)] []) := by
  refine pm_it_ind (P := fun (f : Int32 → pm_M → Option ((pm_M) ⊕ (Int32 × pm_M))) => ∀ (l3 : Int32) (Ml : pm_M), pm_VF (f l3 Ml) (Sum.elim (fun b => (fun (Ml : pm_M) => pm_J X V mX7_when 6 (pm_wld V skC Ml) 82 [(0, .ref (V.1 0))] []) b) (pm_K X V mX7_when 6 skC)) (pm_J X V mX7_when 6 (pm_wld V skC Ml) 44 [(0, .ref (V.1 0)), (1, .int x1), (2, .int x2), (3, .int l3)] [])) (fun _ _ => vf_none) (fun ih hih l3 Ml => ?_) pm_F
  · unfold lb_X7_when_44
    refine jv_iloadn (j := 3) dX7_when_44 rfl ?_
    refine jv_bipush (v := 60) dX7_when_45 (by decide) ?_
    refine jw_ic_gt (tgt := 82) dX7_when_47 rfl (fun c47 => ?_) (fun c47 => ?_)
    · exact vf_inl (fun g => jr_sub [0] rfl g)
    refine jv_aloadn (j := 0) dX7_when_50 rfl ?_
    refine hv_getR dX7_when_51 fl7_16 at_RS_0 rfl ?_
    refine hv_getR dX7_when_54 fl7_59 (at_VA_0 at_RS_thought) rfl ?_
    refine hv_getR dX7_when_57 fl7_78 (at_RO_0 (at_VA_ro at_RS_thought)) rfl ?_
    refine jv_iloadn (j := 1) dX7_when_60 rfl ?_
    refine hv_ialdC dX7_when_61 (at_RO_2 (at_VA_ro at_RS_thought)) (fun _ => ?_)
    refine jv_iloadn (j := 2) dX7_when_62 rfl ?_
    refine jw_ic_lt (tgt := 68) dX7_when_63 rfl (fun c63 => ?_) (fun c63 => ?_)
    · refine jv_aloadn (j := 0) dX7_when_68 rfl ?_
      refine hv_getR dX7_when_69 fl7_16 at_RS_0 rfl ?_
      refine jv_iconst (v := 1) dX7_when_72 (by decide) ?_
      refine hv_callV (As := [.int 1]) dX7_when_73 lk7_183 kX5_passDays nX5_passDays (Nat.le_of_ble_eq_true rfl) (Nat.le_of_ble_eq_true rfl) (at_VA_0 at_RS_thought) rfl rfl rfl (fun _ e l => c_X5_passDays at_RS_thought e l V) ?_
      intro M45002
      refine jv_iinc (j := 3) (v := l3 + 1) (L' := [(3, .int (l3 + 1)), (0, .ref (V.1 0)), (1, .int x1), (2, .int x2)]) dX7_when_76 rfl rfl (Nat.le_of_ble_eq_true rfl) rfl ?_
      refine jv_goto (tgt := 44) dX7_when_79 rfl ?_
      exact vf_j (fun g => jr_sub [1, 2, 3, 0] rfl g) (hih (l3 + 1) M45002)
    refine jv_iloadn (j := 3) dX7_when_66 rfl ?_
    exact vf_inr (vf_ret dX7_when_67 rfl)
set_option maxHeartbeats 4000000 in
set_option maxRecDepth 100000 in
theorem w_X7_when {X : pm_X} {V : pm_V} (M : pm_M) (x1 : Int32) (x2 : Int32)  : pm_VF (f_X7_when M x1 x2) (pm_K X V mX7_when 6 skC) (pm_J X V mX7_when 6 (pm_wld V skC M) 0 [(0, .ref (V.1 0)), (1, .int x1), (2, .int x2)] []) := by
  unfold f_X7_when
  refine jv_aloadn (j := 0) dX7_when_0 rfl ?_
  refine hv_getR dX7_when_1 fl7_10 at_RS_0 rfl ?_
  refine hv_getR dX7_when_4 fl7_59 (at_VA_0 at_RS_now) rfl ?_
  refine jv_iloadn (j := 1) dX7_when_7 rfl ?_
  refine hv_callI (As := [.int x1]) dX7_when_8 lk7_71 kX3_has nX3_has (Nat.le_of_ble_eq_true rfl) (Nat.le_of_ble_eq_true rfl) (at_RO_0 (at_VA_ro at_RS_now)) rfl rfl rfl (fun _ _ e l => c_X3_has (at_VA_ro at_RS_now) e l V) ?_
  intro r2 M1
  refine jw_if_eq (tgt := 25) dX7_when_11 rfl (fun c11 => ?_) (fun c11 => ?_)
  · refine jv_aloadn (j := 0) dX7_when_25 rfl ?_
    refine jv_iconst (v := 1) dX7_when_26 (by decide) ?_
    refine hv_callI (As := [.int 1]) dX7_when_27 lk7_55 kX7_error nX7_error (Nat.le_of_ble_eq_true rfl) (Nat.le_of_ble_eq_true rfl) at_RS_0 rfl rfl rfl (fun _ _ e l => c_X7_error  e l V) ?_
    intro r4 M3
    exact vf_ret dX7_when_30 rfl
  refine jv_iloadn (j := 2) dX7_when_14 rfl ?_
  refine jv_iconst (v := 0) dX7_when_15 (by decide) ?_
  refine jv_sipush (v := 9999) dX7_when_16 (by decide) ?_
  refine hv_callS (As := [.int x2, .int 0, .int 9999]) dX7_when_19 lk7_51 kX7_within nX7_within (Nat.le_of_ble_eq_true rfl) (Nat.le_of_ble_eq_true rfl) rfl (fun _ _ e l => c_X7_within  e l V) ?_
  intro r6 M5
  refine jw_if_ne (tgt := 31) dX7_when_22 rfl (fun c22 => ?_) (fun c22 => ?_)
  · refine jv_aloadn (j := 0) dX7_when_25 rfl ?_
    refine jv_iconst (v := 1) dX7_when_26 (by decide) ?_
    refine hv_callI (As := [.int 1]) dX7_when_27 lk7_55 kX7_error nX7_error (Nat.le_of_ble_eq_true rfl) (Nat.le_of_ble_eq_true rfl) at_RS_0 rfl rfl rfl (fun _ _ e l => c_X7_error  e l V) ?_
    intro r8 M7
    exact vf_ret dX7_when_30 rfl
  refine jv_aloadn (j := 0) dX7_when_31 rfl ?_
  refine hv_getR dX7_when_32 fl7_16 at_RS_0 rfl ?_
  refine jv_aloadn (j := 0) dX7_when_35 rfl ?_
  refine hv_getR dX7_when_36 fl7_10 at_RS_0 rfl ?_
  refine hv_callV (As := [.ref (V.1 1)]) dX7_when_39 lk7_198 kX5_copyFrom nX5_copyFrom (Nat.le_of_ble_eq_true rfl) (Nat.le_of_ble_eq_true rfl) (at_VA_0 at_RS_thought) rfl rfl rfl (fun _ e l => c_X5_copyFrom at_RS_thought at_RS_now e l V) ?_
  intro M9
  refine jv_iconst (v := 0) dX7_when_42 (by decide) ?_
  refine jv_istoren (L' := [(3, .int 0), (0, .ref (V.1 0)), (1, .int x1), (2, .int x2)]) dX7_when_43 (Nat.le_of_ble_eq_true rfl) rfl ?_
  refine vl_s1 (P := fun (Ml : pm_M) => pm_J X V mX7_when 6 (pm_wld V skC Ml) 82 [(0, .ref (V.1 0))] []) (vf_j (fun g => jr_sub [1, 2, 3, 0] rfl g) (wl_X7_when_44 x1 x2  0 M9)) ?_
  intro M10
  refine jv_aloadn (j := 0) dX7_when_82 rfl ?_
  refine jv_iconst (v := 2) dX7_when_83 (by decide) ?_
  refine hv_callI (As := [.int 2]) dX7_when_84 lk7_55 kX7_error nX7_error (Nat.le_of_ble_eq_true rfl) (Nat.le_of_ble_eq_true rfl) at_RS_0 rfl rfl rfl (fun _ _ e l => c_X7_error  e l V) ?_
  intro r12 M11
  exact vf_ret dX7_when_87 rfl
theorem c_X7_when {M : pm_M} {x1 : Int32} {x2 : Int32}  {r : Int32} {M' : pm_M} (h : f_X7_when M x1 x2 = some (r, M')) (l : Launch) (V : pm_V) : pm_Ci l V skC yX7_when mX7_when 6 [.ref (V.1 0), .int x1, .int x2] M r M' := pm_metI (by decide) rfl (Nat.le_of_ble_eq_true rfl) h (fun _ => w_X7_when M x1 x2 )
def f_X7_sellers (M : pm_M) (x1 : Int32) (x2 : Int32) : Option (Int32 × pm_M) :=
  (pm_b2 (f_X7_within M x1 0 999) (fun (r2 : Int32) (M1 : pm_M) => (if r2 = 0 then (pm_b2 (f_X7_error M1 1) (fun (r4 : Int32) (M3 : pm_M) => (some (r4, M3)))) else (pm_b2 (f_X7_within M1 x2 0 1) (fun (r6 : Int32) (M5 : pm_M) => (if r6 = 0 then (pm_b2 (f_X7_error M5 1) (fun (r8 : Int32) (M7 : pm_M) => (some (r8, M7)))) else (pm_b2 (f_X3_bestSellers (1 + 1) M5 x1) (fun (r10 : Int32) (M9 : pm_M) => (if 0 ≤ r10 then (if x2 = 0 then (some (r10, M9)) else (pm_b2 (f_X3_sumOver (1 + 1) M9 r10 ((1 + 1) + 1)) (fun (r12 : Int32) (M11 : pm_M) => (some (r12, M11))))) else (pm_b2 (f_X7_error M9 2) (fun (r14 : Int32) (M13 : pm_M) => (some (r14, M13)))))))))))))
set_option maxHeartbeats 4000000 in
set_option maxRecDepth 100000 in
theorem w_X7_sellers {X : pm_X} {V : pm_V} (M : pm_M) (x1 : Int32) (x2 : Int32)  : pm_VF (f_X7_sellers M x1 x2) (pm_K X V mX7_sellers 4 skC) (pm_J X V mX7_sellers 4 (pm_wld V skC M) 0 [(0, .ref (V.1 0)), (1, .int x1), (2, .int x2)] []) := by
  unfold f_X7_sellers
  refine jv_iloadn (j := 1) dX7_sellers_0 rfl ?_
  refine jv_iconst (v := 0) dX7_sellers_1 (by decide) ?_
  refine jv_sipush (v := 999) dX7_sellers_2 (by decide) ?_
  refine hv_callS (As := [.int x1, .int 0, .int 999]) dX7_sellers_5 lk7_51 kX7_within nX7_within (Nat.le_of_ble_eq_true rfl) (Nat.le_of_ble_eq_true rfl) rfl (fun _ _ e l => c_X7_within  e l V) ?_
  intro r2 M1
  refine jw_if_eq (tgt := 20) dX7_sellers_8 rfl (fun c8 => ?_) (fun c8 => ?_)
  · refine jv_aloadn (j := 0) dX7_sellers_20 rfl ?_
    refine jv_iconst (v := 1) dX7_sellers_21 (by decide) ?_
    refine hv_callI (As := [.int 1]) dX7_sellers_22 lk7_55 kX7_error nX7_error (Nat.le_of_ble_eq_true rfl) (Nat.le_of_ble_eq_true rfl) at_RS_0 rfl rfl rfl (fun _ _ e l => c_X7_error  e l V) ?_
    intro r4 M3
    exact vf_ret dX7_sellers_25 rfl
  refine jv_iloadn (j := 2) dX7_sellers_11 rfl ?_
  refine jv_iconst (v := 0) dX7_sellers_12 (by decide) ?_
  refine jv_iconst (v := 1) dX7_sellers_13 (by decide) ?_
  refine hv_callS (As := [.int x2, .int 0, .int 1]) dX7_sellers_14 lk7_51 kX7_within nX7_within (Nat.le_of_ble_eq_true rfl) (Nat.le_of_ble_eq_true rfl) rfl (fun _ _ e l => c_X7_within  e l V) ?_
  intro r6 M5
  refine jw_if_ne (tgt := 26) dX7_sellers_17 rfl (fun c17 => ?_) (fun c17 => ?_)
  · refine jv_aloadn (j := 0) dX7_sellers_20 rfl ?_
    refine jv_iconst (v := 1) dX7_sellers_21 (by decide) ?_
    refine hv_callI (As := [.int 1]) dX7_sellers_22 lk7_55 kX7_error nX7_error (Nat.le_of_ble_eq_true rfl) (Nat.le_of_ble_eq_true rfl) at_RS_0 rfl rfl rfl (fun _ _ e l => c_X7_error  e l V) ?_
    intro r8 M7
    exact vf_ret dX7_sellers_25 rfl
  refine jv_aloadn (j := 0) dX7_sellers_26 rfl ?_
  refine hv_getR dX7_sellers_27 fl7_10 at_RS_0 rfl ?_
  refine hv_getR dX7_sellers_30 fl7_59 (at_VA_0 at_RS_now) rfl ?_
  refine jv_iloadn (j := 1) dX7_sellers_33 rfl ?_
  refine hv_callI (As := [.int x1]) dX7_sellers_34 lk7_210 kX3_bestSellers nX3_bestSellers (Nat.le_of_ble_eq_true rfl) (Nat.le_of_ble_eq_true rfl) (at_RO_0 (at_VA_ro at_RS_now)) rfl rfl rfl (fun _ _ e l => c_X3_bestSellers (at_VA_ro at_RS_now) e l V) ?_
  intro r10 M9
  refine jv_istoren (L' := [(3, .int r10), (0, .ref (V.1 0)), (1, .int x1), (2, .int x2)]) dX7_sellers_37 (Nat.le_of_ble_eq_true rfl) rfl ?_
  refine jv_iloadn (j := 0) dX7_sellers_38 rfl ?_
  refine jw_if_ge (tgt := 48) dX7_sellers_39 rfl (fun c39 => ?_) (fun c39 => ?_)
  · refine jv_iloadn (j := 3) dX7_sellers_48 rfl ?_
    refine jw_if_ne (tgt := 56) dX7_sellers_49 rfl (fun c49 => ?_) (fun c49 => ?_)
    · refine jv_iloadn (j := 0) dX7_sellers_52 rfl ?_
      refine jv_goto (tgt := 77) dX7_sellers_53 rfl ?_
      exact vf_ret dX7_sellers_77 rfl
    refine jv_aloadn (j := 1) dX7_sellers_56 rfl ?_
    refine hv_getR dX7_sellers_57 fl7_10 at_RS_0 rfl ?_
    refine hv_getR dX7_sellers_60 fl7_59 (at_VA_0 at_RS_now) rfl ?_
    refine jv_iloadn (j := 0) dX7_sellers_63 rfl ?_
    refine jv_aloadn (j := 1) dX7_sellers_64 rfl ?_
    refine hv_getR dX7_sellers_65 fl7_10 at_RS_0 rfl ?_
    refine hv_getR dX7_sellers_68 fl7_59 (at_VA_0 at_RS_now) rfl ?_
    refine hv_getR dX7_sellers_71 fl7_75 (at_RO_0 (at_VA_ro at_RS_now)) rfl ?_
    refine hv_callI (As := [.int r10, .ref (V.1 ((1 + 1) + 1))]) dX7_sellers_74 lk7_213 kX3_sumOver nX3_sumOver (Nat.le_of_ble_eq_true rfl) (Nat.le_of_ble_eq_true rfl) (at_RO_0 (at_VA_ro at_RS_now)) rfl rfl rfl (fun _ _ e l => c_X3_sumOver (at_VA_ro at_RS_now) (at_RO_1 (at_VA_ro at_RS_now)) e l V) ?_
    intro r12 M11
    exact vf_ret dX7_sellers_77 rfl
  refine jv_aloadn (j := 1) dX7_sellers_42 rfl ?_
  refine jv_iconst (v := 2) dX7_sellers_43 (by decide) ?_
  refine hv_callI (As := [.int 2]) dX7_sellers_44 lk7_55 kX7_error nX7_error (Nat.le_of_ble_eq_true rfl) (Nat.le_of_ble_eq_true rfl) at_RS_0 rfl rfl rfl (fun _ _ e l => c_X7_error  e l V) ?_
  intro r14 M13
  exact vf_ret dX7_sellers_47 rfl
theorem c_X7_sellers {M : pm_M} {x1 : Int32} {x2 : Int32}  {r : Int32} {M' : pm_M} (h : f_X7_sellers M x1 x2 = some (r, M')) (l : Launch) (V : pm_V) : pm_Ci l V skC yX7_sellers mX7_sellers 4 [.ref (V.1 0), .int x1, .int x2] M r M' := pm_metI (by decide) rfl (Nat.le_of_ble_eq_true rfl) h (fun _ => w_X7_sellers M x1 x2 )
def f_X7_clears (M : pm_M) : Option (Int32 × pm_M) :=
  (pm_b1 (f_X3_copyFrom (31 + 1) M (1 + 1)) (fun M1 : pm_M => (pm_b2 (f_X3_clearDebts (31 + 1) M1) (fun (r3 : Int32) (M2 : pm_M) => (some (r3, M2))))))
set_option maxHeartbeats 4000000 in
set_option maxRecDepth 100000 in
theorem w_X7_clears {X : pm_X} {V : pm_V} (M : pm_M)  : pm_VF (f_X7_clears M) (pm_K X V mX7_clears 3 skC) (pm_J X V mX7_clears 3 (pm_wld V skC M) 0 [(0, .ref (V.1 0))] []) := by
  unfold f_X7_clears
  refine jv_aloadn (j := 0) dX7_clears_0 rfl ?_
  refine hv_getR dX7_clears_1 fl7_16 at_RS_0 rfl ?_
  refine hv_getR dX7_clears_4 fl7_59 (at_VA_0 at_RS_thought) rfl ?_
  refine jv_aloadn (j := 0) dX7_clears_7 rfl ?_
  refine hv_getR dX7_clears_8 fl7_10 at_RS_0 rfl ?_
  refine hv_getR dX7_clears_11 fl7_59 (at_VA_0 at_RS_now) rfl ?_
  refine hv_callV (As := [.ref (V.1 (1 + 1))]) dX7_clears_14 lk7_217 kX3_copyFrom nX3_copyFrom (Nat.le_of_ble_eq_true rfl) (Nat.le_of_ble_eq_true rfl) (at_RO_0 (at_VA_ro at_RS_thought)) rfl rfl rfl (fun _ e l => c_X3_copyFrom (at_VA_ro at_RS_thought) (at_VA_ro at_RS_now) e l V) ?_
  intro M1
  refine jv_aloadn (j := 0) dX7_clears_17 rfl ?_
  refine hv_getR dX7_clears_18 fl7_16 at_RS_0 rfl ?_
  refine hv_getR dX7_clears_21 fl7_59 (at_VA_0 at_RS_thought) rfl ?_
  refine hv_callI (As := []) dX7_clears_24 lk7_194 kX3_clearDebts nX3_clearDebts (Nat.le_of_ble_eq_true rfl) (Nat.le_of_ble_eq_true rfl) (at_RO_0 (at_VA_ro at_RS_thought)) rfl rfl rfl (fun _ _ e l => c_X3_clearDebts (at_VA_ro at_RS_thought) e l V) ?_
  intro r3 M2
  exact vf_ret dX7_clears_27 rfl
theorem c_X7_clears {M : pm_M}  {r : Int32} {M' : pm_M} (h : f_X7_clears M = some (r, M')) (l : Launch) (V : pm_V) : pm_Ci l V skC yX7_clears mX7_clears 3 [.ref (V.1 0)] M r M' := pm_metI (by decide) rfl (Nat.le_of_ble_eq_true rfl) h (fun _ => w_X7_clears M )
def lb_X7_patches_56 (x1 : Int32) (ih : Int32 → pm_M → Option (pm_M)) : Int32 → pm_M → Option (pm_M) := fun (l3 : Int32) (Ml : pm_M) =>
  (if x1 ≤ l3 then (some Ml) else (pm_b2 (f_X0_weakest (31 + 13) Ml) (fun (r57003 : Int32) (M57002 : pm_M) => (pm_chk (pm_in r57003 5) (pm_chk (pm_in r57003 5) (pm_let (pm_up M57002 ((31 + 13) + 4) r57003.toNatClampNeg (pm_max 0 ((M57002 ((31 + 13) + 4) r57003.toNatClampNeg) - 5))) (fun M57004 : pm_M => (ih (l3 + 1) M57004))))))))
def lp_X7_patches_56 (x1 : Int32) : Int32 → pm_M → Option (pm_M) := pm_it (fun _ _ => none) (lb_X7_patches_56 x1) pm_F
def f_X7_patches (M : pm_M) (x1 : Int32) : Option (Int32 × pm_M) :=
  (pm_b2 (f_X7_within M x1 0 20) (fun (r2 : Int32) (M1 : pm_M) => (if r2 = 0 then (pm_b2 (f_X7_error M1 1) (fun (r4 : Int32) (M3 : pm_M) => (some (r4, M3)))) else (if (M1 (1 + 13) 0) = 0 then (pm_b2 (f_X7_error M1 2) (fun (r6 : Int32) (M5 : pm_M) => (some (r6, M5)))) else (pm_b1 (f_X0_copyFrom (31 + 13) M1 (1 + 13)) (fun M7 : pm_M => (pm_b1 (lp_X7_patches_56 x1 0 M7) (fun (M8 : pm_M) => (pm_b2 (f_X0_weakest (31 + 13) M8) (fun (r10 : Int32) (M9 : pm_M) => (pm_b2 (f_X0_daysLeft (31 + 13) M9 r10) (fun (r12 : Int32) (M11 : pm_M) => (some (r12, M11))))))))))))))
set_option maxHeartbeats 4000000 in
set_option maxRecDepth 100000 in
theorem wl_X7_patches_56 {X : pm_X} {V : pm_V} (x1 : Int32)  : ∀ (l3 : Int32) (Ml : pm_M), pm_VF (lp_X7_patches_56 x1 l3 Ml) (fun b => (fun (Ml : pm_M) => pm_J X V mX7_patches 4 (pm_wld V skC Ml) 93 [(2, .ref (V.1 (31 + 13)))] []) b) (pm_J X V mX7_patches 4 (pm_wld V skC Ml) 56 [(1, .int x1), (2, .ref (V.1 (31 + 13))), (3, .int l3)] []) := by
  refine pm_it_ind (P := fun (f : Int32 → pm_M → Option (pm_M)) => ∀ (l3 : Int32) (Ml : pm_M), pm_VF (f l3 Ml) (fun b => (fun (Ml : pm_M) => pm_J X V mX7_patches 4 (pm_wld V skC Ml) 93 [(2, .ref (V.1 (31 + 13)))] []) b) (pm_J X V mX7_patches 4 (pm_wld V skC Ml) 56 [(1, .int x1), (2, .ref (V.1 (31 + 13))), (3, .int l3)] [])) (fun _ _ => vf_none) (fun ih hih l3 Ml => ?_) pm_F
  · unfold lb_X7_patches_56
    refine jv_iloadn (j := 2) dX7_patches_56 rfl ?_
    refine jv_iloadn (j := 0) dX7_patches_57 rfl ?_
    refine jw_ic_ge (tgt := 93) dX7_patches_58 rfl (fun c58 => ?_) (fun c58 => ?_)
    · exact vf_end (fun g => jr_sub [1] rfl g)
    refine jv_aloadn (j := 1) dX7_patches_61 rfl ?_
    refine hv_callI (As := []) dX7_patches_62 lk7_223 kX0_weakest nX0_weakest (Nat.le_of_ble_eq_true rfl) (Nat.le_of_ble_eq_true rfl) (at_CL_0 (at_VA_cl at_RS_thought)) rfl rfl rfl (fun _ _ e l => c_X0_weakest (at_VA_cl at_RS_thought) e l V) ?_
    intro r57003 M57002
    refine jv_istore (L' := [(4, .int r57003), (1, .int x1), (2, .ref (V.1 (31 + 13))), (3, .int l3)]) dX7_patches_65 (Nat.le_of_ble_eq_true rfl) rfl ?_
    refine jv_aloadn (j := 2) dX7_patches_67 rfl ?_
    refine hv_getR dX7_patches_68 fl7_128 (at_CL_0 (at_VA_cl at_RS_thought)) rfl ?_
    refine jv_iload (j := 0) dX7_patches_71 rfl ?_
    refine jv_iconst (v := 0) dX7_patches_73 (by decide) ?_
    refine jv_aloadn (j := 2) dX7_patches_74 rfl ?_
    refine hv_getR dX7_patches_75 fl7_128 (at_CL_0 (at_VA_cl at_RS_thought)) rfl ?_
    refine jv_iload (j := 0) dX7_patches_78 rfl ?_
    refine hv_ialdC dX7_patches_80 (at_CL_4 (at_VA_cl at_RS_thought)) (fun _ => ?_)
    refine jv_iconst (v := 5) dX7_patches_81 (by decide) ?_
    refine jv_isub dX7_patches_82 ?_
    refine hv_max dX7_patches_83 lk7_205 lkM_max.1 lkM_i lkM_max.2 (Nat.le_of_ble_eq_true rfl) ?_
    refine hv_iastC dX7_patches_86 (at_CL_4 (at_VA_cl at_RS_thought)) (fun _ => ?_)
    refine vf_letM (fun M57004 => ?_)
    refine jv_iinc (j := 3) (v := l3 + 1) (L' := [(3, .int (l3 + 1)), (4, .int r57003), (1, .int x1), (2, .ref (V.1 (31 + 13)))]) dX7_patches_87 rfl rfl (Nat.le_of_ble_eq_true rfl) rfl ?_
    refine jv_goto (tgt := 56) dX7_patches_90 rfl ?_
    exact vf_j (fun g => jr_sub [2, 3, 0] rfl g) (hih (l3 + 1) M57004)
set_option maxHeartbeats 4000000 in
set_option maxRecDepth 100000 in
theorem w_X7_patches {X : pm_X} {V : pm_V} (M : pm_M) (x1 : Int32)  : pm_VF (f_X7_patches M x1) (pm_K X V mX7_patches 4 skC) (pm_J X V mX7_patches 4 (pm_wld V skC M) 0 [(0, .ref (V.1 0)), (1, .int x1)] []) := by
  unfold f_X7_patches
  refine jv_iloadn (j := 1) dX7_patches_0 rfl ?_
  refine jv_iconst (v := 0) dX7_patches_1 (by decide) ?_
  refine jv_bipush (v := 20) dX7_patches_2 (by decide) ?_
  refine hv_callS (As := [.int x1, .int 0, .int 20]) dX7_patches_4 lk7_51 kX7_within nX7_within (Nat.le_of_ble_eq_true rfl) (Nat.le_of_ble_eq_true rfl) rfl (fun _ _ e l => c_X7_within  e l V) ?_
  intro r2 M1
  refine jw_if_ne (tgt := 16) dX7_patches_7 rfl (fun c7 => ?_) (fun c7 => ?_)
  · refine jv_aloadn (j := 0) dX7_patches_10 rfl ?_
    refine jv_iconst (v := 1) dX7_patches_11 (by decide) ?_
    refine hv_callI (As := [.int 1]) dX7_patches_12 lk7_55 kX7_error nX7_error (Nat.le_of_ble_eq_true rfl) (Nat.le_of_ble_eq_true rfl) at_RS_0 rfl rfl rfl (fun _ _ e l => c_X7_error  e l V) ?_
    intro r4 M3
    exact vf_ret dX7_patches_15 rfl
  refine jv_aloadn (j := 0) dX7_patches_16 rfl ?_
  refine hv_getR dX7_patches_17 fl7_10 at_RS_0 rfl ?_
  refine hv_getR dX7_patches_20 fl7_87 (at_VA_0 at_RS_now) rfl ?_
  refine hv_getI dX7_patches_23 fl7_114 (at_CL_0 (at_VA_cl at_RS_now)) rfl ?_
  refine jw_if_ne (tgt := 35) dX7_patches_26 rfl (fun c26 => ?_) (fun c26 => ?_)
  · refine jv_aloadn (j := 0) dX7_patches_29 rfl ?_
    refine jv_iconst (v := 2) dX7_patches_30 (by decide) ?_
    refine hv_callI (As := [.int 2]) dX7_patches_31 lk7_55 kX7_error nX7_error (Nat.le_of_ble_eq_true rfl) (Nat.le_of_ble_eq_true rfl) at_RS_0 rfl rfl rfl (fun _ _ e l => c_X7_error  e l V) ?_
    intro r6 M5
    exact vf_ret dX7_patches_34 rfl
  refine jv_aloadn (j := 0) dX7_patches_35 rfl ?_
  refine hv_getR dX7_patches_36 fl7_16 at_RS_0 rfl ?_
  refine hv_getR dX7_patches_39 fl7_87 (at_VA_0 at_RS_thought) rfl ?_
  refine jv_astoren (L' := [(2, .ref (V.1 (31 + 13))), (0, .ref (V.1 0)), (1, .int x1)]) dX7_patches_42 (Nat.le_of_ble_eq_true rfl) rfl ?_
  refine jv_aloadn (j := 0) dX7_patches_43 rfl ?_
  refine jv_aloadn (j := 1) dX7_patches_44 rfl ?_
  refine hv_getR dX7_patches_45 fl7_10 at_RS_0 rfl ?_
  refine hv_getR dX7_patches_48 fl7_87 (at_VA_0 at_RS_now) rfl ?_
  refine hv_callV (As := [.ref (V.1 (1 + 13))]) dX7_patches_51 lk7_220 kX0_copyFrom nX0_copyFrom (Nat.le_of_ble_eq_true rfl) (Nat.le_of_ble_eq_true rfl) (at_CL_0 (at_VA_cl at_RS_thought)) rfl rfl rfl (fun _ e l => c_X0_copyFrom (at_VA_cl at_RS_thought) (at_VA_cl at_RS_now) e l V) ?_
  intro M7
  refine jv_iconst (v := 0) dX7_patches_54 (by decide) ?_
  refine jv_istoren (L' := [(3, .int 0), (2, .ref (V.1 (31 + 13))), (0, .ref (V.1 0)), (1, .int x1)]) dX7_patches_55 (Nat.le_of_ble_eq_true rfl) rfl ?_
  refine vl_b1 (P := fun (Ml : pm_M) => pm_J X V mX7_patches 4 (pm_wld V skC Ml) 93 [(2, .ref (V.1 (31 + 13)))] []) (vf_j (fun g => jr_sub [3, 1, 0] rfl g) (wl_X7_patches_56 x1  0 M7)) ?_
  intro M8
  refine jv_aloadn (j := 0) dX7_patches_93 rfl ?_
  refine jv_aloadn (j := 0) dX7_patches_94 rfl ?_
  refine hv_callI (As := []) dX7_patches_95 lk7_223 kX0_weakest nX0_weakest (Nat.le_of_ble_eq_true rfl) (Nat.le_of_ble_eq_true rfl) (at_CL_0 (at_VA_cl at_RS_thought)) rfl rfl rfl (fun _ _ e l => c_X0_weakest (at_VA_cl at_RS_thought) e l V) ?_
  intro r10 M9
  refine hv_callI (As := [.int r10]) dX7_patches_98 lk7_226 kX0_daysLeft nX0_daysLeft (Nat.le_of_ble_eq_true rfl) (Nat.le_of_ble_eq_true rfl) (at_CL_0 (at_VA_cl at_RS_thought)) rfl rfl rfl (fun _ _ e l => c_X0_daysLeft (at_VA_cl at_RS_thought) e l V) ?_
  intro r12 M11
  exact vf_ret dX7_patches_101 rfl
theorem c_X7_patches {M : pm_M} {x1 : Int32}  {r : Int32} {M' : pm_M} (h : f_X7_patches M x1 = some (r, M')) (l : Launch) (V : pm_V) : pm_Ci l V skC yX7_patches mX7_patches 4 [.ref (V.1 0), .int x1] M r M' := pm_metI (by decide) rfl (Nat.le_of_ble_eq_true rfl) h (fun _ => w_X7_patches M x1 )
def f_X7_trades (M : pm_M) : Option (Int32 × pm_M) :=
  (pm_b2 (f_X3_tradingPairs (1 + 1) M) (fun (r2 : Int32) (M1 : pm_M) => (some (r2, M1))))
set_option maxHeartbeats 4000000 in
set_option maxRecDepth 100000 in
theorem w_X7_trades {X : pm_X} {V : pm_V} (M : pm_M)  : pm_VF (f_X7_trades M) (pm_K X V mX7_trades 2 skC) (pm_J X V mX7_trades 2 (pm_wld V skC M) 0 [(0, .ref (V.1 0))] []) := by
  unfold f_X7_trades
  refine jv_aloadn (j := 0) dX7_trades_0 rfl ?_
  refine hv_getR dX7_trades_1 fl7_10 at_RS_0 rfl ?_
  refine hv_getR dX7_trades_4 fl7_59 (at_VA_0 at_RS_now) rfl ?_
  refine hv_callI (As := []) dX7_trades_7 lk7_229 kX3_tradingPairs nX3_tradingPairs (Nat.le_of_ble_eq_true rfl) (Nat.le_of_ble_eq_true rfl) (at_RO_0 (at_VA_ro at_RS_now)) rfl rfl rfl (fun _ _ e l => c_X3_tradingPairs (at_VA_ro at_RS_now) e l V) ?_
  intro r2 M1
  exact vf_ret dX7_trades_10 rfl
theorem c_X7_trades {M : pm_M}  {r : Int32} {M' : pm_M} (h : f_X7_trades M = some (r, M')) (l : Launch) (V : pm_V) : pm_Ci l V skC yX7_trades mX7_trades 2 [.ref (V.1 0)] M r M' := pm_metI (by decide) rfl (Nat.le_of_ble_eq_true rfl) h (fun _ => w_X7_trades M )
def f_X7_isSheet (M : pm_M) (x1 : Int32) : Option (Int32 × pm_M) :=
  (pm_b2 (f_X7_within M x1 0 3) (fun (r2 : Int32) (M1 : pm_M) => (pm_chk (pm_zo r2) (some (r2, M1)))))
set_option maxHeartbeats 4000000 in
set_option maxRecDepth 100000 in
theorem w_X7_isSheet {X : pm_X} {V : pm_V} (M : pm_M) (x1 : Int32)  : pm_VF (f_X7_isSheet M x1) (pm_K X V mX7_isSheet 2 skC) (pm_J X V mX7_isSheet 2 (pm_wld V skC M) 0 [(0, .int x1)] []) := by
  unfold f_X7_isSheet
  refine jv_iloadn (j := 0) dX7_isSheet_0 rfl ?_
  refine jv_iconst (v := 0) dX7_isSheet_1 (by decide) ?_
  refine jv_iconst (v := 3) dX7_isSheet_2 (by decide) ?_
  refine hv_callS (As := [.int x1, .int 0, .int 3]) dX7_isSheet_3 lk7_51 kX7_within nX7_within (Nat.le_of_ble_eq_true rfl) (Nat.le_of_ble_eq_true rfl) rfl (fun _ _ e l => c_X7_within  e l V) ?_
  intro r2 M1
  refine vf_chk (fun hz => ?_)
  exact vf_zret dX7_isSheet_6 rfl hz
theorem c_X7_isSheet {M : pm_M} {x1 : Int32}  {r : Int32} {M' : pm_M} (h : f_X7_isSheet M x1 = some (r, M')) (l : Launch) (V : pm_V) : pm_Ci l V skC yX7_isSheet mX7_isSheet 2 [.int x1] M r M' := pm_metI (by decide) rfl (Nat.le_of_ble_eq_true rfl) h (fun _ => w_X7_isSheet M x1 )
def lb_X7_fell_75 (x2 : Int32) (x1 : Int32) (ih : Int32 → Int32 → Int32 → pm_M → Option (Int32 × Int32 × pm_M)) : Int32 → Int32 → Int32 → pm_M → Option (Int32 × Int32 × pm_M) := fun (l4 : Int32) (l5 : Int32) (l6 : Int32) (Ml : pm_M) =>
  (if (pm_shl 1 (Ml (1 + 13) 0)) ≤ l6 then (some (l4, l5, Ml)) else (pm_b2 (f_X5_wouldGive 1 Ml l6 ((97 + 2 * x1.toNatClampNeg) + 1)) (fun (r76003 : Int32) (M76002 : pm_M) => (if r76003 = 0 then (ih l4 l5 (l6 + 1) M76002) else (if 0 ≤ l5 then (ih (l4 + 1) l5 (l6 + 1) M76002) else (ih (l4 + 1) l6 (l6 + 1) M76002))))))
def lp_X7_fell_75 (x2 : Int32) (x1 : Int32) : Int32 → Int32 → Int32 → pm_M → Option (Int32 × Int32 × pm_M) := pm_it (fun _ _ _ _ => none) (lb_X7_fell_75 x2 x1) pm_F
def f_X7_fell (M : pm_M) (x1 : Int32) (x2 : Int32) : Option (Int32 × pm_M) :=
  (pm_b2 (f_X7_isSheet M x1) (fun (r2 : Int32) (M1 : pm_M) => (if r2 = 0 then (pm_b2 (f_X7_error M1 1) (fun (r4 : Int32) (M3 : pm_M) => (some (r4, M3)))) else (pm_b2 (f_X7_within M1 x2 0 1) (fun (r6 : Int32) (M5 : pm_M) => (if r6 = 0 then (pm_b2 (f_X7_error M5 1) (fun (r8 : Int32) (M7 : pm_M) => (some (r8, M7)))) else (pm_chk (pm_in x1 4) (pm_b2 (f_X4_isMissing (97 + 2 * x1.toNatClampNeg) M5) (fun (r11 : Int32) (M10 : pm_M) => (if r11 = 0 then (if (M10 (97 + 2 * x1.toNatClampNeg) 1) = (M10 (1 + 1) 0) then (pm_b1 (f_X5_aim 1 M10) (fun M12 : pm_M => (pm_b3 (lp_X7_fell_75 x2 x1 0 (-1) 0 M12) (fun (l13 : Int32) (l14 : Int32) (M15 : pm_M) => (if x2 = 0 then (some (l13, M15)) else (if 0 ≤ l14 then (some (l14, M15)) else (pm_b2 (f_X7_error M15 2) (fun (r17 : Int32) (M16 : pm_M) => (some (r17, M16)))))))))) else (pm_b2 (f_X7_error M10 2) (fun (r19 : Int32) (M18 : pm_M) => (some (r19, M18))))) else (pm_b2 (f_X7_error M10 2) (fun (r21 : Int32) (M20 : pm_M) => (some (r21, M20))))))))))))))
set_option maxHeartbeats 4000000 in
set_option maxRecDepth 100000 in
theorem wl_X7_fell_75 {X : pm_X} {V : pm_V} (x2 : Int32) (x1 : Int32) (q9 : pm_in x1 4 = true) : ∀ (l4 : Int32) (l5 : Int32) (l6 : Int32) (Ml : pm_M), pm_VF (lp_X7_fell_75 x2 x1 l4 l5 l6 Ml) (fun b => (fun (l4 : Int32) (l5 : Int32) (Ml : pm_M) => pm_J X V mX7_fell 5 (pm_wld V skC Ml) 131 [(0, .ref (V.1 0)), (2, .int x2), (4, .int l4), (5, .int l5)] []) b.1 b.2.1 b.2.2) (pm_J X V mX7_fell 5 (pm_wld V skC Ml) 75 [(0, .ref (V.1 0)), (2, .int x2), (3, .ref (V.1 (97 + 2 * x1.toNatClampNeg))), (4, .int l4), (5, .int l5), (6, .int l6)] []) := by
  refine pm_it_ind (P := fun (f : Int32 → Int32 → Int32 → pm_M → Option (Int32 × Int32 × pm_M)) => ∀ (l4 : Int32) (l5 : Int32) (l6 : Int32) (Ml : pm_M), pm_VF (f l4 l5 l6 Ml) (fun b => (fun (l4 : Int32) (l5 : Int32) (Ml : pm_M) => pm_J X V mX7_fell 5 (pm_wld V skC Ml) 131 [(0, .ref (V.1 0)), (2, .int x2), (4, .int l4), (5, .int l5)] []) b.1 b.2.1 b.2.2) (pm_J X V mX7_fell 5 (pm_wld V skC Ml) 75 [(0, .ref (V.1 0)), (2, .int x2), (3, .ref (V.1 (97 + 2 * x1.toNatClampNeg))), (4, .int l4), (5, .int l5), (6, .int l6)] [])) (fun _ _ _ _ => vf_none) (fun ih hih l4 l5 l6 Ml => ?_) pm_F
  · unfold lb_X7_fell_75
    refine jv_iload (j := 5) dX7_fell_75 rfl ?_
    refine jv_iconst (v := 1) dX7_fell_77 (by decide) ?_
    refine jv_aloadn (j := 0) dX7_fell_78 rfl ?_
    refine hv_getR dX7_fell_79 fl7_10 at_RS_0 rfl ?_
    refine hv_getR dX7_fell_82 fl7_87 (at_VA_0 at_RS_now) rfl ?_
    refine hv_getI dX7_fell_85 fl7_114 (at_CL_0 (at_VA_cl at_RS_now)) rfl ?_
    refine jv_ishl dX7_fell_88 ?_
    refine jw_ic_ge (tgt := 131) dX7_fell_89 rfl (fun c89 => ?_) (fun c89 => ?_)
    · exact vf_end (fun g => jr_sub [0, 1, 3, 4] rfl g)
    refine jv_aloadn (j := 0) dX7_fell_92 rfl ?_
    refine hv_getR dX7_fell_93 fl7_10 at_RS_0 rfl ?_
    refine jv_iload (j := 5) dX7_fell_96 rfl ?_
    refine jv_aloadn (j := 2) dX7_fell_98 rfl ?_
    refine hv_getR dX7_fell_99 fl7_243 (at_SH_0 (at_RS_sheet q9)) rfl ?_
    refine hv_callI (As := [.int l6, .ref (V.1 ((97 + 2 * x1.toNatClampNeg) + 1))]) dX7_fell_102 lk7_246 kX5_wouldGive nX5_wouldGive (Nat.le_of_ble_eq_true rfl) (Nat.le_of_ble_eq_true rfl) (at_VA_0 at_RS_now) rfl rfl rfl (fun _ _ e l => c_X5_wouldGive at_RS_now (at_SH_1 (at_RS_sheet q9)) e l V) ?_
    intro r76003 M76002
    refine jw_if_eq (tgt := 125) dX7_fell_105 rfl (fun c105 => ?_) (fun c105 => ?_)
    · refine jv_iinc (j := 5) (v := l6 + 1) (L' := [(6, .int (l6 + 1)), (0, .ref (V.1 0)), (2, .int x2), (3, .ref (V.1 (97 + 2 * x1.toNatClampNeg))), (4, .int l4), (5, .int l5)]) dX7_fell_125 rfl rfl (Nat.le_of_ble_eq_true rfl) rfl ?_
      refine jv_goto (tgt := 75) dX7_fell_128 rfl ?_
      exact vf_j (fun g => jr_sub [1, 2, 3, 4, 5, 0] rfl g) (hih l4 l5 (l6 + 1) M76002)
    refine jv_iinc (j := 3) (v := l4 + 1) (L' := [(4, .int (l4 + 1)), (0, .ref (V.1 0)), (2, .int x2), (3, .ref (V.1 (97 + 2 * x1.toNatClampNeg))), (5, .int l5), (6, .int l6)]) dX7_fell_108 rfl rfl (Nat.le_of_ble_eq_true rfl) rfl ?_
    refine jv_iload (j := 4) dX7_fell_111 rfl ?_
    refine jw_if_ge (tgt := 121) dX7_fell_113 rfl (fun c113 => ?_) (fun c113 => ?_)
    · refine jv_iload (j := 4) dX7_fell_121 rfl ?_
      refine jv_istore (L' := [(5, .int l5), (4, .int (l4 + 1)), (0, .ref (V.1 0)), (2, .int x2), (3, .ref (V.1 (97 + 2 * x1.toNatClampNeg))), (6, .int l6)]) dX7_fell_123 (Nat.le_of_ble_eq_true rfl) rfl ?_
      refine jv_iinc (j := 5) (v := l6 + 1) (L' := [(6, .int (l6 + 1)), (5, .int l5), (4, .int (l4 + 1)), (0, .ref (V.1 0)), (2, .int x2), (3, .ref (V.1 (97 + 2 * x1.toNatClampNeg)))]) dX7_fell_125 rfl rfl (Nat.le_of_ble_eq_true rfl) rfl ?_
      refine jv_goto (tgt := 75) dX7_fell_128 rfl ?_
      exact vf_j (fun g => jr_sub [3, 4, 5, 2, 1, 0] rfl g) (hih (l4 + 1) l5 (l6 + 1) M76002)
    refine jv_iload (j := 5) dX7_fell_116 rfl ?_
    refine jv_goto (tgt := 123) dX7_fell_118 rfl ?_
    refine jv_istore (L' := [(5, .int l6), (4, .int (l4 + 1)), (0, .ref (V.1 0)), (2, .int x2), (3, .ref (V.1 (97 + 2 * x1.toNatClampNeg))), (6, .int l6)]) dX7_fell_123 (Nat.le_of_ble_eq_true rfl) rfl ?_
    refine jv_iinc (j := 5) (v := l6 + 1) (L' := [(6, .int (l6 + 1)), (5, .int l6), (4, .int (l4 + 1)), (0, .ref (V.1 0)), (2, .int x2), (3, .ref (V.1 (97 + 2 * x1.toNatClampNeg)))]) dX7_fell_125 rfl rfl (Nat.le_of_ble_eq_true rfl) rfl ?_
    refine jv_goto (tgt := 75) dX7_fell_128 rfl ?_
    exact vf_j (fun g => jr_sub [3, 4, 5, 2, 1, 0] rfl g) (hih (l4 + 1) l6 (l6 + 1) M76002)
set_option maxHeartbeats 4000000 in
set_option maxRecDepth 100000 in
theorem w_X7_fell {X : pm_X} {V : pm_V} (M : pm_M) (x1 : Int32) (x2 : Int32)  : pm_VF (f_X7_fell M x1 x2) (pm_K X V mX7_fell 5 skC) (pm_J X V mX7_fell 5 (pm_wld V skC M) 0 [(0, .ref (V.1 0)), (1, .int x1), (2, .int x2)] []) := by
  unfold f_X7_fell
  refine jv_iloadn (j := 1) dX7_fell_0 rfl ?_
  refine hv_callS (As := [.int x1]) dX7_fell_1 lk7_232 kX7_isSheet nX7_isSheet (Nat.le_of_ble_eq_true rfl) (Nat.le_of_ble_eq_true rfl) rfl (fun _ _ e l => c_X7_isSheet  e l V) ?_
  intro r2 M1
  refine jw_if_eq (tgt := 16) dX7_fell_4 rfl (fun c4 => ?_) (fun c4 => ?_)
  · refine jv_aloadn (j := 0) dX7_fell_16 rfl ?_
    refine jv_iconst (v := 1) dX7_fell_17 (by decide) ?_
    refine hv_callI (As := [.int 1]) dX7_fell_18 lk7_55 kX7_error nX7_error (Nat.le_of_ble_eq_true rfl) (Nat.le_of_ble_eq_true rfl) at_RS_0 rfl rfl rfl (fun _ _ e l => c_X7_error  e l V) ?_
    intro r4 M3
    exact vf_ret dX7_fell_21 rfl
  refine jv_iloadn (j := 2) dX7_fell_7 rfl ?_
  refine jv_iconst (v := 0) dX7_fell_8 (by decide) ?_
  refine jv_iconst (v := 1) dX7_fell_9 (by decide) ?_
  refine hv_callS (As := [.int x2, .int 0, .int 1]) dX7_fell_10 lk7_51 kX7_within nX7_within (Nat.le_of_ble_eq_true rfl) (Nat.le_of_ble_eq_true rfl) rfl (fun _ _ e l => c_X7_within  e l V) ?_
  intro r6 M5
  refine jw_if_ne (tgt := 22) dX7_fell_13 rfl (fun c13 => ?_) (fun c13 => ?_)
  · refine jv_aloadn (j := 0) dX7_fell_16 rfl ?_
    refine jv_iconst (v := 1) dX7_fell_17 (by decide) ?_
    refine hv_callI (As := [.int 1]) dX7_fell_18 lk7_55 kX7_error nX7_error (Nat.le_of_ble_eq_true rfl) (Nat.le_of_ble_eq_true rfl) at_RS_0 rfl rfl rfl (fun _ _ e l => c_X7_error  e l V) ?_
    intro r8 M7
    exact vf_ret dX7_fell_21 rfl
  refine jv_aloadn (j := 0) dX7_fell_22 rfl ?_
  refine hv_getR dX7_fell_23 fl7_42 at_RS_0 rfl ?_
  refine jv_iloadn (j := 1) dX7_fell_26 rfl ?_
  refine vf_chk (fun q9 => ?_)
  refine hv_aald dX7_fell_27 at_RS_96 (ty := .object "RainShares$Sheet") (fun _ => rfl) rfl q9 (pl_sheet q9) ?_
  refine jv_astoren (L' := [(3, .ref (V.1 (97 + 2 * x1.toNatClampNeg))), (0, .ref (V.1 0)), (1, .int x1), (2, .int x2)]) dX7_fell_28 (Nat.le_of_ble_eq_true rfl) rfl ?_
  refine jv_aloadn (j := 0) dX7_fell_29 rfl ?_
  refine hv_callI (As := []) dX7_fell_30 lk7_235 kX4_isMissing nX4_isMissing (Nat.le_of_ble_eq_true rfl) (Nat.le_of_ble_eq_true rfl) (at_SH_0 (at_RS_sheet q9)) rfl rfl rfl (fun _ _ e l => c_X4_isMissing (at_RS_sheet q9) e l V) ?_
  intro r11 M10
  refine jw_if_ne (tgt := 53) dX7_fell_33 rfl (fun c33 => ?_) (fun c33 => ?_)
  · refine jv_aloadn (j := 0) dX7_fell_36 rfl ?_
    refine hv_getI dX7_fell_37 fl7_239 (at_SH_0 (at_RS_sheet q9)) rfl ?_
    refine jv_aloadn (j := 1) dX7_fell_40 rfl ?_
    refine hv_getR dX7_fell_41 fl7_10 at_RS_0 rfl ?_
    refine hv_getR dX7_fell_44 fl7_59 (at_VA_0 at_RS_now) rfl ?_
    refine hv_getI dX7_fell_47 fl7_63 (at_RO_0 (at_VA_ro at_RS_now)) rfl ?_
    refine jw_ic_eq (tgt := 59) dX7_fell_50 rfl (fun c50 => ?_) (fun c50 => ?_)
    · refine jv_aloadn (j := 1) dX7_fell_59 rfl ?_
      refine hv_getR dX7_fell_60 fl7_10 at_RS_0 rfl ?_
      refine hv_callV (As := []) dX7_fell_63 lk7_240 kX5_aim nX5_aim (Nat.le_of_ble_eq_true rfl) (Nat.le_of_ble_eq_true rfl) (at_VA_0 at_RS_now) rfl rfl rfl (fun _ e l => c_X5_aim at_RS_now e l V) ?_
      intro M12
      refine jv_iconst (v := 0) dX7_fell_66 (by decide) ?_
      refine jv_istore (L' := [(4, .int 0), (3, .ref (V.1 (97 + 2 * x1.toNatClampNeg))), (0, .ref (V.1 0)), (1, .int x1), (2, .int x2)]) dX7_fell_67 (Nat.le_of_ble_eq_true rfl) rfl ?_
      refine jv_iconst (v := -1) dX7_fell_69 (by decide) ?_
      refine jv_istore (L' := [(5, .int (-1)), (4, .int 0), (3, .ref (V.1 (97 + 2 * x1.toNatClampNeg))), (0, .ref (V.1 0)), (1, .int x1), (2, .int x2)]) dX7_fell_70 (Nat.le_of_ble_eq_true rfl) rfl ?_
      refine jv_iconst (v := 0) dX7_fell_72 (by decide) ?_
      refine jv_istore (L' := [(6, .int 0), (5, .int (-1)), (4, .int 0), (3, .ref (V.1 (97 + 2 * x1.toNatClampNeg))), (0, .ref (V.1 0)), (1, .int x1), (2, .int x2)]) dX7_fell_73 (Nat.le_of_ble_eq_true rfl) rfl ?_
      refine vl_b3 (P := fun (l4 : Int32) (l5 : Int32) (Ml : pm_M) => pm_J X V mX7_fell 5 (pm_wld V skC Ml) 131 [(0, .ref (V.1 0)), (2, .int x2), (4, .int l4), (5, .int l5)] []) (vf_j (fun g => jr_sub [4, 6, 3, 2, 1, 0] rfl g) (wl_X7_fell_75 x2 x1 q9 0 (-1) 0 M12)) ?_
      intro l13 l14 M15
      refine jv_iloadn (j := 1) dX7_fell_131 rfl ?_
      refine jw_if_ne (tgt := 138) dX7_fell_132 rfl (fun c132 => ?_) (fun c132 => ?_)
      · refine jv_iload (j := 2) dX7_fell_135 rfl ?_
        exact vf_ret dX7_fell_137 rfl
      refine jv_iload (j := 3) dX7_fell_138 rfl ?_
      refine jw_if_ge (tgt := 151) dX7_fell_140 rfl (fun c140 => ?_) (fun c140 => ?_)
      · refine jv_iload (j := 3) dX7_fell_151 rfl ?_
        exact vf_ret dX7_fell_153 rfl
      refine jv_aloadn (j := 0) dX7_fell_143 rfl ?_
      refine jv_iconst (v := 2) dX7_fell_144 (by decide) ?_
      refine hv_callI (As := [.int 2]) dX7_fell_145 lk7_55 kX7_error nX7_error (Nat.le_of_ble_eq_true rfl) (Nat.le_of_ble_eq_true rfl) at_RS_0 rfl rfl rfl (fun _ _ e l => c_X7_error  e l V) ?_
      intro r17 M16
      refine jv_goto (tgt := 153) dX7_fell_148 rfl ?_
      exact vf_ret dX7_fell_153 rfl
    refine jv_aloadn (j := 1) dX7_fell_53 rfl ?_
    refine jv_iconst (v := 2) dX7_fell_54 (by decide) ?_
    refine hv_callI (As := [.int 2]) dX7_fell_55 lk7_55 kX7_error nX7_error (Nat.le_of_ble_eq_true rfl) (Nat.le_of_ble_eq_true rfl) at_RS_0 rfl rfl rfl (fun _ _ e l => c_X7_error  e l V) ?_
    intro r19 M18
    exact vf_ret dX7_fell_58 rfl
  refine jv_aloadn (j := 1) dX7_fell_53 rfl ?_
  refine jv_iconst (v := 2) dX7_fell_54 (by decide) ?_
  refine hv_callI (As := [.int 2]) dX7_fell_55 lk7_55 kX7_error nX7_error (Nat.le_of_ble_eq_true rfl) (Nat.le_of_ble_eq_true rfl) at_RS_0 rfl rfl rfl (fun _ _ e l => c_X7_error  e l V) ?_
  intro r21 M20
  exact vf_ret dX7_fell_58 rfl
theorem c_X7_fell {M : pm_M} {x1 : Int32} {x2 : Int32}  {r : Int32} {M' : pm_M} (h : f_X7_fell M x1 x2 = some (r, M')) (l : Launch) (V : pm_V) : pm_Ci l V skC yX7_fell mX7_fell 5 [.ref (V.1 0), .int x1, .int x2] M r M' := pm_metI (by decide) rfl (Nat.le_of_ble_eq_true rfl) h (fun _ => w_X7_fell M x1 x2 )
def f_X7_arrearsBehind (M : pm_M) (x1 : Int32) (x2 : Int32) (x3 : Int32) : Option (Int32 × pm_M) :=
  (pm_b1 (f_X5_copyFrom 31 M 1) (fun M1 : pm_M => (pm_chk (pm_in x2 6) (pm_chk (pm_in x2 6) (pm_let (pm_up M1 ((31 + 1) + 1) x2.toNatClampNeg (pm_min 99 ((M1 ((31 + 1) + 1) x2.toNatClampNeg) + x3))) (fun M2 : pm_M => (pm_b1 (f_X5_passDays 31 M2 x1) (fun M3 : pm_M => (pm_chk (pm_in x2 6) (some ((M3 ((31 + 1) + 2) x2.toNatClampNeg), M3)))))))))))
set_option maxHeartbeats 4000000 in
set_option maxRecDepth 100000 in
theorem w_X7_arrearsBehind {X : pm_X} {V : pm_V} (M : pm_M) (x1 : Int32) (x2 : Int32) (x3 : Int32)  : pm_VF (f_X7_arrearsBehind M x1 x2 x3) (pm_K X V mX7_arrearsBehind 6 skC) (pm_J X V mX7_arrearsBehind 6 (pm_wld V skC M) 0 [(0, .ref (V.1 0)), (1, .int x1), (2, .int x2), (3, .int x3)] []) := by
  unfold f_X7_arrearsBehind
  refine jv_aloadn (j := 0) dX7_arrearsBehind_0 rfl ?_
  refine hv_getR dX7_arrearsBehind_1 fl7_16 at_RS_0 rfl ?_
  refine jv_aloadn (j := 0) dX7_arrearsBehind_4 rfl ?_
  refine hv_getR dX7_arrearsBehind_5 fl7_10 at_RS_0 rfl ?_
  refine hv_callV (As := [.ref (V.1 1)]) dX7_arrearsBehind_8 lk7_198 kX5_copyFrom nX5_copyFrom (Nat.le_of_ble_eq_true rfl) (Nat.le_of_ble_eq_true rfl) (at_VA_0 at_RS_thought) rfl rfl rfl (fun _ e l => c_X5_copyFrom at_RS_thought at_RS_now e l V) ?_
  intro M1
  refine jv_aloadn (j := 0) dX7_arrearsBehind_11 rfl ?_
  refine hv_getR dX7_arrearsBehind_12 fl7_16 at_RS_0 rfl ?_
  refine hv_getR dX7_arrearsBehind_15 fl7_59 (at_VA_0 at_RS_thought) rfl ?_
  refine hv_getR dX7_arrearsBehind_18 fl7_75 (at_RO_0 (at_VA_ro at_RS_thought)) rfl ?_
  refine jv_astore (L' := [(4, .ref (V.1 ((31 + 1) + 1))), (0, .ref (V.1 0)), (1, .int x1), (2, .int x2), (3, .int x3)]) dX7_arrearsBehind_21 (Nat.le_of_ble_eq_true rfl) rfl ?_
  refine jv_aload (j := 0) dX7_arrearsBehind_23 rfl ?_
  refine jv_iloadn (j := 3) dX7_arrearsBehind_25 rfl ?_
  refine jv_bipush (v := 99) dX7_arrearsBehind_26 (by decide) ?_
  refine jv_aload (j := 0) dX7_arrearsBehind_28 rfl ?_
  refine jv_iloadn (j := 3) dX7_arrearsBehind_30 rfl ?_
  refine hv_ialdC dX7_arrearsBehind_31 (at_RO_1 (at_VA_ro at_RS_thought)) (fun _ => ?_)
  refine jv_iloadn (j := 4) dX7_arrearsBehind_32 rfl ?_
  refine jv_iadd dX7_arrearsBehind_33 ?_
  refine hv_min dX7_arrearsBehind_34 lk7_284 lkM_min.1 lkM_i lkM_min.2 (Nat.le_of_ble_eq_true rfl) ?_
  refine hv_iastC dX7_arrearsBehind_37 (at_RO_1 (at_VA_ro at_RS_thought)) (fun _ => ?_)
  refine vf_letM (fun M2 => ?_)
  refine jv_aloadn (j := 1) dX7_arrearsBehind_38 rfl ?_
  refine hv_getR dX7_arrearsBehind_39 fl7_16 at_RS_0 rfl ?_
  refine jv_iloadn (j := 2) dX7_arrearsBehind_42 rfl ?_
  refine hv_callV (As := [.int x1]) dX7_arrearsBehind_43 lk7_183 kX5_passDays nX5_passDays (Nat.le_of_ble_eq_true rfl) (Nat.le_of_ble_eq_true rfl) (at_VA_0 at_RS_thought) rfl rfl rfl (fun _ e l => c_X5_passDays at_RS_thought e l V) ?_
  intro M3
  refine jv_aloadn (j := 1) dX7_arrearsBehind_46 rfl ?_
  refine hv_getR dX7_arrearsBehind_47 fl7_16 at_RS_0 rfl ?_
  refine hv_getR dX7_arrearsBehind_50 fl7_59 (at_VA_0 at_RS_thought) rfl ?_
  refine hv_getR dX7_arrearsBehind_53 fl7_78 (at_RO_0 (at_VA_ro at_RS_thought)) rfl ?_
  refine jv_iloadn (j := 3) dX7_arrearsBehind_56 rfl ?_
  refine hv_ialdC dX7_arrearsBehind_57 (at_RO_2 (at_VA_ro at_RS_thought)) (fun _ => ?_)
  exact vf_ret dX7_arrearsBehind_58 rfl
theorem c_X7_arrearsBehind {M : pm_M} {x1 : Int32} {x2 : Int32} {x3 : Int32}  {r : Int32} {M' : pm_M} (h : f_X7_arrearsBehind M x1 x2 x3 = some (r, M')) (l : Launch) (V : pm_V) : pm_Ci l V skC yX7_arrearsBehind mX7_arrearsBehind 6 [.ref (V.1 0), .int x1, .int x2, .int x3] M r M' := pm_metI (by decide) rfl (Nat.le_of_ble_eq_true rfl) h (fun _ => w_X7_arrearsBehind M x1 x2 x3 )
def f_X7_gains (M : pm_M) (x1 : Int32) (x2 : Int32) (x3 : Int32) : Option (Int32 × pm_M) :=
  (pm_b2 (f_X3_has (1 + 1) M x1) (fun (r2 : Int32) (M1 : pm_M) => (if r2 = 0 then (pm_b2 (f_X7_error M1 1) (fun (r4 : Int32) (M3 : pm_M) => (some (r4, M3)))) else (pm_b2 (f_X7_within M1 x2 1 20) (fun (r6 : Int32) (M5 : pm_M) => (if r6 = 0 then (pm_b2 (f_X7_error M5 1) (fun (r8 : Int32) (M7 : pm_M) => (some (r8, M7)))) else (pm_b2 (f_X7_within M5 x3 0 60) (fun (r10 : Int32) (M9 : pm_M) => (if r10 = 0 then (pm_b2 (f_X7_error M9 1) (fun (r12 : Int32) (M11 : pm_M) => (some (r12, M11)))) else (pm_b2 (f_X7_arrearsBehind M9 x3 x1 0) (fun (r14 : Int32) (M13 : pm_M) => (pm_b2 (f_X7_arrearsBehind M13 x3 x1 x2) (fun (r16 : Int32) (M15 : pm_M) => (some ((r14 - r16), M15)))))))))))))))
set_option maxHeartbeats 4000000 in
set_option maxRecDepth 100000 in
theorem w_X7_gains {X : pm_X} {V : pm_V} (M : pm_M) (x1 : Int32) (x2 : Int32) (x3 : Int32)  : pm_VF (f_X7_gains M x1 x2 x3) (pm_K X V mX7_gains 7 skC) (pm_J X V mX7_gains 7 (pm_wld V skC M) 0 [(0, .ref (V.1 0)), (1, .int x1), (2, .int x2), (3, .int x3)] []) := by
  unfold f_X7_gains
  refine jv_aloadn (j := 0) dX7_gains_0 rfl ?_
  refine hv_getR dX7_gains_1 fl7_10 at_RS_0 rfl ?_
  refine hv_getR dX7_gains_4 fl7_59 (at_VA_0 at_RS_now) rfl ?_
  refine jv_iloadn (j := 1) dX7_gains_7 rfl ?_
  refine hv_callI (As := [.int x1]) dX7_gains_8 lk7_71 kX3_has nX3_has (Nat.le_of_ble_eq_true rfl) (Nat.le_of_ble_eq_true rfl) (at_RO_0 (at_VA_ro at_RS_now)) rfl rfl rfl (fun _ _ e l => c_X3_has (at_VA_ro at_RS_now) e l V) ?_
  intro r2 M1
  refine jw_if_eq (tgt := 34) dX7_gains_11 rfl (fun c11 => ?_) (fun c11 => ?_)
  · refine jv_aloadn (j := 0) dX7_gains_34 rfl ?_
    refine jv_iconst (v := 1) dX7_gains_35 (by decide) ?_
    refine hv_callI (As := [.int 1]) dX7_gains_36 lk7_55 kX7_error nX7_error (Nat.le_of_ble_eq_true rfl) (Nat.le_of_ble_eq_true rfl) at_RS_0 rfl rfl rfl (fun _ _ e l => c_X7_error  e l V) ?_
    intro r4 M3
    exact vf_ret dX7_gains_39 rfl
  refine jv_iloadn (j := 2) dX7_gains_14 rfl ?_
  refine jv_iconst (v := 1) dX7_gains_15 (by decide) ?_
  refine jv_bipush (v := 20) dX7_gains_16 (by decide) ?_
  refine hv_callS (As := [.int x2, .int 1, .int 20]) dX7_gains_18 lk7_51 kX7_within nX7_within (Nat.le_of_ble_eq_true rfl) (Nat.le_of_ble_eq_true rfl) rfl (fun _ _ e l => c_X7_within  e l V) ?_
  intro r6 M5
  refine jw_if_eq (tgt := 34) dX7_gains_21 rfl (fun c21 => ?_) (fun c21 => ?_)
  · refine jv_aloadn (j := 0) dX7_gains_34 rfl ?_
    refine jv_iconst (v := 1) dX7_gains_35 (by decide) ?_
    refine hv_callI (As := [.int 1]) dX7_gains_36 lk7_55 kX7_error nX7_error (Nat.le_of_ble_eq_true rfl) (Nat.le_of_ble_eq_true rfl) at_RS_0 rfl rfl rfl (fun _ _ e l => c_X7_error  e l V) ?_
    intro r8 M7
    exact vf_ret dX7_gains_39 rfl
  refine jv_iloadn (j := 3) dX7_gains_24 rfl ?_
  refine jv_iconst (v := 0) dX7_gains_25 (by decide) ?_
  refine jv_bipush (v := 60) dX7_gains_26 (by decide) ?_
  refine hv_callS (As := [.int x3, .int 0, .int 60]) dX7_gains_28 lk7_51 kX7_within nX7_within (Nat.le_of_ble_eq_true rfl) (Nat.le_of_ble_eq_true rfl) rfl (fun _ _ e l => c_X7_within  e l V) ?_
  intro r10 M9
  refine jw_if_ne (tgt := 40) dX7_gains_31 rfl (fun c31 => ?_) (fun c31 => ?_)
  · refine jv_aloadn (j := 0) dX7_gains_34 rfl ?_
    refine jv_iconst (v := 1) dX7_gains_35 (by decide) ?_
    refine hv_callI (As := [.int 1]) dX7_gains_36 lk7_55 kX7_error nX7_error (Nat.le_of_ble_eq_true rfl) (Nat.le_of_ble_eq_true rfl) at_RS_0 rfl rfl rfl (fun _ _ e l => c_X7_error  e l V) ?_
    intro r12 M11
    exact vf_ret dX7_gains_39 rfl
  refine jv_aloadn (j := 0) dX7_gains_40 rfl ?_
  refine jv_iloadn (j := 3) dX7_gains_41 rfl ?_
  refine jv_iloadn (j := 1) dX7_gains_42 rfl ?_
  refine jv_iconst (v := 0) dX7_gains_43 (by decide) ?_
  refine hv_callI (As := [.int x3, .int x1, .int 0]) dX7_gains_44 lk7_250 kX7_arrearsBehind nX7_arrearsBehind (Nat.le_of_ble_eq_true rfl) (Nat.le_of_ble_eq_true rfl) at_RS_0 rfl rfl rfl (fun _ _ e l => c_X7_arrearsBehind  e l V) ?_
  intro r14 M13
  refine jv_aloadn (j := 0) dX7_gains_47 rfl ?_
  refine jv_iloadn (j := 3) dX7_gains_48 rfl ?_
  refine jv_iloadn (j := 1) dX7_gains_49 rfl ?_
  refine jv_iloadn (j := 2) dX7_gains_50 rfl ?_
  refine hv_callI (As := [.int x3, .int x1, .int x2]) dX7_gains_51 lk7_250 kX7_arrearsBehind nX7_arrearsBehind (Nat.le_of_ble_eq_true rfl) (Nat.le_of_ble_eq_true rfl) at_RS_0 rfl rfl rfl (fun _ _ e l => c_X7_arrearsBehind  e l V) ?_
  intro r16 M15
  refine jv_isub dX7_gains_54 ?_
  exact vf_ret dX7_gains_55 rfl
theorem c_X7_gains {M : pm_M} {x1 : Int32} {x2 : Int32} {x3 : Int32}  {r : Int32} {M' : pm_M} (h : f_X7_gains M x1 x2 x3 = some (r, M')) (l : Launch) (V : pm_V) : pm_Ci l V skC yX7_gains mX7_gains 7 [.ref (V.1 0), .int x1, .int x2, .int x3] M r M' := pm_metI (by decide) rfl (Nat.le_of_ble_eq_true rfl) h (fun _ => w_X7_gains M x1 x2 x3 )
def f_X7_seed (M : pm_M) (x1 : Int32) : Option (Int32 × pm_M) :=
  (pm_let (M 1 4) (fun z1 : Int32 => (pm_let (pm_up M 1 4 x1) (fun M2 : pm_M => (some (z1, M2))))))
set_option maxHeartbeats 4000000 in
set_option maxRecDepth 100000 in
theorem w_X7_seed {X : pm_X} {V : pm_V} (M : pm_M) (x1 : Int32)  : pm_VF (f_X7_seed M x1) (pm_K X V mX7_seed 1 skC) (pm_J X V mX7_seed 1 (pm_wld V skC M) 0 [(0, .ref (V.1 0)), (1, .int x1)] []) := by
  unfold f_X7_seed
  refine jv_aloadn (j := 0) dX7_seed_0 rfl ?_
  refine hv_getR dX7_seed_1 fl7_10 at_RS_0 rfl ?_
  refine hv_getI dX7_seed_4 fl7_253 (at_VA_0 at_RS_now) rfl ?_
  refine vf_letS (fun z1 => ?_)
  refine jv_istoren (L' := [(2, .int z1), (0, .ref (V.1 0)), (1, .int x1)]) dX7_seed_7 (Nat.le_of_ble_eq_true rfl) rfl ?_
  refine jv_aloadn (j := 1) dX7_seed_8 rfl ?_
  refine hv_getR dX7_seed_9 fl7_10 at_RS_0 rfl ?_
  refine jv_iloadn (j := 2) dX7_seed_12 rfl ?_
  refine hv_put dX7_seed_13 fp7_253 (at_VA_0 at_RS_now) rfl rfl rfl ?_
  refine vf_letM (fun M2 => ?_)
  refine jv_iloadn (j := 0) dX7_seed_16 rfl ?_
  exact vf_ret dX7_seed_17 rfl
theorem c_X7_seed {M : pm_M} {x1 : Int32}  {r : Int32} {M' : pm_M} (h : f_X7_seed M x1 = some (r, M')) (l : Launch) (V : pm_V) : pm_Ci l V skC yX7_seed mX7_seed 1 [.ref (V.1 0), .int x1] M r M' := pm_metI (by decide) rfl (Nat.le_of_ble_eq_true rfl) h (fun _ => w_X7_seed M x1 )
def f_X7_voice (M : pm_M) (x1 : Int32) (x2 : Int32) (x3 : Int32) : Option (Int32 × pm_M) :=
  (pm_b2 (f_X0_has (1 + 13) M x1) (fun (r2 : Int32) (M1 : pm_M) => (if r2 = 0 then (pm_b2 (f_X7_error M1 1) (fun (r4 : Int32) (M3 : pm_M) => (some (r4, M3)))) else (pm_b2 (f_X7_within M1 x2 0 3) (fun (r6 : Int32) (M5 : pm_M) => (if r6 = 0 then (pm_b2 (f_X7_error M5 1) (fun (r8 : Int32) (M7 : pm_M) => (some (r8, M7)))) else (pm_chk (pm_in x1 5) (pm_chk (pm_in x1 5) (pm_b2 (f_X6_answer 94 M5 (M5 ((1 + 13) + 1) x1.toNatClampNeg) x1 (M5 ((1 + 13) + 2) x1.toNatClampNeg) x2 x3) (fun (r10 : Int32) (M9 : pm_M) => (some (r10, M9))))))))))))
set_option maxHeartbeats 4000000 in
set_option maxRecDepth 100000 in
theorem w_X7_voice {X : pm_X} {V : pm_V} (M : pm_M) (x1 : Int32) (x2 : Int32) (x3 : Int32)  : pm_VF (f_X7_voice M x1 x2 x3) (pm_K X V mX7_voice 104 skC) (pm_J X V mX7_voice 104 (pm_wld V skC M) 0 [(0, .ref (V.1 0)), (1, .int x1), (2, .int x2), (3, .int x3)] []) := by
  unfold f_X7_voice
  refine jv_aloadn (j := 0) dX7_voice_0 rfl ?_
  refine hv_getR dX7_voice_1 fl7_10 at_RS_0 rfl ?_
  refine hv_getR dX7_voice_4 fl7_87 (at_VA_0 at_RS_now) rfl ?_
  refine jv_iloadn (j := 1) dX7_voice_7 rfl ?_
  refine hv_callI (As := [.int x1]) dX7_voice_8 lk7_118 kX0_has nX0_has (Nat.le_of_ble_eq_true rfl) (Nat.le_of_ble_eq_true rfl) (at_CL_0 (at_VA_cl at_RS_now)) rfl rfl rfl (fun _ _ e l => c_X0_has (at_VA_cl at_RS_now) e l V) ?_
  intro r2 M1
  refine jw_if_eq (tgt := 23) dX7_voice_11 rfl (fun c11 => ?_) (fun c11 => ?_)
  · refine jv_aloadn (j := 0) dX7_voice_23 rfl ?_
    refine jv_iconst (v := 1) dX7_voice_24 (by decide) ?_
    refine hv_callI (As := [.int 1]) dX7_voice_25 lk7_55 kX7_error nX7_error (Nat.le_of_ble_eq_true rfl) (Nat.le_of_ble_eq_true rfl) at_RS_0 rfl rfl rfl (fun _ _ e l => c_X7_error  e l V) ?_
    intro r4 M3
    exact vf_ret dX7_voice_28 rfl
  refine jv_iloadn (j := 2) dX7_voice_14 rfl ?_
  refine jv_iconst (v := 0) dX7_voice_15 (by decide) ?_
  refine jv_iconst (v := 3) dX7_voice_16 (by decide) ?_
  refine hv_callS (As := [.int x2, .int 0, .int 3]) dX7_voice_17 lk7_51 kX7_within nX7_within (Nat.le_of_ble_eq_true rfl) (Nat.le_of_ble_eq_true rfl) rfl (fun _ _ e l => c_X7_within  e l V) ?_
  intro r6 M5
  refine jw_if_ne (tgt := 29) dX7_voice_20 rfl (fun c20 => ?_) (fun c20 => ?_)
  · refine jv_aloadn (j := 0) dX7_voice_23 rfl ?_
    refine jv_iconst (v := 1) dX7_voice_24 (by decide) ?_
    refine hv_callI (As := [.int 1]) dX7_voice_25 lk7_55 kX7_error nX7_error (Nat.le_of_ble_eq_true rfl) (Nat.le_of_ble_eq_true rfl) at_RS_0 rfl rfl rfl (fun _ _ e l => c_X7_error  e l V) ?_
    intro r8 M7
    exact vf_ret dX7_voice_28 rfl
  refine jv_aloadn (j := 0) dX7_voice_29 rfl ?_
  refine hv_getR dX7_voice_30 fl7_36 at_RS_0 rfl ?_
  refine jv_aloadn (j := 0) dX7_voice_33 rfl ?_
  refine hv_getR dX7_voice_34 fl7_10 at_RS_0 rfl ?_
  refine hv_getR dX7_voice_37 fl7_87 (at_VA_0 at_RS_now) rfl ?_
  refine hv_getR dX7_voice_40 fl7_119 (at_CL_0 (at_VA_cl at_RS_now)) rfl ?_
  refine jv_iloadn (j := 1) dX7_voice_43 rfl ?_
  refine hv_ialdC dX7_voice_44 (at_CL_1 (at_VA_cl at_RS_now)) (fun _ => ?_)
  refine jv_iloadn (j := 1) dX7_voice_45 rfl ?_
  refine jv_aloadn (j := 0) dX7_voice_46 rfl ?_
  refine hv_getR dX7_voice_47 fl7_10 at_RS_0 rfl ?_
  refine hv_getR dX7_voice_50 fl7_87 (at_VA_0 at_RS_now) rfl ?_
  refine hv_getR dX7_voice_53 fl7_122 (at_CL_0 (at_VA_cl at_RS_now)) rfl ?_
  refine jv_iloadn (j := 1) dX7_voice_56 rfl ?_
  refine hv_ialdC dX7_voice_57 (at_CL_2 (at_VA_cl at_RS_now)) (fun _ => ?_)
  refine jv_iloadn (j := 2) dX7_voice_58 rfl ?_
  refine jv_iloadn (j := 3) dX7_voice_59 rfl ?_
  refine hv_callI (As := [.int (M5 ((1 + 13) + 1) x1.toNatClampNeg), .int x1, .int (M5 ((1 + 13) + 2) x1.toNatClampNeg), .int x2, .int x3]) dX7_voice_60 lk7_256 kX6_answer nX6_answer (Nat.le_of_ble_eq_true rfl) (Nat.le_of_ble_eq_true rfl) (at_VO_0 at_RS_voices) rfl rfl rfl (fun _ _ e l => c_X6_answer at_RS_voices e l V) ?_
  intro r10 M9
  exact vf_ret dX7_voice_63 rfl
theorem c_X7_voice {M : pm_M} {x1 : Int32} {x2 : Int32} {x3 : Int32}  {r : Int32} {M' : pm_M} (h : f_X7_voice M x1 x2 x3 = some (r, M')) (l : Launch) (V : pm_V) : pm_Ci l V skC yX7_voice mX7_voice 104 [.ref (V.1 0), .int x1, .int x2, .int x3] M r M' := pm_metI (by decide) rfl (Nat.le_of_ble_eq_true rfl) h (fun _ => w_X7_voice M x1 x2 x3 )
def f_X7_trace (M : pm_M) (x1 : Int32) : Option (Int32 × pm_M) :=
  (if x1 < 0 then (pm_b2 (f_X7_error M 2) (fun (r2 : Int32) (M1 : pm_M) => (some (r2, M1)))) else (if x1 < (M 94 1) then (pm_chk (pm_in x1 40) (some ((M (94 + 1) x1.toNatClampNeg), M))) else (pm_b2 (f_X7_error M 2) (fun (r4 : Int32) (M3 : pm_M) => (some (r4, M3))))))
set_option maxHeartbeats 4000000 in
set_option maxRecDepth 100000 in
theorem w_X7_trace {X : pm_X} {V : pm_V} (M : pm_M) (x1 : Int32)  : pm_VF (f_X7_trace M x1) (pm_K X V mX7_trace 2 skC) (pm_J X V mX7_trace 2 (pm_wld V skC M) 0 [(0, .ref (V.1 0)), (1, .int x1)] []) := by
  unfold f_X7_trace
  refine jv_iloadn (j := 1) dX7_trace_0 rfl ?_
  refine jw_if_lt (tgt := 15) dX7_trace_1 rfl (fun c1 => ?_) (fun c1 => ?_)
  · refine jv_aloadn (j := 0) dX7_trace_15 rfl ?_
    refine jv_iconst (v := 2) dX7_trace_16 (by decide) ?_
    refine hv_callI (As := [.int 2]) dX7_trace_17 lk7_55 kX7_error nX7_error (Nat.le_of_ble_eq_true rfl) (Nat.le_of_ble_eq_true rfl) at_RS_0 rfl rfl rfl (fun _ _ e l => c_X7_error  e l V) ?_
    intro r2 M1
    exact vf_ret dX7_trace_20 rfl
  refine jv_iloadn (j := 1) dX7_trace_4 rfl ?_
  refine jv_aloadn (j := 0) dX7_trace_5 rfl ?_
  refine hv_getR dX7_trace_6 fl7_36 at_RS_0 rfl ?_
  refine hv_getI dX7_trace_9 fl7_260 (at_VO_0 at_RS_voices) rfl ?_
  refine jw_ic_lt (tgt := 21) dX7_trace_12 rfl (fun c12 => ?_) (fun c12 => ?_)
  · refine jv_aloadn (j := 0) dX7_trace_21 rfl ?_
    refine hv_getR dX7_trace_22 fl7_36 at_RS_0 rfl ?_
    refine hv_getR dX7_trace_25 fl7_263 (at_VO_0 at_RS_voices) rfl ?_
    refine jv_iloadn (j := 1) dX7_trace_28 rfl ?_
    refine hv_ialdC dX7_trace_29 (at_VO_1 at_RS_voices) (fun _ => ?_)
    exact vf_ret dX7_trace_30 rfl
  refine jv_aloadn (j := 0) dX7_trace_15 rfl ?_
  refine jv_iconst (v := 2) dX7_trace_16 (by decide) ?_
  refine hv_callI (As := [.int 2]) dX7_trace_17 lk7_55 kX7_error nX7_error (Nat.le_of_ble_eq_true rfl) (Nat.le_of_ble_eq_true rfl) at_RS_0 rfl rfl rfl (fun _ _ e l => c_X7_error  e l V) ?_
  intro r4 M3
  exact vf_ret dX7_trace_20 rfl
theorem c_X7_trace {M : pm_M} {x1 : Int32}  {r : Int32} {M' : pm_M} (h : f_X7_trace M x1 = some (r, M')) (l : Launch) (V : pm_V) : pm_Ci l V skC yX7_trace mX7_trace 2 [.ref (V.1 0), .int x1] M r M' := pm_metI (by decide) rfl (Nat.le_of_ble_eq_true rfl) h (fun _ => w_X7_trace M x1 )
def f_X7_sheet (M : pm_M) (x1 : Int32) (x2 : Int32) (x3 : Int32) : Option (Int32 × pm_M) :=
  (pm_b2 (f_X7_isSheet M x1) (fun (r2 : Int32) (M1 : pm_M) => (if r2 = 0 then (pm_b2 (f_X7_error M1 1) (fun (r4 : Int32) (M3 : pm_M) => (some (r4, M3)))) else (if x2 = 0 then (if x2 = 0 then (if x2 = 0 then (pm_chk (pm_in x1 4) (if x2 = 0 then (pm_b1 (f_X4_lay (97 + 2 * x1.toNatClampNeg) M1 x2 0) (fun M6 : pm_M => (some (1, M6)))) else (pm_b1 (f_X4_lay (97 + 2 * x1.toNatClampNeg) M1 x2 x3) (fun M7 : pm_M => (some (1, M7)))))) else (if x3 ≤ 40 then (pm_chk (pm_in x1 4) (if x2 = 0 then (pm_b1 (f_X4_lay (97 + 2 * x1.toNatClampNeg) M1 x2 0) (fun M9 : pm_M => (some (1, M9)))) else (pm_b1 (f_X4_lay (97 + 2 * x1.toNatClampNeg) M1 x2 x3) (fun M10 : pm_M => (some (1, M10)))))) else (pm_b2 (f_X7_error M1 1) (fun (r12 : Int32) (M11 : pm_M) => (some (r12, M11)))))) else (if 0 ≤ x3 then (if x2 = 0 then (pm_chk (pm_in x1 4) (if x2 = 0 then (pm_b1 (f_X4_lay (97 + 2 * x1.toNatClampNeg) M1 x2 0) (fun M14 : pm_M => (some (1, M14)))) else (pm_b1 (f_X4_lay (97 + 2 * x1.toNatClampNeg) M1 x2 x3) (fun M15 : pm_M => (some (1, M15)))))) else (if x3 ≤ 40 then (pm_chk (pm_in x1 4) (if x2 = 0 then (pm_b1 (f_X4_lay (97 + 2 * x1.toNatClampNeg) M1 x2 0) (fun M17 : pm_M => (some (1, M17)))) else (pm_b1 (f_X4_lay (97 + 2 * x1.toNatClampNeg) M1 x2 x3) (fun M18 : pm_M => (some (1, M18)))))) else (pm_b2 (f_X7_error M1 1) (fun (r20 : Int32) (M19 : pm_M) => (some (r20, M19)))))) else (pm_b2 (f_X7_error M1 3) (fun (r22 : Int32) (M21 : pm_M) => (some (r22, M21)))))) else (if x2 = 8 then (if x2 = 0 then (if x2 = 0 then (pm_chk (pm_in x1 4) (if x2 = 0 then (pm_b1 (f_X4_lay (97 + 2 * x1.toNatClampNeg) M1 x2 0) (fun M24 : pm_M => (some (1, M24)))) else (pm_b1 (f_X4_lay (97 + 2 * x1.toNatClampNeg) M1 x2 x3) (fun M25 : pm_M => (some (1, M25)))))) else (if x3 ≤ 40 then (pm_chk (pm_in x1 4) (if x2 = 0 then (pm_b1 (f_X4_lay (97 + 2 * x1.toNatClampNeg) M1 x2 0) (fun M27 : pm_M => (some (1, M27)))) else (pm_b1 (f_X4_lay (97 + 2 * x1.toNatClampNeg) M1 x2 x3) (fun M28 : pm_M => (some (1, M28)))))) else (pm_b2 (f_X7_error M1 1) (fun (r30 : Int32) (M29 : pm_M) => (some (r30, M29)))))) else (if 0 ≤ x3 then (if x2 = 0 then (pm_chk (pm_in x1 4) (if x2 = 0 then (pm_b1 (f_X4_lay (97 + 2 * x1.toNatClampNeg) M1 x2 0) (fun M32 : pm_M => (some (1, M32)))) else (pm_b1 (f_X4_lay (97 + 2 * x1.toNatClampNeg) M1 x2 x3) (fun M33 : pm_M => (some (1, M33)))))) else (if x3 ≤ 40 then (pm_chk (pm_in x1 4) (if x2 = 0 then (pm_b1 (f_X4_lay (97 + 2 * x1.toNatClampNeg) M1 x2 0) (fun M35 : pm_M => (some (1, M35)))) else (pm_b1 (f_X4_lay (97 + 2 * x1.toNatClampNeg) M1 x2 x3) (fun M36 : pm_M => (some (1, M36)))))) else (pm_b2 (f_X7_error M1 1) (fun (r38 : Int32) (M37 : pm_M) => (some (r38, M37)))))) else (pm_b2 (f_X7_error M1 3) (fun (r40 : Int32) (M39 : pm_M) => (some (r40, M39)))))) else (if x2 = 16 then (if x2 = 0 then (if x2 = 0 then (pm_chk (pm_in x1 4) (if x2 = 0 then (pm_b1 (f_X4_lay (97 + 2 * x1.toNatClampNeg) M1 x2 0) (fun M42 : pm_M => (some (1, M42)))) else (pm_b1 (f_X4_lay (97 + 2 * x1.toNatClampNeg) M1 x2 x3) (fun M43 : pm_M => (some (1, M43)))))) else (if x3 ≤ 40 then (pm_chk (pm_in x1 4) (if x2 = 0 then (pm_b1 (f_X4_lay (97 + 2 * x1.toNatClampNeg) M1 x2 0) (fun M45 : pm_M => (some (1, M45)))) else (pm_b1 (f_X4_lay (97 + 2 * x1.toNatClampNeg) M1 x2 x3) (fun M46 : pm_M => (some (1, M46)))))) else (pm_b2 (f_X7_error M1 1) (fun (r48 : Int32) (M47 : pm_M) => (some (r48, M47)))))) else (if 0 ≤ x3 then (if x2 = 0 then (pm_chk (pm_in x1 4) (if x2 = 0 then (pm_b1 (f_X4_lay (97 + 2 * x1.toNatClampNeg) M1 x2 0) (fun M50 : pm_M => (some (1, M50)))) else (pm_b1 (f_X4_lay (97 + 2 * x1.toNatClampNeg) M1 x2 x3) (fun M51 : pm_M => (some (1, M51)))))) else (if x3 ≤ 40 then (pm_chk (pm_in x1 4) (if x2 = 0 then (pm_b1 (f_X4_lay (97 + 2 * x1.toNatClampNeg) M1 x2 0) (fun M53 : pm_M => (some (1, M53)))) else (pm_b1 (f_X4_lay (97 + 2 * x1.toNatClampNeg) M1 x2 x3) (fun M54 : pm_M => (some (1, M54)))))) else (pm_b2 (f_X7_error M1 1) (fun (r56 : Int32) (M55 : pm_M) => (some (r56, M55)))))) else (pm_b2 (f_X7_error M1 3) (fun (r58 : Int32) (M57 : pm_M) => (some (r58, M57)))))) else (if x2 = 32 then (if x2 = 0 then (if x2 = 0 then (pm_chk (pm_in x1 4) (if x2 = 0 then (pm_b1 (f_X4_lay (97 + 2 * x1.toNatClampNeg) M1 x2 0) (fun M60 : pm_M => (some (1, M60)))) else (pm_b1 (f_X4_lay (97 + 2 * x1.toNatClampNeg) M1 x2 x3) (fun M61 : pm_M => (some (1, M61)))))) else (if x3 ≤ 40 then (pm_chk (pm_in x1 4) (if x2 = 0 then (pm_b1 (f_X4_lay (97 + 2 * x1.toNatClampNeg) M1 x2 0) (fun M63 : pm_M => (some (1, M63)))) else (pm_b1 (f_X4_lay (97 + 2 * x1.toNatClampNeg) M1 x2 x3) (fun M64 : pm_M => (some (1, M64)))))) else (pm_b2 (f_X7_error M1 1) (fun (r66 : Int32) (M65 : pm_M) => (some (r66, M65)))))) else (if 0 ≤ x3 then (if x2 = 0 then (pm_chk (pm_in x1 4) (if x2 = 0 then (pm_b1 (f_X4_lay (97 + 2 * x1.toNatClampNeg) M1 x2 0) (fun M68 : pm_M => (some (1, M68)))) else (pm_b1 (f_X4_lay (97 + 2 * x1.toNatClampNeg) M1 x2 x3) (fun M69 : pm_M => (some (1, M69)))))) else (if x3 ≤ 40 then (pm_chk (pm_in x1 4) (if x2 = 0 then (pm_b1 (f_X4_lay (97 + 2 * x1.toNatClampNeg) M1 x2 0) (fun M71 : pm_M => (some (1, M71)))) else (pm_b1 (f_X4_lay (97 + 2 * x1.toNatClampNeg) M1 x2 x3) (fun M72 : pm_M => (some (1, M72)))))) else (pm_b2 (f_X7_error M1 1) (fun (r74 : Int32) (M73 : pm_M) => (some (r74, M73)))))) else (pm_b2 (f_X7_error M1 3) (fun (r76 : Int32) (M75 : pm_M) => (some (r76, M75)))))) else (pm_b2 (f_X7_error M1 1) (fun (r78 : Int32) (M77 : pm_M) => (some (r78, M77)))))))))))
set_option maxHeartbeats 4000000 in
set_option maxRecDepth 100000 in
theorem w_X7_sheet {X : pm_X} {V : pm_V} (M : pm_M) (x1 : Int32) (x2 : Int32) (x3 : Int32)  : pm_VF (f_X7_sheet M x1 x2 x3) (pm_K X V mX7_sheet 3 skC) (pm_J X V mX7_sheet 3 (pm_wld V skC M) 0 [(0, .ref (V.1 0)), (1, .int x1), (2, .int x2), (3, .int x3)] []) := by
  unfold f_X7_sheet
  refine jv_iloadn (j := 1) dX7_sheet_0 rfl ?_
  refine hv_callS (As := [.int x1]) dX7_sheet_1 lk7_232 kX7_isSheet nX7_isSheet (Nat.le_of_ble_eq_true rfl) (Nat.le_of_ble_eq_true rfl) rfl (fun _ _ e l => c_X7_isSheet  e l V) ?_
  intro r2 M1
  refine jw_if_eq (tgt := 29) dX7_sheet_4 rfl (fun c4 => ?_) (fun c4 => ?_)
  · refine jv_aloadn (j := 0) dX7_sheet_29 rfl ?_
    refine jv_iconst (v := 1) dX7_sheet_30 (by decide) ?_
    refine hv_callI (As := [.int 1]) dX7_sheet_31 lk7_55 kX7_error nX7_error (Nat.le_of_ble_eq_true rfl) (Nat.le_of_ble_eq_true rfl) at_RS_0 rfl rfl rfl (fun _ _ e l => c_X7_error  e l V) ?_
    intro r4 M3
    exact vf_ret dX7_sheet_34 rfl
  refine jv_iloadn (j := 2) dX7_sheet_7 rfl ?_
  refine jw_if_eq (tgt := 35) dX7_sheet_8 rfl (fun c8 => ?_) (fun c8 => ?_)
  · refine jv_iloadn (j := 2) dX7_sheet_35 rfl ?_
    refine jw_if_eq (tgt := 49) dX7_sheet_36 rfl (fun c36 => ?_) (fun c36 => ?_)
    · refine jv_iloadn (j := 2) dX7_sheet_49 rfl ?_
      refine jw_if_eq (tgt := 65) dX7_sheet_50 rfl (fun c50 => ?_) (fun c50 => ?_)
      · refine jv_aloadn (j := 0) dX7_sheet_65 rfl ?_
        refine hv_getR dX7_sheet_66 fl7_42 at_RS_0 rfl ?_
        refine jv_iloadn (j := 1) dX7_sheet_69 rfl ?_
        refine vf_chk (fun q5 => ?_)
        refine hv_aald dX7_sheet_70 at_RS_96 (ty := .object "RainShares$Sheet") (fun _ => rfl) rfl q5 (pl_sheet q5) ?_
        refine jv_iloadn (j := 2) dX7_sheet_71 rfl ?_
        refine jv_iloadn (j := 2) dX7_sheet_72 rfl ?_
        refine jw_if_ne (tgt := 80) dX7_sheet_73 rfl (fun c73 => ?_) (fun c73 => ?_)
        · refine jv_iconst (v := 0) dX7_sheet_76 (by decide) ?_
          refine jv_goto (tgt := 81) dX7_sheet_77 rfl ?_
          refine hv_callV (As := [.int x2, .int 0]) dX7_sheet_81 lk7_266 kX4_lay nX4_lay (Nat.le_of_ble_eq_true rfl) (Nat.le_of_ble_eq_true rfl) (at_SH_0 (at_RS_sheet q5)) rfl rfl rfl (fun _ e l => c_X4_lay (at_RS_sheet q5) e l V) ?_
          intro M6
          refine jv_iconst (v := 1) dX7_sheet_84 (by decide) ?_
          exact vf_ret dX7_sheet_85 rfl
        refine jv_iloadn (j := 3) dX7_sheet_80 rfl ?_
        refine hv_callV (As := [.int x2, .int x3]) dX7_sheet_81 lk7_266 kX4_lay nX4_lay (Nat.le_of_ble_eq_true rfl) (Nat.le_of_ble_eq_true rfl) (at_SH_0 (at_RS_sheet q5)) rfl rfl rfl (fun _ e l => c_X4_lay (at_RS_sheet q5) e l V) ?_
        intro M7
        refine jv_iconst (v := 1) dX7_sheet_84 (by decide) ?_
        exact vf_ret dX7_sheet_85 rfl
      refine jv_iloadn (j := 3) dX7_sheet_53 rfl ?_
      refine jv_bipush (v := 40) dX7_sheet_54 (by decide) ?_
      refine jw_ic_le (tgt := 65) dX7_sheet_56 rfl (fun c56 => ?_) (fun c56 => ?_)
      · refine jv_aloadn (j := 0) dX7_sheet_65 rfl ?_
        refine hv_getR dX7_sheet_66 fl7_42 at_RS_0 rfl ?_
        refine jv_iloadn (j := 1) dX7_sheet_69 rfl ?_
        refine vf_chk (fun q8 => ?_)
        refine hv_aald dX7_sheet_70 at_RS_96 (ty := .object "RainShares$Sheet") (fun _ => rfl) rfl q8 (pl_sheet q8) ?_
        refine jv_iloadn (j := 2) dX7_sheet_71 rfl ?_
        refine jv_iloadn (j := 2) dX7_sheet_72 rfl ?_
        refine jw_if_ne (tgt := 80) dX7_sheet_73 rfl (fun c73 => ?_) (fun c73 => ?_)
        · refine jv_iconst (v := 0) dX7_sheet_76 (by decide) ?_
          refine jv_goto (tgt := 81) dX7_sheet_77 rfl ?_
          refine hv_callV (As := [.int x2, .int 0]) dX7_sheet_81 lk7_266 kX4_lay nX4_lay (Nat.le_of_ble_eq_true rfl) (Nat.le_of_ble_eq_true rfl) (at_SH_0 (at_RS_sheet q8)) rfl rfl rfl (fun _ e l => c_X4_lay (at_RS_sheet q8) e l V) ?_
          intro M9
          refine jv_iconst (v := 1) dX7_sheet_84 (by decide) ?_
          exact vf_ret dX7_sheet_85 rfl
        refine jv_iloadn (j := 3) dX7_sheet_80 rfl ?_
        refine hv_callV (As := [.int x2, .int x3]) dX7_sheet_81 lk7_266 kX4_lay nX4_lay (Nat.le_of_ble_eq_true rfl) (Nat.le_of_ble_eq_true rfl) (at_SH_0 (at_RS_sheet q8)) rfl rfl rfl (fun _ e l => c_X4_lay (at_RS_sheet q8) e l V) ?_
        intro M10
        refine jv_iconst (v := 1) dX7_sheet_84 (by decide) ?_
        exact vf_ret dX7_sheet_85 rfl
      refine jv_aloadn (j := 0) dX7_sheet_59 rfl ?_
      refine jv_iconst (v := 1) dX7_sheet_60 (by decide) ?_
      refine hv_callI (As := [.int 1]) dX7_sheet_61 lk7_55 kX7_error nX7_error (Nat.le_of_ble_eq_true rfl) (Nat.le_of_ble_eq_true rfl) at_RS_0 rfl rfl rfl (fun _ _ e l => c_X7_error  e l V) ?_
      intro r12 M11
      exact vf_ret dX7_sheet_64 rfl
    refine jv_iloadn (j := 3) dX7_sheet_39 rfl ?_
    refine jw_if_ge (tgt := 49) dX7_sheet_40 rfl (fun c40 => ?_) (fun c40 => ?_)
    · refine jv_iloadn (j := 2) dX7_sheet_49 rfl ?_
      refine jw_if_eq (tgt := 65) dX7_sheet_50 rfl (fun c50 => ?_) (fun c50 => ?_)
      · refine jv_aloadn (j := 0) dX7_sheet_65 rfl ?_
        refine hv_getR dX7_sheet_66 fl7_42 at_RS_0 rfl ?_
        refine jv_iloadn (j := 1) dX7_sheet_69 rfl ?_
        refine vf_chk (fun q13 => ?_)
        refine hv_aald dX7_sheet_70 at_RS_96 (ty := .object "RainShares$Sheet") (fun _ => rfl) rfl q13 (pl_sheet q13) ?_
        refine jv_iloadn (j := 2) dX7_sheet_71 rfl ?_
        refine jv_iloadn (j := 2) dX7_sheet_72 rfl ?_
        refine jw_if_ne (tgt := 80) dX7_sheet_73 rfl (fun c73 => ?_) (fun c73 => ?_)
        · refine jv_iconst (v := 0) dX7_sheet_76 (by decide) ?_
          refine jv_goto (tgt := 81) dX7_sheet_77 rfl ?_
          refine hv_callV (As := [.int x2, .int 0]) dX7_sheet_81 lk7_266 kX4_lay nX4_lay (Nat.le_of_ble_eq_true rfl) (Nat.le_of_ble_eq_true rfl) (at_SH_0 (at_RS_sheet q13)) rfl rfl rfl (fun _ e l => c_X4_lay (at_RS_sheet q13) e l V) ?_
          intro M14
          refine jv_iconst (v := 1) dX7_sheet_84 (by decide) ?_
          exact vf_ret dX7_sheet_85 rfl
        refine jv_iloadn (j := 3) dX7_sheet_80 rfl ?_
        refine hv_callV (As := [.int x2, .int x3]) dX7_sheet_81 lk7_266 kX4_lay nX4_lay (Nat.le_of_ble_eq_true rfl) (Nat.le_of_ble_eq_true rfl) (at_SH_0 (at_RS_sheet q13)) rfl rfl rfl (fun _ e l => c_X4_lay (at_RS_sheet q13) e l V) ?_
        intro M15
        refine jv_iconst (v := 1) dX7_sheet_84 (by decide) ?_
        exact vf_ret dX7_sheet_85 rfl
      refine jv_iloadn (j := 3) dX7_sheet_53 rfl ?_
      refine jv_bipush (v := 40) dX7_sheet_54 (by decide) ?_
      refine jw_ic_le (tgt := 65) dX7_sheet_56 rfl (fun c56 => ?_) (fun c56 => ?_)
      · refine jv_aloadn (j := 0) dX7_sheet_65 rfl ?_
        refine hv_getR dX7_sheet_66 fl7_42 at_RS_0 rfl ?_
        refine jv_iloadn (j := 1) dX7_sheet_69 rfl ?_
        refine vf_chk (fun q16 => ?_)
        refine hv_aald dX7_sheet_70 at_RS_96 (ty := .object "RainShares$Sheet") (fun _ => rfl) rfl q16 (pl_sheet q16) ?_
        refine jv_iloadn (j := 2) dX7_sheet_71 rfl ?_
        refine jv_iloadn (j := 2) dX7_sheet_72 rfl ?_
        refine jw_if_ne (tgt := 80) dX7_sheet_73 rfl (fun c73 => ?_) (fun c73 => ?_)
        · refine jv_iconst (v := 0) dX7_sheet_76 (by decide) ?_
          refine jv_goto (tgt := 81) dX7_sheet_77 rfl ?_
          refine hv_callV (As := [.int x2, .int 0]) dX7_sheet_81 lk7_266 kX4_lay nX4_lay (Nat.le_of_ble_eq_true rfl) (Nat.le_of_ble_eq_true rfl) (at_SH_0 (at_RS_sheet q16)) rfl rfl rfl (fun _ e l => c_X4_lay (at_RS_sheet q16) e l V) ?_
          intro M17
          refine jv_iconst (v := 1) dX7_sheet_84 (by decide) ?_
          exact vf_ret dX7_sheet_85 rfl
        refine jv_iloadn (j := 3) dX7_sheet_80 rfl ?_
        refine hv_callV (As := [.int x2, .int x3]) dX7_sheet_81 lk7_266 kX4_lay nX4_lay (Nat.le_of_ble_eq_true rfl) (Nat.le_of_ble_eq_true rfl) (at_SH_0 (at_RS_sheet q16)) rfl rfl rfl (fun _ e l => c_X4_lay (at_RS_sheet q16) e l V) ?_
        intro M18
        refine jv_iconst (v := 1) dX7_sheet_84 (by decide) ?_
        exact vf_ret dX7_sheet_85 rfl
      refine jv_aloadn (j := 0) dX7_sheet_59 rfl ?_
      refine jv_iconst (v := 1) dX7_sheet_60 (by decide) ?_
      refine hv_callI (As := [.int 1]) dX7_sheet_61 lk7_55 kX7_error nX7_error (Nat.le_of_ble_eq_true rfl) (Nat.le_of_ble_eq_true rfl) at_RS_0 rfl rfl rfl (fun _ _ e l => c_X7_error  e l V) ?_
      intro r20 M19
      exact vf_ret dX7_sheet_64 rfl
    refine jv_aloadn (j := 0) dX7_sheet_43 rfl ?_
    refine jv_iconst (v := 3) dX7_sheet_44 (by decide) ?_
    refine hv_callI (As := [.int 3]) dX7_sheet_45 lk7_55 kX7_error nX7_error (Nat.le_of_ble_eq_true rfl) (Nat.le_of_ble_eq_true rfl) at_RS_0 rfl rfl rfl (fun _ _ e l => c_X7_error  e l V) ?_
    intro r22 M21
    exact vf_ret dX7_sheet_48 rfl
  refine jv_iloadn (j := 2) dX7_sheet_11 rfl ?_
  refine jv_bipush (v := 8) dX7_sheet_12 (by decide) ?_
  refine jw_ic_eq (tgt := 35) dX7_sheet_14 rfl (fun c14 => ?_) (fun c14 => ?_)
  · refine jv_iloadn (j := 2) dX7_sheet_35 rfl ?_
    refine jw_if_eq (tgt := 49) dX7_sheet_36 rfl (fun c36 => ?_) (fun c36 => ?_)
    · refine jv_iloadn (j := 2) dX7_sheet_49 rfl ?_
      refine jw_if_eq (tgt := 65) dX7_sheet_50 rfl (fun c50 => ?_) (fun c50 => ?_)
      · refine jv_aloadn (j := 0) dX7_sheet_65 rfl ?_
        refine hv_getR dX7_sheet_66 fl7_42 at_RS_0 rfl ?_
        refine jv_iloadn (j := 1) dX7_sheet_69 rfl ?_
        refine vf_chk (fun q23 => ?_)
        refine hv_aald dX7_sheet_70 at_RS_96 (ty := .object "RainShares$Sheet") (fun _ => rfl) rfl q23 (pl_sheet q23) ?_
        refine jv_iloadn (j := 2) dX7_sheet_71 rfl ?_
        refine jv_iloadn (j := 2) dX7_sheet_72 rfl ?_
        refine jw_if_ne (tgt := 80) dX7_sheet_73 rfl (fun c73 => ?_) (fun c73 => ?_)
        · refine jv_iconst (v := 0) dX7_sheet_76 (by decide) ?_
          refine jv_goto (tgt := 81) dX7_sheet_77 rfl ?_
          refine hv_callV (As := [.int x2, .int 0]) dX7_sheet_81 lk7_266 kX4_lay nX4_lay (Nat.le_of_ble_eq_true rfl) (Nat.le_of_ble_eq_true rfl) (at_SH_0 (at_RS_sheet q23)) rfl rfl rfl (fun _ e l => c_X4_lay (at_RS_sheet q23) e l V) ?_
          intro M24
          refine jv_iconst (v := 1) dX7_sheet_84 (by decide) ?_
          exact vf_ret dX7_sheet_85 rfl
        refine jv_iloadn (j := 3) dX7_sheet_80 rfl ?_
        refine hv_callV (As := [.int x2, .int x3]) dX7_sheet_81 lk7_266 kX4_lay nX4_lay (Nat.le_of_ble_eq_true rfl) (Nat.le_of_ble_eq_true rfl) (at_SH_0 (at_RS_sheet q23)) rfl rfl rfl (fun _ e l => c_X4_lay (at_RS_sheet q23) e l V) ?_
        intro M25
        refine jv_iconst (v := 1) dX7_sheet_84 (by decide) ?_
        exact vf_ret dX7_sheet_85 rfl
      refine jv_iloadn (j := 3) dX7_sheet_53 rfl ?_
      refine jv_bipush (v := 40) dX7_sheet_54 (by decide) ?_
      refine jw_ic_le (tgt := 65) dX7_sheet_56 rfl (fun c56 => ?_) (fun c56 => ?_)
      · refine jv_aloadn (j := 0) dX7_sheet_65 rfl ?_
        refine hv_getR dX7_sheet_66 fl7_42 at_RS_0 rfl ?_
        refine jv_iloadn (j := 1) dX7_sheet_69 rfl ?_
        refine vf_chk (fun q26 => ?_)
        refine hv_aald dX7_sheet_70 at_RS_96 (ty := .object "RainShares$Sheet") (fun _ => rfl) rfl q26 (pl_sheet q26) ?_
        refine jv_iloadn (j := 2) dX7_sheet_71 rfl ?_
        refine jv_iloadn (j := 2) dX7_sheet_72 rfl ?_
        refine jw_if_ne (tgt := 80) dX7_sheet_73 rfl (fun c73 => ?_) (fun c73 => ?_)
        · refine jv_iconst (v := 0) dX7_sheet_76 (by decide) ?_
          refine jv_goto (tgt := 81) dX7_sheet_77 rfl ?_
          refine hv_callV (As := [.int x2, .int 0]) dX7_sheet_81 lk7_266 kX4_lay nX4_lay (Nat.le_of_ble_eq_true rfl) (Nat.le_of_ble_eq_true rfl) (at_SH_0 (at_RS_sheet q26)) rfl rfl rfl (fun _ e l => c_X4_lay (at_RS_sheet q26) e l V) ?_
          intro M27
          refine jv_iconst (v := 1) dX7_sheet_84 (by decide) ?_
          exact vf_ret dX7_sheet_85 rfl
        refine jv_iloadn (j := 3) dX7_sheet_80 rfl ?_
        refine hv_callV (As := [.int x2, .int x3]) dX7_sheet_81 lk7_266 kX4_lay nX4_lay (Nat.le_of_ble_eq_true rfl) (Nat.le_of_ble_eq_true rfl) (at_SH_0 (at_RS_sheet q26)) rfl rfl rfl (fun _ e l => c_X4_lay (at_RS_sheet q26) e l V) ?_
        intro M28
        refine jv_iconst (v := 1) dX7_sheet_84 (by decide) ?_
        exact vf_ret dX7_sheet_85 rfl
      refine jv_aloadn (j := 0) dX7_sheet_59 rfl ?_
      refine jv_iconst (v := 1) dX7_sheet_60 (by decide) ?_
      refine hv_callI (As := [.int 1]) dX7_sheet_61 lk7_55 kX7_error nX7_error (Nat.le_of_ble_eq_true rfl) (Nat.le_of_ble_eq_true rfl) at_RS_0 rfl rfl rfl (fun _ _ e l => c_X7_error  e l V) ?_
      intro r30 M29
      exact vf_ret dX7_sheet_64 rfl
    refine jv_iloadn (j := 3) dX7_sheet_39 rfl ?_
    refine jw_if_ge (tgt := 49) dX7_sheet_40 rfl (fun c40 => ?_) (fun c40 => ?_)
    · refine jv_iloadn (j := 2) dX7_sheet_49 rfl ?_
      refine jw_if_eq (tgt := 65) dX7_sheet_50 rfl (fun c50 => ?_) (fun c50 => ?_)
      · refine jv_aloadn (j := 0) dX7_sheet_65 rfl ?_
        refine hv_getR dX7_sheet_66 fl7_42 at_RS_0 rfl ?_
        refine jv_iloadn (j := 1) dX7_sheet_69 rfl ?_
        refine vf_chk (fun q31 => ?_)
        refine hv_aald dX7_sheet_70 at_RS_96 (ty := .object "RainShares$Sheet") (fun _ => rfl) rfl q31 (pl_sheet q31) ?_
        refine jv_iloadn (j := 2) dX7_sheet_71 rfl ?_
        refine jv_iloadn (j := 2) dX7_sheet_72 rfl ?_
        refine jw_if_ne (tgt := 80) dX7_sheet_73 rfl (fun c73 => ?_) (fun c73 => ?_)
        · refine jv_iconst (v := 0) dX7_sheet_76 (by decide) ?_
          refine jv_goto (tgt := 81) dX7_sheet_77 rfl ?_
          refine hv_callV (As := [.int x2, .int 0]) dX7_sheet_81 lk7_266 kX4_lay nX4_lay (Nat.le_of_ble_eq_true rfl) (Nat.le_of_ble_eq_true rfl) (at_SH_0 (at_RS_sheet q31)) rfl rfl rfl (fun _ e l => c_X4_lay (at_RS_sheet q31) e l V) ?_
          intro M32
          refine jv_iconst (v := 1) dX7_sheet_84 (by decide) ?_
          exact vf_ret dX7_sheet_85 rfl
        refine jv_iloadn (j := 3) dX7_sheet_80 rfl ?_
        refine hv_callV (As := [.int x2, .int x3]) dX7_sheet_81 lk7_266 kX4_lay nX4_lay (Nat.le_of_ble_eq_true rfl) (Nat.le_of_ble_eq_true rfl) (at_SH_0 (at_RS_sheet q31)) rfl rfl rfl (fun _ e l => c_X4_lay (at_RS_sheet q31) e l V) ?_
        intro M33
        refine jv_iconst (v := 1) dX7_sheet_84 (by decide) ?_
        exact vf_ret dX7_sheet_85 rfl
      refine jv_iloadn (j := 3) dX7_sheet_53 rfl ?_
      refine jv_bipush (v := 40) dX7_sheet_54 (by decide) ?_
      refine jw_ic_le (tgt := 65) dX7_sheet_56 rfl (fun c56 => ?_) (fun c56 => ?_)
      · refine jv_aloadn (j := 0) dX7_sheet_65 rfl ?_
        refine hv_getR dX7_sheet_66 fl7_42 at_RS_0 rfl ?_
        refine jv_iloadn (j := 1) dX7_sheet_69 rfl ?_
        refine vf_chk (fun q34 => ?_)
        refine hv_aald dX7_sheet_70 at_RS_96 (ty := .object "RainShares$Sheet") (fun _ => rfl) rfl q34 (pl_sheet q34) ?_
        refine jv_iloadn (j := 2) dX7_sheet_71 rfl ?_
        refine jv_iloadn (j := 2) dX7_sheet_72 rfl ?_
        refine jw_if_ne (tgt := 80) dX7_sheet_73 rfl (fun c73 => ?_) (fun c73 => ?_)
        · refine jv_iconst (v := 0) dX7_sheet_76 (by decide) ?_
          refine jv_goto (tgt := 81) dX7_sheet_77 rfl ?_
          refine hv_callV (As := [.int x2, .int 0]) dX7_sheet_81 lk7_266 kX4_lay nX4_lay (Nat.le_of_ble_eq_true rfl) (Nat.le_of_ble_eq_true rfl) (at_SH_0 (at_RS_sheet q34)) rfl rfl rfl (fun _ e l => c_X4_lay (at_RS_sheet q34) e l V) ?_
          intro M35
          refine jv_iconst (v := 1) dX7_sheet_84 (by decide) ?_
          exact vf_ret dX7_sheet_85 rfl
        refine jv_iloadn (j := 3) dX7_sheet_80 rfl ?_
        refine hv_callV (As := [.int x2, .int x3]) dX7_sheet_81 lk7_266 kX4_lay nX4_lay (Nat.le_of_ble_eq_true rfl) (Nat.le_of_ble_eq_true rfl) (at_SH_0 (at_RS_sheet q34)) rfl rfl rfl (fun _ e l => c_X4_lay (at_RS_sheet q34) e l V) ?_
        intro M36
        refine jv_iconst (v := 1) dX7_sheet_84 (by decide) ?_
        exact vf_ret dX7_sheet_85 rfl
      refine jv_aloadn (j := 0) dX7_sheet_59 rfl ?_
      refine jv_iconst (v := 1) dX7_sheet_60 (by decide) ?_
      refine hv_callI (As := [.int 1]) dX7_sheet_61 lk7_55 kX7_error nX7_error (Nat.le_of_ble_eq_true rfl) (Nat.le_of_ble_eq_true rfl) at_RS_0 rfl rfl rfl (fun _ _ e l => c_X7_error  e l V) ?_
      intro r38 M37
      exact vf_ret dX7_sheet_64 rfl
    refine jv_aloadn (j := 0) dX7_sheet_43 rfl ?_
    refine jv_iconst (v := 3) dX7_sheet_44 (by decide) ?_
    refine hv_callI (As := [.int 3]) dX7_sheet_45 lk7_55 kX7_error nX7_error (Nat.le_of_ble_eq_true rfl) (Nat.le_of_ble_eq_true rfl) at_RS_0 rfl rfl rfl (fun _ _ e l => c_X7_error  e l V) ?_
    intro r40 M39
    exact vf_ret dX7_sheet_48 rfl
  refine jv_iloadn (j := 2) dX7_sheet_17 rfl ?_
  refine jv_bipush (v := 16) dX7_sheet_18 (by decide) ?_
  refine jw_ic_eq (tgt := 35) dX7_sheet_20 rfl (fun c20 => ?_) (fun c20 => ?_)
  · refine jv_iloadn (j := 2) dX7_sheet_35 rfl ?_
    refine jw_if_eq (tgt := 49) dX7_sheet_36 rfl (fun c36 => ?_) (fun c36 => ?_)
    · refine jv_iloadn (j := 2) dX7_sheet_49 rfl ?_
      refine jw_if_eq (tgt := 65) dX7_sheet_50 rfl (fun c50 => ?_) (fun c50 => ?_)
      · refine jv_aloadn (j := 0) dX7_sheet_65 rfl ?_
        refine hv_getR dX7_sheet_66 fl7_42 at_RS_0 rfl ?_
        refine jv_iloadn (j := 1) dX7_sheet_69 rfl ?_
        refine vf_chk (fun q41 => ?_)
        refine hv_aald dX7_sheet_70 at_RS_96 (ty := .object "RainShares$Sheet") (fun _ => rfl) rfl q41 (pl_sheet q41) ?_
        refine jv_iloadn (j := 2) dX7_sheet_71 rfl ?_
        refine jv_iloadn (j := 2) dX7_sheet_72 rfl ?_
        refine jw_if_ne (tgt := 80) dX7_sheet_73 rfl (fun c73 => ?_) (fun c73 => ?_)
        · refine jv_iconst (v := 0) dX7_sheet_76 (by decide) ?_
          refine jv_goto (tgt := 81) dX7_sheet_77 rfl ?_
          refine hv_callV (As := [.int x2, .int 0]) dX7_sheet_81 lk7_266 kX4_lay nX4_lay (Nat.le_of_ble_eq_true rfl) (Nat.le_of_ble_eq_true rfl) (at_SH_0 (at_RS_sheet q41)) rfl rfl rfl (fun _ e l => c_X4_lay (at_RS_sheet q41) e l V) ?_
          intro M42
          refine jv_iconst (v := 1) dX7_sheet_84 (by decide) ?_
          exact vf_ret dX7_sheet_85 rfl
        refine jv_iloadn (j := 3) dX7_sheet_80 rfl ?_
        refine hv_callV (As := [.int x2, .int x3]) dX7_sheet_81 lk7_266 kX4_lay nX4_lay (Nat.le_of_ble_eq_true rfl) (Nat.le_of_ble_eq_true rfl) (at_SH_0 (at_RS_sheet q41)) rfl rfl rfl (fun _ e l => c_X4_lay (at_RS_sheet q41) e l V) ?_
        intro M43
        refine jv_iconst (v := 1) dX7_sheet_84 (by decide) ?_
        exact vf_ret dX7_sheet_85 rfl
      refine jv_iloadn (j := 3) dX7_sheet_53 rfl ?_
      refine jv_bipush (v := 40) dX7_sheet_54 (by decide) ?_
      refine jw_ic_le (tgt := 65) dX7_sheet_56 rfl (fun c56 => ?_) (fun c56 => ?_)
      · refine jv_aloadn (j := 0) dX7_sheet_65 rfl ?_
        refine hv_getR dX7_sheet_66 fl7_42 at_RS_0 rfl ?_
        refine jv_iloadn (j := 1) dX7_sheet_69 rfl ?_
        refine vf_chk (fun q44 => ?_)
        refine hv_aald dX7_sheet_70 at_RS_96 (ty := .object "RainShares$Sheet") (fun _ => rfl) rfl q44 (pl_sheet q44) ?_
        refine jv_iloadn (j := 2) dX7_sheet_71 rfl ?_
        refine jv_iloadn (j := 2) dX7_sheet_72 rfl ?_
        refine jw_if_ne (tgt := 80) dX7_sheet_73 rfl (fun c73 => ?_) (fun c73 => ?_)
        · refine jv_iconst (v := 0) dX7_sheet_76 (by decide) ?_
          refine jv_goto (tgt := 81) dX7_sheet_77 rfl ?_
          refine hv_callV (As := [.int x2, .int 0]) dX7_sheet_81 lk7_266 kX4_lay nX4_lay (Nat.le_of_ble_eq_true rfl) (Nat.le_of_ble_eq_true rfl) (at_SH_0 (at_RS_sheet q44)) rfl rfl rfl (fun _ e l => c_X4_lay (at_RS_sheet q44) e l V) ?_
          intro M45
          refine jv_iconst (v := 1) dX7_sheet_84 (by decide) ?_
          exact vf_ret dX7_sheet_85 rfl
        refine jv_iloadn (j := 3) dX7_sheet_80 rfl ?_
        refine hv_callV (As := [.int x2, .int x3]) dX7_sheet_81 lk7_266 kX4_lay nX4_lay (Nat.le_of_ble_eq_true rfl) (Nat.le_of_ble_eq_true rfl) (at_SH_0 (at_RS_sheet q44)) rfl rfl rfl (fun _ e l => c_X4_lay (at_RS_sheet q44) e l V) ?_
        intro M46
        refine jv_iconst (v := 1) dX7_sheet_84 (by decide) ?_
        exact vf_ret dX7_sheet_85 rfl
      refine jv_aloadn (j := 0) dX7_sheet_59 rfl ?_
      refine jv_iconst (v := 1) dX7_sheet_60 (by decide) ?_
      refine hv_callI (As := [.int 1]) dX7_sheet_61 lk7_55 kX7_error nX7_error (Nat.le_of_ble_eq_true rfl) (Nat.le_of_ble_eq_true rfl) at_RS_0 rfl rfl rfl (fun _ _ e l => c_X7_error  e l V) ?_
      intro r48 M47
      exact vf_ret dX7_sheet_64 rfl
    refine jv_iloadn (j := 3) dX7_sheet_39 rfl ?_
    refine jw_if_ge (tgt := 49) dX7_sheet_40 rfl (fun c40 => ?_) (fun c40 => ?_)
    · refine jv_iloadn (j := 2) dX7_sheet_49 rfl ?_
      refine jw_if_eq (tgt := 65) dX7_sheet_50 rfl (fun c50 => ?_) (fun c50 => ?_)
      · refine jv_aloadn (j := 0) dX7_sheet_65 rfl ?_
        refine hv_getR dX7_sheet_66 fl7_42 at_RS_0 rfl ?_
        refine jv_iloadn (j := 1) dX7_sheet_69 rfl ?_
        refine vf_chk (fun q49 => ?_)
        refine hv_aald dX7_sheet_70 at_RS_96 (ty := .object "RainShares$Sheet") (fun _ => rfl) rfl q49 (pl_sheet q49) ?_
        refine jv_iloadn (j := 2) dX7_sheet_71 rfl ?_
        refine jv_iloadn (j := 2) dX7_sheet_72 rfl ?_
        refine jw_if_ne (tgt := 80) dX7_sheet_73 rfl (fun c73 => ?_) (fun c73 => ?_)
        · refine jv_iconst (v := 0) dX7_sheet_76 (by decide) ?_
          refine jv_goto (tgt := 81) dX7_sheet_77 rfl ?_
          refine hv_callV (As := [.int x2, .int 0]) dX7_sheet_81 lk7_266 kX4_lay nX4_lay (Nat.le_of_ble_eq_true rfl) (Nat.le_of_ble_eq_true rfl) (at_SH_0 (at_RS_sheet q49)) rfl rfl rfl (fun _ e l => c_X4_lay (at_RS_sheet q49) e l V) ?_
          intro M50
          refine jv_iconst (v := 1) dX7_sheet_84 (by decide) ?_
          exact vf_ret dX7_sheet_85 rfl
        refine jv_iloadn (j := 3) dX7_sheet_80 rfl ?_
        refine hv_callV (As := [.int x2, .int x3]) dX7_sheet_81 lk7_266 kX4_lay nX4_lay (Nat.le_of_ble_eq_true rfl) (Nat.le_of_ble_eq_true rfl) (at_SH_0 (at_RS_sheet q49)) rfl rfl rfl (fun _ e l => c_X4_lay (at_RS_sheet q49) e l V) ?_
        intro M51
        refine jv_iconst (v := 1) dX7_sheet_84 (by decide) ?_
        exact vf_ret dX7_sheet_85 rfl
      refine jv_iloadn (j := 3) dX7_sheet_53 rfl ?_
      refine jv_bipush (v := 40) dX7_sheet_54 (by decide) ?_
      refine jw_ic_le (tgt := 65) dX7_sheet_56 rfl (fun c56 => ?_) (fun c56 => ?_)
      · refine jv_aloadn (j := 0) dX7_sheet_65 rfl ?_
        refine hv_getR dX7_sheet_66 fl7_42 at_RS_0 rfl ?_
        refine jv_iloadn (j := 1) dX7_sheet_69 rfl ?_
        refine vf_chk (fun q52 => ?_)
        refine hv_aald dX7_sheet_70 at_RS_96 (ty := .object "RainShares$Sheet") (fun _ => rfl) rfl q52 (pl_sheet q52) ?_
        refine jv_iloadn (j := 2) dX7_sheet_71 rfl ?_
        refine jv_iloadn (j := 2) dX7_sheet_72 rfl ?_
        refine jw_if_ne (tgt := 80) dX7_sheet_73 rfl (fun c73 => ?_) (fun c73 => ?_)
        · refine jv_iconst (v := 0) dX7_sheet_76 (by decide) ?_
          refine jv_goto (tgt := 81) dX7_sheet_77 rfl ?_
          refine hv_callV (As := [.int x2, .int 0]) dX7_sheet_81 lk7_266 kX4_lay nX4_lay (Nat.le_of_ble_eq_true rfl) (Nat.le_of_ble_eq_true rfl) (at_SH_0 (at_RS_sheet q52)) rfl rfl rfl (fun _ e l => c_X4_lay (at_RS_sheet q52) e l V) ?_
          intro M53
          refine jv_iconst (v := 1) dX7_sheet_84 (by decide) ?_
          exact vf_ret dX7_sheet_85 rfl
        refine jv_iloadn (j := 3) dX7_sheet_80 rfl ?_
        refine hv_callV (As := [.int x2, .int x3]) dX7_sheet_81 lk7_266 kX4_lay nX4_lay (Nat.le_of_ble_eq_true rfl) (Nat.le_of_ble_eq_true rfl) (at_SH_0 (at_RS_sheet q52)) rfl rfl rfl (fun _ e l => c_X4_lay (at_RS_sheet q52) e l V) ?_
        intro M54
        refine jv_iconst (v := 1) dX7_sheet_84 (by decide) ?_
        exact vf_ret dX7_sheet_85 rfl
      refine jv_aloadn (j := 0) dX7_sheet_59 rfl ?_
      refine jv_iconst (v := 1) dX7_sheet_60 (by decide) ?_
      refine hv_callI (As := [.int 1]) dX7_sheet_61 lk7_55 kX7_error nX7_error (Nat.le_of_ble_eq_true rfl) (Nat.le_of_ble_eq_true rfl) at_RS_0 rfl rfl rfl (fun _ _ e l => c_X7_error  e l V) ?_
      intro r56 M55
      exact vf_ret dX7_sheet_64 rfl
    refine jv_aloadn (j := 0) dX7_sheet_43 rfl ?_
    refine jv_iconst (v := 3) dX7_sheet_44 (by decide) ?_
    refine hv_callI (As := [.int 3]) dX7_sheet_45 lk7_55 kX7_error nX7_error (Nat.le_of_ble_eq_true rfl) (Nat.le_of_ble_eq_true rfl) at_RS_0 rfl rfl rfl (fun _ _ e l => c_X7_error  e l V) ?_
    intro r58 M57
    exact vf_ret dX7_sheet_48 rfl
  refine jv_iloadn (j := 2) dX7_sheet_23 rfl ?_
  refine jv_bipush (v := 32) dX7_sheet_24 (by decide) ?_
  refine jw_ic_eq (tgt := 35) dX7_sheet_26 rfl (fun c26 => ?_) (fun c26 => ?_)
  · refine jv_iloadn (j := 2) dX7_sheet_35 rfl ?_
    refine jw_if_eq (tgt := 49) dX7_sheet_36 rfl (fun c36 => ?_) (fun c36 => ?_)
    · refine jv_iloadn (j := 2) dX7_sheet_49 rfl ?_
      refine jw_if_eq (tgt := 65) dX7_sheet_50 rfl (fun c50 => ?_) (fun c50 => ?_)
      · refine jv_aloadn (j := 0) dX7_sheet_65 rfl ?_
        refine hv_getR dX7_sheet_66 fl7_42 at_RS_0 rfl ?_
        refine jv_iloadn (j := 1) dX7_sheet_69 rfl ?_
        refine vf_chk (fun q59 => ?_)
        refine hv_aald dX7_sheet_70 at_RS_96 (ty := .object "RainShares$Sheet") (fun _ => rfl) rfl q59 (pl_sheet q59) ?_
        refine jv_iloadn (j := 2) dX7_sheet_71 rfl ?_
        refine jv_iloadn (j := 2) dX7_sheet_72 rfl ?_
        refine jw_if_ne (tgt := 80) dX7_sheet_73 rfl (fun c73 => ?_) (fun c73 => ?_)
        · refine jv_iconst (v := 0) dX7_sheet_76 (by decide) ?_
          refine jv_goto (tgt := 81) dX7_sheet_77 rfl ?_
          refine hv_callV (As := [.int x2, .int 0]) dX7_sheet_81 lk7_266 kX4_lay nX4_lay (Nat.le_of_ble_eq_true rfl) (Nat.le_of_ble_eq_true rfl) (at_SH_0 (at_RS_sheet q59)) rfl rfl rfl (fun _ e l => c_X4_lay (at_RS_sheet q59) e l V) ?_
          intro M60
          refine jv_iconst (v := 1) dX7_sheet_84 (by decide) ?_
          exact vf_ret dX7_sheet_85 rfl
        refine jv_iloadn (j := 3) dX7_sheet_80 rfl ?_
        refine hv_callV (As := [.int x2, .int x3]) dX7_sheet_81 lk7_266 kX4_lay nX4_lay (Nat.le_of_ble_eq_true rfl) (Nat.le_of_ble_eq_true rfl) (at_SH_0 (at_RS_sheet q59)) rfl rfl rfl (fun _ e l => c_X4_lay (at_RS_sheet q59) e l V) ?_
        intro M61
        refine jv_iconst (v := 1) dX7_sheet_84 (by decide) ?_
        exact vf_ret dX7_sheet_85 rfl
      refine jv_iloadn (j := 3) dX7_sheet_53 rfl ?_
      refine jv_bipush (v := 40) dX7_sheet_54 (by decide) ?_
      refine jw_ic_le (tgt := 65) dX7_sheet_56 rfl (fun c56 => ?_) (fun c56 => ?_)
      · refine jv_aloadn (j := 0) dX7_sheet_65 rfl ?_
        refine hv_getR dX7_sheet_66 fl7_42 at_RS_0 rfl ?_
        refine jv_iloadn (j := 1) dX7_sheet_69 rfl ?_
        refine vf_chk (fun q62 => ?_)
        refine hv_aald dX7_sheet_70 at_RS_96 (ty := .object "RainShares$Sheet") (fun _ => rfl) rfl q62 (pl_sheet q62) ?_
        refine jv_iloadn (j := 2) dX7_sheet_71 rfl ?_
        refine jv_iloadn (j := 2) dX7_sheet_72 rfl ?_
        refine jw_if_ne (tgt := 80) dX7_sheet_73 rfl (fun c73 => ?_) (fun c73 => ?_)
        · refine jv_iconst (v := 0) dX7_sheet_76 (by decide) ?_
          refine jv_goto (tgt := 81) dX7_sheet_77 rfl ?_
          refine hv_callV (As := [.int x2, .int 0]) dX7_sheet_81 lk7_266 kX4_lay nX4_lay (Nat.le_of_ble_eq_true rfl) (Nat.le_of_ble_eq_true rfl) (at_SH_0 (at_RS_sheet q62)) rfl rfl rfl (fun _ e l => c_X4_lay (at_RS_sheet q62) e l V) ?_
          intro M63
          refine jv_iconst (v := 1) dX7_sheet_84 (by decide) ?_
          exact vf_ret dX7_sheet_85 rfl
        refine jv_iloadn (j := 3) dX7_sheet_80 rfl ?_
        refine hv_callV (As := [.int x2, .int x3]) dX7_sheet_81 lk7_266 kX4_lay nX4_lay (Nat.le_of_ble_eq_true rfl) (Nat.le_of_ble_eq_true rfl) (at_SH_0 (at_RS_sheet q62)) rfl rfl rfl (fun _ e l => c_X4_lay (at_RS_sheet q62) e l V) ?_
        intro M64
        refine jv_iconst (v := 1) dX7_sheet_84 (by decide) ?_
        exact vf_ret dX7_sheet_85 rfl
      refine jv_aloadn (j := 0) dX7_sheet_59 rfl ?_
      refine jv_iconst (v := 1) dX7_sheet_60 (by decide) ?_
      refine hv_callI (As := [.int 1]) dX7_sheet_61 lk7_55 kX7_error nX7_error (Nat.le_of_ble_eq_true rfl) (Nat.le_of_ble_eq_true rfl) at_RS_0 rfl rfl rfl (fun _ _ e l => c_X7_error  e l V) ?_
      intro r66 M65
      exact vf_ret dX7_sheet_64 rfl
    refine jv_iloadn (j := 3) dX7_sheet_39 rfl ?_
    refine jw_if_ge (tgt := 49) dX7_sheet_40 rfl (fun c40 => ?_) (fun c40 => ?_)
    · refine jv_iloadn (j := 2) dX7_sheet_49 rfl ?_
      refine jw_if_eq (tgt := 65) dX7_sheet_50 rfl (fun c50 => ?_) (fun c50 => ?_)
      · refine jv_aloadn (j := 0) dX7_sheet_65 rfl ?_
        refine hv_getR dX7_sheet_66 fl7_42 at_RS_0 rfl ?_
        refine jv_iloadn (j := 1) dX7_sheet_69 rfl ?_
        refine vf_chk (fun q67 => ?_)
        refine hv_aald dX7_sheet_70 at_RS_96 (ty := .object "RainShares$Sheet") (fun _ => rfl) rfl q67 (pl_sheet q67) ?_
        refine jv_iloadn (j := 2) dX7_sheet_71 rfl ?_
        refine jv_iloadn (j := 2) dX7_sheet_72 rfl ?_
        refine jw_if_ne (tgt := 80) dX7_sheet_73 rfl (fun c73 => ?_) (fun c73 => ?_)
        · refine jv_iconst (v := 0) dX7_sheet_76 (by decide) ?_
          refine jv_goto (tgt := 81) dX7_sheet_77 rfl ?_
          refine hv_callV (As := [.int x2, .int 0]) dX7_sheet_81 lk7_266 kX4_lay nX4_lay (Nat.le_of_ble_eq_true rfl) (Nat.le_of_ble_eq_true rfl) (at_SH_0 (at_RS_sheet q67)) rfl rfl rfl (fun _ e l => c_X4_lay (at_RS_sheet q67) e l V) ?_
          intro M68
          refine jv_iconst (v := 1) dX7_sheet_84 (by decide) ?_
          exact vf_ret dX7_sheet_85 rfl
        refine jv_iloadn (j := 3) dX7_sheet_80 rfl ?_
        refine hv_callV (As := [.int x2, .int x3]) dX7_sheet_81 lk7_266 kX4_lay nX4_lay (Nat.le_of_ble_eq_true rfl) (Nat.le_of_ble_eq_true rfl) (at_SH_0 (at_RS_sheet q67)) rfl rfl rfl (fun _ e l => c_X4_lay (at_RS_sheet q67) e l V) ?_
        intro M69
        refine jv_iconst (v := 1) dX7_sheet_84 (by decide) ?_
        exact vf_ret dX7_sheet_85 rfl
      refine jv_iloadn (j := 3) dX7_sheet_53 rfl ?_
      refine jv_bipush (v := 40) dX7_sheet_54 (by decide) ?_
      refine jw_ic_le (tgt := 65) dX7_sheet_56 rfl (fun c56 => ?_) (fun c56 => ?_)
      · refine jv_aloadn (j := 0) dX7_sheet_65 rfl ?_
        refine hv_getR dX7_sheet_66 fl7_42 at_RS_0 rfl ?_
        refine jv_iloadn (j := 1) dX7_sheet_69 rfl ?_
        refine vf_chk (fun q70 => ?_)
        refine hv_aald dX7_sheet_70 at_RS_96 (ty := .object "RainShares$Sheet") (fun _ => rfl) rfl q70 (pl_sheet q70) ?_
        refine jv_iloadn (j := 2) dX7_sheet_71 rfl ?_
        refine jv_iloadn (j := 2) dX7_sheet_72 rfl ?_
        refine jw_if_ne (tgt := 80) dX7_sheet_73 rfl (fun c73 => ?_) (fun c73 => ?_)
        · refine jv_iconst (v := 0) dX7_sheet_76 (by decide) ?_
          refine jv_goto (tgt := 81) dX7_sheet_77 rfl ?_
          refine hv_callV (As := [.int x2, .int 0]) dX7_sheet_81 lk7_266 kX4_lay nX4_lay (Nat.le_of_ble_eq_true rfl) (Nat.le_of_ble_eq_true rfl) (at_SH_0 (at_RS_sheet q70)) rfl rfl rfl (fun _ e l => c_X4_lay (at_RS_sheet q70) e l V) ?_
          intro M71
          refine jv_iconst (v := 1) dX7_sheet_84 (by decide) ?_
          exact vf_ret dX7_sheet_85 rfl
        refine jv_iloadn (j := 3) dX7_sheet_80 rfl ?_
        refine hv_callV (As := [.int x2, .int x3]) dX7_sheet_81 lk7_266 kX4_lay nX4_lay (Nat.le_of_ble_eq_true rfl) (Nat.le_of_ble_eq_true rfl) (at_SH_0 (at_RS_sheet q70)) rfl rfl rfl (fun _ e l => c_X4_lay (at_RS_sheet q70) e l V) ?_
        intro M72
        refine jv_iconst (v := 1) dX7_sheet_84 (by decide) ?_
        exact vf_ret dX7_sheet_85 rfl
      refine jv_aloadn (j := 0) dX7_sheet_59 rfl ?_
      refine jv_iconst (v := 1) dX7_sheet_60 (by decide) ?_
      refine hv_callI (As := [.int 1]) dX7_sheet_61 lk7_55 kX7_error nX7_error (Nat.le_of_ble_eq_true rfl) (Nat.le_of_ble_eq_true rfl) at_RS_0 rfl rfl rfl (fun _ _ e l => c_X7_error  e l V) ?_
      intro r74 M73
      exact vf_ret dX7_sheet_64 rfl
    refine jv_aloadn (j := 0) dX7_sheet_43 rfl ?_
    refine jv_iconst (v := 3) dX7_sheet_44 (by decide) ?_
    refine hv_callI (As := [.int 3]) dX7_sheet_45 lk7_55 kX7_error nX7_error (Nat.le_of_ble_eq_true rfl) (Nat.le_of_ble_eq_true rfl) at_RS_0 rfl rfl rfl (fun _ _ e l => c_X7_error  e l V) ?_
    intro r76 M75
    exact vf_ret dX7_sheet_48 rfl
  refine jv_aloadn (j := 0) dX7_sheet_29 rfl ?_
  refine jv_iconst (v := 1) dX7_sheet_30 (by decide) ?_
  refine hv_callI (As := [.int 1]) dX7_sheet_31 lk7_55 kX7_error nX7_error (Nat.le_of_ble_eq_true rfl) (Nat.le_of_ble_eq_true rfl) at_RS_0 rfl rfl rfl (fun _ _ e l => c_X7_error  e l V) ?_
  intro r78 M77
  exact vf_ret dX7_sheet_34 rfl
theorem c_X7_sheet {M : pm_M} {x1 : Int32} {x2 : Int32} {x3 : Int32}  {r : Int32} {M' : pm_M} (h : f_X7_sheet M x1 x2 x3 = some (r, M')) (l : Launch) (V : pm_V) : pm_Ci l V skC yX7_sheet mX7_sheet 3 [.ref (V.1 0), .int x1, .int x2, .int x3] M r M' := pm_metI (by decide) rfl (Nat.le_of_ble_eq_true rfl) h (fun _ => w_X7_sheet M x1 x2 x3 )
def f_X7_put (M : pm_M) (x1 : Int32) (x2 : Int32) (x3 : Int32) : Option (Int32 × pm_M) :=
  (pm_b2 (f_X7_isSheet M x1) (fun (r2 : Int32) (M1 : pm_M) => (if r2 = 0 then (pm_b2 (f_X7_error M1 1) (fun (r4 : Int32) (M3 : pm_M) => (some (r4, M3)))) else (pm_chk (pm_in x1 4) (pm_b2 (f_X4_isMissing (97 + 2 * x1.toNatClampNeg) M1) (fun (r7 : Int32) (M6 : pm_M) => (if r7 = 0 then (if x2 < 0 then (pm_b2 (f_X7_error M6 1) (fun (r9 : Int32) (M8 : pm_M) => (some (r9, M8)))) else (if x2 < (M6 (97 + 2 * x1.toNatClampNeg) 1) then (pm_b2 (f_X4_cutToBits (97 + 2 * x1.toNatClampNeg) M6 x3) (fun (r11 : Int32) (M10 : pm_M) => (pm_chk (pm_in x2 40) (pm_let (pm_up M10 ((97 + 2 * x1.toNatClampNeg) + 1) x2.toNatClampNeg r11) (fun M12 : pm_M => (some (1, M12))))))) else (pm_b2 (f_X7_error M6 1) (fun (r14 : Int32) (M13 : pm_M) => (some (r14, M13)))))) else (pm_b2 (f_X7_error M6 2) (fun (r16 : Int32) (M15 : pm_M) => (some (r16, M15)))))))))))
set_option maxHeartbeats 4000000 in
set_option maxRecDepth 100000 in
theorem w_X7_put {X : pm_X} {V : pm_V} (M : pm_M) (x1 : Int32) (x2 : Int32) (x3 : Int32)  : pm_VF (f_X7_put M x1 x2 x3) (pm_K X V mX7_put 3 skC) (pm_J X V mX7_put 3 (pm_wld V skC M) 0 [(0, .ref (V.1 0)), (1, .int x1), (2, .int x2), (3, .int x3)] []) := by
  unfold f_X7_put
  refine jv_iloadn (j := 1) dX7_put_0 rfl ?_
  refine hv_callS (As := [.int x1]) dX7_put_1 lk7_232 kX7_isSheet nX7_isSheet (Nat.le_of_ble_eq_true rfl) (Nat.le_of_ble_eq_true rfl) rfl (fun _ _ e l => c_X7_isSheet  e l V) ?_
  intro r2 M1
  refine jw_if_ne (tgt := 13) dX7_put_4 rfl (fun c4 => ?_) (fun c4 => ?_)
  · refine jv_aloadn (j := 0) dX7_put_7 rfl ?_
    refine jv_iconst (v := 1) dX7_put_8 (by decide) ?_
    refine hv_callI (As := [.int 1]) dX7_put_9 lk7_55 kX7_error nX7_error (Nat.le_of_ble_eq_true rfl) (Nat.le_of_ble_eq_true rfl) at_RS_0 rfl rfl rfl (fun _ _ e l => c_X7_error  e l V) ?_
    intro r4 M3
    exact vf_ret dX7_put_12 rfl
  refine jv_aloadn (j := 0) dX7_put_13 rfl ?_
  refine hv_getR dX7_put_14 fl7_42 at_RS_0 rfl ?_
  refine jv_iloadn (j := 1) dX7_put_17 rfl ?_
  refine vf_chk (fun q5 => ?_)
  refine hv_aald dX7_put_18 at_RS_96 (ty := .object "RainShares$Sheet") (fun _ => rfl) rfl q5 (pl_sheet q5) ?_
  refine jv_astore (L' := [(4, .ref (V.1 (97 + 2 * x1.toNatClampNeg))), (0, .ref (V.1 0)), (1, .int x1), (2, .int x2), (3, .int x3)]) dX7_put_19 (Nat.le_of_ble_eq_true rfl) rfl ?_
  refine jv_aload (j := 0) dX7_put_21 rfl ?_
  refine hv_callI (As := []) dX7_put_23 lk7_235 kX4_isMissing nX4_isMissing (Nat.le_of_ble_eq_true rfl) (Nat.le_of_ble_eq_true rfl) (at_SH_0 (at_RS_sheet q5)) rfl rfl rfl (fun _ _ e l => c_X4_isMissing (at_RS_sheet q5) e l V) ?_
  intro r7 M6
  refine jw_if_eq (tgt := 35) dX7_put_26 rfl (fun c26 => ?_) (fun c26 => ?_)
  · refine jv_iloadn (j := 3) dX7_put_35 rfl ?_
    refine jw_if_lt (tgt := 48) dX7_put_36 rfl (fun c36 => ?_) (fun c36 => ?_)
    · refine jv_aloadn (j := 1) dX7_put_48 rfl ?_
      refine jv_iconst (v := 1) dX7_put_49 (by decide) ?_
      refine hv_callI (As := [.int 1]) dX7_put_50 lk7_55 kX7_error nX7_error (Nat.le_of_ble_eq_true rfl) (Nat.le_of_ble_eq_true rfl) at_RS_0 rfl rfl rfl (fun _ _ e l => c_X7_error  e l V) ?_
      intro r9 M8
      exact vf_ret dX7_put_53 rfl
    refine jv_iloadn (j := 3) dX7_put_39 rfl ?_
    refine jv_aload (j := 0) dX7_put_40 rfl ?_
    refine hv_getI dX7_put_42 fl7_239 (at_SH_0 (at_RS_sheet q5)) rfl ?_
    refine jw_ic_lt (tgt := 54) dX7_put_45 rfl (fun c45 => ?_) (fun c45 => ?_)
    · refine jv_aload (j := 0) dX7_put_54 rfl ?_
      refine hv_getR dX7_put_56 fl7_243 (at_SH_0 (at_RS_sheet q5)) rfl ?_
      refine jv_iloadn (j := 3) dX7_put_59 rfl ?_
      refine jv_aload (j := 0) dX7_put_60 rfl ?_
      refine jv_iloadn (j := 4) dX7_put_62 rfl ?_
      refine hv_callI (As := [.int x3]) dX7_put_63 lk7_269 kX4_cutToBits nX4_cutToBits (Nat.le_of_ble_eq_true rfl) (Nat.le_of_ble_eq_true rfl) (at_SH_0 (at_RS_sheet q5)) rfl rfl rfl (fun _ _ e l => c_X4_cutToBits (at_RS_sheet q5) e l V) ?_
      intro r11 M10
      refine hv_iastC dX7_put_66 (at_SH_1 (at_RS_sheet q5)) (fun _ => ?_)
      refine vf_letM (fun M12 => ?_)
      refine jv_iconst (v := 1) dX7_put_67 (by decide) ?_
      exact vf_ret dX7_put_68 rfl
    refine jv_aloadn (j := 1) dX7_put_48 rfl ?_
    refine jv_iconst (v := 1) dX7_put_49 (by decide) ?_
    refine hv_callI (As := [.int 1]) dX7_put_50 lk7_55 kX7_error nX7_error (Nat.le_of_ble_eq_true rfl) (Nat.le_of_ble_eq_true rfl) at_RS_0 rfl rfl rfl (fun _ _ e l => c_X7_error  e l V) ?_
    intro r14 M13
    exact vf_ret dX7_put_53 rfl
  refine jv_aloadn (j := 1) dX7_put_29 rfl ?_
  refine jv_iconst (v := 2) dX7_put_30 (by decide) ?_
  refine hv_callI (As := [.int 2]) dX7_put_31 lk7_55 kX7_error nX7_error (Nat.le_of_ble_eq_true rfl) (Nat.le_of_ble_eq_true rfl) at_RS_0 rfl rfl rfl (fun _ _ e l => c_X7_error  e l V) ?_
  intro r16 M15
  exact vf_ret dX7_put_34 rfl
theorem c_X7_put {M : pm_M} {x1 : Int32} {x2 : Int32} {x3 : Int32}  {r : Int32} {M' : pm_M} (h : f_X7_put M x1 x2 x3 = some (r, M')) (l : Launch) (V : pm_V) : pm_Ci l V skC yX7_put mX7_put 3 [.ref (V.1 0), .int x1, .int x2, .int x3] M r M' := pm_metI (by decide) rfl (Nat.le_of_ble_eq_true rfl) h (fun _ => w_X7_put M x1 x2 x3 )
def f_X7_move (M : pm_M) (x1 : Int32) (x2 : Int32) (x3 : Int32) (x4 : Int32) (x5 : Int32) : Option (Int32 × pm_M) :=
  (pm_b2 (f_X7_isSheet M x1) (fun (r2 : Int32) (M1 : pm_M) => (if r2 = 0 then (pm_b2 (f_X7_error M1 1) (fun (r4 : Int32) (M3 : pm_M) => (some (r4, M3)))) else (pm_b2 (f_X7_isSheet M1 x3) (fun (r6 : Int32) (M5 : pm_M) => (if r6 = 0 then (pm_b2 (f_X7_error M5 1) (fun (r8 : Int32) (M7 : pm_M) => (some (r8, M7)))) else (pm_chk (pm_in x1 4) (pm_chk (pm_in x3 4) (pm_b2 (f_X4_isMissing (97 + 2 * x1.toNatClampNeg) M5) (fun (r12 : Int32) (M11 : pm_M) => (if r12 = 0 then (pm_b2 (f_X4_isMissing (97 + 2 * x3.toNatClampNeg) M11) (fun (r14 : Int32) (M13 : pm_M) => (if r14 = 0 then (if (M13 (97 + 2 * x1.toNatClampNeg) 0) = (M13 (97 + 2 * x3.toNatClampNeg) 0) then (pm_b2 (f_X4_holds (97 + 2 * x1.toNatClampNeg) M13 x2 x5) (fun (r16 : Int32) (M15 : pm_M) => (if r16 = 0 then (pm_b2 (f_X7_error M15 1) (fun (r18 : Int32) (M17 : pm_M) => (some (r18, M17)))) else (pm_b2 (f_X4_holds (97 + 2 * x3.toNatClampNeg) M15 x4 x5) (fun (r20 : Int32) (M19 : pm_M) => (if r20 = 0 then (pm_b2 (f_X7_error M19 1) (fun (r22 : Int32) (M21 : pm_M) => (some (r22, M21)))) else (pm_chk (pm_cin x2 x4 x5 40 40) (pm_let (pm_cpy M19 ((97 + 2 * x1.toNatClampNeg) + 1) x2.toNatClampNeg ((97 + 2 * x3.toNatClampNeg) + 1) x4.toNatClampNeg x5.toNatClampNeg) (fun M23 : pm_M => (some (x5, M23))))))))))) else (pm_b2 (f_X7_error M13 5) (fun (r25 : Int32) (M24 : pm_M) => (some (r25, M24))))) else (pm_b2 (f_X7_error M13 2) (fun (r27 : Int32) (M26 : pm_M) => (some (r27, M26))))))) else (pm_b2 (f_X7_error M11 2) (fun (r29 : Int32) (M28 : pm_M) => (some (r29, M28)))))))))))))))
set_option maxHeartbeats 4000000 in
set_option maxRecDepth 100000 in
theorem w_X7_move {X : pm_X} {V : pm_V} (M : pm_M) (x1 : Int32) (x2 : Int32) (x3 : Int32) (x4 : Int32) (x5 : Int32)  : pm_VF (f_X7_move M x1 x2 x3 x4 x5) (pm_K X V mX7_move 3 skC) (pm_J X V mX7_move 3 (pm_wld V skC M) 0 [(0, .ref (V.1 0)), (1, .int x1), (2, .int x2), (3, .int x3), (4, .int x4), (5, .int x5)] []) := by
  unfold f_X7_move
  refine jv_iloadn (j := 1) dX7_move_0 rfl ?_
  refine hv_callS (As := [.int x1]) dX7_move_1 lk7_232 kX7_isSheet nX7_isSheet (Nat.le_of_ble_eq_true rfl) (Nat.le_of_ble_eq_true rfl) rfl (fun _ _ e l => c_X7_isSheet  e l V) ?_
  intro r2 M1
  refine jw_if_eq (tgt := 14) dX7_move_4 rfl (fun c4 => ?_) (fun c4 => ?_)
  · refine jv_aloadn (j := 0) dX7_move_14 rfl ?_
    refine jv_iconst (v := 1) dX7_move_15 (by decide) ?_
    refine hv_callI (As := [.int 1]) dX7_move_16 lk7_55 kX7_error nX7_error (Nat.le_of_ble_eq_true rfl) (Nat.le_of_ble_eq_true rfl) at_RS_0 rfl rfl rfl (fun _ _ e l => c_X7_error  e l V) ?_
    intro r4 M3
    exact vf_ret dX7_move_19 rfl
  refine jv_iloadn (j := 3) dX7_move_7 rfl ?_
  refine hv_callS (As := [.int x3]) dX7_move_8 lk7_232 kX7_isSheet nX7_isSheet (Nat.le_of_ble_eq_true rfl) (Nat.le_of_ble_eq_true rfl) rfl (fun _ _ e l => c_X7_isSheet  e l V) ?_
  intro r6 M5
  refine jw_if_ne (tgt := 20) dX7_move_11 rfl (fun c11 => ?_) (fun c11 => ?_)
  · refine jv_aloadn (j := 0) dX7_move_14 rfl ?_
    refine jv_iconst (v := 1) dX7_move_15 (by decide) ?_
    refine hv_callI (As := [.int 1]) dX7_move_16 lk7_55 kX7_error nX7_error (Nat.le_of_ble_eq_true rfl) (Nat.le_of_ble_eq_true rfl) at_RS_0 rfl rfl rfl (fun _ _ e l => c_X7_error  e l V) ?_
    intro r8 M7
    exact vf_ret dX7_move_19 rfl
  refine jv_aloadn (j := 0) dX7_move_20 rfl ?_
  refine hv_getR dX7_move_21 fl7_42 at_RS_0 rfl ?_
  refine jv_iloadn (j := 1) dX7_move_24 rfl ?_
  refine vf_chk (fun q9 => ?_)
  refine hv_aald dX7_move_25 at_RS_96 (ty := .object "RainShares$Sheet") (fun _ => rfl) rfl q9 (pl_sheet q9) ?_
  refine jv_astore (L' := [(6, .ref (V.1 (97 + 2 * x1.toNatClampNeg))), (0, .ref (V.1 0)), (1, .int x1), (2, .int x2), (3, .int x3), (4, .int x4), (5, .int x5)]) dX7_move_26 (Nat.le_of_ble_eq_true rfl) rfl ?_
  refine jv_aloadn (j := 1) dX7_move_28 rfl ?_
  refine hv_getR dX7_move_29 fl7_42 at_RS_0 rfl ?_
  refine jv_iloadn (j := 4) dX7_move_32 rfl ?_
  refine vf_chk (fun q10 => ?_)
  refine hv_aald dX7_move_33 at_RS_96 (ty := .object "RainShares$Sheet") (fun _ => rfl) rfl q10 (pl_sheet q10) ?_
  refine jv_astore (L' := [(7, .ref (V.1 (97 + 2 * x3.toNatClampNeg))), (6, .ref (V.1 (97 + 2 * x1.toNatClampNeg))), (0, .ref (V.1 0)), (1, .int x1), (2, .int x2), (3, .int x3), (4, .int x4), (5, .int x5)]) dX7_move_34 (Nat.le_of_ble_eq_true rfl) rfl ?_
  refine jv_aload (j := 1) dX7_move_36 rfl ?_
  refine hv_callI (As := []) dX7_move_38 lk7_235 kX4_isMissing nX4_isMissing (Nat.le_of_ble_eq_true rfl) (Nat.le_of_ble_eq_true rfl) (at_SH_0 (at_RS_sheet q9)) rfl rfl rfl (fun _ _ e l => c_X4_isMissing (at_RS_sheet q9) e l V) ?_
  intro r12 M11
  refine jw_if_ne (tgt := 52) dX7_move_41 rfl (fun c41 => ?_) (fun c41 => ?_)
  · refine jv_aload (j := 0) dX7_move_44 rfl ?_
    refine hv_callI (As := []) dX7_move_46 lk7_235 kX4_isMissing nX4_isMissing (Nat.le_of_ble_eq_true rfl) (Nat.le_of_ble_eq_true rfl) (at_SH_0 (at_RS_sheet q10)) rfl rfl rfl (fun _ _ e l => c_X4_isMissing (at_RS_sheet q10) e l V) ?_
    intro r14 M13
    refine jw_if_eq (tgt := 58) dX7_move_49 rfl (fun c49 => ?_) (fun c49 => ?_)
    · refine jv_aload (j := 1) dX7_move_58 rfl ?_
      refine hv_getI dX7_move_60 fl7_272 (at_SH_0 (at_RS_sheet q9)) rfl ?_
      refine jv_aload (j := 0) dX7_move_63 rfl ?_
      refine hv_getI dX7_move_65 fl7_272 (at_SH_0 (at_RS_sheet q10)) rfl ?_
      refine jw_ic_eq (tgt := 77) dX7_move_68 rfl (fun c68 => ?_) (fun c68 => ?_)
      · refine jv_aload (j := 1) dX7_move_77 rfl ?_
        refine jv_iloadn (j := 4) dX7_move_79 rfl ?_
        refine jv_iload (j := 7) dX7_move_80 rfl ?_
        refine hv_callI (As := [.int x2, .int x5]) dX7_move_82 lk7_275 kX4_holds nX4_holds (Nat.le_of_ble_eq_true rfl) (Nat.le_of_ble_eq_true rfl) (at_SH_0 (at_RS_sheet q9)) rfl rfl rfl (fun _ _ e l => c_X4_holds (at_RS_sheet q9) e l V) ?_
        intro r16 M15
        refine jw_if_eq (tgt := 100) dX7_move_85 rfl (fun c85 => ?_) (fun c85 => ?_)
        · refine jv_aloadn (j := 2) dX7_move_100 rfl ?_
          refine jv_iconst (v := 1) dX7_move_101 (by decide) ?_
          refine hv_callI (As := [.int 1]) dX7_move_102 lk7_55 kX7_error nX7_error (Nat.le_of_ble_eq_true rfl) (Nat.le_of_ble_eq_true rfl) at_RS_0 rfl rfl rfl (fun _ _ e l => c_X7_error  e l V) ?_
          intro r18 M17
          exact vf_ret dX7_move_105 rfl
        refine jv_aload (j := 0) dX7_move_88 rfl ?_
        refine jv_iload (j := 6) dX7_move_90 rfl ?_
        refine jv_iload (j := 7) dX7_move_92 rfl ?_
        refine hv_callI (As := [.int x4, .int x5]) dX7_move_94 lk7_275 kX4_holds nX4_holds (Nat.le_of_ble_eq_true rfl) (Nat.le_of_ble_eq_true rfl) (at_SH_0 (at_RS_sheet q10)) rfl rfl rfl (fun _ _ e l => c_X4_holds (at_RS_sheet q10) e l V) ?_
        intro r20 M19
        refine jw_if_ne (tgt := 106) dX7_move_97 rfl (fun c97 => ?_) (fun c97 => ?_)
        · refine jv_aloadn (j := 2) dX7_move_100 rfl ?_
          refine jv_iconst (v := 1) dX7_move_101 (by decide) ?_
          refine hv_callI (As := [.int 1]) dX7_move_102 lk7_55 kX7_error nX7_error (Nat.le_of_ble_eq_true rfl) (Nat.le_of_ble_eq_true rfl) at_RS_0 rfl rfl rfl (fun _ _ e l => c_X7_error  e l V) ?_
          intro r22 M21
          exact vf_ret dX7_move_105 rfl
        refine jv_aload (j := 1) dX7_move_106 rfl ?_
        refine hv_getR dX7_move_108 fl7_243 (at_SH_0 (at_RS_sheet q9)) rfl ?_
        refine jv_iloadn (j := 4) dX7_move_111 rfl ?_
        refine jv_aload (j := 0) dX7_move_112 rfl ?_
        refine hv_getR dX7_move_114 fl7_243 (at_SH_0 (at_RS_sheet q10)) rfl ?_
        refine jv_iload (j := 6) dX7_move_117 rfl ?_
        refine jv_iload (j := 7) dX7_move_119 rfl ?_
        refine hv_copyC dX7_move_121 lk7_278 lkS_n lkS_s lkS_i (Nat.le_of_ble_eq_true rfl) (at_SH_1 (at_RS_sheet q9)) (at_SH_1 (at_RS_sheet q10)) (fun _ => ?_)
        refine vf_letM (fun M23 => ?_)
        refine jv_iload (j := 7) dX7_move_124 rfl ?_
        exact vf_ret dX7_move_126 rfl
      refine jv_aloadn (j := 2) dX7_move_71 rfl ?_
      refine jv_iconst (v := 5) dX7_move_72 (by decide) ?_
      refine hv_callI (As := [.int 5]) dX7_move_73 lk7_55 kX7_error nX7_error (Nat.le_of_ble_eq_true rfl) (Nat.le_of_ble_eq_true rfl) at_RS_0 rfl rfl rfl (fun _ _ e l => c_X7_error  e l V) ?_
      intro r25 M24
      exact vf_ret dX7_move_76 rfl
    refine jv_aloadn (j := 2) dX7_move_52 rfl ?_
    refine jv_iconst (v := 2) dX7_move_53 (by decide) ?_
    refine hv_callI (As := [.int 2]) dX7_move_54 lk7_55 kX7_error nX7_error (Nat.le_of_ble_eq_true rfl) (Nat.le_of_ble_eq_true rfl) at_RS_0 rfl rfl rfl (fun _ _ e l => c_X7_error  e l V) ?_
    intro r27 M26
    exact vf_ret dX7_move_57 rfl
  refine jv_aloadn (j := 2) dX7_move_52 rfl ?_
  refine jv_iconst (v := 2) dX7_move_53 (by decide) ?_
  refine hv_callI (As := [.int 2]) dX7_move_54 lk7_55 kX7_error nX7_error (Nat.le_of_ble_eq_true rfl) (Nat.le_of_ble_eq_true rfl) at_RS_0 rfl rfl rfl (fun _ _ e l => c_X7_error  e l V) ?_
  intro r29 M28
  exact vf_ret dX7_move_57 rfl
theorem c_X7_move {M : pm_M} {x1 : Int32} {x2 : Int32} {x3 : Int32} {x4 : Int32} {x5 : Int32}  {r : Int32} {M' : pm_M} (h : f_X7_move M x1 x2 x3 x4 x5 = some (r, M')) (l : Launch) (V : pm_V) : pm_Ci l V skC yX7_move mX7_move 3 [.ref (V.1 0), .int x1, .int x2, .int x3, .int x4, .int x5] M r M' := pm_metI (by decide) rfl (Nat.le_of_ble_eq_true rfl) h (fun _ => w_X7_move M x1 x2 x3 x4 x5 )
def lb_X7_shares_35 (x1 : Int32) (ih : Int32 → pm_M → Option (Int32 × pm_M)) : Int32 → pm_M → Option (Int32 × pm_M) := fun (l3 : Int32) (Ml : pm_M) =>
  (if (Ml (97 + 2 * x1.toNatClampNeg) 1) ≤ l3 then (some (l3, Ml)) else (if (Ml (1 + 1) 0) ≤ l3 then (some (l3, Ml)) else (pm_chk (pm_in l3 40) (pm_b2 (f_X7_within Ml (Ml ((97 + 2 * x1.toNatClampNeg) + 1) l3.toNatClampNeg) 0 99) (fun (r36003 : Int32) (M36002 : pm_M) => (if r36003 = 0 then (some (l3, M36002)) else (pm_chk (pm_in l3 40) (pm_chk (pm_in l3 6) (pm_let (pm_up M36002 ((1 + 1) + 1) l3.toNatClampNeg (M36002 ((97 + 2 * x1.toNatClampNeg) + 1) l3.toNatClampNeg)) (fun M36004 : pm_M => (ih (l3 + 1) M36004)))))))))))
def lp_X7_shares_35 (x1 : Int32) : Int32 → pm_M → Option (Int32 × pm_M) := pm_it (fun _ _ => none) (lb_X7_shares_35 x1) pm_F
def f_X7_shares (M : pm_M) (x1 : Int32) : Option (Int32 × pm_M) :=
  (pm_b2 (f_X7_isSheet M x1) (fun (r2 : Int32) (M1 : pm_M) => (if r2 = 0 then (pm_b2 (f_X7_error M1 1) (fun (r4 : Int32) (M3 : pm_M) => (some (r4, M3)))) else (pm_chk (pm_in x1 4) (pm_b2 (f_X4_isMissing (97 + 2 * x1.toNatClampNeg) M1) (fun (r7 : Int32) (M6 : pm_M) => (if r7 = 0 then (pm_b2 (lp_X7_shares_35 x1 0 M6) (fun (l8 : Int32) (M9 : pm_M) => (some (l8, M9)))) else (pm_b2 (f_X7_error M6 2) (fun (r11 : Int32) (M10 : pm_M) => (some (r11, M10)))))))))))
set_option maxHeartbeats 4000000 in
set_option maxRecDepth 100000 in
theorem wl_X7_shares_35 {X : pm_X} {V : pm_V} (x1 : Int32) (q5 : pm_in x1 4 = true) : ∀ (l3 : Int32) (Ml : pm_M), pm_VF (lp_X7_shares_35 x1 l3 Ml) (fun b => (fun (l3 : Int32) (Ml : pm_M) => pm_J X V mX7_shares 3 (pm_wld V skC Ml) 96 [(3, .int l3)] []) b.1 b.2) (pm_J X V mX7_shares 3 (pm_wld V skC Ml) 35 [(0, .ref (V.1 0)), (2, .ref (V.1 (97 + 2 * x1.toNatClampNeg))), (3, .int l3)] []) := by
  refine pm_it_ind (P := fun (f : Int32 → pm_M → Option (Int32 × pm_M)) => ∀ (l3 : Int32) (Ml : pm_M), pm_VF (f l3 Ml) (fun b => (fun (l3 : Int32) (Ml : pm_M) => pm_J X V mX7_shares 3 (pm_wld V skC Ml) 96 [(3, .int l3)] []) b.1 b.2) (pm_J X V mX7_shares 3 (pm_wld V skC Ml) 35 [(0, .ref (V.1 0)), (2, .ref (V.1 (97 + 2 * x1.toNatClampNeg))), (3, .int l3)] [])) (fun _ _ => vf_none) (fun ih hih l3 Ml => ?_) pm_F
  · unfold lb_X7_shares_35
    refine jv_iloadn (j := 2) dX7_shares_35 rfl ?_
    refine jv_aloadn (j := 1) dX7_shares_36 rfl ?_
    refine hv_getI dX7_shares_37 fl7_239 (at_SH_0 (at_RS_sheet q5)) rfl ?_
    refine jw_ic_ge (tgt := 96) dX7_shares_40 rfl (fun c40 => ?_) (fun c40 => ?_)
    · exact vf_end (fun g => jr_sub [2] rfl g)
    refine jv_iloadn (j := 2) dX7_shares_43 rfl ?_
    refine jv_aloadn (j := 0) dX7_shares_44 rfl ?_
    refine hv_getR dX7_shares_45 fl7_10 at_RS_0 rfl ?_
    refine hv_getR dX7_shares_48 fl7_59 (at_VA_0 at_RS_now) rfl ?_
    refine hv_getI dX7_shares_51 fl7_63 (at_RO_0 (at_VA_ro at_RS_now)) rfl ?_
    refine jw_ic_ge (tgt := 96) dX7_shares_54 rfl (fun c54 => ?_) (fun c54 => ?_)
    · exact vf_end (fun g => jr_sub [2] rfl g)
    refine jv_aloadn (j := 1) dX7_shares_57 rfl ?_
    refine hv_getR dX7_shares_58 fl7_243 (at_SH_0 (at_RS_sheet q5)) rfl ?_
    refine jv_iloadn (j := 2) dX7_shares_61 rfl ?_
    refine hv_ialdC dX7_shares_62 (at_SH_1 (at_RS_sheet q5)) (fun _ => ?_)
    refine jv_iconst (v := 0) dX7_shares_63 (by decide) ?_
    refine jv_bipush (v := 99) dX7_shares_64 (by decide) ?_
    refine hv_callS (As := [.int (Ml ((97 + 2 * x1.toNatClampNeg) + 1) l3.toNatClampNeg), .int 0, .int 99]) dX7_shares_66 lk7_51 kX7_within nX7_within (Nat.le_of_ble_eq_true rfl) (Nat.le_of_ble_eq_true rfl) rfl (fun _ _ e l => c_X7_within  e l V) ?_
    intro r36003 M36002
    refine jw_if_eq (tgt := 96) dX7_shares_69 rfl (fun c69 => ?_) (fun c69 => ?_)
    · exact vf_end (fun g => jr_sub [2] rfl g)
    refine jv_aloadn (j := 0) dX7_shares_72 rfl ?_
    refine hv_getR dX7_shares_73 fl7_10 at_RS_0 rfl ?_
    refine hv_getR dX7_shares_76 fl7_59 (at_VA_0 at_RS_now) rfl ?_
    refine hv_getR dX7_shares_79 fl7_75 (at_RO_0 (at_VA_ro at_RS_now)) rfl ?_
    refine jv_iloadn (j := 2) dX7_shares_82 rfl ?_
    refine jv_aloadn (j := 1) dX7_shares_83 rfl ?_
    refine hv_getR dX7_shares_84 fl7_243 (at_SH_0 (at_RS_sheet q5)) rfl ?_
    refine jv_iloadn (j := 2) dX7_shares_87 rfl ?_
    refine hv_ialdC dX7_shares_88 (at_SH_1 (at_RS_sheet q5)) (fun _ => ?_)
    refine hv_iastC dX7_shares_89 (at_RO_1 (at_VA_ro at_RS_now)) (fun _ => ?_)
    refine vf_letM (fun M36004 => ?_)
    refine jv_iinc (j := 2) (v := l3 + 1) (L' := [(3, .int (l3 + 1)), (0, .ref (V.1 0)), (2, .ref (V.1 (97 + 2 * x1.toNatClampNeg)))]) dX7_shares_90 rfl rfl (Nat.le_of_ble_eq_true rfl) rfl ?_
    refine jv_goto (tgt := 35) dX7_shares_93 rfl ?_
    exact vf_j (fun g => jr_sub [1, 2, 0] rfl g) (hih (l3 + 1) M36004)
set_option maxHeartbeats 4000000 in
set_option maxRecDepth 100000 in
theorem w_X7_shares {X : pm_X} {V : pm_V} (M : pm_M) (x1 : Int32)  : pm_VF (f_X7_shares M x1) (pm_K X V mX7_shares 3 skC) (pm_J X V mX7_shares 3 (pm_wld V skC M) 0 [(0, .ref (V.1 0)), (1, .int x1)] []) := by
  unfold f_X7_shares
  refine jv_iloadn (j := 1) dX7_shares_0 rfl ?_
  refine hv_callS (As := [.int x1]) dX7_shares_1 lk7_232 kX7_isSheet nX7_isSheet (Nat.le_of_ble_eq_true rfl) (Nat.le_of_ble_eq_true rfl) rfl (fun _ _ e l => c_X7_isSheet  e l V) ?_
  intro r2 M1
  refine jw_if_ne (tgt := 13) dX7_shares_4 rfl (fun c4 => ?_) (fun c4 => ?_)
  · refine jv_aloadn (j := 0) dX7_shares_7 rfl ?_
    refine jv_iconst (v := 1) dX7_shares_8 (by decide) ?_
    refine hv_callI (As := [.int 1]) dX7_shares_9 lk7_55 kX7_error nX7_error (Nat.le_of_ble_eq_true rfl) (Nat.le_of_ble_eq_true rfl) at_RS_0 rfl rfl rfl (fun _ _ e l => c_X7_error  e l V) ?_
    intro r4 M3
    exact vf_ret dX7_shares_12 rfl
  refine jv_aloadn (j := 0) dX7_shares_13 rfl ?_
  refine hv_getR dX7_shares_14 fl7_42 at_RS_0 rfl ?_
  refine jv_iloadn (j := 1) dX7_shares_17 rfl ?_
  refine vf_chk (fun q5 => ?_)
  refine hv_aald dX7_shares_18 at_RS_96 (ty := .object "RainShares$Sheet") (fun _ => rfl) rfl q5 (pl_sheet q5) ?_
  refine jv_astoren (L' := [(2, .ref (V.1 (97 + 2 * x1.toNatClampNeg))), (0, .ref (V.1 0)), (1, .int x1)]) dX7_shares_19 (Nat.le_of_ble_eq_true rfl) rfl ?_
  refine jv_aloadn (j := 0) dX7_shares_20 rfl ?_
  refine hv_callI (As := []) dX7_shares_21 lk7_235 kX4_isMissing nX4_isMissing (Nat.le_of_ble_eq_true rfl) (Nat.le_of_ble_eq_true rfl) (at_SH_0 (at_RS_sheet q5)) rfl rfl rfl (fun _ _ e l => c_X4_isMissing (at_RS_sheet q5) e l V) ?_
  intro r7 M6
  refine jw_if_eq (tgt := 33) dX7_shares_24 rfl (fun c24 => ?_) (fun c24 => ?_)
  · refine jv_iconst (v := 0) dX7_shares_33 (by decide) ?_
    refine jv_istoren (L' := [(3, .int 0), (2, .ref (V.1 (97 + 2 * x1.toNatClampNeg))), (0, .ref (V.1 0)), (1, .int x1)]) dX7_shares_34 (Nat.le_of_ble_eq_true rfl) rfl ?_
    refine vl_b2 (P := fun (l3 : Int32) (Ml : pm_M) => pm_J X V mX7_shares 3 (pm_wld V skC Ml) 96 [(3, .int l3)] []) (vf_j (fun g => jr_sub [2, 1, 0] rfl g) (wl_X7_shares_35 x1 q5 0 M6)) ?_
    intro l8 M9
    refine jv_iloadn (j := 0) dX7_shares_96 rfl ?_
    exact vf_ret dX7_shares_97 rfl
  refine jv_aloadn (j := 1) dX7_shares_27 rfl ?_
  refine jv_iconst (v := 2) dX7_shares_28 (by decide) ?_
  refine hv_callI (As := [.int 2]) dX7_shares_29 lk7_55 kX7_error nX7_error (Nat.le_of_ble_eq_true rfl) (Nat.le_of_ble_eq_true rfl) at_RS_0 rfl rfl rfl (fun _ _ e l => c_X7_error  e l V) ?_
  intro r11 M10
  exact vf_ret dX7_shares_32 rfl
theorem c_X7_shares {M : pm_M} {x1 : Int32}  {r : Int32} {M' : pm_M} (h : f_X7_shares M x1 = some (r, M')) (l : Launch) (V : pm_V) : pm_Ci l V skC yX7_shares mX7_shares 3 [.ref (V.1 0), .int x1] M r M' := pm_metI (by decide) rfl (Nat.le_of_ble_eq_true rfl) h (fun _ => w_X7_shares M x1 )
def lb_X7_judge_54 (x1 : Int32) (z8 : Int32) (M6 : pm_M) (ih : Int32 → Option ((Unit) ⊕ (Int32 × pm_M))) : Int32 → Option ((Unit) ⊕ (Int32 × pm_M)) := fun (l4 : Int32) =>
  (if z8 ≤ l4 then (some (Sum.inl ())) else (pm_chk (pm_in l4 40) (pm_chk (pm_in l4 6) (if (M6 ((97 + 2 * x1.toNatClampNeg) + 1) l4.toNatClampNeg) = (M6 ((1 + 1) + 2) l4.toNatClampNeg) then (ih (l4 + 1)) else (some (Sum.inr (l4, M6)))))))
def lp_X7_judge_54 (x1 : Int32) (z8 : Int32) (M6 : pm_M) : Int32 → Option ((Unit) ⊕ (Int32 × pm_M)) := pm_it (fun _ => none) (lb_X7_judge_54 x1 z8 M6) pm_F
def f_X7_judge (M : pm_M) (x1 : Int32) : Option (Int32 × pm_M) :=
  (pm_b2 (f_X7_isSheet M x1) (fun (r2 : Int32) (M1 : pm_M) => (if r2 = 0 then (pm_b2 (f_X7_error M1 1) (fun (r4 : Int32) (M3 : pm_M) => (some (r4, M3)))) else (pm_chk (pm_in x1 4) (pm_b2 (f_X4_isMissing (97 + 2 * x1.toNatClampNeg) M1) (fun (r7 : Int32) (M6 : pm_M) => (if r7 = 0 then (pm_let (pm_min (M6 (97 + 2 * x1.toNatClampNeg) 1) (M6 (1 + 1) 0)) (fun z8 : Int32 => (pm_s1 (lp_X7_judge_54 x1 z8 M6 0) (fun _ => (if (M6 (97 + 2 * x1.toNatClampNeg) 1) = (M6 (1 + 1) 0) then (some ((-1), M6)) else (some (z8, M6))))))) else (pm_b2 (f_X7_error M6 2) (fun (r10 : Int32) (M9 : pm_M) => (some (r10, M9)))))))))))
set_option maxHeartbeats 4000000 in
set_option maxRecDepth 100000 in
theorem wl_X7_judge_54 {X : pm_X} {V : pm_V} (x1 : Int32) (z8 : Int32) (M6 : pm_M) (q5 : pm_in x1 4 = true) : ∀ (l4 : Int32), pm_VF (lp_X7_judge_54 x1 z8 M6 l4) (Sum.elim (fun b => (fun (_ : Unit) => pm_J X V mX7_judge 3 (pm_wld V skC M6) 92 [(0, .ref (V.1 0)), (2, .ref (V.1 (97 + 2 * x1.toNatClampNeg))), (3, .int z8)] []) b) (pm_K X V mX7_judge 3 skC)) (pm_J X V mX7_judge 3 (pm_wld V skC M6) 54 [(0, .ref (V.1 0)), (2, .ref (V.1 (97 + 2 * x1.toNatClampNeg))), (3, .int z8), (4, .int l4)] []) := by
  refine pm_it_ind (P := fun (f : Int32 → Option ((Unit) ⊕ (Int32 × pm_M))) => ∀ (l4 : Int32), pm_VF (f l4) (Sum.elim (fun b => (fun (_ : Unit) => pm_J X V mX7_judge 3 (pm_wld V skC M6) 92 [(0, .ref (V.1 0)), (2, .ref (V.1 (97 + 2 * x1.toNatClampNeg))), (3, .int z8)] []) b) (pm_K X V mX7_judge 3 skC)) (pm_J X V mX7_judge 3 (pm_wld V skC M6) 54 [(0, .ref (V.1 0)), (2, .ref (V.1 (97 + 2 * x1.toNatClampNeg))), (3, .int z8), (4, .int l4)] [])) (fun _ => vf_none) (fun ih hih l4 => ?_) pm_F
  · unfold lb_X7_judge_54
    refine jv_iload (j := 3) dX7_judge_54 rfl ?_
    refine jv_iloadn (j := 2) dX7_judge_56 rfl ?_
    refine jw_ic_ge (tgt := 92) dX7_judge_57 rfl (fun c57 => ?_) (fun c57 => ?_)
    · exact vf_inl (fun g => jr_sub [0, 1, 2] rfl g)
    refine jv_aloadn (j := 1) dX7_judge_60 rfl ?_
    refine hv_getR dX7_judge_61 fl7_243 (at_SH_0 (at_RS_sheet q5)) rfl ?_
    refine jv_iload (j := 3) dX7_judge_64 rfl ?_
    refine hv_ialdC dX7_judge_66 (at_SH_1 (at_RS_sheet q5)) (fun _ => ?_)
    refine jv_aloadn (j := 0) dX7_judge_67 rfl ?_
    refine hv_getR dX7_judge_68 fl7_10 at_RS_0 rfl ?_
    refine hv_getR dX7_judge_71 fl7_59 (at_VA_0 at_RS_now) rfl ?_
    refine hv_getR dX7_judge_74 fl7_78 (at_RO_0 (at_VA_ro at_RS_now)) rfl ?_
    refine jv_iload (j := 3) dX7_judge_77 rfl ?_
    refine hv_ialdC dX7_judge_79 (at_RO_2 (at_VA_ro at_RS_now)) (fun _ => ?_)
    refine jw_ic_eq (tgt := 86) dX7_judge_80 rfl (fun c80 => ?_) (fun c80 => ?_)
    · refine jv_iinc (j := 3) (v := l4 + 1) (L' := [(4, .int (l4 + 1)), (0, .ref (V.1 0)), (2, .ref (V.1 (97 + 2 * x1.toNatClampNeg))), (3, .int z8)]) dX7_judge_86 rfl rfl (Nat.le_of_ble_eq_true rfl) rfl ?_
      refine jv_goto (tgt := 54) dX7_judge_89 rfl ?_
      exact vf_j (fun g => jr_sub [1, 2, 3, 0] rfl g) (hih (l4 + 1))
    refine jv_iload (j := 3) dX7_judge_83 rfl ?_
    exact vf_inr (vf_ret dX7_judge_85 rfl)
set_option maxHeartbeats 4000000 in
set_option maxRecDepth 100000 in
theorem w_X7_judge {X : pm_X} {V : pm_V} (M : pm_M) (x1 : Int32)  : pm_VF (f_X7_judge M x1) (pm_K X V mX7_judge 3 skC) (pm_J X V mX7_judge 3 (pm_wld V skC M) 0 [(0, .ref (V.1 0)), (1, .int x1)] []) := by
  unfold f_X7_judge
  refine jv_iloadn (j := 1) dX7_judge_0 rfl ?_
  refine hv_callS (As := [.int x1]) dX7_judge_1 lk7_232 kX7_isSheet nX7_isSheet (Nat.le_of_ble_eq_true rfl) (Nat.le_of_ble_eq_true rfl) rfl (fun _ _ e l => c_X7_isSheet  e l V) ?_
  intro r2 M1
  refine jw_if_ne (tgt := 13) dX7_judge_4 rfl (fun c4 => ?_) (fun c4 => ?_)
  · refine jv_aloadn (j := 0) dX7_judge_7 rfl ?_
    refine jv_iconst (v := 1) dX7_judge_8 (by decide) ?_
    refine hv_callI (As := [.int 1]) dX7_judge_9 lk7_55 kX7_error nX7_error (Nat.le_of_ble_eq_true rfl) (Nat.le_of_ble_eq_true rfl) at_RS_0 rfl rfl rfl (fun _ _ e l => c_X7_error  e l V) ?_
    intro r4 M3
    exact vf_ret dX7_judge_12 rfl
  refine jv_aloadn (j := 0) dX7_judge_13 rfl ?_
  refine hv_getR dX7_judge_14 fl7_42 at_RS_0 rfl ?_
  refine jv_iloadn (j := 1) dX7_judge_17 rfl ?_
  refine vf_chk (fun q5 => ?_)
  refine hv_aald dX7_judge_18 at_RS_96 (ty := .object "RainShares$Sheet") (fun _ => rfl) rfl q5 (pl_sheet q5) ?_
  refine jv_astoren (L' := [(2, .ref (V.1 (97 + 2 * x1.toNatClampNeg))), (0, .ref (V.1 0)), (1, .int x1)]) dX7_judge_19 (Nat.le_of_ble_eq_true rfl) rfl ?_
  refine jv_aloadn (j := 0) dX7_judge_20 rfl ?_
  refine hv_callI (As := []) dX7_judge_21 lk7_235 kX4_isMissing nX4_isMissing (Nat.le_of_ble_eq_true rfl) (Nat.le_of_ble_eq_true rfl) (at_SH_0 (at_RS_sheet q5)) rfl rfl rfl (fun _ _ e l => c_X4_isMissing (at_RS_sheet q5) e l V) ?_
  intro r7 M6
  refine jw_if_eq (tgt := 33) dX7_judge_24 rfl (fun c24 => ?_) (fun c24 => ?_)
  · refine jv_aloadn (j := 0) dX7_judge_33 rfl ?_
    refine hv_getI dX7_judge_34 fl7_239 (at_SH_0 (at_RS_sheet q5)) rfl ?_
    refine jv_aloadn (j := 1) dX7_judge_37 rfl ?_
    refine hv_getR dX7_judge_38 fl7_10 at_RS_0 rfl ?_
    refine hv_getR dX7_judge_41 fl7_59 (at_VA_0 at_RS_now) rfl ?_
    refine hv_getI dX7_judge_44 fl7_63 (at_RO_0 (at_VA_ro at_RS_now)) rfl ?_
    refine hv_min dX7_judge_47 lk7_284 lkM_min.1 lkM_i lkM_min.2 (Nat.le_of_ble_eq_true rfl) ?_
    refine vf_letS (fun z8 => ?_)
    refine jv_istoren (L' := [(3, .int z8), (2, .ref (V.1 (97 + 2 * x1.toNatClampNeg))), (0, .ref (V.1 0)), (1, .int x1)]) dX7_judge_50 (Nat.le_of_ble_eq_true rfl) rfl ?_
    refine jv_iconst (v := 0) dX7_judge_51 (by decide) ?_
    refine jv_istore (L' := [(4, .int 0), (3, .int z8), (2, .ref (V.1 (97 + 2 * x1.toNatClampNeg))), (0, .ref (V.1 0)), (1, .int x1)]) dX7_judge_52 (Nat.le_of_ble_eq_true rfl) rfl ?_
    refine vl_s1 (P := fun (_ : Unit) => pm_J X V mX7_judge 3 (pm_wld V skC M6) 92 [(0, .ref (V.1 0)), (2, .ref (V.1 (97 + 2 * x1.toNatClampNeg))), (3, .int z8)] []) (vf_j (fun g => jr_sub [3, 2, 1, 0] rfl g) (wl_X7_judge_54 x1 z8 M6 q5 0)) ?_
    intro _
    refine jv_aloadn (j := 1) dX7_judge_92 rfl ?_
    refine hv_getI dX7_judge_93 fl7_239 (at_SH_0 (at_RS_sheet q5)) rfl ?_
    refine jv_aloadn (j := 0) dX7_judge_96 rfl ?_
    refine hv_getR dX7_judge_97 fl7_10 at_RS_0 rfl ?_
    refine hv_getR dX7_judge_100 fl7_59 (at_VA_0 at_RS_now) rfl ?_
    refine hv_getI dX7_judge_103 fl7_63 (at_RO_0 (at_VA_ro at_RS_now)) rfl ?_
    refine jw_ic_ne (tgt := 113) dX7_judge_106 rfl (fun c106 => ?_) (fun c106 => ?_)
    · refine jv_iconst (v := -1) dX7_judge_109 (by decide) ?_
      refine jv_goto (tgt := 114) dX7_judge_110 rfl ?_
      exact vf_ret dX7_judge_114 rfl
    refine jv_iloadn (j := 2) dX7_judge_113 rfl ?_
    exact vf_ret dX7_judge_114 rfl
  refine jv_aloadn (j := 1) dX7_judge_27 rfl ?_
  refine jv_iconst (v := 2) dX7_judge_28 (by decide) ?_
  refine hv_callI (As := [.int 2]) dX7_judge_29 lk7_55 kX7_error nX7_error (Nat.le_of_ble_eq_true rfl) (Nat.le_of_ble_eq_true rfl) at_RS_0 rfl rfl rfl (fun _ _ e l => c_X7_error  e l V) ?_
  intro r10 M9
  exact vf_ret dX7_judge_32 rfl
theorem c_X7_judge {M : pm_M} {x1 : Int32}  {r : Int32} {M' : pm_M} (h : f_X7_judge M x1 = some (r, M')) (l : Launch) (V : pm_V) : pm_Ci l V skC yX7_judge mX7_judge 3 [.ref (V.1 0), .int x1] M r M' := pm_metI (by decide) rfl (Nat.le_of_ble_eq_true rfl) h (fun _ => w_X7_judge M x1 )
def f_X7_image (M : pm_M) : Option (Int32 × pm_M) :=
  (pm_b1 (f_X5_copyFrom 61 M 1) (fun M1 : pm_M => (pm_let (pm_up M1 0 3 ((M1 0 3) + 1)) (fun M2 : pm_M => (some ((M2 0 3), M2))))))
set_option maxHeartbeats 4000000 in
set_option maxRecDepth 100000 in
theorem w_X7_image {X : pm_X} {V : pm_V} (M : pm_M)  : pm_VF (f_X7_image M) (pm_K X V mX7_image 3 skC) (pm_J X V mX7_image 3 (pm_wld V skC M) 0 [(0, .ref (V.1 0))] []) := by
  unfold f_X7_image
  refine jv_aloadn (j := 0) dX7_image_0 rfl ?_
  refine hv_getR dX7_image_1 fl7_19 at_RS_0 rfl ?_
  refine jv_aloadn (j := 0) dX7_image_4 rfl ?_
  refine hv_getR dX7_image_5 fl7_10 at_RS_0 rfl ?_
  refine hv_callV (As := [.ref (V.1 1)]) dX7_image_8 lk7_198 kX5_copyFrom nX5_copyFrom (Nat.le_of_ble_eq_true rfl) (Nat.le_of_ble_eq_true rfl) (at_VA_0 at_RS_kept) rfl rfl rfl (fun _ e l => c_X5_copyFrom at_RS_kept at_RS_now e l V) ?_
  intro M1
  refine jv_aloadn (j := 0) dX7_image_11 rfl ?_
  refine jv_dup dX7_image_12 rfl ?_
  refine hv_getI dX7_image_13 fl7_22 at_RS_0 rfl ?_
  refine jv_iconst (v := 1) dX7_image_16 (by decide) ?_
  refine jv_iadd dX7_image_17 ?_
  refine hv_put dX7_image_18 fp7_22 at_RS_0 rfl rfl rfl ?_
  refine vf_letM (fun M2 => ?_)
  refine jv_aloadn (j := 0) dX7_image_21 rfl ?_
  refine hv_getI dX7_image_22 fl7_22 at_RS_0 rfl ?_
  exact vf_ret dX7_image_25 rfl
theorem c_X7_image {M : pm_M}  {r : Int32} {M' : pm_M} (h : f_X7_image M = some (r, M')) (l : Launch) (V : pm_V) : pm_Ci l V skC yX7_image mX7_image 3 [.ref (V.1 0)] M r M' := pm_metI (by decide) rfl (Nat.le_of_ble_eq_true rfl) h (fun _ => w_X7_image M )
def f_X7_restore (M : pm_M) : Option (Int32 × pm_M) :=
  (if (M 0 3) = 0 then (pm_b2 (f_X7_error M 2) (fun (r2 : Int32) (M1 : pm_M) => (some (r2, M1)))) else (pm_b1 (f_X5_copyFrom 1 M 61) (fun M3 : pm_M => (some ((M3 1 3), M3)))))
set_option maxHeartbeats 4000000 in
set_option maxRecDepth 100000 in
theorem w_X7_restore {X : pm_X} {V : pm_V} (M : pm_M)  : pm_VF (f_X7_restore M) (pm_K X V mX7_restore 3 skC) (pm_J X V mX7_restore 3 (pm_wld V skC M) 0 [(0, .ref (V.1 0))] []) := by
  unfold f_X7_restore
  refine jv_aloadn (j := 0) dX7_restore_0 rfl ?_
  refine hv_getI dX7_restore_1 fl7_22 at_RS_0 rfl ?_
  refine jw_if_ne (tgt := 13) dX7_restore_4 rfl (fun c4 => ?_) (fun c4 => ?_)
  · refine jv_aloadn (j := 0) dX7_restore_7 rfl ?_
    refine jv_iconst (v := 2) dX7_restore_8 (by decide) ?_
    refine hv_callI (As := [.int 2]) dX7_restore_9 lk7_55 kX7_error nX7_error (Nat.le_of_ble_eq_true rfl) (Nat.le_of_ble_eq_true rfl) at_RS_0 rfl rfl rfl (fun _ _ e l => c_X7_error  e l V) ?_
    intro r2 M1
    exact vf_ret dX7_restore_12 rfl
  refine jv_aloadn (j := 0) dX7_restore_13 rfl ?_
  refine hv_getR dX7_restore_14 fl7_10 at_RS_0 rfl ?_
  refine jv_aloadn (j := 0) dX7_restore_17 rfl ?_
  refine hv_getR dX7_restore_18 fl7_19 at_RS_0 rfl ?_
  refine hv_callV (As := [.ref (V.1 61)]) dX7_restore_21 lk7_198 kX5_copyFrom nX5_copyFrom (Nat.le_of_ble_eq_true rfl) (Nat.le_of_ble_eq_true rfl) (at_VA_0 at_RS_now) rfl rfl rfl (fun _ e l => c_X5_copyFrom at_RS_now at_RS_kept e l V) ?_
  intro M3
  refine jv_aloadn (j := 0) dX7_restore_24 rfl ?_
  refine hv_getR dX7_restore_25 fl7_10 at_RS_0 rfl ?_
  refine hv_getI dX7_restore_28 fl7_180 (at_VA_0 at_RS_now) rfl ?_
  exact vf_ret dX7_restore_31 rfl
theorem c_X7_restore {M : pm_M}  {r : Int32} {M' : pm_M} (h : f_X7_restore M = some (r, M')) (l : Launch) (V : pm_V) : pm_Ci l V skC yX7_restore mX7_restore 3 [.ref (V.1 0)] M r M' := pm_metI (by decide) rfl (Nat.le_of_ble_eq_true rfl) h (fun _ => w_X7_restore M )
def f_X7_tell (M : pm_M) (x1 : Int32) : Option (Int32 × pm_M) :=
  (if (M 1 8) < 20 then (pm_chk (pm_in (M 1 8) 20) (pm_let (pm_up M (1 + 26) (M 1 8).toNatClampNeg x1) (fun M1 : pm_M => (pm_let (pm_up M1 1 8 ((M1 1 8) + 1)) (fun M2 : pm_M => (some ((M2 1 8), M2))))))) else (pm_b2 (f_X7_error M 4) (fun (r4 : Int32) (M3 : pm_M) => (some (r4, M3)))))
set_option maxHeartbeats 4000000 in
set_option maxRecDepth 100000 in
theorem w_X7_tell {X : pm_X} {V : pm_V} (M : pm_M) (x1 : Int32)  : pm_VF (f_X7_tell M x1) (pm_K X V mX7_tell 2 skC) (pm_J X V mX7_tell 2 (pm_wld V skC M) 0 [(0, .ref (V.1 0)), (1, .int x1)] []) := by
  unfold f_X7_tell
  refine jv_aloadn (j := 0) dX7_tell_0 rfl ?_
  refine hv_getR dX7_tell_1 fl7_10 at_RS_0 rfl ?_
  refine hv_getI dX7_tell_4 fl7_287 (at_VA_0 at_RS_now) rfl ?_
  refine jv_bipush (v := 20) dX7_tell_7 (by decide) ?_
  refine jw_ic_lt (tgt := 18) dX7_tell_9 rfl (fun c9 => ?_) (fun c9 => ?_)
  · refine jv_aloadn (j := 0) dX7_tell_18 rfl ?_
    refine hv_getR dX7_tell_19 fl7_10 at_RS_0 rfl ?_
    refine hv_getR dX7_tell_22 fl7_290 (at_VA_0 at_RS_now) rfl ?_
    refine jv_aloadn (j := 0) dX7_tell_25 rfl ?_
    refine hv_getR dX7_tell_26 fl7_10 at_RS_0 rfl ?_
    refine hv_getI dX7_tell_29 fl7_287 (at_VA_0 at_RS_now) rfl ?_
    refine jv_iloadn (j := 1) dX7_tell_32 rfl ?_
    refine hv_iastC dX7_tell_33 (at_VA_26 at_RS_now) (fun _ => ?_)
    refine vf_letM (fun M1 => ?_)
    refine jv_aloadn (j := 0) dX7_tell_34 rfl ?_
    refine hv_getR dX7_tell_35 fl7_10 at_RS_0 rfl ?_
    refine jv_dup dX7_tell_38 rfl ?_
    refine hv_getI dX7_tell_39 fl7_287 (at_VA_0 at_RS_now) rfl ?_
    refine jv_iconst (v := 1) dX7_tell_42 (by decide) ?_
    refine jv_iadd dX7_tell_43 ?_
    refine hv_put dX7_tell_44 fp7_287 (at_VA_0 at_RS_now) rfl rfl rfl ?_
    refine vf_letM (fun M2 => ?_)
    refine jv_aloadn (j := 0) dX7_tell_47 rfl ?_
    refine hv_getR dX7_tell_48 fl7_10 at_RS_0 rfl ?_
    refine hv_getI dX7_tell_51 fl7_287 (at_VA_0 at_RS_now) rfl ?_
    exact vf_ret dX7_tell_54 rfl
  refine jv_aloadn (j := 0) dX7_tell_12 rfl ?_
  refine jv_iconst (v := 4) dX7_tell_13 (by decide) ?_
  refine hv_callI (As := [.int 4]) dX7_tell_14 lk7_55 kX7_error nX7_error (Nat.le_of_ble_eq_true rfl) (Nat.le_of_ble_eq_true rfl) at_RS_0 rfl rfl rfl (fun _ _ e l => c_X7_error  e l V) ?_
  intro r4 M3
  exact vf_ret dX7_tell_17 rfl
theorem c_X7_tell {M : pm_M} {x1 : Int32}  {r : Int32} {M' : pm_M} (h : f_X7_tell M x1 = some (r, M')) (l : Launch) (V : pm_V) : pm_Ci l V skC yX7_tell mX7_tell 2 [.ref (V.1 0), .int x1] M r M' := pm_metI (by decide) rfl (Nat.le_of_ble_eq_true rfl) h (fun _ => w_X7_tell M x1 )
def lb_X7_check_29 (z1 : Int32) (ih : Int32 → pm_M → Option ((pm_M) ⊕ (Int32 × pm_M))) : Int32 → pm_M → Option ((pm_M) ⊕ (Int32 × pm_M)) := fun (l2 : Int32) (Ml : pm_M) =>
  (if z1 ≤ l2 then (some (Sum.inl Ml)) else (pm_b1 (f_X5_passDays 31 Ml 1) (fun M30002 : pm_M => (pm_b2 (f_X3_sum (31 + 1) M30002 ((31 + 1) + 3)) (fun (r30004 : Int32) (M30003 : pm_M) => (pm_chk (pm_in l2 20) (if r30004 = (M30003 (1 + 26) l2.toNatClampNeg) then (ih (l2 + 1) M30003) else (some (Sum.inr ((1 + l2), M30003))))))))))
def lp_X7_check_29 (z1 : Int32) : Int32 → pm_M → Option ((pm_M) ⊕ (Int32 × pm_M)) := pm_it (fun _ _ => none) (lb_X7_check_29 z1) pm_F
def f_X7_check (M : pm_M) : Option (Int32 × pm_M) :=
  (pm_let (M 1 8) (fun z1 : Int32 => (pm_let (pm_up M 1 8 0) (fun M2 : pm_M => (pm_b1 (f_X5_copyFrom 31 M2 1) (fun M3 : pm_M => (pm_s1 (lp_X7_check_29 z1 0 M3) (fun (M4 : pm_M) => (some (0, M4))))))))))
set_option maxHeartbeats 4000000 in
set_option maxRecDepth 100000 in
theorem wl_X7_check_29 {X : pm_X} {V : pm_V} (z1 : Int32)  : ∀ (l2 : Int32) (Ml : pm_M), pm_VF (lp_X7_check_29 z1 l2 Ml) (Sum.elim (fun b => (fun (Ml : pm_M) => pm_J X V mX7_check 6 (pm_wld V skC Ml) 84 [] []) b) (pm_K X V mX7_check 6 skC)) (pm_J X V mX7_check 6 (pm_wld V skC Ml) 29 [(0, .ref (V.1 0)), (1, .int z1), (2, .int l2)] []) := by
  refine pm_it_ind (P := fun (f : Int32 → pm_M → Option ((pm_M) ⊕ (Int32 × pm_M))) => ∀ (l2 : Int32) (Ml : pm_M), pm_VF (f l2 Ml) (Sum.elim (fun b => (fun (Ml : pm_M) => pm_J X V mX7_check 6 (pm_wld V skC Ml) 84 [] []) b) (pm_K X V mX7_check 6 skC)) (pm_J X V mX7_check 6 (pm_wld V skC Ml) 29 [(0, .ref (V.1 0)), (1, .int z1), (2, .int l2)] [])) (fun _ _ => vf_none) (fun ih hih l2 Ml => ?_) pm_F
  · unfold lb_X7_check_29
    refine jv_iloadn (j := 2) dX7_check_29 rfl ?_
    refine jv_iloadn (j := 1) dX7_check_30 rfl ?_
    refine jw_ic_ge (tgt := 84) dX7_check_31 rfl (fun c31 => ?_) (fun c31 => ?_)
    · exact vf_inl (fun g => jr_sub [] rfl g)
    refine jv_aloadn (j := 0) dX7_check_34 rfl ?_
    refine hv_getR dX7_check_35 fl7_16 at_RS_0 rfl ?_
    refine jv_iconst (v := 1) dX7_check_38 (by decide) ?_
    refine hv_callV (As := [.int 1]) dX7_check_39 lk7_183 kX5_passDays nX5_passDays (Nat.le_of_ble_eq_true rfl) (Nat.le_of_ble_eq_true rfl) (at_VA_0 at_RS_thought) rfl rfl rfl (fun _ e l => c_X5_passDays at_RS_thought e l V) ?_
    intro M30002
    refine jv_aloadn (j := 0) dX7_check_42 rfl ?_
    refine hv_getR dX7_check_43 fl7_16 at_RS_0 rfl ?_
    refine hv_getR dX7_check_46 fl7_59 (at_VA_0 at_RS_thought) rfl ?_
    refine jv_aloadn (j := 0) dX7_check_49 rfl ?_
    refine hv_getR dX7_check_50 fl7_16 at_RS_0 rfl ?_
    refine hv_getR dX7_check_53 fl7_59 (at_VA_0 at_RS_thought) rfl ?_
    refine hv_getR dX7_check_56 fl7_81 (at_RO_0 (at_VA_ro at_RS_thought)) rfl ?_
    refine hv_callI (As := [.ref (V.1 ((31 + 1) + 3))]) dX7_check_59 lk7_187 kX3_sum nX3_sum (Nat.le_of_ble_eq_true rfl) (Nat.le_of_ble_eq_true rfl) (at_RO_0 (at_VA_ro at_RS_thought)) rfl rfl rfl (fun _ _ e l => c_X3_sum (at_VA_ro at_RS_thought) (at_RO_3 (at_VA_ro at_RS_thought)) e l V) ?_
    intro r30004 M30003
    refine jv_aloadn (j := 0) dX7_check_62 rfl ?_
    refine hv_getR dX7_check_63 fl7_10 at_RS_0 rfl ?_
    refine hv_getR dX7_check_66 fl7_290 (at_VA_0 at_RS_now) rfl ?_
    refine jv_iloadn (j := 2) dX7_check_69 rfl ?_
    refine hv_ialdC dX7_check_70 (at_VA_26 at_RS_now) (fun _ => ?_)
    refine jw_ic_eq (tgt := 78) dX7_check_71 rfl (fun c71 => ?_) (fun c71 => ?_)
    · refine jv_iinc (j := 2) (v := l2 + 1) (L' := [(2, .int (l2 + 1)), (0, .ref (V.1 0)), (1, .int z1)]) dX7_check_78 rfl rfl (Nat.le_of_ble_eq_true rfl) rfl ?_
      refine jv_goto (tgt := 29) dX7_check_81 rfl ?_
      exact vf_j (fun g => jr_sub [1, 2, 0] rfl g) (hih (l2 + 1) M30003)
    refine jv_iconst (v := 1) dX7_check_74 (by decide) ?_
    refine jv_iloadn (j := 2) dX7_check_75 rfl ?_
    refine jv_iadd dX7_check_76 ?_
    exact vf_inr (vf_ret dX7_check_77 rfl)
set_option maxHeartbeats 4000000 in
set_option maxRecDepth 100000 in
theorem w_X7_check {X : pm_X} {V : pm_V} (M : pm_M)  : pm_VF (f_X7_check M) (pm_K X V mX7_check 6 skC) (pm_J X V mX7_check 6 (pm_wld V skC M) 0 [(0, .ref (V.1 0))] []) := by
  unfold f_X7_check
  refine jv_aloadn (j := 0) dX7_check_0 rfl ?_
  refine hv_getR dX7_check_1 fl7_10 at_RS_0 rfl ?_
  refine hv_getI dX7_check_4 fl7_287 (at_VA_0 at_RS_now) rfl ?_
  refine vf_letS (fun z1 => ?_)
  refine jv_istoren (L' := [(1, .int z1), (0, .ref (V.1 0))]) dX7_check_7 (Nat.le_of_ble_eq_true rfl) rfl ?_
  refine jv_aloadn (j := 1) dX7_check_8 rfl ?_
  refine hv_getR dX7_check_9 fl7_10 at_RS_0 rfl ?_
  refine jv_iconst (v := 0) dX7_check_12 (by decide) ?_
  refine hv_put dX7_check_13 fp7_287 (at_VA_0 at_RS_now) rfl rfl rfl ?_
  refine vf_letM (fun M2 => ?_)
  refine jv_aloadn (j := 1) dX7_check_16 rfl ?_
  refine hv_getR dX7_check_17 fl7_16 at_RS_0 rfl ?_
  refine jv_aloadn (j := 1) dX7_check_20 rfl ?_
  refine hv_getR dX7_check_21 fl7_10 at_RS_0 rfl ?_
  refine hv_callV (As := [.ref (V.1 1)]) dX7_check_24 lk7_198 kX5_copyFrom nX5_copyFrom (Nat.le_of_ble_eq_true rfl) (Nat.le_of_ble_eq_true rfl) (at_VA_0 at_RS_thought) rfl rfl rfl (fun _ e l => c_X5_copyFrom at_RS_thought at_RS_now e l V) ?_
  intro M3
  refine jv_iconst (v := 0) dX7_check_27 (by decide) ?_
  refine jv_istoren (L' := [(2, .int 0), (1, .int z1), (0, .ref (V.1 0))]) dX7_check_28 (Nat.le_of_ble_eq_true rfl) rfl ?_
  refine vl_s1 (P := fun (Ml : pm_M) => pm_J X V mX7_check 6 (pm_wld V skC Ml) 84 [] []) (vf_j (fun g => jr_sub [2, 1, 0] rfl g) (wl_X7_check_29 z1  0 M3)) ?_
  intro M4
  refine jv_iconst (v := 0) dX7_check_84 (by decide) ?_
  exact vf_ret dX7_check_85 rfl
theorem c_X7_check {M : pm_M}  {r : Int32} {M' : pm_M} (h : f_X7_check M = some (r, M')) (l : Launch) (V : pm_V) : pm_Ci l V skC yX7_check mX7_check 6 [.ref (V.1 0)] M r M' := pm_metI (by decide) rfl (Nat.le_of_ble_eq_true rfl) h (fun _ => w_X7_check M )
def f_X7_count (M : pm_M) (x1 : Int32) : Option (Int32 × pm_M) :=
  (if x1.toInt < 0 ∨ 10 < x1.toInt then (pm_b2 (f_X7_error M 1) (fun (r2 : Int32) (M1 : pm_M) => (some (r2, M1)))) else if x1 = 0 then (some ((M (1 + 1) 0), M)) else if x1 = 1 then (some ((M (1 + 13) 0), M)) else if x1 = 2 then (some ((M 1 3), M)) else if x1 = 3 then (pm_b2 (f_X3_sum (1 + 1) M ((1 + 1) + 3)) (fun (r4 : Int32) (M3 : pm_M) => (some (r4, M3)))) else if x1 = 4 then (pm_b2 (f_X3_sum (1 + 1) M ((1 + 1) + 2)) (fun (r6 : Int32) (M5 : pm_M) => (some (r6, M5)))) else if x1 = 5 then (pm_b2 (f_X0_spentMany (1 + 13) M) (fun (r8 : Int32) (M7 : pm_M) => (some (r8, M7)))) else if x1 = 6 then (pm_b2 (f_X3_mostInArrears (1 + 1) M) (fun (r10 : Int32) (M9 : pm_M) => (some (r10, M9)))) else if x1 = 7 then (some ((M 1 6), M)) else if x1 = 8 then (some ((M 1 8), M)) else if x1 = 9 then (some ((M 94 1), M)) else if x1 = 10 then (some ((M 1 4), M)) else none)
set_option maxHeartbeats 4000000 in
set_option maxRecDepth 100000 in
theorem w_X7_count {X : pm_X} {V : pm_V} (M : pm_M) (x1 : Int32)  : pm_VF (f_X7_count M x1) (pm_K X V mX7_count 4 skC) (pm_J X V mX7_count 4 (pm_wld V skC M) 0 [(0, .ref (V.1 0)), (1, .int x1)] []) := by
  unfold f_X7_count
  refine jv_iloadn (j := 1) dX7_count_0 rfl ?_
  refine vf_case (fun c1 => ?_) (fun _ => ?_)
  · refine jv_tout (tgt := 186) dX7_count_1 c1 rfl ?_
    refine jv_aloadn (j := 0) dX7_count_186 rfl ?_
    refine jv_iconst (v := 1) dX7_count_187 (by decide) ?_
    refine hv_callI (As := [.int 1]) dX7_count_188 lk7_55 kX7_error nX7_error (Nat.le_of_ble_eq_true rfl) (Nat.le_of_ble_eq_true rfl) at_RS_0 rfl rfl rfl (fun _ _ e l => c_X7_error  e l V) ?_
    intro r2 M1
    exact vf_ret dX7_count_191 rfl
  refine vf_case (fun c1 => ?_) (fun _ => ?_)
  · refine jv_tin (v := 0) (tgt := 60) dX7_count_1 c1 (by decide) (by decide) rfl rfl ?_
    refine jv_aloadn (j := 0) dX7_count_60 rfl ?_
    refine hv_getR dX7_count_61 fl7_10 at_RS_0 rfl ?_
    refine hv_getR dX7_count_64 fl7_59 (at_VA_0 at_RS_now) rfl ?_
    refine hv_getI dX7_count_67 fl7_63 (at_RO_0 (at_VA_ro at_RS_now)) rfl ?_
    exact vf_ret dX7_count_70 rfl
  refine vf_case (fun c1 => ?_) (fun _ => ?_)
  · refine jv_tin (v := 1) (tgt := 71) dX7_count_1 c1 (by decide) (by decide) rfl rfl ?_
    refine jv_aloadn (j := 0) dX7_count_71 rfl ?_
    refine hv_getR dX7_count_72 fl7_10 at_RS_0 rfl ?_
    refine hv_getR dX7_count_75 fl7_87 (at_VA_0 at_RS_now) rfl ?_
    refine hv_getI dX7_count_78 fl7_114 (at_CL_0 (at_VA_cl at_RS_now)) rfl ?_
    exact vf_ret dX7_count_81 rfl
  refine vf_case (fun c1 => ?_) (fun _ => ?_)
  · refine jv_tin (v := 2) (tgt := 82) dX7_count_1 c1 (by decide) (by decide) rfl rfl ?_
    refine jv_aloadn (j := 0) dX7_count_82 rfl ?_
    refine hv_getR dX7_count_83 fl7_10 at_RS_0 rfl ?_
    refine hv_getI dX7_count_86 fl7_180 (at_VA_0 at_RS_now) rfl ?_
    exact vf_ret dX7_count_89 rfl
  refine vf_case (fun c1 => ?_) (fun _ => ?_)
  · refine jv_tin (v := 3) (tgt := 90) dX7_count_1 c1 (by decide) (by decide) rfl rfl ?_
    refine jv_aloadn (j := 0) dX7_count_90 rfl ?_
    refine hv_getR dX7_count_91 fl7_10 at_RS_0 rfl ?_
    refine hv_getR dX7_count_94 fl7_59 (at_VA_0 at_RS_now) rfl ?_
    refine jv_aloadn (j := 0) dX7_count_97 rfl ?_
    refine hv_getR dX7_count_98 fl7_10 at_RS_0 rfl ?_
    refine hv_getR dX7_count_101 fl7_59 (at_VA_0 at_RS_now) rfl ?_
    refine hv_getR dX7_count_104 fl7_81 (at_RO_0 (at_VA_ro at_RS_now)) rfl ?_
    refine hv_callI (As := [.ref (V.1 ((1 + 1) + 3))]) dX7_count_107 lk7_187 kX3_sum nX3_sum (Nat.le_of_ble_eq_true rfl) (Nat.le_of_ble_eq_true rfl) (at_RO_0 (at_VA_ro at_RS_now)) rfl rfl rfl (fun _ _ e l => c_X3_sum (at_VA_ro at_RS_now) (at_RO_3 (at_VA_ro at_RS_now)) e l V) ?_
    intro r4 M3
    exact vf_ret dX7_count_110 rfl
  refine vf_case (fun c1 => ?_) (fun _ => ?_)
  · refine jv_tin (v := 4) (tgt := 111) dX7_count_1 c1 (by decide) (by decide) rfl rfl ?_
    refine jv_aloadn (j := 0) dX7_count_111 rfl ?_
    refine hv_getR dX7_count_112 fl7_10 at_RS_0 rfl ?_
    refine hv_getR dX7_count_115 fl7_59 (at_VA_0 at_RS_now) rfl ?_
    refine jv_aloadn (j := 0) dX7_count_118 rfl ?_
    refine hv_getR dX7_count_119 fl7_10 at_RS_0 rfl ?_
    refine hv_getR dX7_count_122 fl7_59 (at_VA_0 at_RS_now) rfl ?_
    refine hv_getR dX7_count_125 fl7_78 (at_RO_0 (at_VA_ro at_RS_now)) rfl ?_
    refine hv_callI (As := [.ref (V.1 ((1 + 1) + 2))]) dX7_count_128 lk7_187 kX3_sum nX3_sum (Nat.le_of_ble_eq_true rfl) (Nat.le_of_ble_eq_true rfl) (at_RO_0 (at_VA_ro at_RS_now)) rfl rfl rfl (fun _ _ e l => c_X3_sum (at_VA_ro at_RS_now) (at_RO_2 (at_VA_ro at_RS_now)) e l V) ?_
    intro r6 M5
    exact vf_ret dX7_count_131 rfl
  refine vf_case (fun c1 => ?_) (fun _ => ?_)
  · refine jv_tin (v := 5) (tgt := 132) dX7_count_1 c1 (by decide) (by decide) rfl rfl ?_
    refine jv_aloadn (j := 0) dX7_count_132 rfl ?_
    refine hv_getR dX7_count_133 fl7_10 at_RS_0 rfl ?_
    refine hv_getR dX7_count_136 fl7_87 (at_VA_0 at_RS_now) rfl ?_
    refine hv_callI (As := []) dX7_count_139 lk7_293 kX0_spentMany nX0_spentMany (Nat.le_of_ble_eq_true rfl) (Nat.le_of_ble_eq_true rfl) (at_CL_0 (at_VA_cl at_RS_now)) rfl rfl rfl (fun _ _ e l => c_X0_spentMany (at_VA_cl at_RS_now) e l V) ?_
    intro r8 M7
    exact vf_ret dX7_count_142 rfl
  refine vf_case (fun c1 => ?_) (fun _ => ?_)
  · refine jv_tin (v := 6) (tgt := 143) dX7_count_1 c1 (by decide) (by decide) rfl rfl ?_
    refine jv_aloadn (j := 0) dX7_count_143 rfl ?_
    refine hv_getR dX7_count_144 fl7_10 at_RS_0 rfl ?_
    refine hv_getR dX7_count_147 fl7_59 (at_VA_0 at_RS_now) rfl ?_
    refine hv_callI (As := []) dX7_count_150 lk7_296 kX3_mostInArrears nX3_mostInArrears (Nat.le_of_ble_eq_true rfl) (Nat.le_of_ble_eq_true rfl) (at_RO_0 (at_VA_ro at_RS_now)) rfl rfl rfl (fun _ _ e l => c_X3_mostInArrears (at_VA_ro at_RS_now) e l V) ?_
    intro r10 M9
    exact vf_ret dX7_count_153 rfl
  refine vf_case (fun c1 => ?_) (fun _ => ?_)
  · refine jv_tin (v := 7) (tgt := 154) dX7_count_1 c1 (by decide) (by decide) rfl rfl ?_
    refine jv_aloadn (j := 0) dX7_count_154 rfl ?_
    refine hv_getR dX7_count_155 fl7_10 at_RS_0 rfl ?_
    refine hv_getI dX7_count_158 fl7_150 (at_VA_0 at_RS_now) rfl ?_
    exact vf_ret dX7_count_161 rfl
  refine vf_case (fun c1 => ?_) (fun _ => ?_)
  · refine jv_tin (v := 8) (tgt := 162) dX7_count_1 c1 (by decide) (by decide) rfl rfl ?_
    refine jv_aloadn (j := 0) dX7_count_162 rfl ?_
    refine hv_getR dX7_count_163 fl7_10 at_RS_0 rfl ?_
    refine hv_getI dX7_count_166 fl7_287 (at_VA_0 at_RS_now) rfl ?_
    exact vf_ret dX7_count_169 rfl
  refine vf_case (fun c1 => ?_) (fun _ => ?_)
  · refine jv_tin (v := 9) (tgt := 170) dX7_count_1 c1 (by decide) (by decide) rfl rfl ?_
    refine jv_aloadn (j := 0) dX7_count_170 rfl ?_
    refine hv_getR dX7_count_171 fl7_36 at_RS_0 rfl ?_
    refine hv_getI dX7_count_174 fl7_260 (at_VO_0 at_RS_voices) rfl ?_
    exact vf_ret dX7_count_177 rfl
  refine vf_case (fun c1 => ?_) (fun _ => ?_)
  · refine jv_tin (v := 10) (tgt := 178) dX7_count_1 c1 (by decide) (by decide) rfl rfl ?_
    refine jv_aloadn (j := 0) dX7_count_178 rfl ?_
    refine hv_getR dX7_count_179 fl7_10 at_RS_0 rfl ?_
    refine hv_getI dX7_count_182 fl7_253 (at_VA_0 at_RS_now) rfl ?_
    exact vf_ret dX7_count_185 rfl
  exact vf_none
theorem c_X7_count {M : pm_M} {x1 : Int32}  {r : Int32} {M' : pm_M} (h : f_X7_count M x1 = some (r, M')) (l : Launch) (V : pm_V) : pm_Ci l V skC yX7_count mX7_count 4 [.ref (V.1 0), .int x1] M r M' := pm_metI (by decide) rfl (Nat.le_of_ble_eq_true rfl) h (fun _ => w_X7_count M x1 )
def f_X7_told (M : pm_M) (x1 : Int32) : Option (Int32 × pm_M) :=
  (pm_b2 (f_X7_within M x1 1 5) (fun (r2 : Int32) (M1 : pm_M) => (if r2 = 0 then (pm_b2 (f_X7_error M1 1) (fun (r4 : Int32) (M3 : pm_M) => (some (r4, M3)))) else (pm_chk (pm_in x1 6) (some ((M1 105 x1.toNatClampNeg), M1))))))
set_option maxHeartbeats 4000000 in
set_option maxRecDepth 100000 in
theorem w_X7_told {X : pm_X} {V : pm_V} (M : pm_M) (x1 : Int32)  : pm_VF (f_X7_told M x1) (pm_K X V mX7_told 2 skC) (pm_J X V mX7_told 2 (pm_wld V skC M) 0 [(0, .ref (V.1 0)), (1, .int x1)] []) := by
  unfold f_X7_told
  refine jv_iloadn (j := 1) dX7_told_0 rfl ?_
  refine jv_iconst (v := 1) dX7_told_1 (by decide) ?_
  refine jv_iconst (v := 5) dX7_told_2 (by decide) ?_
  refine hv_callS (As := [.int x1, .int 1, .int 5]) dX7_told_3 lk7_51 kX7_within nX7_within (Nat.le_of_ble_eq_true rfl) (Nat.le_of_ble_eq_true rfl) rfl (fun _ _ e l => c_X7_within  e l V) ?_
  intro r2 M1
  refine jw_if_ne (tgt := 15) dX7_told_6 rfl (fun c6 => ?_) (fun c6 => ?_)
  · refine jv_aloadn (j := 0) dX7_told_9 rfl ?_
    refine jv_iconst (v := 1) dX7_told_10 (by decide) ?_
    refine hv_callI (As := [.int 1]) dX7_told_11 lk7_55 kX7_error nX7_error (Nat.le_of_ble_eq_true rfl) (Nat.le_of_ble_eq_true rfl) at_RS_0 rfl rfl rfl (fun _ _ e l => c_X7_error  e l V) ?_
    intro r4 M3
    exact vf_ret dX7_told_14 rfl
  refine jv_aloadn (j := 0) dX7_told_15 rfl ?_
  refine hv_getR dX7_told_16 fl7_46 at_RS_0 rfl ?_
  refine jv_iloadn (j := 1) dX7_told_19 rfl ?_
  refine hv_ialdC dX7_told_20 at_RS_105 (fun _ => ?_)
  exact vf_ret dX7_told_21 rfl
theorem c_X7_told {M : pm_M} {x1 : Int32}  {r : Int32} {M' : pm_M} (h : f_X7_told M x1 = some (r, M')) (l : Launch) (V : pm_V) : pm_Ci l V skC yX7_told mX7_told 2 [.ref (V.1 0), .int x1] M r M' := pm_metI (by decide) rfl (Nat.le_of_ble_eq_true rfl) h (fun _ => w_X7_told M x1 )
