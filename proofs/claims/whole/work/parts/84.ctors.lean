theorem jr_swap {X : pm_X} {V : pm_V} {mi : pm_I} {ht pc : Nat} {L : List (Nat × Value)} {st : List Value} {A B C W : va_W} (hW : W = (A ++ B) ++ C) (k : pm_J X V mi ht ((A ++ C) ++ B) pc L st) : pm_J X V mi ht W pc L st := by
  subst hW
  obtain ⟨p, l, e, R, s, m, args, below, meth, c, Q, ⟨cells, slots⟩, A0⟩ := X
  intro ok H locs ls hP hD hS hl
  exact k ok H locs ls (va_P.swap hP) (va_D.swap hD) hS hl
theorem lkO_i : Cond.instanceMethod Lib.objectInit ∈ pm_tb := (pm_w 78 (by decide +kernel) rfl)
theorem lkO_c : Cond.code Lib.objectInit ⟨#[0xb1]⟩ 1 none ∈ pm_tb := (pm_w1 20 rfl rfl)
theorem lkA_c : Cond.arrayClass .int ∈ pm_tb := (pm_w 124 (by decide +kernel) rfl)
theorem lk7_1 : Cond.methodLink RX7 1 Lib.objectInit ∈ pm_tb := (pm_w 77 (by decide +kernel) rfl)
theorem lk0_3 : Cond.methodLink RX0 3 Lib.objectInit ∈ pm_tb := (pm_w 130 (by decide +kernel) rfl)
theorem lk1_3 : Cond.methodLink RX1 3 Lib.objectInit ∈ pm_tb := (pm_w 163 (by decide +kernel) rfl)
theorem lk2_3 : Cond.methodLink RX2 3 Lib.objectInit ∈ pm_tb := (pm_w 234 (by decide +kernel) rfl)
theorem lk3_3 : Cond.methodLink RX3 3 Lib.objectInit ∈ pm_tb := (pm_w 91 (by decide +kernel) rfl)
theorem lk4_3 : Cond.methodLink RX4 3 Lib.objectInit ∈ pm_tb := (pm_w 289 (by decide +kernel) rfl)
theorem lk5_3 : Cond.methodLink RX5 3 Lib.objectInit ∈ pm_tb := (pm_w 85 (by decide +kernel) rfl)
theorem lk6_3 : Cond.methodLink RX6 3 Lib.objectInit ∈ pm_tb := (pm_w 264 (by decide +kernel) rfl)
theorem lk8_1 : Cond.methodLink RX8 1 Lib.objectInit ∈ pm_tb := (pm_w 803 (by decide +kernel) rfl)
theorem lc7_7 : Cond.classLink RX7 7 "RainShares$Valley" ∈ pm_tb := (pm_w 80 (by decide +kernel) rfl)
theorem lc7_26 : Cond.classLink RX7 26 "RainShares$Reader" ∈ pm_tb := (pm_w 229 (by decide +kernel) rfl)
theorem lc7_33 : Cond.classLink RX7 33 "RainShares$Voices" ∈ pm_tb := (pm_w 259 (by decide +kernel) rfl)
theorem lc7_40 : Cond.classLink RX7 40 "RainShares$Sheet" ∈ pm_tb := (pm_w 283 (by decide +kernel) rfl)
theorem lc3_28 : Cond.classLink RX3 28 "[[I" ∈ pm_tb := (pm_w 92 (by decide +kernel) rfl)
theorem lc5_9 : Cond.classLink RX5 9 "RainShares$Roofs" ∈ pm_tb := (pm_w 86 (by decide +kernel) rfl)
theorem lc5_18 : Cond.classLink RX5 18 "RainShares$Clouds" ∈ pm_tb := (pm_w 125 (by decide +kernel) rfl)
theorem lc5_25 : Cond.classLink RX5 25 "RainShares$Law" ∈ pm_tb := (pm_w 157 (by decide +kernel) rfl)
theorem lcL_7 : Cond.classLink "RainSharesLaw" 7 "RainShares" ∈ pm_tb := (pm_w 72 (by decide +kernel) rfl)
theorem lcL_10 : Cond.classLink "RainSharesLaw" 10 "RainSharesModel" ∈ pm_tb := (pm_w 798 (by decide +kernel) rfl)
theorem li_0 : Cond.instantiable RX0 5 ∈ pm_tb ∧ Cond.initialized RX0 ∈ pm_tb := ⟨(pm_w 126 (by decide +kernel) rfl), (pm_w 63 (by decide +kernel) rfl)⟩
theorem li_1 : Cond.instantiable RX1 5 ∈ pm_tb ∧ Cond.initialized RX1 ∈ pm_tb := ⟨(pm_w 159 (by decide +kernel) rfl), (pm_w 64 (by decide +kernel) rfl)⟩
theorem li_2 : Cond.instantiable RX2 7 ∈ pm_tb ∧ Cond.initialized RX2 ∈ pm_tb := ⟨(pm_w 230 (by decide +kernel) rfl), (pm_w 65 (by decide +kernel) rfl)⟩
theorem li_3 : Cond.instantiable RX3 6 ∈ pm_tb ∧ Cond.initialized RX3 ∈ pm_tb := ⟨(pm_w 87 (by decide +kernel) rfl), (pm_w 62 (by decide +kernel) rfl)⟩
theorem li_4 : Cond.instantiable RX4 3 ∈ pm_tb ∧ Cond.initialized RX4 ∈ pm_tb := ⟨(pm_w 285 (by decide +kernel) rfl), (pm_w 67 (by decide +kernel) rfl)⟩
theorem li_5 : Cond.instantiable RX5 12 ∈ pm_tb ∧ Cond.initialized RX5 ∈ pm_tb := ⟨(pm_w 81 (by decide +kernel) rfl), (pm_w 61 (by decide +kernel) rfl)⟩
theorem li_6 : Cond.instantiable RX6 5 ∈ pm_tb ∧ Cond.initialized RX6 ∈ pm_tb := ⟨(pm_w 260 (by decide +kernel) rfl), (pm_w 66 (by decide +kernel) rfl)⟩
theorem li_7 : Cond.instantiable RX7 8 ∈ pm_tb ∧ Cond.initialized RX7 ∈ pm_tb := ⟨(pm_w 73 (by decide +kernel) rfl), (pm_w 60 (by decide +kernel) rfl)⟩
theorem li_8 : Cond.instantiable RX8 20 ∈ pm_tb ∧ Cond.initialized RX8 ∈ pm_tb := ⟨(pm_w 799 (by decide +kernel) rfl), (pm_w 68 (by decide +kernel) rfl)⟩
theorem ff7_10 : pm_ff RX7 10 7 0 (.object "RainShares$Valley") := ⟨RX7, TX7, 8, tyX7, rfl, iX7, by decide, pm_w 303 (by decide +kernel) rfl, tyX7_ok, nmX7, rfl, rfl, by decide +kernel⟩
theorem ff7_16 : pm_ff RX7 16 7 1 (.object "RainShares$Valley") := ⟨RX7, TX7, 8, tyX7, rfl, iX7, by decide, pm_w 304 (by decide +kernel) rfl, tyX7_ok, nmX7, rfl, rfl, by decide +kernel⟩
theorem ff7_19 : pm_ff RX7 19 7 2 (.object "RainShares$Valley") := ⟨RX7, TX7, 8, tyX7, rfl, iX7, by decide, pm_w 305 (by decide +kernel) rfl, tyX7_ok, nmX7, rfl, rfl, by decide +kernel⟩
theorem ff7_29 : pm_ff RX7 29 7 4 (.object "RainShares$Reader") := ⟨RX7, TX7, 8, tyX7, rfl, iX7, by decide, pm_w 307 (by decide +kernel) rfl, tyX7_ok, nmX7, rfl, rfl, by decide +kernel⟩
theorem ff7_36 : pm_ff RX7 36 7 5 (.object "RainShares$Voices") := ⟨RX7, TX7, 8, tyX7, rfl, iX7, by decide, pm_w 308 (by decide +kernel) rfl, tyX7_ok, nmX7, rfl, rfl, by decide +kernel⟩
theorem ff7_42 : pm_ff RX7 42 7 6 (.array (.object "RainShares$Sheet")) := ⟨RX7, TX7, 8, tyX7, rfl, iX7, by decide, pm_w 309 (by decide +kernel) rfl, tyX7_ok, nmX7, rfl, rfl, by decide +kernel⟩
theorem ff7_46 : pm_ff RX7 46 7 7 (.array .int) := ⟨RX7, TX7, 8, tyX7, rfl, iX7, by decide, pm_w 310 (by decide +kernel) rfl, tyX7_ok, nmX7, rfl, rfl, by decide +kernel⟩
theorem ff0_15 : pm_ff RX0 15 0 1 (.array .int) := ⟨RX0, TX0, 5, tyX0, rfl, iX0, by decide, pm_w 134 (by decide +kernel) rfl, tyX0_ok, nmX0, rfl, rfl, by decide +kernel⟩
theorem ff0_19 : pm_ff RX0 19 0 2 (.array .int) := ⟨RX0, TX0, 5, tyX0, rfl, iX0, by decide, pm_w 137 (by decide +kernel) rfl, tyX0_ok, nmX0, rfl, rfl, by decide +kernel⟩
theorem ff0_22 : pm_ff RX0 22 0 3 (.array .int) := ⟨RX0, TX0, 5, tyX0, rfl, iX0, by decide, pm_w 140 (by decide +kernel) rfl, tyX0_ok, nmX0, rfl, rfl, by decide +kernel⟩
theorem ff0_25 : pm_ff RX0 25 0 4 (.array .int) := ⟨RX0, TX0, 5, tyX0, rfl, iX0, by decide, pm_w 143 (by decide +kernel) rfl, tyX0_ok, nmX0, rfl, rfl, by decide +kernel⟩
theorem ff1_9 : pm_ff RX1 9 1 2 (.array .int) := ⟨RX1, TX1, 5, tyX1, rfl, iX1, by decide, pm_w 166 (by decide +kernel) rfl, tyX1_ok, nmX1, rfl, rfl, by decide +kernel⟩
theorem ff1_19 : pm_ff RX1 19 1 4 (.array .int) := ⟨RX1, TX1, 5, tyX1, rfl, iX1, by decide, pm_w 170 (by decide +kernel) rfl, tyX1_ok, nmX1, rfl, rfl, by decide +kernel⟩
theorem ff1_22 : pm_ff RX1 22 1 0 .int := ⟨RX1, TX1, 5, tyX1, rfl, iX1, by decide, pm_w 164 (by decide +kernel) rfl, tyX1_ok, nmX1, rfl, rfl, by decide +kernel⟩
theorem ff1_25 : pm_ff RX1 25 1 1 .int := ⟨RX1, TX1, 5, tyX1, rfl, iX1, by decide, pm_w 165 (by decide +kernel) rfl, tyX1_ok, nmX1, rfl, rfl, by decide +kernel⟩
theorem ff2_9 : pm_ff RX2 9 2 0 (.array .int) := ⟨RX2, TX2, 7, tyX2, rfl, iX2, by decide, pm_w 235 (by decide +kernel) rfl, tyX2_ok, nmX2, rfl, rfl, by decide +kernel⟩
theorem ff2_19 : pm_ff RX2 19 2 2 (.array .int) := ⟨RX2, TX2, 7, tyX2, rfl, iX2, by decide, pm_w 239 (by decide +kernel) rfl, tyX2_ok, nmX2, rfl, rfl, by decide +kernel⟩
theorem ff3_15 : pm_ff RX3 15 3 1 (.array .int) := ⟨RX3, TX3, 6, tyX3, rfl, iX3, by decide, pm_w 97 (by decide +kernel) rfl, tyX3_ok, nmX3, rfl, rfl, by decide +kernel⟩
theorem ff3_19 : pm_ff RX3 19 3 2 (.array .int) := ⟨RX3, TX3, 6, tyX3, rfl, iX3, by decide, pm_w 100 (by decide +kernel) rfl, tyX3_ok, nmX3, rfl, rfl, by decide +kernel⟩
theorem ff3_22 : pm_ff RX3 22 3 3 (.array .int) := ⟨RX3, TX3, 6, tyX3, rfl, iX3, by decide, pm_w 103 (by decide +kernel) rfl, tyX3_ok, nmX3, rfl, rfl, by decide +kernel⟩
theorem ff3_25 : pm_ff RX3 25 3 4 (.array .int) := ⟨RX3, TX3, 6, tyX3, rfl, iX3, by decide, pm_w 106 (by decide +kernel) rfl, tyX3_ok, nmX3, rfl, rfl, by decide +kernel⟩
theorem ff3_30 : pm_ff RX3 30 3 5 (.array (.array .int)) := ⟨RX3, TX3, 6, tyX3, rfl, iX3, by decide, pm_w 109 (by decide +kernel) rfl, tyX3_ok, nmX3, rfl, rfl, by decide +kernel⟩
theorem ff4_18 : pm_ff RX4 18 4 2 (.array .int) := ⟨RX4, TX4, 3, tyX4, rfl, iX4, by decide, pm_w 294 (by decide +kernel) rfl, tyX4_ok, nmX4, rfl, rfl, by decide +kernel⟩
theorem ff5_12 : pm_ff RX5 12 5 0 (.object "RainShares$Roofs") := ⟨RX5, TX5, 12, tyX5, rfl, iX5, by decide, pm_w 182 (by decide +kernel) rfl, tyX5_ok, nmX5, rfl, rfl, by decide +kernel⟩
theorem ff5_21 : pm_ff RX5 21 5 1 (.object "RainShares$Clouds") := ⟨RX5, TX5, 12, tyX5, rfl, iX5, by decide, pm_w 184 (by decide +kernel) rfl, tyX5_ok, nmX5, rfl, rfl, by decide +kernel⟩
theorem ff5_30 : pm_ff RX5 30 5 2 (.array (.object "RainShares$Law")) := ⟨RX5, TX5, 12, tyX5, rfl, iX5, by decide, pm_w 186 (by decide +kernel) rfl, tyX5_ok, nmX5, rfl, rfl, by decide +kernel⟩
theorem ff5_41 : pm_ff RX5 41 5 5 (.array .int) := ⟨RX5, TX5, 12, tyX5, rfl, iX5, by decide, pm_w 192 (by decide +kernel) rfl, tyX5_ok, nmX5, rfl, rfl, by decide +kernel⟩
theorem ff5_48 : pm_ff RX5 48 5 7 (.array .int) := ⟨RX5, TX5, 12, tyX5, rfl, iX5, by decide, pm_w 196 (by decide +kernel) rfl, tyX5_ok, nmX5, rfl, rfl, by decide +kernel⟩
theorem ff5_54 : pm_ff RX5 54 5 9 (.array .int) := ⟨RX5, TX5, 12, tyX5, rfl, iX5, by decide, pm_w 200 (by decide +kernel) rfl, tyX5_ok, nmX5, rfl, rfl, by decide +kernel⟩
theorem ff5_57 : pm_ff RX5 57 5 10 (.array .int) := ⟨RX5, TX5, 12, tyX5, rfl, iX5, by decide, pm_w 202 (by decide +kernel) rfl, tyX5_ok, nmX5, rfl, rfl, by decide +kernel⟩
theorem ff5_60 : pm_ff RX5 60 5 11 (.array .int) := ⟨RX5, TX5, 12, tyX5, rfl, iX5, by decide, pm_w 203 (by decide +kernel) rfl, tyX5_ok, nmX5, rfl, rfl, by decide +kernel⟩
theorem ff6_9 : pm_ff RX6 9 6 0 (.array .int) := ⟨RX6, TX6, 5, tyX6, rfl, iX6, by decide, pm_w 265 (by decide +kernel) rfl, tyX6_ok, nmX6, rfl, rfl, by decide +kernel⟩
theorem ff8_7 : pm_ff RX8 7 8 0 (.array .int) := ⟨RX8, TX8, 20, tyX8, rfl, iX8, by decide, pm_w 804 (by decide +kernel) rfl, tyX8_ok, nmX8, rfl, rfl, by decide +kernel⟩
theorem ff8_13 : pm_ff RX8 13 8 1 (.array .int) := ⟨RX8, TX8, 20, tyX8, rfl, iX8, by decide, pm_w 805 (by decide +kernel) rfl, tyX8_ok, nmX8, rfl, rfl, by decide +kernel⟩
theorem ff8_16 : pm_ff RX8 16 8 3 (.array .int) := ⟨RX8, TX8, 20, tyX8, rfl, iX8, by decide, pm_w 807 (by decide +kernel) rfl, tyX8_ok, nmX8, rfl, rfl, by decide +kernel⟩
theorem ff8_19 : pm_ff RX8 19 8 4 (.array .int) := ⟨RX8, TX8, 20, tyX8, rfl, iX8, by decide, pm_w 808 (by decide +kernel) rfl, tyX8_ok, nmX8, rfl, rfl, by decide +kernel⟩
theorem ff8_22 : pm_ff RX8 22 8 11 (.array .int) := ⟨RX8, TX8, 20, tyX8, rfl, iX8, by decide, pm_w 815 (by decide +kernel) rfl, tyX8_ok, nmX8, rfl, rfl, by decide +kernel⟩
theorem ff8_25 : pm_ff RX8 25 8 12 (.array .int) := ⟨RX8, TX8, 20, tyX8, rfl, iX8, by decide, pm_w 816 (by decide +kernel) rfl, tyX8_ok, nmX8, rfl, rfl, by decide +kernel⟩
theorem ff8_28 : pm_ff RX8 28 8 13 (.array .int) := ⟨RX8, TX8, 20, tyX8, rfl, iX8, by decide, pm_w 817 (by decide +kernel) rfl, tyX8_ok, nmX8, rfl, rfl, by decide +kernel⟩
theorem ff8_31 : pm_ff RX8 31 8 16 (.array .int) := ⟨RX8, TX8, 20, tyX8, rfl, iX8, by decide, pm_w 820 (by decide +kernel) rfl, tyX8_ok, nmX8, rfl, rfl, by decide +kernel⟩
theorem ff8_34 : pm_ff RX8 34 8 17 (.array .int) := ⟨RX8, TX8, 20, tyX8, rfl, iX8, by decide, pm_w 821 (by decide +kernel) rfl, tyX8_ok, nmX8, rfl, rfl, by decide +kernel⟩
theorem ff8_37 : pm_ff RX8 37 8 18 (.array .int) := ⟨RX8, TX8, 20, tyX8, rfl, iX8, by decide, pm_w 822 (by decide +kernel) rfl, tyX8_ok, nmX8, rfl, rfl, by decide +kernel⟩
theorem ff8_40 : pm_ff RX8 40 8 19 (.array .int) := ⟨RX8, TX8, 20, tyX8, rfl, iX8, by decide, pm_w 823 (by decide +kernel) rfl, tyX8_ok, nmX8, rfl, rfl, by decide +kernel⟩
theorem ky_X0_init : Cond.instanceMethod yX0_init ∈ pm_tb ∧ Cond.initialized yX0_init.cls ∈ pm_tb ∧ Cond.code yX0_init mX0_init.1 mX0_init.2.2.1 none ∈ pm_tb ∧ yX0_init.cls ≠ "java/lang/invoke/MethodHandle" ∧ yX0_init.cls ≠ "java/lang/invoke/VarHandle" ∧ mX0_init.2.2.1 ≤ 40 ∧ mX0_init.2.2.2 = none ∧ yX0_init.name = "<init>" := ⟨(pm_w 128 (by decide +kernel) rfl), (pm_w 63 (by decide +kernel) rfl), (pm_w1 70 rfl rfl), by decide +kernel, by decide +kernel, by decide, rfl, rfl⟩
theorem np_X0_init : pm_np yX0_init 0 := by unfold pm_np; decide +kernel
theorem ky_X1_init : Cond.instanceMethod yX1_init ∈ pm_tb ∧ Cond.initialized yX1_init.cls ∈ pm_tb ∧ Cond.code yX1_init mX1_init.1 mX1_init.2.2.1 none ∈ pm_tb ∧ yX1_init.cls ≠ "java/lang/invoke/MethodHandle" ∧ yX1_init.cls ≠ "java/lang/invoke/VarHandle" ∧ mX1_init.2.2.1 ≤ 40 ∧ mX1_init.2.2.2 = none ∧ yX1_init.name = "<init>" := ⟨(pm_w 161 (by decide +kernel) rfl), (pm_w 64 (by decide +kernel) rfl), (pm_w1 103 rfl rfl), by decide +kernel, by decide +kernel, by decide, rfl, rfl⟩
theorem np_X1_init : pm_np yX1_init 2 := by unfold pm_np; decide +kernel
theorem ky_X2_init : Cond.instanceMethod yX2_init ∈ pm_tb ∧ Cond.initialized yX2_init.cls ∈ pm_tb ∧ Cond.code yX2_init mX2_init.1 mX2_init.2.2.1 none ∈ pm_tb ∧ yX2_init.cls ≠ "java/lang/invoke/MethodHandle" ∧ yX2_init.cls ≠ "java/lang/invoke/VarHandle" ∧ mX2_init.2.2.1 ≤ 40 ∧ mX2_init.2.2.2 = none ∧ yX2_init.name = "<init>" := ⟨(pm_w 232 (by decide +kernel) rfl), (pm_w 65 (by decide +kernel) rfl), (pm_w1 174 rfl rfl), by decide +kernel, by decide +kernel, by decide, rfl, rfl⟩
theorem np_X2_init : pm_np yX2_init 0 := by unfold pm_np; decide +kernel
theorem ky_X3_init : Cond.instanceMethod yX3_init ∈ pm_tb ∧ Cond.initialized yX3_init.cls ∈ pm_tb ∧ Cond.code yX3_init mX3_init.1 mX3_init.2.2.1 none ∈ pm_tb ∧ yX3_init.cls ≠ "java/lang/invoke/MethodHandle" ∧ yX3_init.cls ≠ "java/lang/invoke/VarHandle" ∧ mX3_init.2.2.1 ≤ 40 ∧ mX3_init.2.2.2 = none ∧ yX3_init.name = "<init>" := ⟨(pm_w 89 (by decide +kernel) rfl), (pm_w 62 (by decide +kernel) rfl), (pm_w1 31 rfl rfl), by decide +kernel, by decide +kernel, by decide, rfl, rfl⟩
theorem np_X3_init : pm_np yX3_init 0 := by unfold pm_np; decide +kernel
theorem ky_X4_init : Cond.instanceMethod yX4_init ∈ pm_tb ∧ Cond.initialized yX4_init.cls ∈ pm_tb ∧ Cond.code yX4_init mX4_init.1 mX4_init.2.2.1 none ∈ pm_tb ∧ yX4_init.cls ≠ "java/lang/invoke/MethodHandle" ∧ yX4_init.cls ≠ "java/lang/invoke/VarHandle" ∧ mX4_init.2.2.1 ≤ 40 ∧ mX4_init.2.2.2 = none ∧ yX4_init.name = "<init>" := ⟨(pm_w 287 (by decide +kernel) rfl), (pm_w 67 (by decide +kernel) rfl), (pm_w1 229 rfl rfl), by decide +kernel, by decide +kernel, by decide, rfl, rfl⟩
theorem np_X4_init : pm_np yX4_init 0 := by unfold pm_np; decide +kernel
theorem ky_X5_init : Cond.instanceMethod yX5_init ∈ pm_tb ∧ Cond.initialized yX5_init.cls ∈ pm_tb ∧ Cond.code yX5_init mX5_init.1 mX5_init.2.2.1 none ∈ pm_tb ∧ yX5_init.cls ≠ "java/lang/invoke/MethodHandle" ∧ yX5_init.cls ≠ "java/lang/invoke/VarHandle" ∧ mX5_init.2.2.1 ≤ 40 ∧ mX5_init.2.2.2 = none ∧ yX5_init.name = "<init>" := ⟨(pm_w 83 (by decide +kernel) rfl), (pm_w 61 (by decide +kernel) rfl), (pm_w1 25 rfl rfl), by decide +kernel, by decide +kernel, by decide, rfl, rfl⟩
theorem np_X5_init : pm_np yX5_init 0 := by unfold pm_np; decide +kernel
theorem ky_X6_init : Cond.instanceMethod yX6_init ∈ pm_tb ∧ Cond.initialized yX6_init.cls ∈ pm_tb ∧ Cond.code yX6_init mX6_init.1 mX6_init.2.2.1 none ∈ pm_tb ∧ yX6_init.cls ≠ "java/lang/invoke/MethodHandle" ∧ yX6_init.cls ≠ "java/lang/invoke/VarHandle" ∧ mX6_init.2.2.1 ≤ 40 ∧ mX6_init.2.2.2 = none ∧ yX6_init.name = "<init>" := ⟨(pm_w 262 (by decide +kernel) rfl), (pm_w 66 (by decide +kernel) rfl), (pm_w1 204 rfl rfl), by decide +kernel, by decide +kernel, by decide, rfl, rfl⟩
theorem np_X6_init : pm_np yX6_init 0 := by unfold pm_np; decide +kernel
theorem ky_X7_init : Cond.instanceMethod yX7_init ∈ pm_tb ∧ Cond.initialized yX7_init.cls ∈ pm_tb ∧ Cond.code yX7_init mX7_init.1 mX7_init.2.2.1 none ∈ pm_tb ∧ yX7_init.cls ≠ "java/lang/invoke/MethodHandle" ∧ yX7_init.cls ≠ "java/lang/invoke/VarHandle" ∧ mX7_init.2.2.1 ≤ 40 ∧ mX7_init.2.2.2 = none ∧ yX7_init.name = "<init>" := ⟨(pm_w 75 (by decide +kernel) rfl), (pm_w 60 (by decide +kernel) rfl), (pm_w1 17 rfl rfl), by decide +kernel, by decide +kernel, by decide, rfl, rfl⟩
theorem np_X7_init : pm_np yX7_init 0 := by unfold pm_np; decide +kernel
theorem ky_X8_init : Cond.instanceMethod yX8_init ∈ pm_tb ∧ Cond.initialized yX8_init.cls ∈ pm_tb ∧ Cond.code yX8_init mX8_init.1 mX8_init.2.2.1 none ∈ pm_tb ∧ yX8_init.cls ≠ "java/lang/invoke/MethodHandle" ∧ yX8_init.cls ≠ "java/lang/invoke/VarHandle" ∧ mX8_init.2.2.1 ≤ 40 ∧ mX8_init.2.2.2 = none ∧ yX8_init.name = "<init>" := ⟨(pm_w 801 (by decide +kernel) rfl), (pm_w 68 (by decide +kernel) rfl), (pm_w4 23 rfl rfl), by decide +kernel, by decide +kernel, by decide, rfl, rfl⟩
theorem np_X8_init : pm_np yX8_init 0 := by unfold pm_np; decide +kernel
theorem ln7_9 : ∀ U, pm_ext U → va_Nw (.methodLinkNest RX7 9 yX5_init "RainShares") U := fun U h => h.1.1
theorem ln7_28 : ∀ U, pm_ext U → va_Nw (.methodLinkNest RX7 28 yX2_init "RainShares") U := fun U h => h.1.2.2.2.1
theorem ln7_35 : ∀ U, pm_ext U → va_Nw (.methodLinkNest RX7 35 yX6_init "RainShares") U := fun U h => h.1.2.2.2.2.1
theorem ln7_50 : ∀ U, pm_ext U → va_Nw (.methodLinkNest RX7 50 yX4_init "RainShares") U := fun U h => h.1.2.2.2.2.2
theorem ln5_11 : ∀ U, pm_ext U → va_Nw (.methodLinkNest RX5 11 yX3_init "RainShares") U := fun U h => h.1.2.1
theorem ln5_20 : ∀ U, pm_ext U → va_Nw (.methodLinkNest RX5 20 yX0_init "RainShares") U := fun U h => h.1.2.2.1
def s0_CL : List pm_Sh := [.inr (.inr (0, [none, some 1, some 2, some 3, some 4])), .inl (0, 5), .inl (0, 5), .inl (0, 5), .inl (0, 5)]
def s0_LW : List pm_Sh := [.inr (.inr (1, [none, none, some 1, none, some 2])), .inl (0, 50), .inl (0, 50)]
def s0_RD : List pm_Sh := [.inr (.inr (2, [some 1, none, some 2, none, none, none, none])), .inl (0, 50), .inl (0, 50)]
def s0_RO : List pm_Sh := [.inr (.inr (3, [none, some 1, some 2, some 3, some 4, some 5])), .inl (0, 6), .inl (0, 6), .inl (0, 6), .inl (0, 6), .inr (.inl (3, [6, 7, 8, 9, 10, 11])), .inl (0, 6), .inl (0, 6), .inl (0, 6), .inl (0, 6), .inl (0, 6), .inl (0, 6)]
def s0_SH : List pm_Sh := [.inr (.inr (4, [none, none, some 1])), .inl (0, 40)]
def s0_VA : List pm_Sh := [.inr (.inr (5, [some 1, some 13, some 18, none, none, some 25, none, some 26, none, some 27, some 28, some 29])), .inr (.inr (3, [none, some 2, some 3, some 4, some 5, some 6])), .inl (0, 6), .inl (0, 6), .inl (0, 6), .inl (0, 6), .inr (.inl (3, [7, 8, 9, 10, 11, 12])), .inl (0, 6), .inl (0, 6), .inl (0, 6), .inl (0, 6), .inl (0, 6), .inl (0, 6), .inr (.inr (0, [none, some 14, some 15, some 16, some 17])), .inl (0, 5), .inl (0, 5), .inl (0, 5), .inl (0, 5), .inr (.inl (1, [19, 22])), .inr (.inr (1, [none, none, some 20, none, some 21])), .inl (0, 50), .inl (0, 50), .inr (.inr (1, [none, none, some 23, none, some 24])), .inl (0, 50), .inl (0, 50), .inl (0, 50), .inl (0, 20), .inl (0, 6), .inl (0, 5), .inl (0, 5)]
def s0_VO : List pm_Sh := [.inr (.inr (6, [some 1, none, none, none, none])), .inl (0, 40)]
def s0_RS : List pm_Sh := [.inr (.inr (7, [some 1, some 31, some 61, none, some 91, some 94, some 96, some 105])), .inr (.inr (5, [some 2, some 14, some 19, none, none, some 26, none, some 27, none, some 28, some 29, some 30])), .inr (.inr (3, [none, some 3, some 4, some 5, some 6, some 7])), .inl (0, 6), .inl (0, 6), .inl (0, 6), .inl (0, 6), .inr (.inl (3, [8, 9, 10, 11, 12, 13])), .inl (0, 6), .inl (0, 6), .inl (0, 6), .inl (0, 6), .inl (0, 6), .inl (0, 6), .inr (.inr (0, [none, some 15, some 16, some 17, some 18])), .inl (0, 5), .inl (0, 5), .inl (0, 5), .inl (0, 5), .inr (.inl (1, [20, 23])), .inr (.inr (1, [none, none, some 21, none, some 22])), .inl (0, 50), .inl (0, 50), .inr (.inr (1, [none, none, some 24, none, some 25])), .inl (0, 50), .inl (0, 50), .inl (0, 50), .inl (0, 20), .inl (0, 6), .inl (0, 5), .inl (0, 5), .inr (.inr (5, [some 32, some 44, some 49, none, none, some 56, none, some 57, none, some 58, some 59, some 60])), .inr (.inr (3, [none, some 33, some 34, some 35, some 36, some 37])), .inl (0, 6), .inl (0, 6), .inl (0, 6), .inl (0, 6), .inr (.inl (3, [38, 39, 40, 41, 42, 43])), .inl (0, 6), .inl (0, 6), .inl (0, 6), .inl (0, 6), .inl (0, 6), .inl (0, 6), .inr (.inr (0, [none, some 45, some 46, some 47, some 48])), .inl (0, 5), .inl (0, 5), .inl (0, 5), .inl (0, 5), .inr (.inl (1, [50, 53])), .inr (.inr (1, [none, none, some 51, none, some 52])), .inl (0, 50), .inl (0, 50), .inr (.inr (1, [none, none, some 54, none, some 55])), .inl (0, 50), .inl (0, 50), .inl (0, 50), .inl (0, 20), .inl (0, 6), .inl (0, 5), .inl (0, 5), .inr (.inr (5, [some 62, some 74, some 79, none, none, some 86, none, some 87, none, some 88, some 89, some 90])), .inr (.inr (3, [none, some 63, some 64, some 65, some 66, some 67])), .inl (0, 6), .inl (0, 6), .inl (0, 6), .inl (0, 6), .inr (.inl (3, [68, 69, 70, 71, 72, 73])), .inl (0, 6), .inl (0, 6), .inl (0, 6), .inl (0, 6), .inl (0, 6), .inl (0, 6), .inr (.inr (0, [none, some 75, some 76, some 77, some 78])), .inl (0, 5), .inl (0, 5), .inl (0, 5), .inl (0, 5), .inr (.inl (1, [80, 83])), .inr (.inr (1, [none, none, some 81, none, some 82])), .inl (0, 50), .inl (0, 50), .inr (.inr (1, [none, none, some 84, none, some 85])), .inl (0, 50), .inl (0, 50), .inl (0, 50), .inl (0, 20), .inl (0, 6), .inl (0, 5), .inl (0, 5), .inr (.inr (2, [some 92, none, some 93, none, none, none, none])), .inl (0, 50), .inl (0, 50), .inr (.inr (6, [some 95, none, none, none, none])), .inl (0, 40), .inr (.inl (2, [97, 99, 101, 103])), .inr (.inr (4, [none, none, some 98])), .inl (0, 40), .inr (.inr (4, [none, none, some 100])), .inl (0, 40), .inr (.inr (4, [none, none, some 102])), .inl (0, 40), .inr (.inr (4, [none, none, some 104])), .inl (0, 40), .inl (0, 6)]
def s0_MO : List pm_Sh := [.inr (.inr (8, [some 1, some 2, none, some 3, some 4, none, none, none, none, none, none, some 5, some 6, some 7, none, none, some 8, some 9, some 10, some 11])), .inl (0, 258), .inl (0, 258), .inl (0, 6), .inl (0, 86), .inl (0, 3), .inl (0, 6), .inl (0, 40), .inl (0, 4), .inl (0, 4), .inl (0, 160), .inl (0, 40)]
def m0_RO : pm_M := fun _ _ => 0
def m0_CL : pm_M := fun _ _ => 0
def m0_RD : pm_M := fun _ _ => 0
def m0_VO : pm_M := fun _ _ => 0
def m0_SH : pm_M := fun _ _ => 0
def m0_LW (x1 x2 : Int32) : pm_M := fun k j => if k = 0 then (if j = 0 then x1 else if j = 1 then x2 else 0) else 0
def m0_VA : pm_M := fun k j => if k < 1 then (if j = 4 then 1 else 0) else if k < 13 then m0_RO (k - 1) j else if k < 18 then m0_CL (k - 13) j else if k < 19 then 0 else if k < 22 then m0_LW 12 99 (k - 19) j else if k < 25 then m0_LW 1 9 (k - 22) j else 0
def m0_RS : pm_M := fun k j => if k < 1 then 0 else if k < 31 then m0_VA (k - 1) j else if k < 61 then m0_VA (k - 31) j else if k < 91 then m0_VA (k - 61) j else 0
def m0_MO : pm_M := fun k j => if k = 1 then (if j = 3 then 1 else 0) else 0
set_option maxHeartbeats 4000000 in
set_option maxRecDepth 100000 in
theorem cn_X0_init (l : Launch) (V : pm_V) : pm_Nc l V yX0_init mX0_init 1 [] 0 [.int 0, .null, .null, .null, .null] s0_CL m0_CL 4 20 := by
  refine pm_metN (by decide) rfl rfl rfl (fun Z a hz hm hend => ⟨Nat.le_of_ble_eq_true rfl, ?_⟩)
  refine jr_aloadn (j := 0) dX0_init_0 rfl ?_
  refine nr_obj dX0_init_1 lk0_3 lkO_i lkO_c (Nat.le_of_ble_eq_true rfl) ?_
  refine jr_aloadn (j := 0) dX0_init_4 rfl ?_
  refine jr_iconst (v := 0) dX0_init_5 (by decide) ?_
  refine nr_putV (q0 := 0) (ws' := [((a, .inr (0, [.int 0, .null, .null, .null, .null])) : Nat × va_E)]) dX0_init_6 fp0_9 rfl rfl rfl (Nat.le_of_ble_eq_true rfl) rfl ?_
  refine jr_aloadn (j := 0) dX0_init_9 rfl ?_
  refine jr_iconst (v := 5) dX0_init_10 (by decide) ?_
  refine nr_newa (N := 5) hz dX0_init_11 lkA_c (by decide) (by decide) (by decide) (Nat.le_of_ble_eq_true rfl) (Nat.le_of_ble_eq_true rfl) ?_
  intro q1
  refine nr_putF (q0 := 0) (ws' := (((a, .inr (0, [.int 0, .ref q1, .null, .null, .null])) : Nat × va_E) :: ([((q1, .inl (V.2.1 0, (5, .inl (fun _ => 0)))) : Nat × va_E)]))) hm dX0_init_13 ff0_15 rfl rfl rfl (Nat.le_of_ble_eq_true rfl) rfl ?_
  refine jr_aloadn (j := 0) dX0_init_16 rfl ?_
  refine jr_iconst (v := 5) dX0_init_17 (by decide) ?_
  refine nr_newa (N := 5) hz dX0_init_18 lkA_c (by decide) (by decide) (by decide) (Nat.le_of_ble_eq_true rfl) (Nat.le_of_ble_eq_true rfl) ?_
  intro q2
  refine nr_putF (q0 := 0) (ws' := (((a, .inr (0, [.int 0, .ref q1, .ref q2, .null, .null])) : Nat × va_E) :: ([((q1, .inl (V.2.1 0, (5, .inl (fun _ => 0)))) : Nat × va_E)] ++ [((q2, .inl (V.2.1 0, (5, .inl (fun _ => 0)))) : Nat × va_E)]))) hm dX0_init_20 ff0_19 rfl rfl rfl (Nat.le_of_ble_eq_true rfl) rfl ?_
  refine jr_aloadn (j := 0) dX0_init_23 rfl ?_
  refine jr_iconst (v := 5) dX0_init_24 (by decide) ?_
  refine nr_newa (N := 5) hz dX0_init_25 lkA_c (by decide) (by decide) (by decide) (Nat.le_of_ble_eq_true rfl) (Nat.le_of_ble_eq_true rfl) ?_
  intro q3
  refine nr_putF (q0 := 0) (ws' := (((a, .inr (0, [.int 0, .ref q1, .ref q2, .ref q3, .null])) : Nat × va_E) :: ([((q1, .inl (V.2.1 0, (5, .inl (fun _ => 0)))) : Nat × va_E)] ++ [((q2, .inl (V.2.1 0, (5, .inl (fun _ => 0)))) : Nat × va_E)] ++ [((q3, .inl (V.2.1 0, (5, .inl (fun _ => 0)))) : Nat × va_E)]))) hm dX0_init_27 ff0_22 rfl rfl rfl (Nat.le_of_ble_eq_true rfl) rfl ?_
  refine jr_aloadn (j := 0) dX0_init_30 rfl ?_
  refine jr_iconst (v := 5) dX0_init_31 (by decide) ?_
  refine nr_newa (N := 5) hz dX0_init_32 lkA_c (by decide) (by decide) (by decide) (Nat.le_of_ble_eq_true rfl) (Nat.le_of_ble_eq_true rfl) ?_
  intro q4
  refine nr_putF (q0 := 0) (ws' := (((a, .inr (0, [.int 0, .ref q1, .ref q2, .ref q3, .ref q4])) : Nat × va_E) :: ([((q1, .inl (V.2.1 0, (5, .inl (fun _ => 0)))) : Nat × va_E)] ++ [((q2, .inl (V.2.1 0, (5, .inl (fun _ => 0)))) : Nat × va_E)] ++ [((q3, .inl (V.2.1 0, (5, .inl (fun _ => 0)))) : Nat × va_E)] ++ [((q4, .inl (V.2.1 0, (5, .inl (fun _ => 0)))) : Nat × va_E)]))) hm dX0_init_34 ff0_25 rfl rfl rfl (Nat.le_of_ble_eq_true rfl) rfl ?_
  obtain ⟨Q, hQ⟩ : ∃ Q : Nat → Nat, Q = (fun k => if k < 1 then a else if k < 2 then q1 else if k < 3 then q2 else if k < 4 then q3 else if k < 5 then q4 else 0) := ⟨_, rfl⟩
  have hW : (((a, .inr (0, [.int 0, .ref q1, .ref q2, .ref q3, .ref q4])) : Nat × va_E) :: ([((q1, .inl (V.2.1 0, (5, .inl (fun _ => 0)))) : Nat × va_E)] ++ [((q2, .inl (V.2.1 0, (5, .inl (fun _ => 0)))) : Nat × va_E)] ++ [((q3, .inl (V.2.1 0, (5, .inl (fun _ => 0)))) : Nat × va_E)] ++ [((q4, .inl (V.2.1 0, (5, .inl (fun _ => 0)))) : Nat × va_E)])) = pm_wld (Q, V.2) s0_CL m0_CL := by
    rw [pm_wF_eq]
    have e0 : a = Q 0 := by rw [hQ]; rfl
    have e1 : q1 = Q 1 := by rw [hQ]; rfl
    have e2 : q2 = Q 2 := by rw [hQ]; rfl
    have e3 : q3 = Q 3 := by rw [hQ]; rfl
    have e4 : q4 = Q 4 := by rw [hQ]; rfl
    simp only [e0, e1, e2, e3, e4]
    rfl
  rw [hW]
  exact hend _ _ _ Q (by rw [hQ]; rfl) dX0_init_37
set_option maxHeartbeats 4000000 in
set_option maxRecDepth 100000 in
theorem cn_X1_init (x1 : Int32) (x2 : Int32) (l : Launch) (V : pm_V) : pm_Nc l V yX1_init mX1_init 1 [.int x1, .int x2] 1 [.int 0, .int 0, .null, .int 0, .null] s0_LW (m0_LW x1 x2) 2 100 := by
  refine pm_metN (by decide) rfl rfl rfl (fun Z a hz hm hend => ⟨Nat.le_of_ble_eq_true rfl, ?_⟩)
  refine jr_aloadn (j := 0) dX1_init_0 rfl ?_
  refine nr_obj dX1_init_1 lk1_3 lkO_i lkO_c (Nat.le_of_ble_eq_true rfl) ?_
  refine jr_aloadn (j := 0) dX1_init_4 rfl ?_
  refine jr_bipush (v := 50) dX1_init_5 (by decide) ?_
  refine nr_newa (N := 50) hz dX1_init_7 lkA_c (by decide) (by decide) (by decide) (Nat.le_of_ble_eq_true rfl) (Nat.le_of_ble_eq_true rfl) ?_
  intro q1
  refine nr_putF (q0 := 0) (ws' := (((a, .inr (1, [.int 0, .int 0, .ref q1, .int 0, .null])) : Nat × va_E) :: ([((q1, .inl (V.2.1 0, (50, .inl (fun _ => 0)))) : Nat × va_E)]))) hm dX1_init_9 ff1_9 rfl rfl rfl (Nat.le_of_ble_eq_true rfl) rfl ?_
  refine jr_aloadn (j := 0) dX1_init_12 rfl ?_
  refine jr_iconst (v := 0) dX1_init_13 (by decide) ?_
  refine nr_putV (q0 := 0) (ws' := (((a, .inr (1, [.int 0, .int 0, .ref q1, .int 0, .null])) : Nat × va_E) :: ([((q1, .inl (V.2.1 0, (50, .inl (fun _ => 0)))) : Nat × va_E)]))) dX1_init_14 fp1_15 rfl rfl rfl (Nat.le_of_ble_eq_true rfl) rfl ?_
  refine jr_aloadn (j := 0) dX1_init_17 rfl ?_
  refine jr_bipush (v := 50) dX1_init_18 (by decide) ?_
  refine nr_newa (N := 50) hz dX1_init_20 lkA_c (by decide) (by decide) (by decide) (Nat.le_of_ble_eq_true rfl) (Nat.le_of_ble_eq_true rfl) ?_
  intro q2
  refine nr_putF (q0 := 0) (ws' := (((a, .inr (1, [.int 0, .int 0, .ref q1, .int 0, .ref q2])) : Nat × va_E) :: ([((q1, .inl (V.2.1 0, (50, .inl (fun _ => 0)))) : Nat × va_E)] ++ [((q2, .inl (V.2.1 0, (50, .inl (fun _ => 0)))) : Nat × va_E)]))) hm dX1_init_22 ff1_19 rfl rfl rfl (Nat.le_of_ble_eq_true rfl) rfl ?_
  refine jr_aloadn (j := 0) dX1_init_25 rfl ?_
  refine jr_iloadn (j := 1) dX1_init_26 rfl ?_
  refine nr_putF (q0 := 0) (ws' := (((a, .inr (1, [.int x1, .int 0, .ref q1, .int 0, .ref q2])) : Nat × va_E) :: ([((q1, .inl (V.2.1 0, (50, .inl (fun _ => 0)))) : Nat × va_E)] ++ [((q2, .inl (V.2.1 0, (50, .inl (fun _ => 0)))) : Nat × va_E)]))) hm dX1_init_27 ff1_22 rfl rfl rfl (Nat.le_of_ble_eq_true rfl) rfl ?_
  refine jr_aloadn (j := 0) dX1_init_30 rfl ?_
  refine jr_iloadn (j := 2) dX1_init_31 rfl ?_
  refine nr_putF (q0 := 0) (ws' := (((a, .inr (1, [.int x1, .int x2, .ref q1, .int 0, .ref q2])) : Nat × va_E) :: ([((q1, .inl (V.2.1 0, (50, .inl (fun _ => 0)))) : Nat × va_E)] ++ [((q2, .inl (V.2.1 0, (50, .inl (fun _ => 0)))) : Nat × va_E)]))) hm dX1_init_32 ff1_25 rfl rfl rfl (Nat.le_of_ble_eq_true rfl) rfl ?_
  obtain ⟨Q, hQ⟩ : ∃ Q : Nat → Nat, Q = (fun k => if k < 1 then a else if k < 2 then q1 else if k < 3 then q2 else 0) := ⟨_, rfl⟩
  have hW : (((a, .inr (1, [.int x1, .int x2, .ref q1, .int 0, .ref q2])) : Nat × va_E) :: ([((q1, .inl (V.2.1 0, (50, .inl (fun _ => 0)))) : Nat × va_E)] ++ [((q2, .inl (V.2.1 0, (50, .inl (fun _ => 0)))) : Nat × va_E)])) = pm_wld (Q, V.2) s0_LW (m0_LW x1 x2) := by
    rw [pm_wF_eq]
    have e0 : a = Q 0 := by rw [hQ]; rfl
    have e1 : q1 = Q 1 := by rw [hQ]; rfl
    have e2 : q2 = Q 2 := by rw [hQ]; rfl
    simp only [e0, e1, e2]
    rfl
  rw [hW]
  exact hend _ _ _ Q (by rw [hQ]; rfl) dX1_init_35
set_option maxHeartbeats 4000000 in
set_option maxRecDepth 100000 in
theorem cn_X2_init (l : Launch) (V : pm_V) : pm_Nc l V yX2_init mX2_init 1 [] 2 [.null, .int 0, .null, .int 0, .int 0, .int 0, .int 0] s0_RD m0_RD 2 100 := by
  refine pm_metN (by decide) rfl rfl rfl (fun Z a hz hm hend => ⟨Nat.le_of_ble_eq_true rfl, ?_⟩)
  refine jr_aloadn (j := 0) dX2_init_0 rfl ?_
  refine nr_obj dX2_init_1 lk2_3 lkO_i lkO_c (Nat.le_of_ble_eq_true rfl) ?_
  refine jr_aloadn (j := 0) dX2_init_4 rfl ?_
  refine jr_bipush (v := 50) dX2_init_5 (by decide) ?_
  refine nr_newa (N := 50) hz dX2_init_7 lkA_c (by decide) (by decide) (by decide) (Nat.le_of_ble_eq_true rfl) (Nat.le_of_ble_eq_true rfl) ?_
  intro q1
  refine nr_putF (q0 := 0) (ws' := (((a, .inr (2, [.ref q1, .int 0, .null, .int 0, .int 0, .int 0, .int 0])) : Nat × va_E) :: ([((q1, .inl (V.2.1 0, (50, .inl (fun _ => 0)))) : Nat × va_E)]))) hm dX2_init_9 ff2_9 rfl rfl rfl (Nat.le_of_ble_eq_true rfl) rfl ?_
  refine jr_aloadn (j := 0) dX2_init_12 rfl ?_
  refine jr_iconst (v := 0) dX2_init_13 (by decide) ?_
  refine nr_putV (q0 := 0) (ws' := (((a, .inr (2, [.ref q1, .int 0, .null, .int 0, .int 0, .int 0, .int 0])) : Nat × va_E) :: ([((q1, .inl (V.2.1 0, (50, .inl (fun _ => 0)))) : Nat × va_E)]))) dX2_init_14 fp2_15 rfl rfl rfl (Nat.le_of_ble_eq_true rfl) rfl ?_
  refine jr_aloadn (j := 0) dX2_init_17 rfl ?_
  refine jr_bipush (v := 50) dX2_init_18 (by decide) ?_
  refine nr_newa (N := 50) hz dX2_init_20 lkA_c (by decide) (by decide) (by decide) (Nat.le_of_ble_eq_true rfl) (Nat.le_of_ble_eq_true rfl) ?_
  intro q2
  refine nr_putF (q0 := 0) (ws' := (((a, .inr (2, [.ref q1, .int 0, .ref q2, .int 0, .int 0, .int 0, .int 0])) : Nat × va_E) :: ([((q1, .inl (V.2.1 0, (50, .inl (fun _ => 0)))) : Nat × va_E)] ++ [((q2, .inl (V.2.1 0, (50, .inl (fun _ => 0)))) : Nat × va_E)]))) hm dX2_init_22 ff2_19 rfl rfl rfl (Nat.le_of_ble_eq_true rfl) rfl ?_
  refine jr_aloadn (j := 0) dX2_init_25 rfl ?_
  refine jr_iconst (v := 0) dX2_init_26 (by decide) ?_
  refine nr_putV (q0 := 0) (ws' := (((a, .inr (2, [.ref q1, .int 0, .ref q2, .int 0, .int 0, .int 0, .int 0])) : Nat × va_E) :: ([((q1, .inl (V.2.1 0, (50, .inl (fun _ => 0)))) : Nat × va_E)] ++ [((q2, .inl (V.2.1 0, (50, .inl (fun _ => 0)))) : Nat × va_E)]))) dX2_init_27 fp2_22 rfl rfl rfl (Nat.le_of_ble_eq_true rfl) rfl ?_
  refine jr_aloadn (j := 0) dX2_init_30 rfl ?_
  refine jr_iconst (v := 0) dX2_init_31 (by decide) ?_
  refine nr_putV (q0 := 0) (ws' := (((a, .inr (2, [.ref q1, .int 0, .ref q2, .int 0, .int 0, .int 0, .int 0])) : Nat × va_E) :: ([((q1, .inl (V.2.1 0, (50, .inl (fun _ => 0)))) : Nat × va_E)] ++ [((q2, .inl (V.2.1 0, (50, .inl (fun _ => 0)))) : Nat × va_E)]))) dX2_init_32 fp2_25 rfl rfl rfl (Nat.le_of_ble_eq_true rfl) rfl ?_
  refine jr_aloadn (j := 0) dX2_init_35 rfl ?_
  refine jr_iconst (v := 0) dX2_init_36 (by decide) ?_
  refine nr_putV (q0 := 0) (ws' := (((a, .inr (2, [.ref q1, .int 0, .ref q2, .int 0, .int 0, .int 0, .int 0])) : Nat × va_E) :: ([((q1, .inl (V.2.1 0, (50, .inl (fun _ => 0)))) : Nat × va_E)] ++ [((q2, .inl (V.2.1 0, (50, .inl (fun _ => 0)))) : Nat × va_E)]))) dX2_init_37 fp2_28 rfl rfl rfl (Nat.le_of_ble_eq_true rfl) rfl ?_
  refine jr_aloadn (j := 0) dX2_init_40 rfl ?_
  refine jr_iconst (v := 0) dX2_init_41 (by decide) ?_
  refine nr_putV (q0 := 0) (ws' := (((a, .inr (2, [.ref q1, .int 0, .ref q2, .int 0, .int 0, .int 0, .int 0])) : Nat × va_E) :: ([((q1, .inl (V.2.1 0, (50, .inl (fun _ => 0)))) : Nat × va_E)] ++ [((q2, .inl (V.2.1 0, (50, .inl (fun _ => 0)))) : Nat × va_E)]))) dX2_init_42 fp2_31 rfl rfl rfl (Nat.le_of_ble_eq_true rfl) rfl ?_
  obtain ⟨Q, hQ⟩ : ∃ Q : Nat → Nat, Q = (fun k => if k < 1 then a else if k < 2 then q1 else if k < 3 then q2 else 0) := ⟨_, rfl⟩
  have hW : (((a, .inr (2, [.ref q1, .int 0, .ref q2, .int 0, .int 0, .int 0, .int 0])) : Nat × va_E) :: ([((q1, .inl (V.2.1 0, (50, .inl (fun _ => 0)))) : Nat × va_E)] ++ [((q2, .inl (V.2.1 0, (50, .inl (fun _ => 0)))) : Nat × va_E)])) = pm_wld (Q, V.2) s0_RD m0_RD := by
    rw [pm_wF_eq]
    have e0 : a = Q 0 := by rw [hQ]; rfl
    have e1 : q1 = Q 1 := by rw [hQ]; rfl
    have e2 : q2 = Q 2 := by rw [hQ]; rfl
    simp only [e0, e1, e2]
    rfl
  rw [hW]
  exact hend _ _ _ Q (by rw [hQ]; rfl) dX2_init_45
set_option maxHeartbeats 4000000 in
set_option maxRecDepth 100000 in
theorem cn_X3_init (l : Launch) (V : pm_V) : pm_Nc l V yX3_init mX3_init 1 [] 3 [.int 0, .null, .null, .null, .null, .null] s0_RO m0_RO 11 66 := by
  refine pm_metN (by decide) rfl rfl rfl (fun Z a hz hm hend => ⟨Nat.le_of_ble_eq_true rfl, ?_⟩)
  refine jr_aloadn (j := 0) dX3_init_0 rfl ?_
  refine nr_obj dX3_init_1 lk3_3 lkO_i lkO_c (Nat.le_of_ble_eq_true rfl) ?_
  refine jr_aloadn (j := 0) dX3_init_4 rfl ?_
  refine jr_iconst (v := 0) dX3_init_5 (by decide) ?_
  refine nr_putV (q0 := 0) (ws' := [((a, .inr (3, [.int 0, .null, .null, .null, .null, .null])) : Nat × va_E)]) dX3_init_6 fp3_9 rfl rfl rfl (Nat.le_of_ble_eq_true rfl) rfl ?_
  refine jr_aloadn (j := 0) dX3_init_9 rfl ?_
  refine jr_bipush (v := 6) dX3_init_10 (by decide) ?_
  refine nr_newa (N := 6) hz dX3_init_12 lkA_c (by decide) (by decide) (by decide) (Nat.le_of_ble_eq_true rfl) (Nat.le_of_ble_eq_true rfl) ?_
  intro q1
  refine nr_putF (q0 := 0) (ws' := (((a, .inr (3, [.int 0, .ref q1, .null, .null, .null, .null])) : Nat × va_E) :: ([((q1, .inl (V.2.1 0, (6, .inl (fun _ => 0)))) : Nat × va_E)]))) hm dX3_init_14 ff3_15 rfl rfl rfl (Nat.le_of_ble_eq_true rfl) rfl ?_
  refine jr_aloadn (j := 0) dX3_init_17 rfl ?_
  refine jr_bipush (v := 6) dX3_init_18 (by decide) ?_
  refine nr_newa (N := 6) hz dX3_init_20 lkA_c (by decide) (by decide) (by decide) (Nat.le_of_ble_eq_true rfl) (Nat.le_of_ble_eq_true rfl) ?_
  intro q2
  refine nr_putF (q0 := 0) (ws' := (((a, .inr (3, [.int 0, .ref q1, .ref q2, .null, .null, .null])) : Nat × va_E) :: ([((q1, .inl (V.2.1 0, (6, .inl (fun _ => 0)))) : Nat × va_E)] ++ [((q2, .inl (V.2.1 0, (6, .inl (fun _ => 0)))) : Nat × va_E)]))) hm dX3_init_22 ff3_19 rfl rfl rfl (Nat.le_of_ble_eq_true rfl) rfl ?_
  refine jr_aloadn (j := 0) dX3_init_25 rfl ?_
  refine jr_bipush (v := 6) dX3_init_26 (by decide) ?_
  refine nr_newa (N := 6) hz dX3_init_28 lkA_c (by decide) (by decide) (by decide) (Nat.le_of_ble_eq_true rfl) (Nat.le_of_ble_eq_true rfl) ?_
  intro q3
  refine nr_putF (q0 := 0) (ws' := (((a, .inr (3, [.int 0, .ref q1, .ref q2, .ref q3, .null, .null])) : Nat × va_E) :: ([((q1, .inl (V.2.1 0, (6, .inl (fun _ => 0)))) : Nat × va_E)] ++ [((q2, .inl (V.2.1 0, (6, .inl (fun _ => 0)))) : Nat × va_E)] ++ [((q3, .inl (V.2.1 0, (6, .inl (fun _ => 0)))) : Nat × va_E)]))) hm dX3_init_30 ff3_22 rfl rfl rfl (Nat.le_of_ble_eq_true rfl) rfl ?_
  refine jr_aloadn (j := 0) dX3_init_33 rfl ?_
  refine jr_bipush (v := 6) dX3_init_34 (by decide) ?_
  refine nr_newa (N := 6) hz dX3_init_36 lkA_c (by decide) (by decide) (by decide) (Nat.le_of_ble_eq_true rfl) (Nat.le_of_ble_eq_true rfl) ?_
  intro q4
  refine nr_putF (q0 := 0) (ws' := (((a, .inr (3, [.int 0, .ref q1, .ref q2, .ref q3, .ref q4, .null])) : Nat × va_E) :: ([((q1, .inl (V.2.1 0, (6, .inl (fun _ => 0)))) : Nat × va_E)] ++ [((q2, .inl (V.2.1 0, (6, .inl (fun _ => 0)))) : Nat × va_E)] ++ [((q3, .inl (V.2.1 0, (6, .inl (fun _ => 0)))) : Nat × va_E)] ++ [((q4, .inl (V.2.1 0, (6, .inl (fun _ => 0)))) : Nat × va_E)]))) hm dX3_init_38 ff3_25 rfl rfl rfl (Nat.le_of_ble_eq_true rfl) rfl ?_
  refine jr_aloadn (j := 0) dX3_init_41 rfl ?_
  refine jr_bipush (v := 6) dX3_init_42 (by decide) ?_
  refine jr_bipush (v := 6) dX3_init_44 (by decide) ?_
  refine nr_mna hz dX3_init_46 lc3_28 lkA_c (Nat.le_of_ble_eq_true rfl) (Nat.le_of_ble_eq_true rfl) ?_
  intro q5 r5
  refine nr_putF (q0 := 0) (ws' := (((a, .inr (3, [.int 0, .ref q1, .ref q2, .ref q3, .ref q4, .ref q5])) : Nat × va_E) :: ([((q1, .inl (V.2.1 0, (6, .inl (fun _ => 0)))) : Nat × va_E)] ++ [((q2, .inl (V.2.1 0, (6, .inl (fun _ => 0)))) : Nat × va_E)] ++ [((q3, .inl (V.2.1 0, (6, .inl (fun _ => 0)))) : Nat × va_E)] ++ [((q4, .inl (V.2.1 0, (6, .inl (fun _ => 0)))) : Nat × va_E)] ++ (((q5, .inl (V.2.1 3, (6, .inr (.inr (.inr (.inr (fun i => if i < 6 then some (r5 i) else none))))))) : Nat × va_E) :: (List.range 6).map (fun i => ((r5 i, .inl (V.2.1 0, (6, .inl (fun _ => 0)))) : Nat × va_E)))))) hm dX3_init_50 ff3_30 rfl rfl rfl (Nat.le_of_ble_eq_true rfl) rfl ?_
  obtain ⟨Q, hQ⟩ : ∃ Q : Nat → Nat, Q = (fun k => if k < 1 then a else if k < 2 then q1 else if k < 3 then q2 else if k < 4 then q3 else if k < 5 then q4 else if k < 6 then q5 else if k < 12 then r5 (k - 6) else 0) := ⟨_, rfl⟩
  have hW : (((a, .inr (3, [.int 0, .ref q1, .ref q2, .ref q3, .ref q4, .ref q5])) : Nat × va_E) :: ([((q1, .inl (V.2.1 0, (6, .inl (fun _ => 0)))) : Nat × va_E)] ++ [((q2, .inl (V.2.1 0, (6, .inl (fun _ => 0)))) : Nat × va_E)] ++ [((q3, .inl (V.2.1 0, (6, .inl (fun _ => 0)))) : Nat × va_E)] ++ [((q4, .inl (V.2.1 0, (6, .inl (fun _ => 0)))) : Nat × va_E)] ++ (((q5, .inl (V.2.1 3, (6, .inr (.inr (.inr (.inr (fun i => if i < 6 then some (r5 i) else none))))))) : Nat × va_E) :: (List.range 6).map (fun i => ((r5 i, .inl (V.2.1 0, (6, .inl (fun _ => 0)))) : Nat × va_E))))) = pm_wld (Q, V.2) s0_RO m0_RO := by
    rw [pm_wF_eq]
    rw [pm_l6 Q 6 7 8 9 10 11 (r := r5) (by rw [hQ]; rfl) (by rw [hQ]; rfl) (by rw [hQ]; rfl) (by rw [hQ]; rfl) (by rw [hQ]; rfl) (by rw [hQ]; rfl)]
    have e0 : a = Q 0 := by rw [hQ]; rfl
    have e1 : q1 = Q 1 := by rw [hQ]; rfl
    have e2 : q2 = Q 2 := by rw [hQ]; rfl
    have e3 : q3 = Q 3 := by rw [hQ]; rfl
    have e4 : q4 = Q 4 := by rw [hQ]; rfl
    have g0 : r5 0 = Q 6 := by rw [hQ]; rfl
    have g1 : r5 1 = Q 7 := by rw [hQ]; rfl
    have g2 : r5 2 = Q 8 := by rw [hQ]; rfl
    have g3 : r5 3 = Q 9 := by rw [hQ]; rfl
    have g4 : r5 4 = Q 10 := by rw [hQ]; rfl
    have g5 : r5 5 = Q 11 := by rw [hQ]; rfl
    have gg : (List.range 6).map (fun i => ((r5 i, .inl (V.2.1 0, (6, .inl (fun _ => 0)))) : Nat × va_E)) = [(Q 6, .inl (V.2.1 0, (6, .inl (fun _ => 0)))), (Q 7, .inl (V.2.1 0, (6, .inl (fun _ => 0)))), (Q 8, .inl (V.2.1 0, (6, .inl (fun _ => 0)))), (Q 9, .inl (V.2.1 0, (6, .inl (fun _ => 0)))), (Q 10, .inl (V.2.1 0, (6, .inl (fun _ => 0)))), (Q 11, .inl (V.2.1 0, (6, .inl (fun _ => 0))))] := by rw [← g0, ← g1, ← g2, ← g3, ← g4, ← g5]; rfl
    rw [gg]
    have e5 : q5 = Q 5 := by rw [hQ]; rfl
    simp only [e0, e1, e2, e3, e4, e5]
    rfl
  rw [hW]
  exact hend _ _ _ Q (by rw [hQ]; rfl) dX3_init_53
set_option maxHeartbeats 4000000 in
set_option maxRecDepth 100000 in
theorem cn_X4_init (l : Launch) (V : pm_V) : pm_Nc l V yX4_init mX4_init 1 [] 4 [.int 0, .int 0, .null] s0_SH m0_SH 1 40 := by
  refine pm_metN (by decide) rfl rfl rfl (fun Z a hz hm hend => ⟨Nat.le_of_ble_eq_true rfl, ?_⟩)
  refine jr_aloadn (j := 0) dX4_init_0 rfl ?_
  refine nr_obj dX4_init_1 lk4_3 lkO_i lkO_c (Nat.le_of_ble_eq_true rfl) ?_
  refine jr_aloadn (j := 0) dX4_init_4 rfl ?_
  refine jr_iconst (v := 0) dX4_init_5 (by decide) ?_
  refine nr_putV (q0 := 0) (ws' := [((a, .inr (4, [.int 0, .int 0, .null])) : Nat × va_E)]) dX4_init_6 fp4_9 rfl rfl rfl (Nat.le_of_ble_eq_true rfl) rfl ?_
  refine jr_aloadn (j := 0) dX4_init_9 rfl ?_
  refine jr_iconst (v := 0) dX4_init_10 (by decide) ?_
  refine nr_putV (q0 := 0) (ws' := [((a, .inr (4, [.int 0, .int 0, .null])) : Nat × va_E)]) dX4_init_11 fp4_15 rfl rfl rfl (Nat.le_of_ble_eq_true rfl) rfl ?_
  refine jr_aloadn (j := 0) dX4_init_14 rfl ?_
  refine jr_bipush (v := 40) dX4_init_15 (by decide) ?_
  refine nr_newa (N := 40) hz dX4_init_17 lkA_c (by decide) (by decide) (by decide) (Nat.le_of_ble_eq_true rfl) (Nat.le_of_ble_eq_true rfl) ?_
  intro q1
  refine nr_putF (q0 := 0) (ws' := (((a, .inr (4, [.int 0, .int 0, .ref q1])) : Nat × va_E) :: ([((q1, .inl (V.2.1 0, (40, .inl (fun _ => 0)))) : Nat × va_E)]))) hm dX4_init_19 ff4_18 rfl rfl rfl (Nat.le_of_ble_eq_true rfl) rfl ?_
  obtain ⟨Q, hQ⟩ : ∃ Q : Nat → Nat, Q = (fun k => if k < 1 then a else if k < 2 then q1 else 0) := ⟨_, rfl⟩
  have hW : (((a, .inr (4, [.int 0, .int 0, .ref q1])) : Nat × va_E) :: ([((q1, .inl (V.2.1 0, (40, .inl (fun _ => 0)))) : Nat × va_E)])) = pm_wld (Q, V.2) s0_SH m0_SH := by
    rw [pm_wF_eq]
    have e0 : a = Q 0 := by rw [hQ]; rfl
    have e1 : q1 = Q 1 := by rw [hQ]; rfl
    simp only [e0, e1]
    rfl
  rw [hW]
  exact hend _ _ _ Q (by rw [hQ]; rfl) dX4_init_22
set_option maxHeartbeats 4000000 in
set_option maxRecDepth 100000 in
theorem cn_X6_init (l : Launch) (V : pm_V) : pm_Nc l V yX6_init mX6_init 1 [] 6 [.null, .int 0, .int 0, .int 0, .int 0] s0_VO m0_VO 1 40 := by
  refine pm_metN (by decide) rfl rfl rfl (fun Z a hz hm hend => ⟨Nat.le_of_ble_eq_true rfl, ?_⟩)
  refine jr_aloadn (j := 0) dX6_init_0 rfl ?_
  refine nr_obj dX6_init_1 lk6_3 lkO_i lkO_c (Nat.le_of_ble_eq_true rfl) ?_
  refine jr_aloadn (j := 0) dX6_init_4 rfl ?_
  refine jr_bipush (v := 40) dX6_init_5 (by decide) ?_
  refine nr_newa (N := 40) hz dX6_init_7 lkA_c (by decide) (by decide) (by decide) (Nat.le_of_ble_eq_true rfl) (Nat.le_of_ble_eq_true rfl) ?_
  intro q1
  refine nr_putF (q0 := 0) (ws' := (((a, .inr (6, [.ref q1, .int 0, .int 0, .int 0, .int 0])) : Nat × va_E) :: ([((q1, .inl (V.2.1 0, (40, .inl (fun _ => 0)))) : Nat × va_E)]))) hm dX6_init_9 ff6_9 rfl rfl rfl (Nat.le_of_ble_eq_true rfl) rfl ?_
  refine jr_aloadn (j := 0) dX6_init_12 rfl ?_
  refine jr_iconst (v := 0) dX6_init_13 (by decide) ?_
  refine nr_putV (q0 := 0) (ws' := (((a, .inr (6, [.ref q1, .int 0, .int 0, .int 0, .int 0])) : Nat × va_E) :: ([((q1, .inl (V.2.1 0, (40, .inl (fun _ => 0)))) : Nat × va_E)]))) dX6_init_14 fp6_15 rfl rfl rfl (Nat.le_of_ble_eq_true rfl) rfl ?_
  refine jr_aloadn (j := 0) dX6_init_17 rfl ?_
  refine jr_iconst (v := 0) dX6_init_18 (by decide) ?_
  refine nr_putV (q0 := 0) (ws' := (((a, .inr (6, [.ref q1, .int 0, .int 0, .int 0, .int 0])) : Nat × va_E) :: ([((q1, .inl (V.2.1 0, (40, .inl (fun _ => 0)))) : Nat × va_E)]))) dX6_init_19 fp6_19 rfl rfl rfl (Nat.le_of_ble_eq_true rfl) rfl ?_
  refine jr_aloadn (j := 0) dX6_init_22 rfl ?_
  refine jr_iconst (v := 0) dX6_init_23 (by decide) ?_
  refine nr_putV (q0 := 0) (ws' := (((a, .inr (6, [.ref q1, .int 0, .int 0, .int 0, .int 0])) : Nat × va_E) :: ([((q1, .inl (V.2.1 0, (40, .inl (fun _ => 0)))) : Nat × va_E)]))) dX6_init_24 fp6_22 rfl rfl rfl (Nat.le_of_ble_eq_true rfl) rfl ?_
  refine jr_aloadn (j := 0) dX6_init_27 rfl ?_
  refine jr_iconst (v := 0) dX6_init_28 (by decide) ?_
  refine nr_putV (q0 := 0) (ws' := (((a, .inr (6, [.ref q1, .int 0, .int 0, .int 0, .int 0])) : Nat × va_E) :: ([((q1, .inl (V.2.1 0, (40, .inl (fun _ => 0)))) : Nat × va_E)]))) dX6_init_29 fp6_25 rfl rfl rfl (Nat.le_of_ble_eq_true rfl) rfl ?_
  obtain ⟨Q, hQ⟩ : ∃ Q : Nat → Nat, Q = (fun k => if k < 1 then a else if k < 2 then q1 else 0) := ⟨_, rfl⟩
  have hW : (((a, .inr (6, [.ref q1, .int 0, .int 0, .int 0, .int 0])) : Nat × va_E) :: ([((q1, .inl (V.2.1 0, (40, .inl (fun _ => 0)))) : Nat × va_E)])) = pm_wld (Q, V.2) s0_VO m0_VO := by
    rw [pm_wF_eq]
    have e0 : a = Q 0 := by rw [hQ]; rfl
    have e1 : q1 = Q 1 := by rw [hQ]; rfl
    simp only [e0, e1]
    rfl
  rw [hW]
  exact hend _ _ _ Q (by rw [hQ]; rfl) dX6_init_32
set_option maxHeartbeats 4000000 in
set_option maxRecDepth 100000 in
theorem cn_X5_init (l : Launch) (V : pm_V) : pm_Nc l V yX5_init mX5_init 2 [] 5 [.null, .null, .null, .int 0, .int 0, .null, .int 0, .null, .int 0, .null, .null, .null] s0_VA m0_VA 29 395 := by
  refine pm_metN (by decide) rfl rfl rfl (fun Z a hz hm hend => ⟨Nat.le_of_ble_eq_true rfl, ?_⟩)
  refine jr_aloadn (j := 0) dX5_init_0 rfl ?_
  refine nr_obj dX5_init_1 lk5_3 lkO_i lkO_c (Nat.le_of_ble_eq_true rfl) ?_
  refine jr_aloadn (j := 0) dX5_init_4 rfl ?_
  refine nr_new (ci := 3) (ty := tyX3) [.int 0, .null, .null, .null, .null, .null] hz dX5_init_5 rfl iX3 tyX3_ok lc5_9 li_3.1 li_3.2 (fun j hj => by rcases (show j = 0 ∨ j = 1 ∨ j = 2 ∨ j = 3 ∨ j = 4 ∨ j = 5 by omega) with rfl | rfl | rfl | rfl | rfl | rfl <;> rfl) (Nat.le_of_ble_eq_true rfl) (Nat.le_of_ble_eq_true rfl) ?_
  intro q1
  refine jr_dup dX5_init_8 rfl ?_
  refine nr_call (ws := [((a, .inr (5, [.null, .null, .null, .int 0, .int 0, .null, .int 0, .null, .int 0, .null, .null, .null])) : Nat × va_E)]) (y := yX3_init) (mi' := mX3_init) (ht' := 1) (a := q1) (ci := 3) (mc' := 11) (ms' := 66) (fs0 := [.int 0, .null, .null, .null, .null, .null]) (As := []) (sk := s0_RO) (M0 := m0_RO) hz dX5_init_9 (Or.inr ln5_11) ky_X3_init np_X3_init (Nat.le_of_ble_eq_true rfl) (Nat.le_of_ble_eq_true rfl) rfl (Nat.le_of_ble_eq_true rfl) (Nat.le_of_ble_eq_true rfl) (fun l => cn_X3_init l V) ?_
  intro fq1 eq1
  subst eq1
  rw [pm_wF_eq]
  refine nr_putF (q0 := 0) (ws' := (((a, .inr (5, [.ref (fq1 0), .null, .null, .int 0, .int 0, .null, .int 0, .null, .int 0, .null, .null, .null])) : Nat × va_E) :: (pm_wF (fq1, V.2) m0_RO 0 s0_RO))) hm dX5_init_12 ff5_12 rfl rfl rfl (Nat.le_of_ble_eq_true rfl) rfl ?_
  refine jr_aloadn (j := 0) dX5_init_15 rfl ?_
  refine nr_new (ci := 0) (ty := tyX0) [.int 0, .null, .null, .null, .null] hz dX5_init_16 rfl iX0 tyX0_ok lc5_18 li_0.1 li_0.2 (fun j hj => by rcases (show j = 0 ∨ j = 1 ∨ j = 2 ∨ j = 3 ∨ j = 4 by omega) with rfl | rfl | rfl | rfl | rfl <;> rfl) (Nat.le_of_ble_eq_true rfl) (Nat.le_of_ble_eq_true rfl) ?_
  intro q2
  refine jr_dup dX5_init_19 rfl ?_
  refine nr_call (ws := (((a, .inr (5, [.ref (fq1 0), .null, .null, .int 0, .int 0, .null, .int 0, .null, .int 0, .null, .null, .null])) : Nat × va_E) :: (pm_wF (fq1, V.2) m0_RO 0 s0_RO))) (y := yX0_init) (mi' := mX0_init) (ht' := 1) (a := q2) (ci := 0) (mc' := 4) (ms' := 20) (fs0 := [.int 0, .null, .null, .null, .null]) (As := []) (sk := s0_CL) (M0 := m0_CL) hz dX5_init_20 (Or.inr ln5_20) ky_X0_init np_X0_init (Nat.le_of_ble_eq_true rfl) (Nat.le_of_ble_eq_true rfl) rfl (Nat.le_of_ble_eq_true rfl) (Nat.le_of_ble_eq_true rfl) (fun l => cn_X0_init l V) ?_
  intro fq2 eq2
  subst eq2
  rw [pm_wF_eq]
  refine nr_putF (q0 := 0) (ws' := (((a, .inr (5, [.ref (fq1 0), .ref (fq2 0), .null, .int 0, .int 0, .null, .int 0, .null, .int 0, .null, .null, .null])) : Nat × va_E) :: (pm_wF (fq1, V.2) m0_RO 0 s0_RO ++ pm_wF (fq2, V.2) m0_CL 0 s0_CL))) hm dX5_init_23 ff5_21 rfl rfl rfl (Nat.le_of_ble_eq_true rfl) rfl ?_
  refine jr_aloadn (j := 0) dX5_init_26 rfl ?_
  refine jr_iconst (v := 2) dX5_init_27 (by decide) ?_
  refine nr_newq (N := 2) (t := 1) hz dX5_init_28 lc5_25 (Or.inl ⟨rfl, rfl⟩) (by decide) (by decide) (by decide) (Nat.le_of_ble_eq_true rfl) (Nat.le_of_ble_eq_true rfl) ?_
  intro q3
  refine jr_dup dX5_init_31 rfl ?_
  refine jr_iconst (v := 0) dX5_init_32 (by decide) ?_
  refine nr_new (ci := 1) (ty := tyX1) [.int 0, .int 0, .null, .int 0, .null] hz dX5_init_33 rfl iX1 tyX1_ok lc5_25 li_1.1 li_1.2 (fun j hj => by rcases (show j = 0 ∨ j = 1 ∨ j = 2 ∨ j = 3 ∨ j = 4 by omega) with rfl | rfl | rfl | rfl | rfl <;> rfl) (Nat.le_of_ble_eq_true rfl) (Nat.le_of_ble_eq_true rfl) ?_
  intro q4
  refine jr_dup dX5_init_36 rfl ?_
  refine jr_bipush (v := 12) dX5_init_37 (by decide) ?_
  refine jr_bipush (v := 99) dX5_init_39 (by decide) ?_
  refine nr_call (ws := (((a, .inr (5, [.ref (fq1 0), .ref (fq2 0), .null, .int 0, .int 0, .null, .int 0, .null, .int 0, .null, .null, .null])) : Nat × va_E) :: (pm_wF (fq1, V.2) m0_RO 0 s0_RO ++ pm_wF (fq2, V.2) m0_CL 0 s0_CL ++ [((q3, .inl (V.2.1 1, (2, .inr (.inr (.inr (.inr (fun _ => none))))))) : Nat × va_E)]))) (y := yX1_init) (mi' := mX1_init) (ht' := 1) (a := q4) (ci := 1) (mc' := 2) (ms' := 100) (fs0 := [.int 0, .int 0, .null, .int 0, .null]) (As := [.int 12, .int 99]) (sk := s0_LW) (M0 := (m0_LW 12 99)) hz dX5_init_41 (Or.inl lk5_27) ky_X1_init np_X1_init (Nat.le_of_ble_eq_true rfl) (Nat.le_of_ble_eq_true rfl) rfl (Nat.le_of_ble_eq_true rfl) (Nat.le_of_ble_eq_true rfl) (fun l => cn_X1_init _ _ l V) ?_
  intro fq4 eq4
  subst eq4
  rw [pm_wF_eq]
  refine nr_aast (q0 := 18) (qk := 19) (t := 1) (N := 2) (r := (RX1, TX1, 5)) (ws' := (((a, .inr (5, [.ref (fq1 0), .ref (fq2 0), .null, .int 0, .int 0, .null, .int 0, .null, .int 0, .null, .null, .null])) : Nat × va_E) :: (pm_wF (fq1, V.2) m0_RO 0 s0_RO ++ pm_wF (fq2, V.2) m0_CL 0 s0_CL ++ [((q3, .inl (V.2.1 1, (2, .inr (.inr (.inr (.inr (va_up (fun _ => none) (0 : Int32).toNatClampNeg (some (fq4 0))))))))) : Nat × va_E)] ++ pm_wF (fq4, V.2) (m0_LW 12 99) 0 s0_LW))) dX5_init_44 rfl rfl rfl rfl (by decide) rfl ?_
  refine jr_dup dX5_init_45 rfl ?_
  refine jr_iconst (v := 1) dX5_init_46 (by decide) ?_
  refine nr_new (ci := 1) (ty := tyX1) [.int 0, .int 0, .null, .int 0, .null] hz dX5_init_47 rfl iX1 tyX1_ok lc5_25 li_1.1 li_1.2 (fun j hj => by rcases (show j = 0 ∨ j = 1 ∨ j = 2 ∨ j = 3 ∨ j = 4 by omega) with rfl | rfl | rfl | rfl | rfl <;> rfl) (Nat.le_of_ble_eq_true rfl) (Nat.le_of_ble_eq_true rfl) ?_
  intro q5
  refine jr_dup dX5_init_50 rfl ?_
  refine jr_iconst (v := 1) dX5_init_51 (by decide) ?_
  refine jr_bipush (v := 9) dX5_init_52 (by decide) ?_
  refine nr_call (ws := (((a, .inr (5, [.ref (fq1 0), .ref (fq2 0), .null, .int 0, .int 0, .null, .int 0, .null, .int 0, .null, .null, .null])) : Nat × va_E) :: (pm_wF (fq1, V.2) m0_RO 0 s0_RO ++ pm_wF (fq2, V.2) m0_CL 0 s0_CL ++ [((q3, .inl (V.2.1 1, (2, .inr (.inr (.inr (.inr (va_up (fun _ => none) (0 : Int32).toNatClampNeg (some (fq4 0))))))))) : Nat × va_E)] ++ pm_wF (fq4, V.2) (m0_LW 12 99) 0 s0_LW))) (y := yX1_init) (mi' := mX1_init) (ht' := 1) (a := q5) (ci := 1) (mc' := 2) (ms' := 100) (fs0 := [.int 0, .int 0, .null, .int 0, .null]) (As := [.int 1, .int 9]) (sk := s0_LW) (M0 := (m0_LW 1 9)) hz dX5_init_54 (Or.inl lk5_27) ky_X1_init np_X1_init (Nat.le_of_ble_eq_true rfl) (Nat.le_of_ble_eq_true rfl) rfl (Nat.le_of_ble_eq_true rfl) (Nat.le_of_ble_eq_true rfl) (fun l => cn_X1_init _ _ l V) ?_
  intro fq5 eq5
  subst eq5
  rw [pm_wF_eq]
  refine nr_aast (q0 := 18) (qk := 22) (t := 1) (N := 2) (r := (RX1, TX1, 5)) (ws' := (((a, .inr (5, [.ref (fq1 0), .ref (fq2 0), .null, .int 0, .int 0, .null, .int 0, .null, .int 0, .null, .null, .null])) : Nat × va_E) :: (pm_wF (fq1, V.2) m0_RO 0 s0_RO ++ pm_wF (fq2, V.2) m0_CL 0 s0_CL ++ [((q3, .inl (V.2.1 1, (2, .inr (.inr (.inr (.inr (va_up (va_up (fun _ => none) (0 : Int32).toNatClampNeg (some (fq4 0))) (1 : Int32).toNatClampNeg (some (fq5 0))))))))) : Nat × va_E)] ++ pm_wF (fq4, V.2) (m0_LW 12 99) 0 s0_LW ++ pm_wF (fq5, V.2) (m0_LW 1 9) 0 s0_LW))) dX5_init_57 rfl rfl rfl rfl (by decide) rfl ?_
  refine nr_putF (q0 := 0) (ws' := (((a, .inr (5, [.ref (fq1 0), .ref (fq2 0), .ref q3, .int 0, .int 0, .null, .int 0, .null, .int 0, .null, .null, .null])) : Nat × va_E) :: (pm_wF (fq1, V.2) m0_RO 0 s0_RO ++ pm_wF (fq2, V.2) m0_CL 0 s0_CL ++ [((q3, .inl (V.2.1 1, (2, .inr (.inr (.inr (.inr (va_up (va_up (fun _ => none) (0 : Int32).toNatClampNeg (some (fq4 0))) (1 : Int32).toNatClampNeg (some (fq5 0))))))))) : Nat × va_E)] ++ pm_wF (fq4, V.2) (m0_LW 12 99) 0 s0_LW ++ pm_wF (fq5, V.2) (m0_LW 1 9) 0 s0_LW))) hm dX5_init_58 ff5_30 rfl rfl rfl (Nat.le_of_ble_eq_true rfl) rfl ?_
  refine jr_aloadn (j := 0) dX5_init_61 rfl ?_
  refine jr_iconst (v := 0) dX5_init_62 (by decide) ?_
  refine nr_putV (q0 := 0) (ws' := (((a, .inr (5, [.ref (fq1 0), .ref (fq2 0), .ref q3, .int 0, .int 0, .null, .int 0, .null, .int 0, .null, .null, .null])) : Nat × va_E) :: (pm_wF (fq1, V.2) m0_RO 0 s0_RO ++ pm_wF (fq2, V.2) m0_CL 0 s0_CL ++ [((q3, .inl (V.2.1 1, (2, .inr (.inr (.inr (.inr (va_up (va_up (fun _ => none) (0 : Int32).toNatClampNeg (some (fq4 0))) (1 : Int32).toNatClampNeg (some (fq5 0))))))))) : Nat × va_E)] ++ pm_wF (fq4, V.2) (m0_LW 12 99) 0 s0_LW ++ pm_wF (fq5, V.2) (m0_LW 1 9) 0 s0_LW))) dX5_init_63 fp5_34 rfl rfl rfl (Nat.le_of_ble_eq_true rfl) rfl ?_
  refine jr_aloadn (j := 0) dX5_init_66 rfl ?_
  refine jr_iconst (v := 1) dX5_init_67 (by decide) ?_
  refine nr_putV (q0 := 0) (ws' := (((a, .inr (5, [.ref (fq1 0), .ref (fq2 0), .ref q3, .int 0, .int 1, .null, .int 0, .null, .int 0, .null, .null, .null])) : Nat × va_E) :: (pm_wF (fq1, V.2) m0_RO 0 s0_RO ++ pm_wF (fq2, V.2) m0_CL 0 s0_CL ++ [((q3, .inl (V.2.1 1, (2, .inr (.inr (.inr (.inr (va_up (va_up (fun _ => none) (0 : Int32).toNatClampNeg (some (fq4 0))) (1 : Int32).toNatClampNeg (some (fq5 0))))))))) : Nat × va_E)] ++ pm_wF (fq4, V.2) (m0_LW 12 99) 0 s0_LW ++ pm_wF (fq5, V.2) (m0_LW 1 9) 0 s0_LW))) dX5_init_68 fp5_38 rfl rfl rfl (Nat.le_of_ble_eq_true rfl) rfl ?_
  refine jr_aloadn (j := 0) dX5_init_71 rfl ?_
  refine jr_bipush (v := 50) dX5_init_72 (by decide) ?_
  refine nr_newa (N := 50) hz dX5_init_74 lkA_c (by decide) (by decide) (by decide) (Nat.le_of_ble_eq_true rfl) (Nat.le_of_ble_eq_true rfl) ?_
  intro q6
  refine nr_putF (q0 := 0) (ws' := (((a, .inr (5, [.ref (fq1 0), .ref (fq2 0), .ref q3, .int 0, .int 1, .ref q6, .int 0, .null, .int 0, .null, .null, .null])) : Nat × va_E) :: (pm_wF (fq1, V.2) m0_RO 0 s0_RO ++ pm_wF (fq2, V.2) m0_CL 0 s0_CL ++ [((q3, .inl (V.2.1 1, (2, .inr (.inr (.inr (.inr (va_up (va_up (fun _ => none) (0 : Int32).toNatClampNeg (some (fq4 0))) (1 : Int32).toNatClampNeg (some (fq5 0))))))))) : Nat × va_E)] ++ pm_wF (fq4, V.2) (m0_LW 12 99) 0 s0_LW ++ pm_wF (fq5, V.2) (m0_LW 1 9) 0 s0_LW ++ [((q6, .inl (V.2.1 0, (50, .inl (fun _ => 0)))) : Nat × va_E)]))) hm dX5_init_76 ff5_41 rfl rfl rfl (Nat.le_of_ble_eq_true rfl) rfl ?_
  refine jr_aloadn (j := 0) dX5_init_79 rfl ?_
  refine jr_iconst (v := 0) dX5_init_80 (by decide) ?_
  refine nr_putV (q0 := 0) (ws' := (((a, .inr (5, [.ref (fq1 0), .ref (fq2 0), .ref q3, .int 0, .int 1, .ref q6, .int 0, .null, .int 0, .null, .null, .null])) : Nat × va_E) :: (pm_wF (fq1, V.2) m0_RO 0 s0_RO ++ pm_wF (fq2, V.2) m0_CL 0 s0_CL ++ [((q3, .inl (V.2.1 1, (2, .inr (.inr (.inr (.inr (va_up (va_up (fun _ => none) (0 : Int32).toNatClampNeg (some (fq4 0))) (1 : Int32).toNatClampNeg (some (fq5 0))))))))) : Nat × va_E)] ++ pm_wF (fq4, V.2) (m0_LW 12 99) 0 s0_LW ++ pm_wF (fq5, V.2) (m0_LW 1 9) 0 s0_LW ++ [((q6, .inl (V.2.1 0, (50, .inl (fun _ => 0)))) : Nat × va_E)]))) dX5_init_81 fp5_45 rfl rfl rfl (Nat.le_of_ble_eq_true rfl) rfl ?_
  refine jr_aloadn (j := 0) dX5_init_84 rfl ?_
  refine jr_bipush (v := 20) dX5_init_85 (by decide) ?_
  refine nr_newa (N := 20) hz dX5_init_87 lkA_c (by decide) (by decide) (by decide) (Nat.le_of_ble_eq_true rfl) (Nat.le_of_ble_eq_true rfl) ?_
  intro q7
  refine nr_putF (q0 := 0) (ws' := (((a, .inr (5, [.ref (fq1 0), .ref (fq2 0), .ref q3, .int 0, .int 1, .ref q6, .int 0, .ref q7, .int 0, .null, .null, .null])) : Nat × va_E) :: (pm_wF (fq1, V.2) m0_RO 0 s0_RO ++ pm_wF (fq2, V.2) m0_CL 0 s0_CL ++ [((q3, .inl (V.2.1 1, (2, .inr (.inr (.inr (.inr (va_up (va_up (fun _ => none) (0 : Int32).toNatClampNeg (some (fq4 0))) (1 : Int32).toNatClampNeg (some (fq5 0))))))))) : Nat × va_E)] ++ pm_wF (fq4, V.2) (m0_LW 12 99) 0 s0_LW ++ pm_wF (fq5, V.2) (m0_LW 1 9) 0 s0_LW ++ [((q6, .inl (V.2.1 0, (50, .inl (fun _ => 0)))) : Nat × va_E)] ++ [((q7, .inl (V.2.1 0, (20, .inl (fun _ => 0)))) : Nat × va_E)]))) hm dX5_init_89 ff5_48 rfl rfl rfl (Nat.le_of_ble_eq_true rfl) rfl ?_
  refine jr_aloadn (j := 0) dX5_init_92 rfl ?_
  refine jr_iconst (v := 0) dX5_init_93 (by decide) ?_
  refine nr_putV (q0 := 0) (ws' := (((a, .inr (5, [.ref (fq1 0), .ref (fq2 0), .ref q3, .int 0, .int 1, .ref q6, .int 0, .ref q7, .int 0, .null, .null, .null])) : Nat × va_E) :: (pm_wF (fq1, V.2) m0_RO 0 s0_RO ++ pm_wF (fq2, V.2) m0_CL 0 s0_CL ++ [((q3, .inl (V.2.1 1, (2, .inr (.inr (.inr (.inr (va_up (va_up (fun _ => none) (0 : Int32).toNatClampNeg (some (fq4 0))) (1 : Int32).toNatClampNeg (some (fq5 0))))))))) : Nat × va_E)] ++ pm_wF (fq4, V.2) (m0_LW 12 99) 0 s0_LW ++ pm_wF (fq5, V.2) (m0_LW 1 9) 0 s0_LW ++ [((q6, .inl (V.2.1 0, (50, .inl (fun _ => 0)))) : Nat × va_E)] ++ [((q7, .inl (V.2.1 0, (20, .inl (fun _ => 0)))) : Nat × va_E)]))) dX5_init_94 fp5_51 rfl rfl rfl (Nat.le_of_ble_eq_true rfl) rfl ?_
  refine jr_aloadn (j := 0) dX5_init_97 rfl ?_
  refine jr_bipush (v := 6) dX5_init_98 (by decide) ?_
  refine nr_newa (N := 6) hz dX5_init_100 lkA_c (by decide) (by decide) (by decide) (Nat.le_of_ble_eq_true rfl) (Nat.le_of_ble_eq_true rfl) ?_
  intro q8
  refine nr_putF (q0 := 0) (ws' := (((a, .inr (5, [.ref (fq1 0), .ref (fq2 0), .ref q3, .int 0, .int 1, .ref q6, .int 0, .ref q7, .int 0, .ref q8, .null, .null])) : Nat × va_E) :: (pm_wF (fq1, V.2) m0_RO 0 s0_RO ++ pm_wF (fq2, V.2) m0_CL 0 s0_CL ++ [((q3, .inl (V.2.1 1, (2, .inr (.inr (.inr (.inr (va_up (va_up (fun _ => none) (0 : Int32).toNatClampNeg (some (fq4 0))) (1 : Int32).toNatClampNeg (some (fq5 0))))))))) : Nat × va_E)] ++ pm_wF (fq4, V.2) (m0_LW 12 99) 0 s0_LW ++ pm_wF (fq5, V.2) (m0_LW 1 9) 0 s0_LW ++ [((q6, .inl (V.2.1 0, (50, .inl (fun _ => 0)))) : Nat × va_E)] ++ [((q7, .inl (V.2.1 0, (20, .inl (fun _ => 0)))) : Nat × va_E)] ++ [((q8, .inl (V.2.1 0, (6, .inl (fun _ => 0)))) : Nat × va_E)]))) hm dX5_init_102 ff5_54 rfl rfl rfl (Nat.le_of_ble_eq_true rfl) rfl ?_
  refine jr_aloadn (j := 0) dX5_init_105 rfl ?_
  refine jr_iconst (v := 5) dX5_init_106 (by decide) ?_
  refine nr_newa (N := 5) hz dX5_init_107 lkA_c (by decide) (by decide) (by decide) (Nat.le_of_ble_eq_true rfl) (Nat.le_of_ble_eq_true rfl) ?_
  intro q9
  refine nr_putF (q0 := 0) (ws' := (((a, .inr (5, [.ref (fq1 0), .ref (fq2 0), .ref q3, .int 0, .int 1, .ref q6, .int 0, .ref q7, .int 0, .ref q8, .ref q9, .null])) : Nat × va_E) :: (pm_wF (fq1, V.2) m0_RO 0 s0_RO ++ pm_wF (fq2, V.2) m0_CL 0 s0_CL ++ [((q3, .inl (V.2.1 1, (2, .inr (.inr (.inr (.inr (va_up (va_up (fun _ => none) (0 : Int32).toNatClampNeg (some (fq4 0))) (1 : Int32).toNatClampNeg (some (fq5 0))))))))) : Nat × va_E)] ++ pm_wF (fq4, V.2) (m0_LW 12 99) 0 s0_LW ++ pm_wF (fq5, V.2) (m0_LW 1 9) 0 s0_LW ++ [((q6, .inl (V.2.1 0, (50, .inl (fun _ => 0)))) : Nat × va_E)] ++ [((q7, .inl (V.2.1 0, (20, .inl (fun _ => 0)))) : Nat × va_E)] ++ [((q8, .inl (V.2.1 0, (6, .inl (fun _ => 0)))) : Nat × va_E)] ++ [((q9, .inl (V.2.1 0, (5, .inl (fun _ => 0)))) : Nat × va_E)]))) hm dX5_init_109 ff5_57 rfl rfl rfl (Nat.le_of_ble_eq_true rfl) rfl ?_
  refine jr_aloadn (j := 0) dX5_init_112 rfl ?_
  refine jr_iconst (v := 5) dX5_init_113 (by decide) ?_
  refine nr_newa (N := 5) hz dX5_init_114 lkA_c (by decide) (by decide) (by decide) (Nat.le_of_ble_eq_true rfl) (Nat.le_of_ble_eq_true rfl) ?_
  intro q10
  refine nr_putF (q0 := 0) (ws' := (((a, .inr (5, [.ref (fq1 0), .ref (fq2 0), .ref q3, .int 0, .int 1, .ref q6, .int 0, .ref q7, .int 0, .ref q8, .ref q9, .ref q10])) : Nat × va_E) :: (pm_wF (fq1, V.2) m0_RO 0 s0_RO ++ pm_wF (fq2, V.2) m0_CL 0 s0_CL ++ [((q3, .inl (V.2.1 1, (2, .inr (.inr (.inr (.inr (va_up (va_up (fun _ => none) (0 : Int32).toNatClampNeg (some (fq4 0))) (1 : Int32).toNatClampNeg (some (fq5 0))))))))) : Nat × va_E)] ++ pm_wF (fq4, V.2) (m0_LW 12 99) 0 s0_LW ++ pm_wF (fq5, V.2) (m0_LW 1 9) 0 s0_LW ++ [((q6, .inl (V.2.1 0, (50, .inl (fun _ => 0)))) : Nat × va_E)] ++ [((q7, .inl (V.2.1 0, (20, .inl (fun _ => 0)))) : Nat × va_E)] ++ [((q8, .inl (V.2.1 0, (6, .inl (fun _ => 0)))) : Nat × va_E)] ++ [((q9, .inl (V.2.1 0, (5, .inl (fun _ => 0)))) : Nat × va_E)] ++ [((q10, .inl (V.2.1 0, (5, .inl (fun _ => 0)))) : Nat × va_E)]))) hm dX5_init_116 ff5_60 rfl rfl rfl (Nat.le_of_ble_eq_true rfl) rfl ?_
  obtain ⟨Q, hQ⟩ : ∃ Q : Nat → Nat, Q = (fun k => if k < 1 then a else if k < 13 then fq1 (k - 1) else if k < 18 then fq2 (k - 13) else if k < 19 then q3 else if k < 22 then fq4 (k - 19) else if k < 25 then fq5 (k - 22) else if k < 26 then q6 else if k < 27 then q7 else if k < 28 then q8 else if k < 29 then q9 else if k < 30 then q10 else 0) := ⟨_, rfl⟩
  have hW : (((a, .inr (5, [.ref (fq1 0), .ref (fq2 0), .ref q3, .int 0, .int 1, .ref q6, .int 0, .ref q7, .int 0, .ref q8, .ref q9, .ref q10])) : Nat × va_E) :: (pm_wF (fq1, V.2) m0_RO 0 s0_RO ++ pm_wF (fq2, V.2) m0_CL 0 s0_CL ++ [((q3, .inl (V.2.1 1, (2, .inr (.inr (.inr (.inr (va_up (va_up (fun _ => none) (0 : Int32).toNatClampNeg (some (fq4 0))) (1 : Int32).toNatClampNeg (some (fq5 0))))))))) : Nat × va_E)] ++ pm_wF (fq4, V.2) (m0_LW 12 99) 0 s0_LW ++ pm_wF (fq5, V.2) (m0_LW 1 9) 0 s0_LW ++ [((q6, .inl (V.2.1 0, (50, .inl (fun _ => 0)))) : Nat × va_E)] ++ [((q7, .inl (V.2.1 0, (20, .inl (fun _ => 0)))) : Nat × va_E)] ++ [((q8, .inl (V.2.1 0, (6, .inl (fun _ => 0)))) : Nat × va_E)] ++ [((q9, .inl (V.2.1 0, (5, .inl (fun _ => 0)))) : Nat × va_E)] ++ [((q10, .inl (V.2.1 0, (5, .inl (fun _ => 0)))) : Nat × va_E)])) = pm_wld (Q, V.2) s0_VA m0_VA := by
    rw [pm_wF_eq]
    rw [pm_chunk (Q := Q) (q := fq1) (w := V.2) (M := m0_VA) (M0 := m0_RO) (o := 1) (sk := s0_RO) (fun i hi => by
      have hi : i < 12 := hi
      rw [hQ]
      show _ = (if 1 + i < 1 then _ else _)
      rw [if_neg (by omega), if_pos (by omega), Nat.add_sub_cancel_left]) (fun i hi => by
      have hi : i < 12 := hi
      funext j
      simp only [m0_VA]; rw [if_neg (by omega), if_pos (by omega), Nat.add_sub_cancel_left]) (by decide +kernel)]
    rw [pm_chunk (Q := Q) (q := fq2) (w := V.2) (M := m0_VA) (M0 := m0_CL) (o := 13) (sk := s0_CL) (fun i hi => by
      have hi : i < 5 := hi
      rw [hQ]
      show _ = (if 13 + i < 1 then _ else _)
      rw [if_neg (by omega), if_neg (by omega), if_pos (by omega), Nat.add_sub_cancel_left]) (fun i hi => by
      have hi : i < 5 := hi
      funext j
      simp only [m0_VA]; rw [if_neg (by omega), if_neg (by omega), if_pos (by omega), Nat.add_sub_cancel_left]) (by decide +kernel)]
    rw [pm_l2 Q 19 22 (by rw [hQ]; rfl) (by rw [hQ]; rfl)]
    rw [pm_chunk (Q := Q) (q := fq4) (w := V.2) (M := m0_VA) (M0 := (m0_LW 12 99)) (o := 19) (sk := s0_LW) (fun i hi => by
      have hi : i < 3 := hi
      rw [hQ]
      show _ = (if 19 + i < 1 then _ else _)
      rw [if_neg (by omega), if_neg (by omega), if_neg (by omega), if_neg (by omega), if_pos (by omega), Nat.add_sub_cancel_left]) (fun i hi => by
      have hi : i < 3 := hi
      funext j
      simp only [m0_VA]; rw [if_neg (by omega), if_neg (by omega), if_neg (by omega), if_neg (by omega), if_pos (by omega), Nat.add_sub_cancel_left]) (by decide +kernel)]
    rw [pm_chunk (Q := Q) (q := fq5) (w := V.2) (M := m0_VA) (M0 := (m0_LW 1 9)) (o := 22) (sk := s0_LW) (fun i hi => by
      have hi : i < 3 := hi
      rw [hQ]
      show _ = (if 22 + i < 1 then _ else _)
      rw [if_neg (by omega), if_neg (by omega), if_neg (by omega), if_neg (by omega), if_neg (by omega), if_pos (by omega), Nat.add_sub_cancel_left]) (fun i hi => by
      have hi : i < 3 := hi
      funext j
      simp only [m0_VA]; rw [if_neg (by omega), if_neg (by omega), if_neg (by omega), if_neg (by omega), if_neg (by omega), if_pos (by omega), Nat.add_sub_cancel_left]) (by decide +kernel)]
    have e0 : a = Q 0 := by rw [hQ]; rfl
    have e1 : fq1 0 = Q 1 := by rw [hQ]; rfl
    have e13 : fq2 0 = Q 13 := by rw [hQ]; rfl
    have e18 : q3 = Q 18 := by rw [hQ]; rfl
    have e19 : fq4 0 = Q 19 := by rw [hQ]; rfl
    have e22 : fq5 0 = Q 22 := by rw [hQ]; rfl
    have e25 : q6 = Q 25 := by rw [hQ]; rfl
    have e26 : q7 = Q 26 := by rw [hQ]; rfl
    have e27 : q8 = Q 27 := by rw [hQ]; rfl
    have e28 : q9 = Q 28 := by rw [hQ]; rfl
    have e29 : q10 = Q 29 := by rw [hQ]; rfl
    simp only [e0, e1, e13, e18, e19, e22, e25, e26, e27, e28, e29]
    rfl
  rw [hW]
  exact hend _ _ _ Q (by rw [hQ]; rfl) dX5_init_119
set_option maxHeartbeats 4000000 in
set_option maxRecDepth 100000 in
theorem cn_X8_init (l : Launch) (V : pm_V) : pm_Nc l V yX8_init mX8_init 1 [] 8 [.null, .null, .int 0, .null, .null, .int 0, .int 0, .int 0, .int 0, .int 0, .int 0, .null, .null, .null, .int 0, .int 0, .null, .null, .null, .null] s0_MO m0_MO 11 865 := by
  refine pm_metN (by decide) rfl rfl rfl (fun Z a hz hm hend => ⟨Nat.le_of_ble_eq_true rfl, ?_⟩)
  refine jr_aloadn (j := 0) dX8_init_0 rfl ?_
  refine nr_obj dX8_init_1 lk8_1 lkO_i lkO_c (Nat.le_of_ble_eq_true rfl) ?_
  refine jr_aloadn (j := 0) dX8_init_4 rfl ?_
  refine jr_sipush (v := 258) dX8_init_5 (by decide) ?_
  refine nr_newa (N := 258) hz dX8_init_8 lkA_c (by decide) (by decide) (by decide) (Nat.le_of_ble_eq_true rfl) (Nat.le_of_ble_eq_true rfl) ?_
  intro q1
  refine nr_putF (q0 := 0) (ws' := (((a, .inr (8, [.ref q1, .null, .int 0, .null, .null, .int 0, .int 0, .int 0, .int 0, .int 0, .int 0, .null, .null, .null, .int 0, .int 0, .null, .null, .null, .null])) : Nat × va_E) :: ([((q1, .inl (V.2.1 0, (258, .inl (fun _ => 0)))) : Nat × va_E)]))) hm dX8_init_10 ff8_7 rfl rfl rfl (Nat.le_of_ble_eq_true rfl) rfl ?_
  refine jr_aloadn (j := 0) dX8_init_13 rfl ?_
  refine jr_sipush (v := 258) dX8_init_14 (by decide) ?_
  refine nr_newa (N := 258) hz dX8_init_17 lkA_c (by decide) (by decide) (by decide) (Nat.le_of_ble_eq_true rfl) (Nat.le_of_ble_eq_true rfl) ?_
  intro q2
  refine nr_putF (q0 := 0) (ws' := (((a, .inr (8, [.ref q1, .ref q2, .int 0, .null, .null, .int 0, .int 0, .int 0, .int 0, .int 0, .int 0, .null, .null, .null, .int 0, .int 0, .null, .null, .null, .null])) : Nat × va_E) :: ([((q1, .inl (V.2.1 0, (258, .inl (fun _ => 0)))) : Nat × va_E)] ++ [((q2, .inl (V.2.1 0, (258, .inl (fun _ => 0)))) : Nat × va_E)]))) hm dX8_init_19 ff8_13 rfl rfl rfl (Nat.le_of_ble_eq_true rfl) rfl ?_
  refine jr_aloadn (j := 0) dX8_init_22 rfl ?_
  refine jr_bipush (v := 6) dX8_init_23 (by decide) ?_
  refine nr_newa (N := 6) hz dX8_init_25 lkA_c (by decide) (by decide) (by decide) (Nat.le_of_ble_eq_true rfl) (Nat.le_of_ble_eq_true rfl) ?_
  intro q3
  refine nr_putF (q0 := 0) (ws' := (((a, .inr (8, [.ref q1, .ref q2, .int 0, .ref q3, .null, .int 0, .int 0, .int 0, .int 0, .int 0, .int 0, .null, .null, .null, .int 0, .int 0, .null, .null, .null, .null])) : Nat × va_E) :: ([((q1, .inl (V.2.1 0, (258, .inl (fun _ => 0)))) : Nat × va_E)] ++ [((q2, .inl (V.2.1 0, (258, .inl (fun _ => 0)))) : Nat × va_E)] ++ [((q3, .inl (V.2.1 0, (6, .inl (fun _ => 0)))) : Nat × va_E)]))) hm dX8_init_27 ff8_16 rfl rfl rfl (Nat.le_of_ble_eq_true rfl) rfl ?_
  refine jr_aloadn (j := 0) dX8_init_30 rfl ?_
  refine jr_bipush (v := 86) dX8_init_31 (by decide) ?_
  refine nr_newa (N := 86) hz dX8_init_33 lkA_c (by decide) (by decide) (by decide) (Nat.le_of_ble_eq_true rfl) (Nat.le_of_ble_eq_true rfl) ?_
  intro q4
  refine nr_putF (q0 := 0) (ws' := (((a, .inr (8, [.ref q1, .ref q2, .int 0, .ref q3, .ref q4, .int 0, .int 0, .int 0, .int 0, .int 0, .int 0, .null, .null, .null, .int 0, .int 0, .null, .null, .null, .null])) : Nat × va_E) :: ([((q1, .inl (V.2.1 0, (258, .inl (fun _ => 0)))) : Nat × va_E)] ++ [((q2, .inl (V.2.1 0, (258, .inl (fun _ => 0)))) : Nat × va_E)] ++ [((q3, .inl (V.2.1 0, (6, .inl (fun _ => 0)))) : Nat × va_E)] ++ [((q4, .inl (V.2.1 0, (86, .inl (fun _ => 0)))) : Nat × va_E)]))) hm dX8_init_35 ff8_19 rfl rfl rfl (Nat.le_of_ble_eq_true rfl) rfl ?_
  refine jr_aloadn (j := 0) dX8_init_38 rfl ?_
  refine jr_iconst (v := 3) dX8_init_39 (by decide) ?_
  refine nr_newa (N := 3) hz dX8_init_40 lkA_c (by decide) (by decide) (by decide) (Nat.le_of_ble_eq_true rfl) (Nat.le_of_ble_eq_true rfl) ?_
  intro q5
  refine nr_putF (q0 := 0) (ws' := (((a, .inr (8, [.ref q1, .ref q2, .int 0, .ref q3, .ref q4, .int 0, .int 0, .int 0, .int 0, .int 0, .int 0, .ref q5, .null, .null, .int 0, .int 0, .null, .null, .null, .null])) : Nat × va_E) :: ([((q1, .inl (V.2.1 0, (258, .inl (fun _ => 0)))) : Nat × va_E)] ++ [((q2, .inl (V.2.1 0, (258, .inl (fun _ => 0)))) : Nat × va_E)] ++ [((q3, .inl (V.2.1 0, (6, .inl (fun _ => 0)))) : Nat × va_E)] ++ [((q4, .inl (V.2.1 0, (86, .inl (fun _ => 0)))) : Nat × va_E)] ++ [((q5, .inl (V.2.1 0, (3, .inl (fun _ => 0)))) : Nat × va_E)]))) hm dX8_init_42 ff8_22 rfl rfl rfl (Nat.le_of_ble_eq_true rfl) rfl ?_
  refine jr_aloadn (j := 0) dX8_init_45 rfl ?_
  refine jr_bipush (v := 6) dX8_init_46 (by decide) ?_
  refine nr_newa (N := 6) hz dX8_init_48 lkA_c (by decide) (by decide) (by decide) (Nat.le_of_ble_eq_true rfl) (Nat.le_of_ble_eq_true rfl) ?_
  intro q6
  refine nr_putF (q0 := 0) (ws' := (((a, .inr (8, [.ref q1, .ref q2, .int 0, .ref q3, .ref q4, .int 0, .int 0, .int 0, .int 0, .int 0, .int 0, .ref q5, .ref q6, .null, .int 0, .int 0, .null, .null, .null, .null])) : Nat × va_E) :: ([((q1, .inl (V.2.1 0, (258, .inl (fun _ => 0)))) : Nat × va_E)] ++ [((q2, .inl (V.2.1 0, (258, .inl (fun _ => 0)))) : Nat × va_E)] ++ [((q3, .inl (V.2.1 0, (6, .inl (fun _ => 0)))) : Nat × va_E)] ++ [((q4, .inl (V.2.1 0, (86, .inl (fun _ => 0)))) : Nat × va_E)] ++ [((q5, .inl (V.2.1 0, (3, .inl (fun _ => 0)))) : Nat × va_E)] ++ [((q6, .inl (V.2.1 0, (6, .inl (fun _ => 0)))) : Nat × va_E)]))) hm dX8_init_50 ff8_25 rfl rfl rfl (Nat.le_of_ble_eq_true rfl) rfl ?_
  refine jr_aloadn (j := 0) dX8_init_53 rfl ?_
  refine jr_bipush (v := 40) dX8_init_54 (by decide) ?_
  refine nr_newa (N := 40) hz dX8_init_56 lkA_c (by decide) (by decide) (by decide) (Nat.le_of_ble_eq_true rfl) (Nat.le_of_ble_eq_true rfl) ?_
  intro q7
  refine nr_putF (q0 := 0) (ws' := (((a, .inr (8, [.ref q1, .ref q2, .int 0, .ref q3, .ref q4, .int 0, .int 0, .int 0, .int 0, .int 0, .int 0, .ref q5, .ref q6, .ref q7, .int 0, .int 0, .null, .null, .null, .null])) : Nat × va_E) :: ([((q1, .inl (V.2.1 0, (258, .inl (fun _ => 0)))) : Nat × va_E)] ++ [((q2, .inl (V.2.1 0, (258, .inl (fun _ => 0)))) : Nat × va_E)] ++ [((q3, .inl (V.2.1 0, (6, .inl (fun _ => 0)))) : Nat × va_E)] ++ [((q4, .inl (V.2.1 0, (86, .inl (fun _ => 0)))) : Nat × va_E)] ++ [((q5, .inl (V.2.1 0, (3, .inl (fun _ => 0)))) : Nat × va_E)] ++ [((q6, .inl (V.2.1 0, (6, .inl (fun _ => 0)))) : Nat × va_E)] ++ [((q7, .inl (V.2.1 0, (40, .inl (fun _ => 0)))) : Nat × va_E)]))) hm dX8_init_58 ff8_28 rfl rfl rfl (Nat.le_of_ble_eq_true rfl) rfl ?_
  refine jr_aloadn (j := 0) dX8_init_61 rfl ?_
  refine jr_iconst (v := 4) dX8_init_62 (by decide) ?_
  refine nr_newa (N := 4) hz dX8_init_63 lkA_c (by decide) (by decide) (by decide) (Nat.le_of_ble_eq_true rfl) (Nat.le_of_ble_eq_true rfl) ?_
  intro q8
  refine nr_putF (q0 := 0) (ws' := (((a, .inr (8, [.ref q1, .ref q2, .int 0, .ref q3, .ref q4, .int 0, .int 0, .int 0, .int 0, .int 0, .int 0, .ref q5, .ref q6, .ref q7, .int 0, .int 0, .ref q8, .null, .null, .null])) : Nat × va_E) :: ([((q1, .inl (V.2.1 0, (258, .inl (fun _ => 0)))) : Nat × va_E)] ++ [((q2, .inl (V.2.1 0, (258, .inl (fun _ => 0)))) : Nat × va_E)] ++ [((q3, .inl (V.2.1 0, (6, .inl (fun _ => 0)))) : Nat × va_E)] ++ [((q4, .inl (V.2.1 0, (86, .inl (fun _ => 0)))) : Nat × va_E)] ++ [((q5, .inl (V.2.1 0, (3, .inl (fun _ => 0)))) : Nat × va_E)] ++ [((q6, .inl (V.2.1 0, (6, .inl (fun _ => 0)))) : Nat × va_E)] ++ [((q7, .inl (V.2.1 0, (40, .inl (fun _ => 0)))) : Nat × va_E)] ++ [((q8, .inl (V.2.1 0, (4, .inl (fun _ => 0)))) : Nat × va_E)]))) hm dX8_init_65 ff8_31 rfl rfl rfl (Nat.le_of_ble_eq_true rfl) rfl ?_
  refine jr_aloadn (j := 0) dX8_init_68 rfl ?_
  refine jr_iconst (v := 4) dX8_init_69 (by decide) ?_
  refine nr_newa (N := 4) hz dX8_init_70 lkA_c (by decide) (by decide) (by decide) (Nat.le_of_ble_eq_true rfl) (Nat.le_of_ble_eq_true rfl) ?_
  intro q9
  refine nr_putF (q0 := 0) (ws' := (((a, .inr (8, [.ref q1, .ref q2, .int 0, .ref q3, .ref q4, .int 0, .int 0, .int 0, .int 0, .int 0, .int 0, .ref q5, .ref q6, .ref q7, .int 0, .int 0, .ref q8, .ref q9, .null, .null])) : Nat × va_E) :: ([((q1, .inl (V.2.1 0, (258, .inl (fun _ => 0)))) : Nat × va_E)] ++ [((q2, .inl (V.2.1 0, (258, .inl (fun _ => 0)))) : Nat × va_E)] ++ [((q3, .inl (V.2.1 0, (6, .inl (fun _ => 0)))) : Nat × va_E)] ++ [((q4, .inl (V.2.1 0, (86, .inl (fun _ => 0)))) : Nat × va_E)] ++ [((q5, .inl (V.2.1 0, (3, .inl (fun _ => 0)))) : Nat × va_E)] ++ [((q6, .inl (V.2.1 0, (6, .inl (fun _ => 0)))) : Nat × va_E)] ++ [((q7, .inl (V.2.1 0, (40, .inl (fun _ => 0)))) : Nat × va_E)] ++ [((q8, .inl (V.2.1 0, (4, .inl (fun _ => 0)))) : Nat × va_E)] ++ [((q9, .inl (V.2.1 0, (4, .inl (fun _ => 0)))) : Nat × va_E)]))) hm dX8_init_72 ff8_34 rfl rfl rfl (Nat.le_of_ble_eq_true rfl) rfl ?_
  refine jr_aloadn (j := 0) dX8_init_75 rfl ?_
  refine jr_sipush (v := 160) dX8_init_76 (by decide) ?_
  refine nr_newa (N := 160) hz dX8_init_79 lkA_c (by decide) (by decide) (by decide) (Nat.le_of_ble_eq_true rfl) (Nat.le_of_ble_eq_true rfl) ?_
  intro q10
  refine nr_putF (q0 := 0) (ws' := (((a, .inr (8, [.ref q1, .ref q2, .int 0, .ref q3, .ref q4, .int 0, .int 0, .int 0, .int 0, .int 0, .int 0, .ref q5, .ref q6, .ref q7, .int 0, .int 0, .ref q8, .ref q9, .ref q10, .null])) : Nat × va_E) :: ([((q1, .inl (V.2.1 0, (258, .inl (fun _ => 0)))) : Nat × va_E)] ++ [((q2, .inl (V.2.1 0, (258, .inl (fun _ => 0)))) : Nat × va_E)] ++ [((q3, .inl (V.2.1 0, (6, .inl (fun _ => 0)))) : Nat × va_E)] ++ [((q4, .inl (V.2.1 0, (86, .inl (fun _ => 0)))) : Nat × va_E)] ++ [((q5, .inl (V.2.1 0, (3, .inl (fun _ => 0)))) : Nat × va_E)] ++ [((q6, .inl (V.2.1 0, (6, .inl (fun _ => 0)))) : Nat × va_E)] ++ [((q7, .inl (V.2.1 0, (40, .inl (fun _ => 0)))) : Nat × va_E)] ++ [((q8, .inl (V.2.1 0, (4, .inl (fun _ => 0)))) : Nat × va_E)] ++ [((q9, .inl (V.2.1 0, (4, .inl (fun _ => 0)))) : Nat × va_E)] ++ [((q10, .inl (V.2.1 0, (160, .inl (fun _ => 0)))) : Nat × va_E)]))) hm dX8_init_81 ff8_37 rfl rfl rfl (Nat.le_of_ble_eq_true rfl) rfl ?_
  refine jr_aloadn (j := 0) dX8_init_84 rfl ?_
  refine jr_bipush (v := 40) dX8_init_85 (by decide) ?_
  refine nr_newa (N := 40) hz dX8_init_87 lkA_c (by decide) (by decide) (by decide) (Nat.le_of_ble_eq_true rfl) (Nat.le_of_ble_eq_true rfl) ?_
  intro q11
  refine nr_putF (q0 := 0) (ws' := (((a, .inr (8, [.ref q1, .ref q2, .int 0, .ref q3, .ref q4, .int 0, .int 0, .int 0, .int 0, .int 0, .int 0, .ref q5, .ref q6, .ref q7, .int 0, .int 0, .ref q8, .ref q9, .ref q10, .ref q11])) : Nat × va_E) :: ([((q1, .inl (V.2.1 0, (258, .inl (fun _ => 0)))) : Nat × va_E)] ++ [((q2, .inl (V.2.1 0, (258, .inl (fun _ => 0)))) : Nat × va_E)] ++ [((q3, .inl (V.2.1 0, (6, .inl (fun _ => 0)))) : Nat × va_E)] ++ [((q4, .inl (V.2.1 0, (86, .inl (fun _ => 0)))) : Nat × va_E)] ++ [((q5, .inl (V.2.1 0, (3, .inl (fun _ => 0)))) : Nat × va_E)] ++ [((q6, .inl (V.2.1 0, (6, .inl (fun _ => 0)))) : Nat × va_E)] ++ [((q7, .inl (V.2.1 0, (40, .inl (fun _ => 0)))) : Nat × va_E)] ++ [((q8, .inl (V.2.1 0, (4, .inl (fun _ => 0)))) : Nat × va_E)] ++ [((q9, .inl (V.2.1 0, (4, .inl (fun _ => 0)))) : Nat × va_E)] ++ [((q10, .inl (V.2.1 0, (160, .inl (fun _ => 0)))) : Nat × va_E)] ++ [((q11, .inl (V.2.1 0, (40, .inl (fun _ => 0)))) : Nat × va_E)]))) hm dX8_init_89 ff8_40 rfl rfl rfl (Nat.le_of_ble_eq_true rfl) rfl ?_
  refine jr_aloadn (j := 0) dX8_init_92 rfl ?_
  refine nr_get (q0 := 0) dX8_init_93 fl8_7 rfl rfl ?_
  refine jr_iconst (v := 3) dX8_init_96 (by decide) ?_
  refine jr_iconst (v := 1) dX8_init_97 (by decide) ?_
  refine nr_iast (q0 := 1) (N := 258) (ws' := (((a, .inr (8, [.ref q1, .ref q2, .int 0, .ref q3, .ref q4, .int 0, .int 0, .int 0, .int 0, .int 0, .int 0, .ref q5, .ref q6, .ref q7, .int 0, .int 0, .ref q8, .ref q9, .ref q10, .ref q11])) : Nat × va_E) :: ([((q1, .inl (V.2.1 0, (258, .inl (upd (fun _ => 0) (3 : Int32).toNatClampNeg 1)))) : Nat × va_E)] ++ [((q2, .inl (V.2.1 0, (258, .inl (fun _ => 0)))) : Nat × va_E)] ++ [((q3, .inl (V.2.1 0, (6, .inl (fun _ => 0)))) : Nat × va_E)] ++ [((q4, .inl (V.2.1 0, (86, .inl (fun _ => 0)))) : Nat × va_E)] ++ [((q5, .inl (V.2.1 0, (3, .inl (fun _ => 0)))) : Nat × va_E)] ++ [((q6, .inl (V.2.1 0, (6, .inl (fun _ => 0)))) : Nat × va_E)] ++ [((q7, .inl (V.2.1 0, (40, .inl (fun _ => 0)))) : Nat × va_E)] ++ [((q8, .inl (V.2.1 0, (4, .inl (fun _ => 0)))) : Nat × va_E)] ++ [((q9, .inl (V.2.1 0, (4, .inl (fun _ => 0)))) : Nat × va_E)] ++ [((q10, .inl (V.2.1 0, (160, .inl (fun _ => 0)))) : Nat × va_E)] ++ [((q11, .inl (V.2.1 0, (40, .inl (fun _ => 0)))) : Nat × va_E)]))) dX8_init_98 rfl (by decide) rfl ?_
  obtain ⟨Q, hQ⟩ : ∃ Q : Nat → Nat, Q = (fun k => if k < 1 then a else if k < 2 then q1 else if k < 3 then q2 else if k < 4 then q3 else if k < 5 then q4 else if k < 6 then q5 else if k < 7 then q6 else if k < 8 then q7 else if k < 9 then q8 else if k < 10 then q9 else if k < 11 then q10 else if k < 12 then q11 else 0) := ⟨_, rfl⟩
  have hW : (((a, .inr (8, [.ref q1, .ref q2, .int 0, .ref q3, .ref q4, .int 0, .int 0, .int 0, .int 0, .int 0, .int 0, .ref q5, .ref q6, .ref q7, .int 0, .int 0, .ref q8, .ref q9, .ref q10, .ref q11])) : Nat × va_E) :: ([((q1, .inl (V.2.1 0, (258, .inl (upd (fun _ => 0) (3 : Int32).toNatClampNeg 1)))) : Nat × va_E)] ++ [((q2, .inl (V.2.1 0, (258, .inl (fun _ => 0)))) : Nat × va_E)] ++ [((q3, .inl (V.2.1 0, (6, .inl (fun _ => 0)))) : Nat × va_E)] ++ [((q4, .inl (V.2.1 0, (86, .inl (fun _ => 0)))) : Nat × va_E)] ++ [((q5, .inl (V.2.1 0, (3, .inl (fun _ => 0)))) : Nat × va_E)] ++ [((q6, .inl (V.2.1 0, (6, .inl (fun _ => 0)))) : Nat × va_E)] ++ [((q7, .inl (V.2.1 0, (40, .inl (fun _ => 0)))) : Nat × va_E)] ++ [((q8, .inl (V.2.1 0, (4, .inl (fun _ => 0)))) : Nat × va_E)] ++ [((q9, .inl (V.2.1 0, (4, .inl (fun _ => 0)))) : Nat × va_E)] ++ [((q10, .inl (V.2.1 0, (160, .inl (fun _ => 0)))) : Nat × va_E)] ++ [((q11, .inl (V.2.1 0, (40, .inl (fun _ => 0)))) : Nat × va_E)])) = pm_wld (Q, V.2) s0_MO m0_MO := by
    rw [pm_wF_eq]
    have e0 : a = Q 0 := by rw [hQ]; rfl
    have e1 : q1 = Q 1 := by rw [hQ]; rfl
    have e2 : q2 = Q 2 := by rw [hQ]; rfl
    have e3 : q3 = Q 3 := by rw [hQ]; rfl
    have e4 : q4 = Q 4 := by rw [hQ]; rfl
    have e5 : q5 = Q 5 := by rw [hQ]; rfl
    have e6 : q6 = Q 6 := by rw [hQ]; rfl
    have e7 : q7 = Q 7 := by rw [hQ]; rfl
    have e8 : q8 = Q 8 := by rw [hQ]; rfl
    have e9 : q9 = Q 9 := by rw [hQ]; rfl
    have e10 : q10 = Q 10 := by rw [hQ]; rfl
    have e11 : q11 = Q 11 := by rw [hQ]; rfl
    simp only [e0, e1, e2, e3, e4, e5, e6, e7, e8, e9, e10, e11]
    rfl
  rw [hW]
  exact hend _ _ _ Q (by rw [hQ]; rfl) dX8_init_99
set_option maxHeartbeats 4000000 in
set_option maxRecDepth 100000 in
theorem cn_X7_init (l : Launch) (V : pm_V) : pm_Nc l V yX7_init mX7_init 3 [] 7 [.null, .null, .null, .int 0, .null, .null, .null, .null] s0_RS m0_RS 105 1555 := by
  refine pm_metN (by decide) rfl rfl rfl (fun Z a hz hm hend => ⟨Nat.le_of_ble_eq_true rfl, ?_⟩)
  refine jr_aloadn (j := 0) dX7_init_0 rfl ?_
  refine nr_obj dX7_init_1 lk7_1 lkO_i lkO_c (Nat.le_of_ble_eq_true rfl) ?_
  refine jr_aloadn (j := 0) dX7_init_4 rfl ?_
  refine nr_new (ci := 5) (ty := tyX5) [.null, .null, .null, .int 0, .int 0, .null, .int 0, .null, .int 0, .null, .null, .null] hz dX7_init_5 rfl iX5 tyX5_ok lc7_7 li_5.1 li_5.2 (fun j hj => by rcases (show j = 0 ∨ j = 1 ∨ j = 2 ∨ j = 3 ∨ j = 4 ∨ j = 5 ∨ j = 6 ∨ j = 7 ∨ j = 8 ∨ j = 9 ∨ j = 10 ∨ j = 11 by omega) with rfl | rfl | rfl | rfl | rfl | rfl | rfl | rfl | rfl | rfl | rfl | rfl <;> rfl) (Nat.le_of_ble_eq_true rfl) (Nat.le_of_ble_eq_true rfl) ?_
  intro q1
  refine jr_dup dX7_init_8 rfl ?_
  refine nr_call (ws := [((a, .inr (7, [.null, .null, .null, .int 0, .null, .null, .null, .null])) : Nat × va_E)]) (y := yX5_init) (mi' := mX5_init) (ht' := 2) (a := q1) (ci := 5) (mc' := 29) (ms' := 395) (fs0 := [.null, .null, .null, .int 0, .int 0, .null, .int 0, .null, .int 0, .null, .null, .null]) (As := []) (sk := s0_VA) (M0 := m0_VA) hz dX7_init_9 (Or.inr ln7_9) ky_X5_init np_X5_init (Nat.le_of_ble_eq_true rfl) (Nat.le_of_ble_eq_true rfl) rfl (Nat.le_of_ble_eq_true rfl) (Nat.le_of_ble_eq_true rfl) (fun l => cn_X5_init l V) ?_
  intro fq1 eq1
  subst eq1
  rw [pm_wF_eq]
  refine nr_putF (q0 := 0) (ws' := (((a, .inr (7, [.ref (fq1 0), .null, .null, .int 0, .null, .null, .null, .null])) : Nat × va_E) :: (pm_wF (fq1, V.2) m0_VA 0 s0_VA))) hm dX7_init_12 ff7_10 rfl rfl rfl (Nat.le_of_ble_eq_true rfl) rfl ?_
  refine jr_aloadn (j := 0) dX7_init_15 rfl ?_
  refine nr_new (ci := 5) (ty := tyX5) [.null, .null, .null, .int 0, .int 0, .null, .int 0, .null, .int 0, .null, .null, .null] hz dX7_init_16 rfl iX5 tyX5_ok lc7_7 li_5.1 li_5.2 (fun j hj => by rcases (show j = 0 ∨ j = 1 ∨ j = 2 ∨ j = 3 ∨ j = 4 ∨ j = 5 ∨ j = 6 ∨ j = 7 ∨ j = 8 ∨ j = 9 ∨ j = 10 ∨ j = 11 by omega) with rfl | rfl | rfl | rfl | rfl | rfl | rfl | rfl | rfl | rfl | rfl | rfl <;> rfl) (Nat.le_of_ble_eq_true rfl) (Nat.le_of_ble_eq_true rfl) ?_
  intro q2
  refine jr_dup dX7_init_19 rfl ?_
  refine nr_call (ws := (((a, .inr (7, [.ref (fq1 0), .null, .null, .int 0, .null, .null, .null, .null])) : Nat × va_E) :: (pm_wF (fq1, V.2) m0_VA 0 s0_VA))) (y := yX5_init) (mi' := mX5_init) (ht' := 2) (a := q2) (ci := 5) (mc' := 29) (ms' := 395) (fs0 := [.null, .null, .null, .int 0, .int 0, .null, .int 0, .null, .int 0, .null, .null, .null]) (As := []) (sk := s0_VA) (M0 := m0_VA) hz dX7_init_20 (Or.inr ln7_9) ky_X5_init np_X5_init (Nat.le_of_ble_eq_true rfl) (Nat.le_of_ble_eq_true rfl) rfl (Nat.le_of_ble_eq_true rfl) (Nat.le_of_ble_eq_true rfl) (fun l => cn_X5_init l V) ?_
  intro fq2 eq2
  subst eq2
  rw [pm_wF_eq]
  refine nr_putF (q0 := 0) (ws' := (((a, .inr (7, [.ref (fq1 0), .ref (fq2 0), .null, .int 0, .null, .null, .null, .null])) : Nat × va_E) :: (pm_wF (fq1, V.2) m0_VA 0 s0_VA ++ pm_wF (fq2, V.2) m0_VA 0 s0_VA))) hm dX7_init_23 ff7_16 rfl rfl rfl (Nat.le_of_ble_eq_true rfl) rfl ?_
  refine jr_aloadn (j := 0) dX7_init_26 rfl ?_
  refine nr_new (ci := 5) (ty := tyX5) [.null, .null, .null, .int 0, .int 0, .null, .int 0, .null, .int 0, .null, .null, .null] hz dX7_init_27 rfl iX5 tyX5_ok lc7_7 li_5.1 li_5.2 (fun j hj => by rcases (show j = 0 ∨ j = 1 ∨ j = 2 ∨ j = 3 ∨ j = 4 ∨ j = 5 ∨ j = 6 ∨ j = 7 ∨ j = 8 ∨ j = 9 ∨ j = 10 ∨ j = 11 by omega) with rfl | rfl | rfl | rfl | rfl | rfl | rfl | rfl | rfl | rfl | rfl | rfl <;> rfl) (Nat.le_of_ble_eq_true rfl) (Nat.le_of_ble_eq_true rfl) ?_
  intro q3
  refine jr_dup dX7_init_30 rfl ?_
  refine nr_call (ws := (((a, .inr (7, [.ref (fq1 0), .ref (fq2 0), .null, .int 0, .null, .null, .null, .null])) : Nat × va_E) :: (pm_wF (fq1, V.2) m0_VA 0 s0_VA ++ pm_wF (fq2, V.2) m0_VA 0 s0_VA))) (y := yX5_init) (mi' := mX5_init) (ht' := 2) (a := q3) (ci := 5) (mc' := 29) (ms' := 395) (fs0 := [.null, .null, .null, .int 0, .int 0, .null, .int 0, .null, .int 0, .null, .null, .null]) (As := []) (sk := s0_VA) (M0 := m0_VA) hz dX7_init_31 (Or.inr ln7_9) ky_X5_init np_X5_init (Nat.le_of_ble_eq_true rfl) (Nat.le_of_ble_eq_true rfl) rfl (Nat.le_of_ble_eq_true rfl) (Nat.le_of_ble_eq_true rfl) (fun l => cn_X5_init l V) ?_
  intro fq3 eq3
  subst eq3
  rw [pm_wF_eq]
  refine nr_putF (q0 := 0) (ws' := (((a, .inr (7, [.ref (fq1 0), .ref (fq2 0), .ref (fq3 0), .int 0, .null, .null, .null, .null])) : Nat × va_E) :: (pm_wF (fq1, V.2) m0_VA 0 s0_VA ++ pm_wF (fq2, V.2) m0_VA 0 s0_VA ++ pm_wF (fq3, V.2) m0_VA 0 s0_VA))) hm dX7_init_34 ff7_19 rfl rfl rfl (Nat.le_of_ble_eq_true rfl) rfl ?_
  refine jr_aloadn (j := 0) dX7_init_37 rfl ?_
  refine jr_iconst (v := 0) dX7_init_38 (by decide) ?_
  refine nr_putV (q0 := 0) (ws' := (((a, .inr (7, [.ref (fq1 0), .ref (fq2 0), .ref (fq3 0), .int 0, .null, .null, .null, .null])) : Nat × va_E) :: (pm_wF (fq1, V.2) m0_VA 0 s0_VA ++ pm_wF (fq2, V.2) m0_VA 0 s0_VA ++ pm_wF (fq3, V.2) m0_VA 0 s0_VA))) dX7_init_39 fp7_22 rfl rfl rfl (Nat.le_of_ble_eq_true rfl) rfl ?_
  refine jr_aloadn (j := 0) dX7_init_42 rfl ?_
  refine nr_new (ci := 2) (ty := tyX2) [.null, .int 0, .null, .int 0, .int 0, .int 0, .int 0] hz dX7_init_43 rfl iX2 tyX2_ok lc7_26 li_2.1 li_2.2 (fun j hj => by rcases (show j = 0 ∨ j = 1 ∨ j = 2 ∨ j = 3 ∨ j = 4 ∨ j = 5 ∨ j = 6 by omega) with rfl | rfl | rfl | rfl | rfl | rfl | rfl <;> rfl) (Nat.le_of_ble_eq_true rfl) (Nat.le_of_ble_eq_true rfl) ?_
  intro q4
  refine jr_dup dX7_init_46 rfl ?_
  refine nr_call (ws := (((a, .inr (7, [.ref (fq1 0), .ref (fq2 0), .ref (fq3 0), .int 0, .null, .null, .null, .null])) : Nat × va_E) :: (pm_wF (fq1, V.2) m0_VA 0 s0_VA ++ pm_wF (fq2, V.2) m0_VA 0 s0_VA ++ pm_wF (fq3, V.2) m0_VA 0 s0_VA))) (y := yX2_init) (mi' := mX2_init) (ht' := 1) (a := q4) (ci := 2) (mc' := 2) (ms' := 100) (fs0 := [.null, .int 0, .null, .int 0, .int 0, .int 0, .int 0]) (As := []) (sk := s0_RD) (M0 := m0_RD) hz dX7_init_47 (Or.inr ln7_28) ky_X2_init np_X2_init (Nat.le_of_ble_eq_true rfl) (Nat.le_of_ble_eq_true rfl) rfl (Nat.le_of_ble_eq_true rfl) (Nat.le_of_ble_eq_true rfl) (fun l => cn_X2_init l V) ?_
  intro fq4 eq4
  subst eq4
  rw [pm_wF_eq]
  refine nr_putF (q0 := 0) (ws' := (((a, .inr (7, [.ref (fq1 0), .ref (fq2 0), .ref (fq3 0), .int 0, .ref (fq4 0), .null, .null, .null])) : Nat × va_E) :: (pm_wF (fq1, V.2) m0_VA 0 s0_VA ++ pm_wF (fq2, V.2) m0_VA 0 s0_VA ++ pm_wF (fq3, V.2) m0_VA 0 s0_VA ++ pm_wF (fq4, V.2) m0_RD 0 s0_RD))) hm dX7_init_50 ff7_29 rfl rfl rfl (Nat.le_of_ble_eq_true rfl) rfl ?_
  refine jr_aloadn (j := 0) dX7_init_53 rfl ?_
  refine nr_new (ci := 6) (ty := tyX6) [.null, .int 0, .int 0, .int 0, .int 0] hz dX7_init_54 rfl iX6 tyX6_ok lc7_33 li_6.1 li_6.2 (fun j hj => by rcases (show j = 0 ∨ j = 1 ∨ j = 2 ∨ j = 3 ∨ j = 4 by omega) with rfl | rfl | rfl | rfl | rfl <;> rfl) (Nat.le_of_ble_eq_true rfl) (Nat.le_of_ble_eq_true rfl) ?_
  intro q5
  refine jr_dup dX7_init_57 rfl ?_
  refine nr_call (ws := (((a, .inr (7, [.ref (fq1 0), .ref (fq2 0), .ref (fq3 0), .int 0, .ref (fq4 0), .null, .null, .null])) : Nat × va_E) :: (pm_wF (fq1, V.2) m0_VA 0 s0_VA ++ pm_wF (fq2, V.2) m0_VA 0 s0_VA ++ pm_wF (fq3, V.2) m0_VA 0 s0_VA ++ pm_wF (fq4, V.2) m0_RD 0 s0_RD))) (y := yX6_init) (mi' := mX6_init) (ht' := 1) (a := q5) (ci := 6) (mc' := 1) (ms' := 40) (fs0 := [.null, .int 0, .int 0, .int 0, .int 0]) (As := []) (sk := s0_VO) (M0 := m0_VO) hz dX7_init_58 (Or.inr ln7_35) ky_X6_init np_X6_init (Nat.le_of_ble_eq_true rfl) (Nat.le_of_ble_eq_true rfl) rfl (Nat.le_of_ble_eq_true rfl) (Nat.le_of_ble_eq_true rfl) (fun l => cn_X6_init l V) ?_
  intro fq5 eq5
  subst eq5
  rw [pm_wF_eq]
  refine nr_putF (q0 := 0) (ws' := (((a, .inr (7, [.ref (fq1 0), .ref (fq2 0), .ref (fq3 0), .int 0, .ref (fq4 0), .ref (fq5 0), .null, .null])) : Nat × va_E) :: (pm_wF (fq1, V.2) m0_VA 0 s0_VA ++ pm_wF (fq2, V.2) m0_VA 0 s0_VA ++ pm_wF (fq3, V.2) m0_VA 0 s0_VA ++ pm_wF (fq4, V.2) m0_RD 0 s0_RD ++ pm_wF (fq5, V.2) m0_VO 0 s0_VO))) hm dX7_init_61 ff7_36 rfl rfl rfl (Nat.le_of_ble_eq_true rfl) rfl ?_
  refine jr_aloadn (j := 0) dX7_init_64 rfl ?_
  refine jr_iconst (v := 4) dX7_init_65 (by decide) ?_
  refine nr_newq (N := 4) (t := 2) hz dX7_init_66 lc7_40 (Or.inr ⟨rfl, rfl⟩) (by decide) (by decide) (by decide) (Nat.le_of_ble_eq_true rfl) (Nat.le_of_ble_eq_true rfl) ?_
  intro q6
  refine nr_putF (q0 := 0) (ws' := (((a, .inr (7, [.ref (fq1 0), .ref (fq2 0), .ref (fq3 0), .int 0, .ref (fq4 0), .ref (fq5 0), .ref q6, .null])) : Nat × va_E) :: (pm_wF (fq1, V.2) m0_VA 0 s0_VA ++ pm_wF (fq2, V.2) m0_VA 0 s0_VA ++ pm_wF (fq3, V.2) m0_VA 0 s0_VA ++ pm_wF (fq4, V.2) m0_RD 0 s0_RD ++ pm_wF (fq5, V.2) m0_VO 0 s0_VO ++ [((q6, .inl (V.2.1 2, (4, .inr (.inr (.inr (.inr (fun _ => none))))))) : Nat × va_E)]))) hm dX7_init_69 ff7_42 rfl rfl rfl (Nat.le_of_ble_eq_true rfl) rfl ?_
  refine jr_aloadn (j := 0) dX7_init_72 rfl ?_
  refine jr_bipush (v := 6) dX7_init_73 (by decide) ?_
  refine nr_newa (N := 6) hz dX7_init_75 lkA_c (by decide) (by decide) (by decide) (Nat.le_of_ble_eq_true rfl) (Nat.le_of_ble_eq_true rfl) ?_
  intro q7
  refine nr_putF (q0 := 0) (ws' := (((a, .inr (7, [.ref (fq1 0), .ref (fq2 0), .ref (fq3 0), .int 0, .ref (fq4 0), .ref (fq5 0), .ref q6, .ref q7])) : Nat × va_E) :: (pm_wF (fq1, V.2) m0_VA 0 s0_VA ++ pm_wF (fq2, V.2) m0_VA 0 s0_VA ++ pm_wF (fq3, V.2) m0_VA 0 s0_VA ++ pm_wF (fq4, V.2) m0_RD 0 s0_RD ++ pm_wF (fq5, V.2) m0_VO 0 s0_VO ++ [((q6, .inl (V.2.1 2, (4, .inr (.inr (.inr (.inr (fun _ => none))))))) : Nat × va_E)] ++ [((q7, .inl (V.2.1 0, (6, .inl (fun _ => 0)))) : Nat × va_E)]))) hm dX7_init_77 ff7_46 rfl rfl rfl (Nat.le_of_ble_eq_true rfl) rfl ?_
  refine jr_iconst (v := 0) dX7_init_80 (by decide) ?_
  refine jr_istoren (L' := [(1, .int 0), (0, .ref a)]) dX7_init_81 (Nat.le_of_ble_eq_true rfl) rfl ?_
  refine jr_iloadn (j := 0) dX7_init_82 rfl ?_
  refine jr_aloadn (j := 1) dX7_init_83 rfl ?_
  refine nr_get (q0 := 0) dX7_init_84 fl7_42 rfl rfl ?_
  refine nr_alen (q0 := 96) (t := 2) (v := 4) dX7_init_87 rfl rfl rfl ?_
  refine jr_ic_ge (tgt := 110) dX7_init_88 rfl (fun h => absurd h (by decide)) (fun _ => ?_)
  refine jr_aloadn (j := 1) dX7_init_91 rfl ?_
  refine nr_get (q0 := 0) dX7_init_92 fl7_42 rfl rfl ?_
  refine jr_iloadn (j := 0) dX7_init_95 rfl ?_
  refine nr_new (ci := 4) (ty := tyX4) [.int 0, .int 0, .null] hz dX7_init_96 rfl iX4 tyX4_ok lc7_40 li_4.1 li_4.2 (fun j hj => by rcases (show j = 0 ∨ j = 1 ∨ j = 2 by omega) with rfl | rfl | rfl <;> rfl) (Nat.le_of_ble_eq_true rfl) (Nat.le_of_ble_eq_true rfl) ?_
  intro q8
  refine jr_dup dX7_init_99 rfl ?_
  refine nr_call (ws := (((a, .inr (7, [.ref (fq1 0), .ref (fq2 0), .ref (fq3 0), .int 0, .ref (fq4 0), .ref (fq5 0), .ref q6, .ref q7])) : Nat × va_E) :: (pm_wF (fq1, V.2) m0_VA 0 s0_VA ++ pm_wF (fq2, V.2) m0_VA 0 s0_VA ++ pm_wF (fq3, V.2) m0_VA 0 s0_VA ++ pm_wF (fq4, V.2) m0_RD 0 s0_RD ++ pm_wF (fq5, V.2) m0_VO 0 s0_VO ++ [((q6, .inl (V.2.1 2, (4, .inr (.inr (.inr (.inr (fun _ => none))))))) : Nat × va_E)] ++ [((q7, .inl (V.2.1 0, (6, .inl (fun _ => 0)))) : Nat × va_E)]))) (y := yX4_init) (mi' := mX4_init) (ht' := 1) (a := q8) (ci := 4) (mc' := 1) (ms' := 40) (fs0 := [.int 0, .int 0, .null]) (As := []) (sk := s0_SH) (M0 := m0_SH) hz dX7_init_100 (Or.inr ln7_50) ky_X4_init np_X4_init (Nat.le_of_ble_eq_true rfl) (Nat.le_of_ble_eq_true rfl) rfl (Nat.le_of_ble_eq_true rfl) (Nat.le_of_ble_eq_true rfl) (fun l => cn_X4_init l V) ?_
  intro fq8 eq8
  subst eq8
  rw [pm_wF_eq]
  refine nr_aast (q0 := 96) (qk := 98) (t := 2) (N := 4) (r := (RX4, TX4, 3)) (ws' := (((a, .inr (7, [.ref (fq1 0), .ref (fq2 0), .ref (fq3 0), .int 0, .ref (fq4 0), .ref (fq5 0), .ref q6, .ref q7])) : Nat × va_E) :: (pm_wF (fq1, V.2) m0_VA 0 s0_VA ++ pm_wF (fq2, V.2) m0_VA 0 s0_VA ++ pm_wF (fq3, V.2) m0_VA 0 s0_VA ++ pm_wF (fq4, V.2) m0_RD 0 s0_RD ++ pm_wF (fq5, V.2) m0_VO 0 s0_VO ++ [((q6, .inl (V.2.1 2, (4, .inr (.inr (.inr (.inr (va_up (fun _ => none) (0 : Int32).toNatClampNeg (some (fq8 0))))))))) : Nat × va_E)] ++ [((q7, .inl (V.2.1 0, (6, .inl (fun _ => 0)))) : Nat × va_E)] ++ pm_wF (fq8, V.2) m0_SH 0 s0_SH))) dX7_init_103 rfl rfl rfl rfl (by decide) rfl ?_
  refine jr_iinc (j := 0) (v := 1) (L' := [(1, .int 1), (0, .ref a)]) dX7_init_104 rfl rfl (Nat.le_of_ble_eq_true rfl) rfl ?_
  refine jr_goto (tgt := 82) dX7_init_107 rfl ?_
  refine jr_iloadn (j := 0) dX7_init_82 rfl ?_
  refine jr_aloadn (j := 1) dX7_init_83 rfl ?_
  refine nr_get (q0 := 0) dX7_init_84 fl7_42 rfl rfl ?_
  refine nr_alen (q0 := 96) (t := 2) (v := 4) dX7_init_87 rfl rfl rfl ?_
  refine jr_ic_ge (tgt := 110) dX7_init_88 rfl (fun h => absurd h (by decide)) (fun _ => ?_)
  refine jr_aloadn (j := 1) dX7_init_91 rfl ?_
  refine nr_get (q0 := 0) dX7_init_92 fl7_42 rfl rfl ?_
  refine jr_iloadn (j := 0) dX7_init_95 rfl ?_
  refine nr_new (ci := 4) (ty := tyX4) [.int 0, .int 0, .null] hz dX7_init_96 rfl iX4 tyX4_ok lc7_40 li_4.1 li_4.2 (fun j hj => by rcases (show j = 0 ∨ j = 1 ∨ j = 2 by omega) with rfl | rfl | rfl <;> rfl) (Nat.le_of_ble_eq_true rfl) (Nat.le_of_ble_eq_true rfl) ?_
  intro q9
  refine jr_dup dX7_init_99 rfl ?_
  refine nr_call (ws := (((a, .inr (7, [.ref (fq1 0), .ref (fq2 0), .ref (fq3 0), .int 0, .ref (fq4 0), .ref (fq5 0), .ref q6, .ref q7])) : Nat × va_E) :: (pm_wF (fq1, V.2) m0_VA 0 s0_VA ++ pm_wF (fq2, V.2) m0_VA 0 s0_VA ++ pm_wF (fq3, V.2) m0_VA 0 s0_VA ++ pm_wF (fq4, V.2) m0_RD 0 s0_RD ++ pm_wF (fq5, V.2) m0_VO 0 s0_VO ++ [((q6, .inl (V.2.1 2, (4, .inr (.inr (.inr (.inr (va_up (fun _ => none) (0 : Int32).toNatClampNeg (some (fq8 0))))))))) : Nat × va_E)] ++ [((q7, .inl (V.2.1 0, (6, .inl (fun _ => 0)))) : Nat × va_E)] ++ pm_wF (fq8, V.2) m0_SH 0 s0_SH))) (y := yX4_init) (mi' := mX4_init) (ht' := 1) (a := q9) (ci := 4) (mc' := 1) (ms' := 40) (fs0 := [.int 0, .int 0, .null]) (As := []) (sk := s0_SH) (M0 := m0_SH) hz dX7_init_100 (Or.inr ln7_50) ky_X4_init np_X4_init (Nat.le_of_ble_eq_true rfl) (Nat.le_of_ble_eq_true rfl) rfl (Nat.le_of_ble_eq_true rfl) (Nat.le_of_ble_eq_true rfl) (fun l => cn_X4_init l V) ?_
  intro fq9 eq9
  subst eq9
  rw [pm_wF_eq]
  refine nr_aast (q0 := 96) (qk := 100) (t := 2) (N := 4) (r := (RX4, TX4, 3)) (ws' := (((a, .inr (7, [.ref (fq1 0), .ref (fq2 0), .ref (fq3 0), .int 0, .ref (fq4 0), .ref (fq5 0), .ref q6, .ref q7])) : Nat × va_E) :: (pm_wF (fq1, V.2) m0_VA 0 s0_VA ++ pm_wF (fq2, V.2) m0_VA 0 s0_VA ++ pm_wF (fq3, V.2) m0_VA 0 s0_VA ++ pm_wF (fq4, V.2) m0_RD 0 s0_RD ++ pm_wF (fq5, V.2) m0_VO 0 s0_VO ++ [((q6, .inl (V.2.1 2, (4, .inr (.inr (.inr (.inr (va_up (va_up (fun _ => none) (0 : Int32).toNatClampNeg (some (fq8 0))) (1 : Int32).toNatClampNeg (some (fq9 0))))))))) : Nat × va_E)] ++ [((q7, .inl (V.2.1 0, (6, .inl (fun _ => 0)))) : Nat × va_E)] ++ pm_wF (fq8, V.2) m0_SH 0 s0_SH ++ pm_wF (fq9, V.2) m0_SH 0 s0_SH))) dX7_init_103 rfl rfl rfl rfl (by decide) rfl ?_
  refine jr_iinc (j := 0) (v := 2) (L' := [(1, .int 2), (0, .ref a)]) dX7_init_104 rfl rfl (Nat.le_of_ble_eq_true rfl) rfl ?_
  refine jr_goto (tgt := 82) dX7_init_107 rfl ?_
  refine jr_iloadn (j := 0) dX7_init_82 rfl ?_
  refine jr_aloadn (j := 1) dX7_init_83 rfl ?_
  refine nr_get (q0 := 0) dX7_init_84 fl7_42 rfl rfl ?_
  refine nr_alen (q0 := 96) (t := 2) (v := 4) dX7_init_87 rfl rfl rfl ?_
  refine jr_ic_ge (tgt := 110) dX7_init_88 rfl (fun h => absurd h (by decide)) (fun _ => ?_)
  refine jr_aloadn (j := 1) dX7_init_91 rfl ?_
  refine nr_get (q0 := 0) dX7_init_92 fl7_42 rfl rfl ?_
  refine jr_iloadn (j := 0) dX7_init_95 rfl ?_
  refine nr_new (ci := 4) (ty := tyX4) [.int 0, .int 0, .null] hz dX7_init_96 rfl iX4 tyX4_ok lc7_40 li_4.1 li_4.2 (fun j hj => by rcases (show j = 0 ∨ j = 1 ∨ j = 2 by omega) with rfl | rfl | rfl <;> rfl) (Nat.le_of_ble_eq_true rfl) (Nat.le_of_ble_eq_true rfl) ?_
  intro q10
  refine jr_dup dX7_init_99 rfl ?_
  refine nr_call (ws := (((a, .inr (7, [.ref (fq1 0), .ref (fq2 0), .ref (fq3 0), .int 0, .ref (fq4 0), .ref (fq5 0), .ref q6, .ref q7])) : Nat × va_E) :: (pm_wF (fq1, V.2) m0_VA 0 s0_VA ++ pm_wF (fq2, V.2) m0_VA 0 s0_VA ++ pm_wF (fq3, V.2) m0_VA 0 s0_VA ++ pm_wF (fq4, V.2) m0_RD 0 s0_RD ++ pm_wF (fq5, V.2) m0_VO 0 s0_VO ++ [((q6, .inl (V.2.1 2, (4, .inr (.inr (.inr (.inr (va_up (va_up (fun _ => none) (0 : Int32).toNatClampNeg (some (fq8 0))) (1 : Int32).toNatClampNeg (some (fq9 0))))))))) : Nat × va_E)] ++ [((q7, .inl (V.2.1 0, (6, .inl (fun _ => 0)))) : Nat × va_E)] ++ pm_wF (fq8, V.2) m0_SH 0 s0_SH ++ pm_wF (fq9, V.2) m0_SH 0 s0_SH))) (y := yX4_init) (mi' := mX4_init) (ht' := 1) (a := q10) (ci := 4) (mc' := 1) (ms' := 40) (fs0 := [.int 0, .int 0, .null]) (As := []) (sk := s0_SH) (M0 := m0_SH) hz dX7_init_100 (Or.inr ln7_50) ky_X4_init np_X4_init (Nat.le_of_ble_eq_true rfl) (Nat.le_of_ble_eq_true rfl) rfl (Nat.le_of_ble_eq_true rfl) (Nat.le_of_ble_eq_true rfl) (fun l => cn_X4_init l V) ?_
  intro fq10 eq10
  subst eq10
  rw [pm_wF_eq]
  refine nr_aast (q0 := 96) (qk := 102) (t := 2) (N := 4) (r := (RX4, TX4, 3)) (ws' := (((a, .inr (7, [.ref (fq1 0), .ref (fq2 0), .ref (fq3 0), .int 0, .ref (fq4 0), .ref (fq5 0), .ref q6, .ref q7])) : Nat × va_E) :: (pm_wF (fq1, V.2) m0_VA 0 s0_VA ++ pm_wF (fq2, V.2) m0_VA 0 s0_VA ++ pm_wF (fq3, V.2) m0_VA 0 s0_VA ++ pm_wF (fq4, V.2) m0_RD 0 s0_RD ++ pm_wF (fq5, V.2) m0_VO 0 s0_VO ++ [((q6, .inl (V.2.1 2, (4, .inr (.inr (.inr (.inr (va_up (va_up (va_up (fun _ => none) (0 : Int32).toNatClampNeg (some (fq8 0))) (1 : Int32).toNatClampNeg (some (fq9 0))) (2 : Int32).toNatClampNeg (some (fq10 0))))))))) : Nat × va_E)] ++ [((q7, .inl (V.2.1 0, (6, .inl (fun _ => 0)))) : Nat × va_E)] ++ pm_wF (fq8, V.2) m0_SH 0 s0_SH ++ pm_wF (fq9, V.2) m0_SH 0 s0_SH ++ pm_wF (fq10, V.2) m0_SH 0 s0_SH))) dX7_init_103 rfl rfl rfl rfl (by decide) rfl ?_
  refine jr_iinc (j := 0) (v := 3) (L' := [(1, .int 3), (0, .ref a)]) dX7_init_104 rfl rfl (Nat.le_of_ble_eq_true rfl) rfl ?_
  refine jr_goto (tgt := 82) dX7_init_107 rfl ?_
  refine jr_iloadn (j := 0) dX7_init_82 rfl ?_
  refine jr_aloadn (j := 1) dX7_init_83 rfl ?_
  refine nr_get (q0 := 0) dX7_init_84 fl7_42 rfl rfl ?_
  refine nr_alen (q0 := 96) (t := 2) (v := 4) dX7_init_87 rfl rfl rfl ?_
  refine jr_ic_ge (tgt := 110) dX7_init_88 rfl (fun h => absurd h (by decide)) (fun _ => ?_)
  refine jr_aloadn (j := 1) dX7_init_91 rfl ?_
  refine nr_get (q0 := 0) dX7_init_92 fl7_42 rfl rfl ?_
  refine jr_iloadn (j := 0) dX7_init_95 rfl ?_
  refine nr_new (ci := 4) (ty := tyX4) [.int 0, .int 0, .null] hz dX7_init_96 rfl iX4 tyX4_ok lc7_40 li_4.1 li_4.2 (fun j hj => by rcases (show j = 0 ∨ j = 1 ∨ j = 2 by omega) with rfl | rfl | rfl <;> rfl) (Nat.le_of_ble_eq_true rfl) (Nat.le_of_ble_eq_true rfl) ?_
  intro q11
  refine jr_dup dX7_init_99 rfl ?_
  refine nr_call (ws := (((a, .inr (7, [.ref (fq1 0), .ref (fq2 0), .ref (fq3 0), .int 0, .ref (fq4 0), .ref (fq5 0), .ref q6, .ref q7])) : Nat × va_E) :: (pm_wF (fq1, V.2) m0_VA 0 s0_VA ++ pm_wF (fq2, V.2) m0_VA 0 s0_VA ++ pm_wF (fq3, V.2) m0_VA 0 s0_VA ++ pm_wF (fq4, V.2) m0_RD 0 s0_RD ++ pm_wF (fq5, V.2) m0_VO 0 s0_VO ++ [((q6, .inl (V.2.1 2, (4, .inr (.inr (.inr (.inr (va_up (va_up (va_up (fun _ => none) (0 : Int32).toNatClampNeg (some (fq8 0))) (1 : Int32).toNatClampNeg (some (fq9 0))) (2 : Int32).toNatClampNeg (some (fq10 0))))))))) : Nat × va_E)] ++ [((q7, .inl (V.2.1 0, (6, .inl (fun _ => 0)))) : Nat × va_E)] ++ pm_wF (fq8, V.2) m0_SH 0 s0_SH ++ pm_wF (fq9, V.2) m0_SH 0 s0_SH ++ pm_wF (fq10, V.2) m0_SH 0 s0_SH))) (y := yX4_init) (mi' := mX4_init) (ht' := 1) (a := q11) (ci := 4) (mc' := 1) (ms' := 40) (fs0 := [.int 0, .int 0, .null]) (As := []) (sk := s0_SH) (M0 := m0_SH) hz dX7_init_100 (Or.inr ln7_50) ky_X4_init np_X4_init (Nat.le_of_ble_eq_true rfl) (Nat.le_of_ble_eq_true rfl) rfl (Nat.le_of_ble_eq_true rfl) (Nat.le_of_ble_eq_true rfl) (fun l => cn_X4_init l V) ?_
  intro fq11 eq11
  subst eq11
  rw [pm_wF_eq]
  refine nr_aast (q0 := 96) (qk := 104) (t := 2) (N := 4) (r := (RX4, TX4, 3)) (ws' := (((a, .inr (7, [.ref (fq1 0), .ref (fq2 0), .ref (fq3 0), .int 0, .ref (fq4 0), .ref (fq5 0), .ref q6, .ref q7])) : Nat × va_E) :: (pm_wF (fq1, V.2) m0_VA 0 s0_VA ++ pm_wF (fq2, V.2) m0_VA 0 s0_VA ++ pm_wF (fq3, V.2) m0_VA 0 s0_VA ++ pm_wF (fq4, V.2) m0_RD 0 s0_RD ++ pm_wF (fq5, V.2) m0_VO 0 s0_VO ++ [((q6, .inl (V.2.1 2, (4, .inr (.inr (.inr (.inr (va_up (va_up (va_up (va_up (fun _ => none) (0 : Int32).toNatClampNeg (some (fq8 0))) (1 : Int32).toNatClampNeg (some (fq9 0))) (2 : Int32).toNatClampNeg (some (fq10 0))) (3 : Int32).toNatClampNeg (some (fq11 0))))))))) : Nat × va_E)] ++ [((q7, .inl (V.2.1 0, (6, .inl (fun _ => 0)))) : Nat × va_E)] ++ pm_wF (fq8, V.2) m0_SH 0 s0_SH ++ pm_wF (fq9, V.2) m0_SH 0 s0_SH ++ pm_wF (fq10, V.2) m0_SH 0 s0_SH ++ pm_wF (fq11, V.2) m0_SH 0 s0_SH))) dX7_init_103 rfl rfl rfl rfl (by decide) rfl ?_
  refine jr_iinc (j := 0) (v := 4) (L' := [(1, .int 4), (0, .ref a)]) dX7_init_104 rfl rfl (Nat.le_of_ble_eq_true rfl) rfl ?_
  refine jr_goto (tgt := 82) dX7_init_107 rfl ?_
  refine jr_iloadn (j := 0) dX7_init_82 rfl ?_
  refine jr_aloadn (j := 1) dX7_init_83 rfl ?_
  refine nr_get (q0 := 0) dX7_init_84 fl7_42 rfl rfl ?_
  refine nr_alen (q0 := 96) (t := 2) (v := 4) dX7_init_87 rfl rfl rfl ?_
  refine jr_ic_ge (tgt := 110) dX7_init_88 rfl (fun _ => ?_) (fun h => absurd (by decide) h)
  refine jr_swap (A := ((a, .inr (7, [.ref (fq1 0), .ref (fq2 0), .ref (fq3 0), .int 0, .ref (fq4 0), .ref (fq5 0), .ref q6, .ref q7])) : Nat × va_E) :: (pm_wF (fq1, V.2) m0_VA 0 s0_VA ++ pm_wF (fq2, V.2) m0_VA 0 s0_VA ++ pm_wF (fq3, V.2) m0_VA 0 s0_VA ++ pm_wF (fq4, V.2) m0_RD 0 s0_RD ++ pm_wF (fq5, V.2) m0_VO 0 s0_VO ++ [((q6, .inl (V.2.1 2, (4, .inr (.inr (.inr (.inr (va_up (va_up (va_up (va_up (fun _ => none) (0 : Int32).toNatClampNeg (some (fq8 0))) (1 : Int32).toNatClampNeg (some (fq9 0))) (2 : Int32).toNatClampNeg (some (fq10 0))) (3 : Int32).toNatClampNeg (some (fq11 0))))))))) : Nat × va_E)])) (B := [((q7, .inl (V.2.1 0, (6, .inl (fun _ => 0)))) : Nat × va_E)]) (C := pm_wF (fq8, V.2) m0_SH 0 s0_SH ++ pm_wF (fq9, V.2) m0_SH 0 s0_SH ++ pm_wF (fq10, V.2) m0_SH 0 s0_SH ++ pm_wF (fq11, V.2) m0_SH 0 s0_SH) (W := (((a, .inr (7, [.ref (fq1 0), .ref (fq2 0), .ref (fq3 0), .int 0, .ref (fq4 0), .ref (fq5 0), .ref q6, .ref q7])) : Nat × va_E) :: (pm_wF (fq1, V.2) m0_VA 0 s0_VA ++ pm_wF (fq2, V.2) m0_VA 0 s0_VA ++ pm_wF (fq3, V.2) m0_VA 0 s0_VA ++ pm_wF (fq4, V.2) m0_RD 0 s0_RD ++ pm_wF (fq5, V.2) m0_VO 0 s0_VO ++ [((q6, .inl (V.2.1 2, (4, .inr (.inr (.inr (.inr (va_up (va_up (va_up (va_up (fun _ => none) (0 : Int32).toNatClampNeg (some (fq8 0))) (1 : Int32).toNatClampNeg (some (fq9 0))) (2 : Int32).toNatClampNeg (some (fq10 0))) (3 : Int32).toNatClampNeg (some (fq11 0))))))))) : Nat × va_E)] ++ [((q7, .inl (V.2.1 0, (6, .inl (fun _ => 0)))) : Nat × va_E)] ++ pm_wF (fq8, V.2) m0_SH 0 s0_SH ++ pm_wF (fq9, V.2) m0_SH 0 s0_SH ++ pm_wF (fq10, V.2) m0_SH 0 s0_SH ++ pm_wF (fq11, V.2) m0_SH 0 s0_SH))) (by simp only [List.cons_append, List.append_assoc]) ?_
  obtain ⟨Q, hQ⟩ : ∃ Q : Nat → Nat, Q = (fun k => if k < 1 then a else if k < 31 then fq1 (k - 1) else if k < 61 then fq2 (k - 31) else if k < 91 then fq3 (k - 61) else if k < 94 then fq4 (k - 91) else if k < 96 then fq5 (k - 94) else if k < 97 then q6 else if k < 99 then fq8 (k - 97) else if k < 101 then fq9 (k - 99) else if k < 103 then fq10 (k - 101) else if k < 105 then fq11 (k - 103) else if k < 106 then q7 else 0) := ⟨_, rfl⟩
  have hW : ((((a, .inr (7, [.ref (fq1 0), .ref (fq2 0), .ref (fq3 0), .int 0, .ref (fq4 0), .ref (fq5 0), .ref q6, .ref q7])) : Nat × va_E) :: (pm_wF (fq1, V.2) m0_VA 0 s0_VA ++ pm_wF (fq2, V.2) m0_VA 0 s0_VA ++ pm_wF (fq3, V.2) m0_VA 0 s0_VA ++ pm_wF (fq4, V.2) m0_RD 0 s0_RD ++ pm_wF (fq5, V.2) m0_VO 0 s0_VO ++ [((q6, .inl (V.2.1 2, (4, .inr (.inr (.inr (.inr (va_up (va_up (va_up (va_up (fun _ => none) (0 : Int32).toNatClampNeg (some (fq8 0))) (1 : Int32).toNatClampNeg (some (fq9 0))) (2 : Int32).toNatClampNeg (some (fq10 0))) (3 : Int32).toNatClampNeg (some (fq11 0))))))))) : Nat × va_E)])) ++ (pm_wF (fq8, V.2) m0_SH 0 s0_SH ++ pm_wF (fq9, V.2) m0_SH 0 s0_SH ++ pm_wF (fq10, V.2) m0_SH 0 s0_SH ++ pm_wF (fq11, V.2) m0_SH 0 s0_SH)) ++ [((q7, .inl (V.2.1 0, (6, .inl (fun _ => 0)))) : Nat × va_E)] = pm_wld (Q, V.2) s0_RS m0_RS := by
    rw [pm_wF_eq]
    rw [pm_chunk (Q := Q) (q := fq1) (w := V.2) (M := m0_RS) (M0 := m0_VA) (o := 1) (sk := s0_VA) (fun i hi => by
      have hi : i < 30 := hi
      rw [hQ]
      show _ = (if 1 + i < 1 then _ else _)
      rw [if_neg (by omega), if_pos (by omega), Nat.add_sub_cancel_left]) (fun i hi => by
      have hi : i < 30 := hi
      funext j
      simp only [m0_RS]; rw [if_neg (by omega), if_pos (by omega), Nat.add_sub_cancel_left]) (by decide +kernel)]
    rw [pm_chunk (Q := Q) (q := fq2) (w := V.2) (M := m0_RS) (M0 := m0_VA) (o := 31) (sk := s0_VA) (fun i hi => by
      have hi : i < 30 := hi
      rw [hQ]
      show _ = (if 31 + i < 1 then _ else _)
      rw [if_neg (by omega), if_neg (by omega), if_pos (by omega), Nat.add_sub_cancel_left]) (fun i hi => by
      have hi : i < 30 := hi
      funext j
      simp only [m0_RS]; rw [if_neg (by omega), if_neg (by omega), if_pos (by omega), Nat.add_sub_cancel_left]) (by decide +kernel)]
    rw [pm_chunk (Q := Q) (q := fq3) (w := V.2) (M := m0_RS) (M0 := m0_VA) (o := 61) (sk := s0_VA) (fun i hi => by
      have hi : i < 30 := hi
      rw [hQ]
      show _ = (if 61 + i < 1 then _ else _)
      rw [if_neg (by omega), if_neg (by omega), if_neg (by omega), if_pos (by omega), Nat.add_sub_cancel_left]) (fun i hi => by
      have hi : i < 30 := hi
      funext j
      simp only [m0_RS]; rw [if_neg (by omega), if_neg (by omega), if_neg (by omega), if_pos (by omega), Nat.add_sub_cancel_left]) (by decide +kernel)]
    rw [pm_chunk (Q := Q) (q := fq4) (w := V.2) (M := m0_RS) (M0 := m0_RD) (o := 91) (sk := s0_RD) (fun i hi => by
      have hi : i < 3 := hi
      rw [hQ]
      show _ = (if 91 + i < 1 then _ else _)
      rw [if_neg (by omega), if_neg (by omega), if_neg (by omega), if_neg (by omega), if_pos (by omega), Nat.add_sub_cancel_left]) (fun i hi => by
      have hi : i < 3 := hi
      funext j
      simp only [m0_RS]; rw [if_neg (by omega), if_neg (by omega), if_neg (by omega), if_neg (by omega)]; rfl) (by decide +kernel)]
    rw [pm_chunk (Q := Q) (q := fq5) (w := V.2) (M := m0_RS) (M0 := m0_VO) (o := 94) (sk := s0_VO) (fun i hi => by
      have hi : i < 2 := hi
      rw [hQ]
      show _ = (if 94 + i < 1 then _ else _)
      rw [if_neg (by omega), if_neg (by omega), if_neg (by omega), if_neg (by omega), if_neg (by omega), if_pos (by omega), Nat.add_sub_cancel_left]) (fun i hi => by
      have hi : i < 2 := hi
      funext j
      simp only [m0_RS]; rw [if_neg (by omega), if_neg (by omega), if_neg (by omega), if_neg (by omega)]; rfl) (by decide +kernel)]
    rw [pm_l4 Q 97 99 101 103 (by rw [hQ]; rfl) (by rw [hQ]; rfl) (by rw [hQ]; rfl) (by rw [hQ]; rfl)]
    rw [pm_chunk (Q := Q) (q := fq8) (w := V.2) (M := m0_RS) (M0 := m0_SH) (o := 97) (sk := s0_SH) (fun i hi => by
      have hi : i < 2 := hi
      rw [hQ]
      show _ = (if 97 + i < 1 then _ else _)
      rw [if_neg (by omega), if_neg (by omega), if_neg (by omega), if_neg (by omega), if_neg (by omega), if_neg (by omega), if_neg (by omega), if_pos (by omega), Nat.add_sub_cancel_left]) (fun i hi => by
      have hi : i < 2 := hi
      funext j
      simp only [m0_RS]; rw [if_neg (by omega), if_neg (by omega), if_neg (by omega), if_neg (by omega)]; rfl) (by decide +kernel)]
    rw [pm_chunk (Q := Q) (q := fq9) (w := V.2) (M := m0_RS) (M0 := m0_SH) (o := 99) (sk := s0_SH) (fun i hi => by
      have hi : i < 2 := hi
      rw [hQ]
      show _ = (if 99 + i < 1 then _ else _)
      rw [if_neg (by omega), if_neg (by omega), if_neg (by omega), if_neg (by omega), if_neg (by omega), if_neg (by omega), if_neg (by omega), if_neg (by omega), if_pos (by omega), Nat.add_sub_cancel_left]) (fun i hi => by
      have hi : i < 2 := hi
      funext j
      simp only [m0_RS]; rw [if_neg (by omega), if_neg (by omega), if_neg (by omega), if_neg (by omega)]; rfl) (by decide +kernel)]
    rw [pm_chunk (Q := Q) (q := fq10) (w := V.2) (M := m0_RS) (M0 := m0_SH) (o := 101) (sk := s0_SH) (fun i hi => by
      have hi : i < 2 := hi
      rw [hQ]
      show _ = (if 101 + i < 1 then _ else _)
      rw [if_neg (by omega), if_neg (by omega), if_neg (by omega), if_neg (by omega), if_neg (by omega), if_neg (by omega), if_neg (by omega), if_neg (by omega), if_neg (by omega), if_pos (by omega), Nat.add_sub_cancel_left]) (fun i hi => by
      have hi : i < 2 := hi
      funext j
      simp only [m0_RS]; rw [if_neg (by omega), if_neg (by omega), if_neg (by omega), if_neg (by omega)]; rfl) (by decide +kernel)]
    rw [pm_chunk (Q := Q) (q := fq11) (w := V.2) (M := m0_RS) (M0 := m0_SH) (o := 103) (sk := s0_SH) (fun i hi => by
      have hi : i < 2 := hi
      rw [hQ]
      show _ = (if 103 + i < 1 then _ else _)
      rw [if_neg (by omega), if_neg (by omega), if_neg (by omega), if_neg (by omega), if_neg (by omega), if_neg (by omega), if_neg (by omega), if_neg (by omega), if_neg (by omega), if_neg (by omega), if_pos (by omega), Nat.add_sub_cancel_left]) (fun i hi => by
      have hi : i < 2 := hi
      funext j
      simp only [m0_RS]; rw [if_neg (by omega), if_neg (by omega), if_neg (by omega), if_neg (by omega)]; rfl) (by decide +kernel)]
    have e0 : a = Q 0 := by rw [hQ]; rfl
    have e1 : fq1 0 = Q 1 := by rw [hQ]; rfl
    have e31 : fq2 0 = Q 31 := by rw [hQ]; rfl
    have e61 : fq3 0 = Q 61 := by rw [hQ]; rfl
    have e91 : fq4 0 = Q 91 := by rw [hQ]; rfl
    have e94 : fq5 0 = Q 94 := by rw [hQ]; rfl
    have e96 : q6 = Q 96 := by rw [hQ]; rfl
    have e97 : fq8 0 = Q 97 := by rw [hQ]; rfl
    have e99 : fq9 0 = Q 99 := by rw [hQ]; rfl
    have e101 : fq10 0 = Q 101 := by rw [hQ]; rfl
    have e103 : fq11 0 = Q 103 := by rw [hQ]; rfl
    have e105 : q7 = Q 105 := by rw [hQ]; rfl
    simp only [e0, e1, e31, e61, e91, e94, e96, e97, e99, e101, e103, e105]
    rfl
  rw [hW]
  exact hend _ _ _ Q (by rw [hQ]; rfl) dX7_init_110
