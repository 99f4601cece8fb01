-- ===== PART A: goes FIRST, ahead of the names: the tables' words, and 'selects' of the private methods out of them =====
/-- a private method of a class that the tables say can be made, by its rows of tables_1 -/
def lw_okq (q : MethodName × Nat) : Prop := (q.1.cls ≠ "java/lang/invoke/MethodHandle" ∧ q.1.cls ≠ "java/lang/invoke/VarHandle") ∧ Cond.instantiable q.1.cls q.2 ∈ tables_1 ∧ Cond.privateMethod q.1 ∈ tables_1 ∧ Cond.instanceMethod q.1 ∈ tables_1
theorem lw_p0 : lw_okq (⟨"RainShares", "error", "(I)I"⟩, 8) := ⟨⟨by decide +kernel, by decide +kernel⟩, List.mem_of_getElem? (i := 14) (by decide +kernel), List.mem_of_getElem? (i := 277) (by decide +kernel), List.mem_of_getElem? (i := 278) (by decide +kernel)⟩
theorem lw_p1 : lw_okq (⟨"RainShares", "replace", "([IIII)I"⟩, 8) := ⟨⟨by decide +kernel, by decide +kernel⟩, List.mem_of_getElem? (i := 14) (by decide +kernel), List.mem_of_getElem? (i := 310) (by decide +kernel), List.mem_of_getElem? (i := 311) (by decide +kernel)⟩
theorem lw_p2 : lw_okq (⟨"RainShares$Reader", "readJoined", "(II)V"⟩, 7) := ⟨⟨by decide +kernel, by decide +kernel⟩, List.mem_of_getElem? (i := 171) (by decide +kernel), List.mem_of_getElem? (i := 431) (by decide +kernel), List.mem_of_getElem? (i := 432) (by decide +kernel)⟩
theorem lw_p3 : lw_okq (⟨"RainShares$Reader", "readSingle", "(I)V"⟩, 7) := ⟨⟨by decide +kernel, by decide +kernel⟩, List.mem_of_getElem? (i := 171) (by decide +kernel), List.mem_of_getElem? (i := 435) (by decide +kernel), List.mem_of_getElem? (i := 436) (by decide +kernel)⟩
theorem lw_p4 : lw_okq (⟨"RainShares$Reader", "next", "()I"⟩, 7) := ⟨⟨by decide +kernel, by decide +kernel⟩, List.mem_of_getElem? (i := 171) (by decide +kernel), List.mem_of_getElem? (i := 439) (by decide +kernel), List.mem_of_getElem? (i := 440) (by decide +kernel)⟩
theorem lw_p5 : lw_okq (⟨"RainShares$Reader", "nameOf", "(I)I"⟩, 7) := ⟨⟨by decide +kernel, by decide +kernel⟩, List.mem_of_getElem? (i := 171) (by decide +kernel), List.mem_of_getElem? (i := 443) (by decide +kernel), List.mem_of_getElem? (i := 444) (by decide +kernel)⟩
theorem lw_p6 : lw_okq (⟨"RainShares$Reader", "readNumber", "()V"⟩, 7) := ⟨⟨by decide +kernel, by decide +kernel⟩, List.mem_of_getElem? (i := 171) (by decide +kernel), List.mem_of_getElem? (i := 452) (by decide +kernel), List.mem_of_getElem? (i := 453) (by decide +kernel)⟩
theorem lw_p7 : lw_okq (⟨"RainShares$Reader", "write", "(I)V"⟩, 7) := ⟨⟨by decide +kernel, by decide +kernel⟩, List.mem_of_getElem? (i := 171) (by decide +kernel), List.mem_of_getElem? (i := 456) (by decide +kernel), List.mem_of_getElem? (i := 457) (by decide +kernel)⟩
theorem lw_p8 : lw_okq (⟨"RainShares$Reader", "readClosing", "()V"⟩, 7) := ⟨⟨by decide +kernel, by decide +kernel⟩, List.mem_of_getElem? (i := 171) (by decide +kernel), List.mem_of_getElem? (i := 460) (by decide +kernel), List.mem_of_getElem? (i := 461) (by decide +kernel)⟩
theorem lw_p9 : lw_okq (⟨"RainShares$Valley", "rain", "()V"⟩, 12) := ⟨⟨by decide +kernel, by decide +kernel⟩, List.mem_of_getElem? (i := 22) (by decide +kernel), List.mem_of_getElem? (i := 495) (by decide +kernel), List.mem_of_getElem? (i := 496) (by decide +kernel)⟩
theorem lw_p10 : lw_okq (⟨"RainShares$Valley", "charge", "()V"⟩, 12) := ⟨⟨by decide +kernel, by decide +kernel⟩, List.mem_of_getElem? (i := 22) (by decide +kernel), List.mem_of_getElem? (i := 501) (by decide +kernel), List.mem_of_getElem? (i := 502) (by decide +kernel)⟩
theorem lw_p11 : lw_okq (⟨"RainShares$Valley", "drift", "()V"⟩, 12) := ⟨⟨by decide +kernel, by decide +kernel⟩, List.mem_of_getElem? (i := 22) (by decide +kernel), List.mem_of_getElem? (i := 505) (by decide +kernel), List.mem_of_getElem? (i := 506) (by decide +kernel)⟩
theorem lw_p12 : lw_okq (⟨"RainShares$Valley", "draw", "()I"⟩, 12) := ⟨⟨by decide +kernel, by decide +kernel⟩, List.mem_of_getElem? (i := 22) (by decide +kernel), List.mem_of_getElem? (i := 519) (by decide +kernel), List.mem_of_getElem? (i := 520) (by decide +kernel)⟩
theorem lw_p13 : lw_okq (⟨"RainShares$Roofs", "clearPair", "(II)I"⟩, 6) := ⟨⟨by decide +kernel, by decide +kernel⟩, List.mem_of_getElem? (i := 28) (by decide +kernel), List.mem_of_getElem? (i := 532) (by decide +kernel), List.mem_of_getElem? (i := 533) (by decide +kernel)⟩
theorem lw_p14 : lw_okq (⟨"RainShares$Roofs", "clearRing", "(III)I"⟩, 6) := ⟨⟨by decide +kernel, by decide +kernel⟩, List.mem_of_getElem? (i := 28) (by decide +kernel), List.mem_of_getElem? (i := 537) (by decide +kernel), List.mem_of_getElem? (i := 538) (by decide +kernel)⟩
theorem lw_p15 : lw_okq (⟨"RainShares$Roofs", "sellsRather", "(II)Z"⟩, 6) := ⟨⟨by decide +kernel, by decide +kernel⟩, List.mem_of_getElem? (i := 28) (by decide +kernel), List.mem_of_getElem? (i := 582) (by decide +kernel), List.mem_of_getElem? (i := 583) (by decide +kernel)⟩
def lw_privs_1 : List (MethodName × Nat) := [(⟨"RainShares", "error", "(I)I"⟩, 8), (⟨"RainShares", "replace", "([IIII)I"⟩, 8), (⟨"RainShares$Reader", "readJoined", "(II)V"⟩, 7), (⟨"RainShares$Reader", "readSingle", "(I)V"⟩, 7), (⟨"RainShares$Reader", "next", "()I"⟩, 7), (⟨"RainShares$Reader", "nameOf", "(I)I"⟩, 7), (⟨"RainShares$Reader", "readNumber", "()V"⟩, 7), (⟨"RainShares$Reader", "write", "(I)V"⟩, 7), (⟨"RainShares$Reader", "readClosing", "()V"⟩, 7), (⟨"RainShares$Valley", "rain", "()V"⟩, 12), (⟨"RainShares$Valley", "charge", "()V"⟩, 12), (⟨"RainShares$Valley", "drift", "()V"⟩, 12), (⟨"RainShares$Valley", "draw", "()I"⟩, 12), (⟨"RainShares$Roofs", "clearPair", "(II)I"⟩, 6), (⟨"RainShares$Roofs", "clearRing", "(III)I"⟩, 6), (⟨"RainShares$Roofs", "sellsRather", "(II)Z"⟩, 6)]
theorem lw_r1 : ∀ q ∈ lw_privs_1, lw_okq q := List.forall_mem_cons.mpr ⟨lw_p0, List.forall_mem_cons.mpr ⟨lw_p1, List.forall_mem_cons.mpr ⟨lw_p2, List.forall_mem_cons.mpr ⟨lw_p3, List.forall_mem_cons.mpr ⟨lw_p4, List.forall_mem_cons.mpr ⟨lw_p5, List.forall_mem_cons.mpr ⟨lw_p6, List.forall_mem_cons.mpr ⟨lw_p7, List.forall_mem_cons.mpr ⟨lw_p8, List.forall_mem_cons.mpr ⟨lw_p9, List.forall_mem_cons.mpr ⟨lw_p10, List.forall_mem_cons.mpr ⟨lw_p11, List.forall_mem_cons.mpr ⟨lw_p12, List.forall_mem_cons.mpr ⟨lw_p13, List.forall_mem_cons.mpr ⟨lw_p14, List.forall_mem_cons.mpr ⟨lw_p15, fun _ h => absurd h List.not_mem_nil⟩⟩⟩⟩⟩⟩⟩⟩⟩⟩⟩⟩⟩⟩⟩⟩
theorem lw_p16 : lw_okq (⟨"RainShares", "arrearsBehind", "(III)I"⟩, 8) := ⟨⟨by decide +kernel, by decide +kernel⟩, List.mem_of_getElem? (i := 14) (by decide +kernel), List.mem_of_getElem? (i := 641) (by decide +kernel), List.mem_of_getElem? (i := 642) (by decide +kernel)⟩
theorem lw_p17 : lw_okq (⟨"RainShares$Voices", "say", "(IIII)I"⟩, 5) := ⟨⟨by decide +kernel, by decide +kernel⟩, List.mem_of_getElem? (i := 201) (by decide +kernel), List.mem_of_getElem? (i := 658) (by decide +kernel), List.mem_of_getElem? (i := 659) (by decide +kernel)⟩
theorem lw_p18 : lw_okq (⟨"RainShares$Voices", "note", "(I)V"⟩, 5) := ⟨⟨by decide +kernel, by decide +kernel⟩, List.mem_of_getElem? (i := 201) (by decide +kernel), List.mem_of_getElem? (i := 665) (by decide +kernel), List.mem_of_getElem? (i := 666) (by decide +kernel)⟩
theorem lw_p19 : lw_okq (⟨"RainShares$Voices", "sayBody", "(IIII)I"⟩, 5) := ⟨⟨by decide +kernel, by decide +kernel⟩, List.mem_of_getElem? (i := 201) (by decide +kernel), List.mem_of_getElem? (i := 669) (by decide +kernel), List.mem_of_getElem? (i := 670) (by decide +kernel)⟩
theorem lw_p20 : lw_okq (⟨"RainSharesModel", "finds", "(I)I"⟩, 20) := ⟨⟨by decide +kernel, by decide +kernel⟩, List.mem_of_getElem? (i := 740) (by decide +kernel), List.mem_of_getElem? (i := 815) (by decide +kernel), List.mem_of_getElem? (i := 816) (by decide +kernel)⟩
theorem lw_p21 : lw_okq (⟨"RainSharesModel", "worked", "(III)I"⟩, 20) := ⟨⟨by decide +kernel, by decide +kernel⟩, List.mem_of_getElem? (i := 740) (by decide +kernel), List.mem_of_getElem? (i := 825) (by decide +kernel), List.mem_of_getElem? (i := 826) (by decide +kernel)⟩
theorem lw_p22 : lw_okq (⟨"RainSharesModel", "either", "()I"⟩, 20) := ⟨⟨by decide +kernel, by decide +kernel⟩, List.mem_of_getElem? (i := 740) (by decide +kernel), List.mem_of_getElem? (i := 829) (by decide +kernel), List.mem_of_getElem? (i := 830) (by decide +kernel)⟩
theorem lw_p23 : lw_okq (⟨"RainSharesModel", "both", "()I"⟩, 20) := ⟨⟨by decide +kernel, by decide +kernel⟩, List.mem_of_getElem? (i := 740) (by decide +kernel), List.mem_of_getElem? (i := 833) (by decide +kernel), List.mem_of_getElem? (i := 834) (by decide +kernel)⟩
theorem lw_p24 : lw_okq (⟨"RainSharesModel", "compared", "()I"⟩, 20) := ⟨⟨by decide +kernel, by decide +kernel⟩, List.mem_of_getElem? (i := 740) (by decide +kernel), List.mem_of_getElem? (i := 837) (by decide +kernel), List.mem_of_getElem? (i := 838) (by decide +kernel)⟩
theorem lw_p25 : lw_okq (⟨"RainSharesModel", "sum", "()I"⟩, 20) := ⟨⟨by decide +kernel, by decide +kernel⟩, List.mem_of_getElem? (i := 740) (by decide +kernel), List.mem_of_getElem? (i := 841) (by decide +kernel), List.mem_of_getElem? (i := 842) (by decide +kernel)⟩
theorem lw_p26 : lw_okq (⟨"RainSharesModel", "product", "()I"⟩, 20) := ⟨⟨by decide +kernel, by decide +kernel⟩, List.mem_of_getElem? (i := 740) (by decide +kernel), List.mem_of_getElem? (i := 845) (by decide +kernel), List.mem_of_getElem? (i := 846) (by decide +kernel)⟩
theorem lw_p27 : lw_okq (⟨"RainSharesModel", "unit", "()I"⟩, 20) := ⟨⟨by decide +kernel, by decide +kernel⟩, List.mem_of_getElem? (i := 740) (by decide +kernel), List.mem_of_getElem? (i := 849) (by decide +kernel), List.mem_of_getElem? (i := 850) (by decide +kernel)⟩
theorem lw_p28 : lw_okq (⟨"RainSharesModel", "here", "()I"⟩, 20) := ⟨⟨by decide +kernel, by decide +kernel⟩, List.mem_of_getElem? (i := 740) (by decide +kernel), List.mem_of_getElem? (i := 853) (by decide +kernel), List.mem_of_getElem? (i := 854) (by decide +kernel)⟩
theorem lw_p29 : lw_okq (⟨"RainSharesModel", "wrong", "()I"⟩, 20) := ⟨⟨by decide +kernel, by decide +kernel⟩, List.mem_of_getElem? (i := 740) (by decide +kernel), List.mem_of_getElem? (i := 857) (by decide +kernel), List.mem_of_getElem? (i := 858) (by decide +kernel)⟩
theorem lw_p30 : lw_okq (⟨"RainSharesModel", "takes", "(I)Z"⟩, 20) := ⟨⟨by decide +kernel, by decide +kernel⟩, List.mem_of_getElem? (i := 740) (by decide +kernel), List.mem_of_getElem? (i := 861) (by decide +kernel), List.mem_of_getElem? (i := 862) (by decide +kernel)⟩
theorem lw_p31 : lw_okq (⟨"RainSharesModel", "nameOf", "(I)I"⟩, 20) := ⟨⟨by decide +kernel, by decide +kernel⟩, List.mem_of_getElem? (i := 740) (by decide +kernel), List.mem_of_getElem? (i := 865) (by decide +kernel), List.mem_of_getElem? (i := 866) (by decide +kernel)⟩
def lw_privs_2 : List (MethodName × Nat) := [(⟨"RainShares", "arrearsBehind", "(III)I"⟩, 8), (⟨"RainShares$Voices", "say", "(IIII)I"⟩, 5), (⟨"RainShares$Voices", "note", "(I)V"⟩, 5), (⟨"RainShares$Voices", "sayBody", "(IIII)I"⟩, 5), (⟨"RainSharesModel", "finds", "(I)I"⟩, 20), (⟨"RainSharesModel", "worked", "(III)I"⟩, 20), (⟨"RainSharesModel", "either", "()I"⟩, 20), (⟨"RainSharesModel", "both", "()I"⟩, 20), (⟨"RainSharesModel", "compared", "()I"⟩, 20), (⟨"RainSharesModel", "sum", "()I"⟩, 20), (⟨"RainSharesModel", "product", "()I"⟩, 20), (⟨"RainSharesModel", "unit", "()I"⟩, 20), (⟨"RainSharesModel", "here", "()I"⟩, 20), (⟨"RainSharesModel", "wrong", "()I"⟩, 20), (⟨"RainSharesModel", "takes", "(I)Z"⟩, 20), (⟨"RainSharesModel", "nameOf", "(I)I"⟩, 20)]
theorem lw_r2 : ∀ q ∈ lw_privs_2, lw_okq q := List.forall_mem_cons.mpr ⟨lw_p16, List.forall_mem_cons.mpr ⟨lw_p17, List.forall_mem_cons.mpr ⟨lw_p18, List.forall_mem_cons.mpr ⟨lw_p19, List.forall_mem_cons.mpr ⟨lw_p20, List.forall_mem_cons.mpr ⟨lw_p21, List.forall_mem_cons.mpr ⟨lw_p22, List.forall_mem_cons.mpr ⟨lw_p23, List.forall_mem_cons.mpr ⟨lw_p24, List.forall_mem_cons.mpr ⟨lw_p25, List.forall_mem_cons.mpr ⟨lw_p26, List.forall_mem_cons.mpr ⟨lw_p27, List.forall_mem_cons.mpr ⟨lw_p28, List.forall_mem_cons.mpr ⟨lw_p29, List.forall_mem_cons.mpr ⟨lw_p30, List.forall_mem_cons.mpr ⟨lw_p31, fun _ h => absurd h List.not_mem_nil⟩⟩⟩⟩⟩⟩⟩⟩⟩⟩⟩⟩⟩⟩⟩⟩
theorem lw_p32 : lw_okq (⟨"RainSharesModel", "textGives", "(IIII)I"⟩, 20) := ⟨⟨by decide +kernel, by decide +kernel⟩, List.mem_of_getElem? (i := 740) (by decide +kernel), List.mem_of_getElem? (i := 875) (by decide +kernel), List.mem_of_getElem? (i := 876) (by decide +kernel)⟩
theorem lw_p33 : lw_okq (⟨"RainSharesModel", "isRoof", "(I)Z"⟩, 20) := ⟨⟨by decide +kernel, by decide +kernel⟩, List.mem_of_getElem? (i := 740) (by decide +kernel), List.mem_of_getElem? (i := 891) (by decide +kernel), List.mem_of_getElem? (i := 892) (by decide +kernel)⟩
theorem lw_p34 : lw_okq (⟨"RainSharesModel", "of", "(II)I"⟩, 20) := ⟨⟨by decide +kernel, by decide +kernel⟩, List.mem_of_getElem? (i := 740) (by decide +kernel), List.mem_of_getElem? (i := 896) (by decide +kernel), List.mem_of_getElem? (i := 897) (by decide +kernel)⟩
theorem lw_p35 : lw_okq (⟨"RainSharesModel", "its", "(II)I"⟩, 20) := ⟨⟨by decide +kernel, by decide +kernel⟩, List.mem_of_getElem? (i := 740) (by decide +kernel), List.mem_of_getElem? (i := 900) (by decide +kernel), List.mem_of_getElem? (i := 901) (by decide +kernel)⟩
theorem lw_p36 : lw_okq (⟨"RainSharesModel", "areTwo", "(II)Z"⟩, 20) := ⟨⟨by decide +kernel, by decide +kernel⟩, List.mem_of_getElem? (i := 740) (by decide +kernel), List.mem_of_getElem? (i := 914) (by decide +kernel), List.mem_of_getElem? (i := 915) (by decide +kernel)⟩
theorem lw_p37 : lw_okq (⟨"RainSharesModel", "isCloud", "(I)Z"⟩, 20) := ⟨⟨by decide +kernel, by decide +kernel⟩, List.mem_of_getElem? (i := 740) (by decide +kernel), List.mem_of_getElem? (i := 940) (by decide +kernel), List.mem_of_getElem? (i := 941) (by decide +kernel)⟩
theorem lw_p38 : lw_okq (⟨"RainSharesModel", "lasts", "(I)I"⟩, 20) := ⟨⟨by decide +kernel, by decide +kernel⟩, List.mem_of_getElem? (i := 740) (by decide +kernel), List.mem_of_getElem? (i := 945) (by decide +kernel), List.mem_of_getElem? (i := 946) (by decide +kernel)⟩
theorem lw_p39 : lw_okq (⟨"RainSharesModel", "isSpent", "(I)Z"⟩, 20) := ⟨⟨by decide +kernel, by decide +kernel⟩, List.mem_of_getElem? (i := 740) (by decide +kernel), List.mem_of_getElem? (i := 949) (by decide +kernel), List.mem_of_getElem? (i := 950) (by decide +kernel)⟩
theorem lw_p40 : lw_okq (⟨"RainSharesModel", "fallsOn", "(II)I"⟩, 20) := ⟨⟨by decide +kernel, by decide +kernel⟩, List.mem_of_getElem? (i := 740) (by decide +kernel), List.mem_of_getElem? (i := 953) (by decide +kernel), List.mem_of_getElem? (i := 954) (by decide +kernel)⟩
theorem lw_p41 : lw_okq (⟨"RainSharesModel", "driftsTo", "(I)I"⟩, 20) := ⟨⟨by decide +kernel, by decide +kernel⟩, List.mem_of_getElem? (i := 740) (by decide +kernel), List.mem_of_getElem? (i := 957) (by decide +kernel), List.mem_of_getElem? (i := 958) (by decide +kernel)⟩
theorem lw_p42 : lw_okq (⟨"RainSharesModel", "daysGo", "(I)V"⟩, 20) := ⟨⟨by decide +kernel, by decide +kernel⟩, List.mem_of_getElem? (i := 740) (by decide +kernel), List.mem_of_getElem? (i := 982) (by decide +kernel), List.mem_of_getElem? (i := 983) (by decide +kernel)⟩
theorem lw_p43 : lw_okq (⟨"RainSharesModel", "dayGoes", "()V"⟩, 20) := ⟨⟨by decide +kernel, by decide +kernel⟩, List.mem_of_getElem? (i := 740) (by decide +kernel), List.mem_of_getElem? (i := 986) (by decide +kernel), List.mem_of_getElem? (i := 987) (by decide +kernel)⟩
theorem lw_p44 : lw_okq (⟨"RainSharesModel", "mostInArrears", "()I"⟩, 20) := ⟨⟨by decide +kernel, by decide +kernel⟩, List.mem_of_getElem? (i := 740) (by decide +kernel), List.mem_of_getElem? (i := 990) (by decide +kernel), List.mem_of_getElem? (i := 991) (by decide +kernel)⟩
theorem lw_p45 : lw_okq (⟨"RainSharesModel", "fallsWhere", "(II)I"⟩, 20) := ⟨⟨by decide +kernel, by decide +kernel⟩, List.mem_of_getElem? (i := 740) (by decide +kernel), List.mem_of_getElem? (i := 994) (by decide +kernel), List.mem_of_getElem? (i := 995) (by decide +kernel)⟩
theorem lw_p46 : lw_okq (⟨"RainSharesModel", "all", "(I)I"⟩, 20) := ⟨⟨by decide +kernel, by decide +kernel⟩, List.mem_of_getElem? (i := 740) (by decide +kernel), List.mem_of_getElem? (i := 999) (by decide +kernel), List.mem_of_getElem? (i := 1000) (by decide +kernel)⟩
theorem lw_p47 : lw_okq (⟨"RainSharesModel", "drawn", "()I"⟩, 20) := ⟨⟨by decide +kernel, by decide +kernel⟩, List.mem_of_getElem? (i := 740) (by decide +kernel), List.mem_of_getElem? (i := 1008) (by decide +kernel), List.mem_of_getElem? (i := 1009) (by decide +kernel)⟩
def lw_privs_3 : List (MethodName × Nat) := [(⟨"RainSharesModel", "textGives", "(IIII)I"⟩, 20), (⟨"RainSharesModel", "isRoof", "(I)Z"⟩, 20), (⟨"RainSharesModel", "of", "(II)I"⟩, 20), (⟨"RainSharesModel", "its", "(II)I"⟩, 20), (⟨"RainSharesModel", "areTwo", "(II)Z"⟩, 20), (⟨"RainSharesModel", "isCloud", "(I)Z"⟩, 20), (⟨"RainSharesModel", "lasts", "(I)I"⟩, 20), (⟨"RainSharesModel", "isSpent", "(I)Z"⟩, 20), (⟨"RainSharesModel", "fallsOn", "(II)I"⟩, 20), (⟨"RainSharesModel", "driftsTo", "(I)I"⟩, 20), (⟨"RainSharesModel", "daysGo", "(I)V"⟩, 20), (⟨"RainSharesModel", "dayGoes", "()V"⟩, 20), (⟨"RainSharesModel", "mostInArrears", "()I"⟩, 20), (⟨"RainSharesModel", "fallsWhere", "(II)I"⟩, 20), (⟨"RainSharesModel", "all", "(I)I"⟩, 20), (⟨"RainSharesModel", "drawn", "()I"⟩, 20)]
theorem lw_r3 : ∀ q ∈ lw_privs_3, lw_okq q := List.forall_mem_cons.mpr ⟨lw_p32, List.forall_mem_cons.mpr ⟨lw_p33, List.forall_mem_cons.mpr ⟨lw_p34, List.forall_mem_cons.mpr ⟨lw_p35, List.forall_mem_cons.mpr ⟨lw_p36, List.forall_mem_cons.mpr ⟨lw_p37, List.forall_mem_cons.mpr ⟨lw_p38, List.forall_mem_cons.mpr ⟨lw_p39, List.forall_mem_cons.mpr ⟨lw_p40, List.forall_mem_cons.mpr ⟨lw_p41, List.forall_mem_cons.mpr ⟨lw_p42, List.forall_mem_cons.mpr ⟨lw_p43, List.forall_mem_cons.mpr ⟨lw_p44, List.forall_mem_cons.mpr ⟨lw_p45, List.forall_mem_cons.mpr ⟨lw_p46, List.forall_mem_cons.mpr ⟨lw_p47, fun _ h => absurd h List.not_mem_nil⟩⟩⟩⟩⟩⟩⟩⟩⟩⟩⟩⟩⟩⟩⟩⟩
theorem lw_p48 : lw_okq (⟨"RainSharesModel", "clearsAll", "()I"⟩, 20) := ⟨⟨by decide +kernel, by decide +kernel⟩, List.mem_of_getElem? (i := 740) (by decide +kernel), List.mem_of_getElem? (i := 1017) (by decide +kernel), List.mem_of_getElem? (i := 1018) (by decide +kernel)⟩
theorem lw_p49 : lw_okq (⟨"RainSharesModel", "lessens", "(III)V"⟩, 20) := ⟨⟨by decide +kernel, by decide +kernel⟩, List.mem_of_getElem? (i := 740) (by decide +kernel), List.mem_of_getElem? (i := 1021) (by decide +kernel), List.mem_of_getElem? (i := 1022) (by decide +kernel)⟩
theorem lw_p50 : lw_okq (⟨"RainSharesModel", "keepAside", "()V"⟩, 20) := ⟨⟨by decide +kernel, by decide +kernel⟩, List.mem_of_getElem? (i := 740) (by decide +kernel), List.mem_of_getElem? (i := 1029) (by decide +kernel), List.mem_of_getElem? (i := 1030) (by decide +kernel)⟩
theorem lw_p51 : lw_okq (⟨"RainSharesModel", "putBack", "()V"⟩, 20) := ⟨⟨by decide +kernel, by decide +kernel⟩, List.mem_of_getElem? (i := 740) (by decide +kernel), List.mem_of_getElem? (i := 1033) (by decide +kernel), List.mem_of_getElem? (i := 1034) (by decide +kernel)⟩
theorem lw_p52 : lw_okq (⟨"RainSharesModel", "fewestLeft", "()I"⟩, 20) := ⟨⟨by decide +kernel, by decide +kernel⟩, List.mem_of_getElem? (i := 740) (by decide +kernel), List.mem_of_getElem? (i := 1058) (by decide +kernel), List.mem_of_getElem? (i := 1059) (by decide +kernel)⟩
theorem lw_p53 : lw_okq (⟨"RainSharesModel", "daysLeft", "(I)I"⟩, 20) := ⟨⟨by decide +kernel, by decide +kernel⟩, List.mem_of_getElem? (i := 740) (by decide +kernel), List.mem_of_getElem? (i := 1062) (by decide +kernel), List.mem_of_getElem? (i := 1063) (by decide +kernel)⟩
theorem lw_p54 : lw_okq (⟨"RainSharesModel", "rainsBy", "(II)I"⟩, 20) := ⟨⟨by decide +kernel, by decide +kernel⟩, List.mem_of_getElem? (i := 740) (by decide +kernel), List.mem_of_getElem? (i := 1090) (by decide +kernel), List.mem_of_getElem? (i := 1091) (by decide +kernel)⟩
theorem lw_p55 : lw_okq (⟨"RainSharesModel", "ran", "(I)V"⟩, 20) := ⟨⟨by decide +kernel, by decide +kernel⟩, List.mem_of_getElem? (i := 740) (by decide +kernel), List.mem_of_getElem? (i := 1094) (by decide +kernel), List.mem_of_getElem? (i := 1095) (by decide +kernel)⟩
theorem lw_p56 : lw_okq (⟨"RainSharesModel", "driftsBy", "(II)I"⟩, 20) := ⟨⟨by decide +kernel, by decide +kernel⟩, List.mem_of_getElem? (i := 740) (by decide +kernel), List.mem_of_getElem? (i := 1098) (by decide +kernel), List.mem_of_getElem? (i := 1099) (by decide +kernel)⟩
theorem lw_p57 : lw_okq (⟨"RainSharesModel", "wearsBy", "(II)I"⟩, 20) := ⟨⟨by decide +kernel, by decide +kernel⟩, List.mem_of_getElem? (i := 740) (by decide +kernel), List.mem_of_getElem? (i := 1102) (by decide +kernel), List.mem_of_getElem? (i := 1103) (by decide +kernel)⟩
theorem lw_p58 : lw_okq (⟨"RainSharesModel", "tellsBy", "(II)I"⟩, 20) := ⟨⟨by decide +kernel, by decide +kernel⟩, List.mem_of_getElem? (i := 740) (by decide +kernel), List.mem_of_getElem? (i := 1106) (by decide +kernel), List.mem_of_getElem? (i := 1107) (by decide +kernel)⟩
def lw_privs_4 : List (MethodName × Nat) := [(⟨"RainSharesModel", "clearsAll", "()I"⟩, 20), (⟨"RainSharesModel", "lessens", "(III)V"⟩, 20), (⟨"RainSharesModel", "keepAside", "()V"⟩, 20), (⟨"RainSharesModel", "putBack", "()V"⟩, 20), (⟨"RainSharesModel", "fewestLeft", "()I"⟩, 20), (⟨"RainSharesModel", "daysLeft", "(I)I"⟩, 20), (⟨"RainSharesModel", "rainsBy", "(II)I"⟩, 20), (⟨"RainSharesModel", "ran", "(I)V"⟩, 20), (⟨"RainSharesModel", "driftsBy", "(II)I"⟩, 20), (⟨"RainSharesModel", "wearsBy", "(II)I"⟩, 20), (⟨"RainSharesModel", "tellsBy", "(II)I"⟩, 20)]
theorem lw_r4 : ∀ q ∈ lw_privs_4, lw_okq q := List.forall_mem_cons.mpr ⟨lw_p48, List.forall_mem_cons.mpr ⟨lw_p49, List.forall_mem_cons.mpr ⟨lw_p50, List.forall_mem_cons.mpr ⟨lw_p51, List.forall_mem_cons.mpr ⟨lw_p52, List.forall_mem_cons.mpr ⟨lw_p53, List.forall_mem_cons.mpr ⟨lw_p54, List.forall_mem_cons.mpr ⟨lw_p55, List.forall_mem_cons.mpr ⟨lw_p56, List.forall_mem_cons.mpr ⟨lw_p57, List.forall_mem_cons.mpr ⟨lw_p58, fun _ h => absurd h List.not_mem_nil⟩⟩⟩⟩⟩⟩⟩⟩⟩⟩⟩
def lw_privs : List (MethodName × Nat) := lw_privs_1 ++ (lw_privs_2 ++ (lw_privs_3 ++ (lw_privs_4)))
def lw_tbl : List Cond := k2_sels lw_privs ++ tables_1
theorem lw_privs_ok : ∀ q ∈ lw_privs, lw_okq q := by
  show ∀ q ∈ lw_privs_1 ++ (lw_privs_2 ++ (lw_privs_3 ++ (lw_privs_4))), lw_okq q
  exact List.forall_mem_append.mpr ⟨lw_r1, List.forall_mem_append.mpr ⟨lw_r2, List.forall_mem_append.mpr ⟨lw_r3, lw_r4⟩⟩⟩
/-! ===== BEGIN words of one list among another's, by their places ===== -/
theorem goodIn_r {big : List Cond} (ws : List Cond) (ps : List Nat) (hp : ws = ps.filterMap (fun i => big[i]?)) (h : ws.all goodWord = true) : GoodIn big ws := by
  intro w hw
  have h1 := List.all_eq_true.mp h w hw
  rw [hp] at hw
  obtain ⟨i, -, hi⟩ := List.mem_filterMap.mp hw
  have hm : w ∈ big := by first | exact List.mem_of_getElem? hi | exact List.getElem?_mem hi
  exact ⟨hm, good_of_word h1⟩
theorem goodIn_app {big a b : List Cond} (ha : GoodIn big a) (hb : GoodIn big b) : GoodIn big (a ++ b) := fun w h => (List.mem_append.mp h).elim (ha w) (hb w)
theorem goodIn_ca {big a b : List Cond} {c : Cond} (ha : GoodIn big (c :: a)) (hb : GoodIn big b) : GoodIn big (c :: (a ++ b)) := fun w h => (List.mem_cons.mp h).elim (fun e => ha w (List.mem_cons.mpr (Or.inl e))) (fun h => (List.mem_append.mp h).elim (fun h => ha w (List.mem_cons.mpr (Or.inr h))) (hb w))
theorem goodIn_sub {big ws : List Cond} (hm : ∀ w ∈ ws, w ∈ big) (h : ws.all goodWord = true) : GoodIn big ws := fun w hw => ⟨hm w hw, good_of_word (List.all_eq_true.mp h w hw)⟩
/-! ===== END ===== -/

/-! ===== BEGIN new T[n][m]: the outer array a place, the inner ones among the pooled ===== -/
/-- f, but v at every address of l -/
def vr_up {α : Type} (f : Nat → α) (l : List Nat) (v : α) : Nat → α := fun a => if a ∈ l then v else f a
theorem vr_up_in {α : Type} {f : Nat → α} {l : List Nat} {v : α} {a : Nat} (h : a ∈ l) : vr_up f l v a = v := if_pos h
theorem vr_up_ne {α : Type} {f : Nat → α} {l : List Nat} {v : α} {a : Nat} (h : a ∉ l) : vr_up f l v a = f a := if_neg h
theorem vr_rows {L l : List Nat} {f : Nat → va_E} {e : va_E} (h : ∀ a, a ∈ l → a ∉ L) : va_pl L f ++ l.map (fun a => (a, e)) = va_pl (L ++ l) (vr_up f l e) := by
  unfold va_pl
  rw [List.map_append]
  congr 1
  · apply List.map_congr_left
    intro a ha
    rw [vr_up_ne (fun q => h a q ha)]
  · apply List.map_congr_left
    intro a ha
    rw [vr_up_in ha]
theorem vr_lay {X rows : va_W} {x : Nat × va_E} {pl : va_W} {D : va_G} {cl : List vw_C} {H : Heap} (hP : va_P D cl (((X ++ pl) ++ [x]) ++ rows) H) : va_P D cl ((X ++ [x]) ++ (pl ++ rows)) H := by
  rw [List.append_assoc (X ++ pl)] at hP
  have h := va_P.swap hP
  rw [← List.append_assoc X] at h
  have h2 := va_P.swap h
  rw [List.append_assoc (X ++ [x])] at h2
  exact h2
theorem vr_layD {X rows : va_W} {x : Nat × va_E} {pl : va_W} {A : Nat → Prop} (hD : va_D A (((X ++ pl) ++ [x]) ++ rows)) : va_D A ((X ++ [x]) ++ (pl ++ rows)) := by
  rw [List.append_assoc (X ++ pl)] at hD
  have h := va_D.swap hD
  rw [← List.append_assoc X] at h
  have h2 := va_D.swap h
  rw [List.append_assoc (X ++ [x])] at h2
  exact h2
theorem vr_outer (c : ClassId) (N h0 : Nat) : ∀ i : Nat, Jvm.Free.Multi.outerC c N h0 i = arrV c N (fun j => va_rf (if j < i then some (h0 + 1 + j) else none))
  | 0 => by
    show ({ cls := c, slots := Array.replicate N .null, vm := .none } : Cell) = _
    rw [arrV_new]
    refine congrArg (arrV c N) (funext fun j => ?_)
    simp [va_rf]
  | i + 1 => by
    show (Jvm.Free.Multi.outerC c N h0 i).setSlot i (.ref (h0 + 1 + i)) = _
    rw [vr_outer c N h0 i, arrV_store]
    refine congrArg (arrV c N) (funext fun j => ?_)
    by_cases e : j = i
    · subst e
      simp [updV, va_rf]
    · by_cases h : j < i
      · simp [updV, e, h, Nat.lt_succ_of_lt h]
      · simp [updV, e, h, show ¬ j < i + 1 by omega]
def va_AOA (ty : FieldType) (U : State) : Prop := (Cond.arrayOver (.array ty)).before #[] U = true
theorem va_AOA.use {ty : FieldType} {A : Array Value} {U : State} (h : va_AOA ty U) : (Cond.arrayOver (.array ty)).before A U = true := h
theorem va_AOA.of {ty : FieldType} {A : Array Value} {U : State} (h : (Cond.arrayOver (.array ty)).before A U = true) : va_AOA ty U := h
section VGM
variable {p : Program} {l : Launch} {e : Env} {R : Room} {s : State} {m : MethodId} {args : Array Value} {below : List Frame} {meth : Method} {c : Code} {H : Heap} {locs : List Loc} {cells slots : Nat} {Q : State → Prop}
variable {cc : ByteArray} {pc : Nat} {ls : Array Slot} {rest : List Value} {D : va_G} {cl : List vw_C} {A : Nat → Prop} {a : Nat} {tys : List (ClassId × FieldType)} {ws : va_W} {H0 : Heap}
theorem va_mna {X : va_W} {L : List Nat} {f : Nat → va_E} {cc : ByteArray} (hexec : p.tables.exec = Jvm.exec) (hb : c.code = cc) {own : String} {index : Nat} {ty : FieldType} {cy : ClassId} (hown : s.vm.findClass own = some m.cls) (hclink : (Cond.classLink own index ("[" ++ (FieldType.array ty).toString)).before args s = true) (hover : va_AOA ty s) (harr : (Cond.arrayClass ty).before args s = true) (hcy : s.vm.findClass (FieldType.array ty).toString = some cy)
    (hK : va_K D cl tys s) (hP : va_P D cl (X ++ va_pl L f) H) (hD : va_D A (X ++ va_pl L f)) (hS : va_S A H0 H locs) (hA : ∀ q, H0.size ≤ q → A q) {n k : Int32} {N' K' : Nat} {z : vp_A} (hn : ¬ n < 0) (hk : ¬ k < 0) (hN : n.toNatClampNeg = N') (hM : k.toNatClampNeg = K')
    (hb1 : N' * 4 ≤ 536870912) (hb2 : K' * componentBytes ty ≤ 536870912) (hb3 : K' ≤ 536870912) (hdf : fits ty (defaultValue ty) = true) (hdd : (defaultValue ty).isDefault = true) (hcells : cells + (1 + N') ≤ R.cells) (hslots : slots + (N' + N' * K') ≤ R.slots) (hz : ∀ c : ClassId, Jvm.Free.Multi.innerC c K' (defaultValue ty) = vp_cell c z) (hdg : decode cc pc = .ok (.multianewarray index 2, 4))
    (kk : ∀ (q : Nat) (r : Nat → Nat) (cA : ClassId) (H1 : Heap), (∀ i j : Nat, i < N' → j < N' → r i = r j → i = j) → (∀ i : Nat, i < N' → r i ∉ L) → va_K D cl (tys ++ [(cA, .array ty)]) s →
      va_P D cl ((X ++ [(q, .inl (cA, N', .inr (.inr (.inr (.inr (fun i => if i < N' then some (r i) else none))))))]) ++ va_pl (L ++ (List.range N').map r) (vr_up f ((List.range N').map r) (.inl (cy, z)))) H1 → va_D A ((X ++ [(q, .inl (cA, N', .inr (.inr (.inr (.inr (fun i => if i < N' then some (r i) else none))))))]) ++ va_pl (L ++ (List.range N').map r) (vr_up f ((List.range N').map r) (.inl (cy, z)))) → va_S A H0 H1 locs →
      W p l e R s m args below meth c H1 locs (cells + 1 + N') (slots + N' + N' * K') Q (F0 m (pc + 4) ls (.ref q :: rest))) : W p l e R s m args below meth c H locs cells slots Q (F0 m pc ls (.int k :: .int n :: rest)) := by
  subst hN
  subst hM
  intro T hT Xs
  obtain ⟨vm₁, cA, comp, -, fA, fC, hO, -, X', step⟩ := Xs.multianewarray2F hexec hown hclink (va_AOA.use hover) harr (g := F0 m pc ls (.int k :: .int n :: rest)) rfl (by rw [hb]; exact hdg) rfl hn hk hb1 hb2 hb3 hdf hdd hcells hslots
  have ec : some cy = some comp := hcy.symm.trans fC
  cases ec
  generalize hF : Jvm.Free.Multi.fill (T.setVm vm₁) cA cy n.toNatClampNeg k.toNatClampNeg (defaultValue ty) n.toNatClampNeg = F at X' step
  have hTh : (T.setVm vm₁).heap = H := hT
  obtain ⟨f1, f2, -, -⟩ := Jvm.Free.Multi.fill_facts (T.setVm vm₁) cA cy n.toNatClampNeg k.toNatClampNeg (defaultValue ty) n.toNatClampNeg
  rw [hF, hTh] at f1 f2
  have hold : ∀ x : Nat, x < H.size → F.heap[x]? = H[x]? := fun x hx => by
    have := Jvm.Free.Multi.fill_old (T.setVm vm₁) cA cy n.toNatClampNeg k.toNatClampNeg (defaultValue ty) (a := x) (by rw [hTh]; exact hx) n.toNatClampNeg
    rw [hF, hTh] at this
    exact this
  have hrow : ∀ j : Nat, j < n.toNatClampNeg → F.heap[H.size + 1 + j]? = some (vp_cell cy z) := fun j hj => by
    have := Jvm.Free.Multi.fill_inner (T.setVm vm₁) cA cy n.toNatClampNeg k.toNatClampNeg (defaultValue ty) n.toNatClampNeg j hj
    rw [hF, hTh, hz] at this
    exact this
  have hout : Jvm.Free.Multi.outerC cA n.toNatClampNeg H.size n.toNatClampNeg = vp_cell cA (n.toNatClampNeg, .inr (.inr (.inr (.inr (fun i => if i < n.toNatClampNeg then some (H.size + 1 + i) else none))))) := by
    rw [vp_cell_q]
    exact vr_outer cA n.toNatClampNeg H.size n.toNatClampNeg
  rw [hout] at f2
  have hlt : ∀ a, a ∈ L → a < H.size := fun a ha => by
    obtain ⟨k9, hk9⟩ := va_pl_get (X := X) (f := f) ha
    exact (hP k9 _ hk9).lt
  have hnl : ∀ i : Nat, i < n.toNatClampNeg → H.size + 1 + i ∉ L := fun i _ h => by
    have := hlt _ h
    omega
  have hnm : ∀ a, a ∈ (List.range n.toNatClampNeg).map (fun i => H.size + 1 + i) → a ∉ L := fun a ha h => by
    obtain ⟨i, -, rfl⟩ := List.mem_map.mp ha
    have := hlt _ h
    omega
  have hP0 : va_P D cl (X ++ va_pl L f) F.heap := hP.kept (fun k9 x hx => hold x.1 ((hP k9 x hx).lt))
  have hP1 : va_P D cl ((X ++ va_pl L f) ++ [(H.size, .inl (cA, n.toNatClampNeg, .inr (.inr (.inr (.inr (fun i => if i < n.toNatClampNeg then some (H.size + 1 + i) else none))))))]) F.heap := hP0.app (fun k9 x hx => by
    have h0 : k9 < 1 := (List.getElem?_eq_some_iff.mp hx).1
    rw [show k9 = 0 by omega] at hx
    cases hx
    exact f2)
  have hP2 : va_P D cl (((X ++ va_pl L f) ++ [(H.size, .inl (cA, n.toNatClampNeg, .inr (.inr (.inr (.inr (fun i => if i < n.toNatClampNeg then some (H.size + 1 + i) else none))))))]) ++ ((List.range n.toNatClampNeg).map (fun i => H.size + 1 + i)).map (fun a => (a, .inl (cy, z)))) F.heap := hP1.app (fun k9 x hx => by
    obtain ⟨a, ha, rfl⟩ := List.mem_map.mp (List.mem_of_getElem? hx)
    obtain ⟨i, hi, rfl⟩ := List.mem_map.mp ha
    exact hrow i (List.mem_range.mp hi))
  have hD2 : va_D A (((X ++ va_pl L f) ++ [(H.size, .inl (cA, n.toNatClampNeg, .inr (.inr (.inr (.inr (fun i => if i < n.toNatClampNeg then some (H.size + 1 + i) else none))))))]) ++ ((List.range n.toNatClampNeg).map (fun i => H.size + 1 + i)).map (fun a => (a, .inl (cy, z)))) := by
    have hD1 := hD.push (e := .inl (cA, n.toNatClampNeg, .inr (.inr (.inr (.inr (fun i => if i < n.toNatClampNeg then some (H.size + 1 + i) else none)))))) hP rfl (hA _ hS.1)
    generalize hW1 : (X ++ va_pl L f) ++ [(H.size, .inl (cA, n.toNatClampNeg, .inr (.inr (.inr (.inr (fun i => if i < n.toNatClampNeg then some (H.size + 1 + i) else none))))))] = W1 at hD1 hP1 ⊢
    have hle : ∀ (k9 : Nat) (x : Nat × va_E), W1[k9]? = some x → x.1 ≤ H.size := fun k9 x hx => by
      rw [← hW1] at hx
      by_cases hl : k9 < (X ++ va_pl L f).length
      · rw [List.getElem?_append_left hl] at hx
        exact Nat.le_of_lt ((hP k9 x hx).lt)
      · rw [List.getElem?_append_right (by omega)] at hx
        have h0 : k9 - (X ++ va_pl L f).length < 1 := (List.getElem?_eq_some_iff.mp hx).1
        rw [show k9 - (X ++ va_pl L f).length = 0 by omega] at hx
        cases hx
        exact Nat.le_refl _
    have hr : ∀ (k9 : Nat) (x : Nat × va_E), (((List.range n.toNatClampNeg).map (fun i => H.size + 1 + i)).map (fun a => ((a, .inl (cy, z)) : Nat × va_E)))[k9]? = some x → x.1 = H.size + 1 + k9 := fun k9 x hx => by
      rw [List.getElem?_map, List.getElem?_map] at hx
      by_cases h9 : k9 < n.toNatClampNeg
      · rw [List.getElem?_range h9] at hx
        cases hx
        rfl
      · have hn0 : (List.range n.toNatClampNeg)[k9]? = none := List.getElem?_eq_none (by rw [List.length_range]; omega)
        rw [hn0] at hx
        cases hx
    refine ⟨fun i j x y hi hj hxy => ?_, fun k9 x hx => ?_⟩
    · by_cases h1 : i < W1.length <;> by_cases h2 : j < W1.length
      · rw [List.getElem?_append_left h1] at hi
        rw [List.getElem?_append_left h2] at hj
        exact hD1.1 i j x y hi hj hxy
      · rw [List.getElem?_append_left h1] at hi
        rw [List.getElem?_append_right (by omega)] at hj
        have := hle _ _ hi
        have := hr _ _ hj
        omega
      · rw [List.getElem?_append_right (by omega)] at hi
        rw [List.getElem?_append_left h2] at hj
        have := hle _ _ hj
        have := hr _ _ hi
        omega
      · rw [List.getElem?_append_right (by omega)] at hi hj
        have := hr _ _ hi
        have := hr _ _ hj
        omega
    · by_cases h1 : k9 < W1.length
      · rw [List.getElem?_append_left h1] at hx
        exact hD1.2 k9 x hx
      · rw [List.getElem?_append_right (by omega)] at hx
        have := hr _ _ hx
        exact hA _ (by have := hS.1; omega)
  have hAr : ArrOfT s cA (.array ty) := fun N9 z9 => by
    obtain ⟨-, k9, hk9, cm9, hkk9⟩ := (hO 0 0 0).1
    exact ⟨(fun q hq => by cases hq), k9, hk9, cm9, hkk9⟩
  have hK2 : va_K D cl (tys ++ [(cA, .array ty)]) s := ⟨hK.1, fun k9 x hx => by
    by_cases hl : k9 < tys.length
    · rw [List.getElem?_append_left hl] at hx
      exact hK.2 k9 x hx
    · rw [List.getElem?_append_right (by omega)] at hx
      have h0 : k9 - tys.length < 1 := (List.getElem?_eq_some_iff.mp hx).1
      rw [show k9 - tys.length = 0 by omega] at hx
      cases hx
      exact ⟨hAr, fA⟩⟩
  obtain ⟨t, a1, b1⟩ := kk H.size (fun i => H.size + 1 + i) cA F.heap (fun i j _ _ h => by have h9 : H.size + 1 + i = H.size + 1 + j := h; omega) hnl hK2 (by rw [← vr_rows hnm]; exact vr_lay hP2) (by rw [← vr_rows hnm]; exact vr_layD hD2) ⟨by rw [f1]; have := hS.1; omega, fun x h1 h2 => (hold x (Nat.lt_of_lt_of_le h1 hS.1)).trans (hS.2.1 x h1 h2), hS.2.2⟩ F rfl X'
  refine ⟨t, step t ?_, b1⟩
  have e : T.heap.size = H.size := by rw [hT]
  rw [e]
  exact a1
end VGM
/-! ===== END ===== -/

def RX0 : String := "RainShares$Clouds"
def TX0 : u_T := fun k => match k with
  | 0 => ("RainShares$Clouds", "many", "I", false)
  | 1 => ("RainShares$Clouds", "kind", "[I", true)
  | 2 => ("RainShares$Clouds", "m", "[I", true)
  | 3 => ("RainShares$Clouds", "over", "[I", true)
  | _ => ("RainShares$Clouds", "wear", "[I", true)
def tyX0 : Nat → FieldType := fun k => match k with
  | 0 => .int
  | 1 => .array .int
  | 2 => .array .int
  | 3 => .array .int
  | _ => .array .int
abbrev wsX00 : List Cond := u_ws RX0 TX0 5
theorem nmX0 : ∀ a, a < 5 → ∀ b, b < 5 → a ≠ b → (TX0 a).2.1 ≠ (TX0 b).2.1 := by decide +kernel
theorem tyX0_ok : ∀ k, k < 5 → parseFieldDescriptor (TX0 k).2.2.1 = some (tyX0 k) := by decide +kernel
abbrev cX0_init : ByteArray := prog_2_method_1_code
def yX0_init : MethodName := ⟨RX0, "<init>", "()V"⟩
abbrev cX0_copyFrom : ByteArray := prog_2_method_2_code
def yX0_copyFrom : MethodName := ⟨RX0, "copyFrom", "(LRainShares$Clouds;)V"⟩
abbrev cX0_add : ByteArray := prog_2_method_3_code
def yX0_add : MethodName := ⟨RX0, "add", "(II)I"⟩
abbrev cX0_setKind : ByteArray := prog_2_method_4_code
def yX0_setKind : MethodName := ⟨RX0, "setKind", "(II)V"⟩
abbrev cX0_has : ByteArray := prog_2_method_5_code
def yX0_has : MethodName := ⟨RX0, "has", "(I)Z"⟩
abbrev cX0_isOf : ByteArray := prog_2_method_6_code
def yX0_isOf : MethodName := ⟨RX0, "isOf", "(II)Z"⟩
abbrev cX0_lasting : ByteArray := prog_2_method_7_code
def yX0_lasting : MethodName := ⟨RX0, "lasting", "(I)I"⟩
abbrev cX0_isSpent : ByteArray := prog_2_method_8_code
def yX0_isSpent : MethodName := ⟨RX0, "isSpent", "(I)Z"⟩
abbrev cX0_spentMany : ByteArray := prog_2_method_9_code
def yX0_spentMany : MethodName := ⟨RX0, "spentMany", "()I"⟩
abbrev cX0_setOver : ByteArray := prog_2_method_10_code
def yX0_setOver : MethodName := ⟨RX0, "setOver", "(I)I"⟩
abbrev cX0_daysLeft : ByteArray := prog_2_method_11_code
def yX0_daysLeft : MethodName := ⟨RX0, "daysLeft", "(I)I"⟩
abbrev cX0_weakest : ByteArray := prog_2_method_12_code
def yX0_weakest : MethodName := ⟨RX0, "weakest", "()I"⟩
def RX1 : String := "RainShares$Law"
def TX1 : u_T := fun k => match k with
  | 0 => ("RainShares$Law", "without", "I", true)
  | 1 => ("RainShares$Law", "most", "I", true)
  | 2 => ("RainShares$Law", "code", "[I", true)
  | 3 => ("RainShares$Law", "size", "I", false)
  | _ => ("RainShares$Law", "stack", "[I", true)
def tyX1 : Nat → FieldType := fun k => match k with
  | 0 => .int
  | 1 => .int
  | 2 => .array .int
  | 3 => .int
  | _ => .array .int
abbrev wsX10 : List Cond := u_ws RX1 TX1 5
theorem nmX1 : ∀ a, a < 5 → ∀ b, b < 5 → a ≠ b → (TX1 a).2.1 ≠ (TX1 b).2.1 := by decide +kernel
theorem tyX1_ok : ∀ k, k < 5 → parseFieldDescriptor (TX1 k).2.2.1 = some (tyX1 k) := by decide +kernel
abbrev cX1_init : ByteArray := prog_3_method_1_code
def yX1_init : MethodName := ⟨RX1, "<init>", "(II)V"⟩
abbrev cX1_take : ByteArray := prog_3_method_2_code
def yX1_take : MethodName := ⟨RX1, "take", "([II)V"⟩
abbrev cX1_given : ByteArray := prog_3_method_3_code
def yX1_given : MethodName := ⟨RX1, "given", "(III)I"⟩
abbrev cX1_join : ByteArray := prog_3_method_4_code
def yX1_join : MethodName := ⟨RX1, "join", "(III)I"⟩
def RX2 : String := "RainShares$Reader"
def TX2 : u_T := fun k => match k with
  | 0 => ("RainShares$Reader", "code", "[I", true)
  | 1 => ("RainShares$Reader", "size", "I", false)
  | 2 => ("RainShares$Reader", "tape", "[I", true)
  | 3 => ("RainShares$Reader", "end", "I", false)
  | 4 => ("RainShares$Reader", "at", "I", false)
  | 5 => ("RainShares$Reader", "use", "I", false)
  | _ => ("RainShares$Reader", "stuck", "Z", false)
def tyX2 : Nat → FieldType := fun k => match k with
  | 0 => .array .int
  | 1 => .int
  | 2 => .array .int
  | 3 => .int
  | 4 => .int
  | 5 => .int
  | _ => .boolean
abbrev wsX20 : List Cond := u_ws RX2 TX2 7
theorem nmX2 : ∀ a, a < 7 → ∀ b, b < 7 → a ≠ b → (TX2 a).2.1 ≠ (TX2 b).2.1 := by decide +kernel
theorem tyX2_ok : ∀ k, k < 7 → parseFieldDescriptor (TX2 k).2.2.1 = some (tyX2 k) := by decide +kernel
abbrev cX2_init : ByteArray := prog_4_method_1_code
def yX2_init : MethodName := ⟨RX2, "<init>", "()V"⟩
abbrev cX2_read : ByteArray := prog_4_method_2_code
def yX2_read : MethodName := ⟨RX2, "read", "([III)I"⟩
abbrev cX2_readJoined : ByteArray := prog_4_method_3_code
def yX2_readJoined : MethodName := ⟨RX2, "readJoined", "(II)V"⟩
abbrev cX2_readSingle : ByteArray := prog_4_method_4_code
def yX2_readSingle : MethodName := ⟨RX2, "readSingle", "(I)V"⟩
abbrev cX2_readClosing : ByteArray := prog_4_method_5_code
def yX2_readClosing : MethodName := ⟨RX2, "readClosing", "()V"⟩
abbrev cX2_readNumber : ByteArray := prog_4_method_6_code
def yX2_readNumber : MethodName := ⟨RX2, "readNumber", "()V"⟩
abbrev cX2_next : ByteArray := prog_4_method_7_code
def yX2_next : MethodName := ⟨RX2, "next", "()I"⟩
abbrev cX2_write : ByteArray := prog_4_method_8_code
def yX2_write : MethodName := ⟨RX2, "write", "(I)V"⟩
abbrev cX2_isDigit : ByteArray := prog_4_method_9_code
def yX2_isDigit : MethodName := ⟨RX2, "isDigit", "(I)Z"⟩
abbrev cX2_nameOf : ByteArray := prog_4_method_10_code
def yX2_nameOf : MethodName := ⟨RX2, "nameOf", "(I)I"⟩
abbrev cX2_joins : ByteArray := prog_4_method_11_code
def yX2_joins : MethodName := ⟨RX2, "joins", "(II)Z"⟩
def RX3 : String := "RainShares$Roofs"
def TX3 : u_T := fun k => match k with
  | 0 => ("RainShares$Roofs", "many", "I", false)
  | 1 => ("RainShares$Roofs", "shares", "[I", true)
  | 2 => ("RainShares$Roofs", "arrears", "[I", true)
  | 3 => ("RainShares$Roofs", "got", "[I", true)
  | 4 => ("RainShares$Roofs", "rank", "[I", true)
  | _ => ("RainShares$Roofs", "owed", "[[I", true)
def tyX3 : Nat → FieldType := fun k => match k with
  | 0 => .int
  | 1 => .array .int
  | 2 => .array .int
  | 3 => .array .int
  | 4 => .array .int
  | _ => .array (.array .int)
abbrev wsX30 : List Cond := u_ws RX3 TX3 6
theorem nmX3 : ∀ a, a < 6 → ∀ b, b < 6 → a ≠ b → (TX3 a).2.1 ≠ (TX3 b).2.1 := by decide +kernel
theorem tyX3_ok : ∀ k, k < 6 → parseFieldDescriptor (TX3 k).2.2.1 = some (tyX3 k) := by decide +kernel
abbrev cX3_init : ByteArray := prog_5_method_1_code
def yX3_init : MethodName := ⟨RX3, "<init>", "()V"⟩
abbrev cX3_copyFrom : ByteArray := prog_5_method_2_code
def yX3_copyFrom : MethodName := ⟨RX3, "copyFrom", "(LRainShares$Roofs;)V"⟩
abbrev cX3_add : ByteArray := prog_5_method_3_code
def yX3_add : MethodName := ⟨RX3, "add", "(I)I"⟩
abbrev cX3_has : ByteArray := prog_5_method_4_code
def yX3_has : MethodName := ⟨RX3, "has", "(I)Z"⟩
abbrev cX3_sharesOf : ByteArray := prog_5_method_5_code
def yX3_sharesOf : MethodName := ⟨RX3, "sharesOf", "(I)I"⟩
abbrev cX3_areTwo : ByteArray := prog_5_method_6_code
def yX3_areTwo : MethodName := ⟨RX3, "areTwo", "(II)Z"⟩
abbrev cX3_sum : ByteArray := prog_5_method_7_code
def yX3_sum : MethodName := ⟨RX3, "sum", "([I)I"⟩
abbrev cX3_sumOver : ByteArray := prog_5_method_8_code
def yX3_sumOver : MethodName := ⟨RX3, "sumOver", "(I[I)I"⟩
abbrev cX3_owedToAll : ByteArray := prog_5_method_9_code
def yX3_owedToAll : MethodName := ⟨RX3, "owedToAll", "(I)I"⟩
abbrev cX3_mostInArrears : ByteArray := prog_5_method_10_code
def yX3_mostInArrears : MethodName := ⟨RX3, "mostInArrears", "()I"⟩
abbrev cX3_bestSellers : ByteArray := prog_5_method_11_code
def yX3_bestSellers : MethodName := ⟨RX3, "bestSellers", "(I)I"⟩
abbrev cX3_sellsRather : ByteArray := prog_5_method_12_code
def yX3_sellsRather : MethodName := ⟨RX3, "sellsRather", "(II)Z"⟩
abbrev cX3_tradingPairs : ByteArray := prog_5_method_13_code
def yX3_tradingPairs : MethodName := ⟨RX3, "tradingPairs", "()I"⟩
abbrev cX3_clearDebts : ByteArray := prog_5_method_14_code
def yX3_clearDebts : MethodName := ⟨RX3, "clearDebts", "()I"⟩
abbrev cX3_clearPair : ByteArray := prog_5_method_15_code
def yX3_clearPair : MethodName := ⟨RX3, "clearPair", "(II)I"⟩
abbrev cX3_clearRing : ByteArray := prog_5_method_16_code
def yX3_clearRing : MethodName := ⟨RX3, "clearRing", "(III)I"⟩
def RX4 : String := "RainShares$Sheet"
def TX4 : u_T := fun k => match k with
  | 0 => ("RainShares$Sheet", "bits", "I", false)
  | 1 => ("RainShares$Sheet", "size", "I", false)
  | _ => ("RainShares$Sheet", "numbers", "[I", true)
def tyX4 : Nat → FieldType := fun k => match k with
  | 0 => .int
  | 1 => .int
  | _ => .array .int
abbrev wsX40 : List Cond := u_ws RX4 TX4 3
theorem nmX4 : ∀ a, a < 3 → ∀ b, b < 3 → a ≠ b → (TX4 a).2.1 ≠ (TX4 b).2.1 := by decide +kernel
theorem tyX4_ok : ∀ k, k < 3 → parseFieldDescriptor (TX4 k).2.2.1 = some (tyX4 k) := by decide +kernel
abbrev cX4_init : ByteArray := prog_6_method_1_code
def yX4_init : MethodName := ⟨RX4, "<init>", "()V"⟩
abbrev cX4_isMissing : ByteArray := prog_6_method_2_code
def yX4_isMissing : MethodName := ⟨RX4, "isMissing", "()Z"⟩
abbrev cX4_lay : ByteArray := prog_6_method_3_code
def yX4_lay : MethodName := ⟨RX4, "lay", "(II)V"⟩
abbrev cX4_cutToBits : ByteArray := prog_6_method_4_code
def yX4_cutToBits : MethodName := ⟨RX4, "cutToBits", "(I)I"⟩
abbrev cX4_holds : ByteArray := prog_6_method_5_code
def yX4_holds : MethodName := ⟨RX4, "holds", "(II)Z"⟩
def RX5 : String := "RainShares$Valley"
def TX5 : u_T := fun k => match k with
  | 0 => ("RainShares$Valley", "roofs", "LRainShares$Roofs;", true)
  | 1 => ("RainShares$Valley", "clouds", "LRainShares$Clouds;", true)
  | 2 => ("RainShares$Valley", "laws", "[LRainShares$Law;", true)
  | 3 => ("RainShares$Valley", "day", "I", false)
  | 4 => ("RainShares$Valley", "z", "I", false)
  | 5 => ("RainShares$Valley", "tape", "[I", true)
  | 6 => ("RainShares$Valley", "tapeBytes", "I", false)
  | 7 => ("RainShares$Valley", "waiting", "[I", true)
  | 8 => ("RainShares$Valley", "waitingMany", "I", false)
  | 9 => ("RainShares$Valley", "fallen", "[I", true)
  | 10 => ("RainShares$Valley", "onto", "[I", true)
  | _ => ("RainShares$Valley", "drops", "[I", true)
def tyX5 : Nat → FieldType := fun k => match k with
  | 0 => .object "RainShares$Roofs"
  | 1 => .object "RainShares$Clouds"
  | 2 => .array (.object "RainShares$Law")
  | 3 => .int
  | 4 => .int
  | 5 => .array .int
  | 6 => .int
  | 7 => .array .int
  | 8 => .int
  | 9 => .array .int
  | 10 => .array .int
  | _ => .array .int
abbrev wsX50 : List Cond := u_ws RX5 TX5 12
theorem nmX5 : ∀ a, a < 12 → ∀ b, b < 12 → a ≠ b → (TX5 a).2.1 ≠ (TX5 b).2.1 := by decide +kernel
theorem tyX5_ok : ∀ k, k < 12 → parseFieldDescriptor (TX5 k).2.2.1 = some (tyX5 k) := by decide +kernel
abbrev cX5_init : ByteArray := prog_7_method_1_code
def yX5_init : MethodName := ⟨RX5, "<init>", "()V"⟩
abbrev cX5_copyFrom : ByteArray := prog_7_method_2_code
def yX5_copyFrom : MethodName := ⟨RX5, "copyFrom", "(LRainShares$Valley;)V"⟩
abbrev cX5_dropsOn : ByteArray := prog_7_method_3_code
def yX5_dropsOn : MethodName := ⟨RX5, "dropsOn", "(II)I"⟩
abbrev cX5_nextOver : ByteArray := prog_7_method_4_code
def yX5_nextOver : MethodName := ⟨RX5, "nextOver", "(I)I"⟩
abbrev cX5_passDays : ByteArray := prog_7_method_5_code
def yX5_passDays : MethodName := ⟨RX5, "passDays", "(I)V"⟩
abbrev cX5_aim : ByteArray := prog_7_method_6_code
def yX5_aim : MethodName := ⟨RX5, "aim", "()V"⟩
abbrev cX5_rain : ByteArray := prog_7_method_7_code
def yX5_rain : MethodName := ⟨RX5, "rain", "()V"⟩
abbrev cX5_charge : ByteArray := prog_7_method_8_code
def yX5_charge : MethodName := ⟨RX5, "charge", "()V"⟩
abbrev cX5_drift : ByteArray := prog_7_method_9_code
def yX5_drift : MethodName := ⟨RX5, "drift", "()V"⟩
abbrev cX5_wouldGive : ByteArray := prog_7_method_10_code
def yX5_wouldGive : MethodName := ⟨RX5, "wouldGive", "(I[I)Z"⟩
abbrev cX5_scatter : ByteArray := prog_7_method_11_code
def yX5_scatter : MethodName := ⟨RX5, "scatter", "()V"⟩
abbrev cX5_draw : ByteArray := prog_7_method_12_code
def yX5_draw : MethodName := ⟨RX5, "draw", "()I"⟩
abbrev cX5_rest : ByteArray := prog_7_method_13_code
def yX5_rest : MethodName := ⟨RX5, "rest", "(II)I"⟩
def RX6 : String := "RainShares$Voices"
def TX6 : u_T := fun k => match k with
  | 0 => ("RainShares$Voices", "bodies", "[I", true)
  | 1 => ("RainShares$Voices", "traced", "I", false)
  | 2 => ("RainShares$Voices", "kind", "I", false)
  | 3 => ("RainShares$Voices", "n", "I", false)
  | _ => ("RainShares$Voices", "m", "I", false)
def tyX6 : Nat → FieldType := fun k => match k with
  | 0 => .array .int
  | 1 => .int
  | 2 => .int
  | 3 => .int
  | _ => .int
abbrev wsX60 : List Cond := u_ws RX6 TX6 5
theorem nmX6 : ∀ a, a < 5 → ∀ b, b < 5 → a ≠ b → (TX6 a).2.1 ≠ (TX6 b).2.1 := by decide +kernel
theorem tyX6_ok : ∀ k, k < 5 → parseFieldDescriptor (TX6 k).2.2.1 = some (tyX6 k) := by decide +kernel
abbrev cX6_init : ByteArray := prog_8_method_1_code
def yX6_init : MethodName := ⟨RX6, "<init>", "()V"⟩
abbrev cX6_answer : ByteArray := prog_8_method_2_code
def yX6_answer : MethodName := ⟨RX6, "answer", "(IIIII)I"⟩
abbrev cX6_say : ByteArray := prog_8_method_3_code
def yX6_say : MethodName := ⟨RX6, "say", "(IIII)I"⟩
abbrev cX6_sayBody : ByteArray := prog_8_method_4_code
def yX6_sayBody : MethodName := ⟨RX6, "sayBody", "(IIII)I"⟩
abbrev cX6_note : ByteArray := prog_8_method_5_code
def yX6_note : MethodName := ⟨RX6, "note", "(I)V"⟩
def RX7 : String := "RainShares"
def TX7 : u_T := fun k => match k with
  | 0 => ("RainShares", "now", "LRainShares$Valley;", true)
  | 1 => ("RainShares", "thought", "LRainShares$Valley;", true)
  | 2 => ("RainShares", "kept", "LRainShares$Valley;", true)
  | 3 => ("RainShares", "images", "I", false)
  | 4 => ("RainShares", "reader", "LRainShares$Reader;", true)
  | 5 => ("RainShares", "voices", "LRainShares$Voices;", true)
  | 6 => ("RainShares", "sheets", "[LRainShares$Sheet;", true)
  | _ => ("RainShares", "errors", "[I", true)
def tyX7 : Nat → FieldType := fun k => match k with
  | 0 => .object "RainShares$Valley"
  | 1 => .object "RainShares$Valley"
  | 2 => .object "RainShares$Valley"
  | 3 => .int
  | 4 => .object "RainShares$Reader"
  | 5 => .object "RainShares$Voices"
  | 6 => .array (.object "RainShares$Sheet")
  | _ => .array .int
abbrev wsX70 : List Cond := u_ws RX7 TX7 8
theorem nmX7 : ∀ a, a < 8 → ∀ b, b < 8 → a ≠ b → (TX7 a).2.1 ≠ (TX7 b).2.1 := by decide +kernel
theorem tyX7_ok : ∀ k, k < 8 → parseFieldDescriptor (TX7 k).2.2.1 = some (tyX7 k) := by decide +kernel
abbrev cX7_init : ByteArray := prog_1_method_1_code
def yX7_init : MethodName := ⟨RX7, "<init>", "()V"⟩
abbrev cX7_roof : ByteArray := prog_1_method_2_code
def yX7_roof : MethodName := ⟨RX7, "roof", "(I)I"⟩
abbrev cX7_ofRoof : ByteArray := prog_1_method_3_code
def yX7_ofRoof : MethodName := ⟨RX7, "ofRoof", "(II)I"⟩
abbrev cX7_change : ByteArray := prog_1_method_4_code
def yX7_change : MethodName := ⟨RX7, "change", "(III)I"⟩
abbrev cX7_owe : ByteArray := prog_1_method_5_code
def yX7_owe : MethodName := ⟨RX7, "owe", "(III)I"⟩
abbrev cX7_owed : ByteArray := prog_1_method_6_code
def yX7_owed : MethodName := ⟨RX7, "owed", "(II)I"⟩
abbrev cX7_pay : ByteArray := prog_1_method_7_code
def yX7_pay : MethodName := ⟨RX7, "pay", "(II)I"⟩
abbrev cX7_sell : ByteArray := prog_1_method_8_code
def yX7_sell : MethodName := ⟨RX7, "sell", "(III)I"⟩
abbrev cX7_cloud : ByteArray := prog_1_method_9_code
def yX7_cloud : MethodName := ⟨RX7, "cloud", "(II)I"⟩
abbrev cX7_ofCloud : ByteArray := prog_1_method_10_code
def yX7_ofCloud : MethodName := ⟨RX7, "ofCloud", "(II)I"⟩
abbrev cX7_become : ByteArray := prog_1_method_11_code
def yX7_become : MethodName := ⟨RX7, "become", "(II)I"⟩
abbrev cX7_as : ByteArray := prog_1_method_12_code
def yX7_as : MethodName := ⟨RX7, "as", "(II)I"⟩
abbrev cX7_lead : ByteArray := prog_1_method_13_code
def yX7_lead : MethodName := ⟨RX7, "lead", "(III)I"⟩
abbrev cX7_feed : ByteArray := prog_1_method_14_code
def yX7_feed : MethodName := ⟨RX7, "feed", "(JI)I"⟩
abbrev cX7_text : ByteArray := prog_1_method_15_code
def yX7_text : MethodName := ⟨RX7, "text", "(I)I"⟩
abbrev cX7_law : ByteArray := prog_1_method_16_code
def yX7_law : MethodName := ⟨RX7, "law", "(IIII)I"⟩
abbrev cX7_days : ByteArray := prog_1_method_17_code
def yX7_days : MethodName := ⟨RX7, "days", "(I)I"⟩
abbrev cX7_loose : ByteArray := prog_1_method_18_code
def yX7_loose : MethodName := ⟨RX7, "loose", "(I)I"⟩
abbrev cX7_clear : ByteArray := prog_1_method_19_code
def yX7_clear : MethodName := ⟨RX7, "clear", "()I"⟩
abbrev cX7_then : ByteArray := prog_1_method_20_code
def yX7_then : MethodName := ⟨RX7, "then", "(III)I"⟩
abbrev cX7_drought : ByteArray := prog_1_method_21_code
def yX7_drought : MethodName := ⟨RX7, "drought", "(II)I"⟩
abbrev cX7_when : ByteArray := prog_1_method_22_code
def yX7_when : MethodName := ⟨RX7, "when", "(II)I"⟩
abbrev cX7_sellers : ByteArray := prog_1_method_23_code
def yX7_sellers : MethodName := ⟨RX7, "sellers", "(II)I"⟩
abbrev cX7_clears : ByteArray := prog_1_method_24_code
def yX7_clears : MethodName := ⟨RX7, "clears", "()I"⟩
abbrev cX7_patches : ByteArray := prog_1_method_25_code
def yX7_patches : MethodName := ⟨RX7, "patches", "(I)I"⟩
abbrev cX7_trades : ByteArray := prog_1_method_26_code
def yX7_trades : MethodName := ⟨RX7, "trades", "()I"⟩
abbrev cX7_fell : ByteArray := prog_1_method_27_code
def yX7_fell : MethodName := ⟨RX7, "fell", "(II)I"⟩
abbrev cX7_gains : ByteArray := prog_1_method_28_code
def yX7_gains : MethodName := ⟨RX7, "gains", "(III)I"⟩
abbrev cX7_seed : ByteArray := prog_1_method_29_code
def yX7_seed : MethodName := ⟨RX7, "seed", "(I)I"⟩
abbrev cX7_voice : ByteArray := prog_1_method_30_code
def yX7_voice : MethodName := ⟨RX7, "voice", "(III)I"⟩
abbrev cX7_trace : ByteArray := prog_1_method_31_code
def yX7_trace : MethodName := ⟨RX7, "trace", "(I)I"⟩
abbrev cX7_sheet : ByteArray := prog_1_method_32_code
def yX7_sheet : MethodName := ⟨RX7, "sheet", "(III)I"⟩
abbrev cX7_put : ByteArray := prog_1_method_33_code
def yX7_put : MethodName := ⟨RX7, "put", "(III)I"⟩
abbrev cX7_move : ByteArray := prog_1_method_34_code
def yX7_move : MethodName := ⟨RX7, "move", "(IIIII)I"⟩
abbrev cX7_shares : ByteArray := prog_1_method_35_code
def yX7_shares : MethodName := ⟨RX7, "shares", "(I)I"⟩
abbrev cX7_judge : ByteArray := prog_1_method_36_code
def yX7_judge : MethodName := ⟨RX7, "judge", "(I)I"⟩
abbrev cX7_image : ByteArray := prog_1_method_37_code
def yX7_image : MethodName := ⟨RX7, "image", "()I"⟩
abbrev cX7_restore : ByteArray := prog_1_method_38_code
def yX7_restore : MethodName := ⟨RX7, "restore", "()I"⟩
abbrev cX7_tell : ByteArray := prog_1_method_39_code
def yX7_tell : MethodName := ⟨RX7, "tell", "(I)I"⟩
abbrev cX7_check : ByteArray := prog_1_method_40_code
def yX7_check : MethodName := ⟨RX7, "check", "()I"⟩
abbrev cX7_count : ByteArray := prog_1_method_41_code
def yX7_count : MethodName := ⟨RX7, "count", "(I)I"⟩
abbrev cX7_told : ByteArray := prog_1_method_42_code
def yX7_told : MethodName := ⟨RX7, "told", "(I)I"⟩
abbrev cX7_within : ByteArray := prog_1_method_43_code
def yX7_within : MethodName := ⟨RX7, "within", "(III)Z"⟩
abbrev cX7_isKindAndM : ByteArray := prog_1_method_44_code
def yX7_isKindAndM : MethodName := ⟨RX7, "isKindAndM", "(I)Z"⟩
abbrev cX7_isSheet : ByteArray := prog_1_method_45_code
def yX7_isSheet : MethodName := ⟨RX7, "isSheet", "(I)Z"⟩
abbrev cX7_error : ByteArray := prog_1_method_46_code
def yX7_error : MethodName := ⟨RX7, "error", "(I)I"⟩
abbrev cX7_replace : ByteArray := prog_1_method_47_code
def yX7_replace : MethodName := ⟨RX7, "replace", "([IIII)I"⟩
abbrev cX7_arrearsBehind : ByteArray := prog_1_method_48_code
def yX7_arrearsBehind : MethodName := ⟨RX7, "arrearsBehind", "(III)I"⟩
def RX8 : String := "RainSharesModel"
def TX8 : u_T := fun k => match k with
  | 0 => ("RainSharesModel", "d", "[I", true)
  | 1 => ("RainSharesModel", "kept", "[I", true)
  | 2 => ("RainSharesModel", "images", "I", false)
  | 3 => ("RainSharesModel", "found", "[I", true)
  | 4 => ("RainSharesModel", "aside", "[I", true)
  | 5 => ("RainSharesModel", "base", "I", false)
  | 6 => ("RainSharesModel", "at", "I", false)
  | 7 => ("RainSharesModel", "size", "I", false)
  | 8 => ("RainSharesModel", "fault", "I", false)
  | 9 => ("RainSharesModel", "opened", "I", false)
  | 10 => ("RainSharesModel", "isPrice", "Z", false)
  | 11 => ("RainSharesModel", "names", "[I", true)
  | 12 => ("RainSharesModel", "fallen", "[I", true)
  | 13 => ("RainSharesModel", "traced", "[I", true)
  | 14 => ("RainSharesModel", "traceMany", "I", false)
  | 15 => ("RainSharesModel", "who", "I", false)
  | 16 => ("RainSharesModel", "bitsOf", "[I", true)
  | 17 => ("RainSharesModel", "sizeOf", "[I", true)
  | 18 => ("RainSharesModel", "number", "[I", true)
  | _ => ("RainSharesModel", "lifted", "[I", true)
def tyX8 : Nat → FieldType := fun k => match k with
  | 0 => .array .int
  | 1 => .array .int
  | 2 => .int
  | 3 => .array .int
  | 4 => .array .int
  | 5 => .int
  | 6 => .int
  | 7 => .int
  | 8 => .int
  | 9 => .int
  | 10 => .boolean
  | 11 => .array .int
  | 12 => .array .int
  | 13 => .array .int
  | 14 => .int
  | 15 => .int
  | 16 => .array .int
  | 17 => .array .int
  | 18 => .array .int
  | _ => .array .int
abbrev wsX80 : List Cond := u_ws RX8 TX8 20
theorem nmX8 : ∀ a, a < 20 → ∀ b, b < 20 → a ≠ b → (TX8 a).2.1 ≠ (TX8 b).2.1 := by decide +kernel
theorem tyX8_ok : ∀ k, k < 20 → parseFieldDescriptor (TX8 k).2.2.1 = some (tyX8 k) := by decide +kernel
abbrev cX8_init : ByteArray := prog_10_method_1_code
def yX8_init : MethodName := ⟨RX8, "<init>", "()V"⟩
abbrev cX8_finds : ByteArray := prog_10_method_3_code
def yX8_finds : MethodName := ⟨RX8, "finds", "(I)I"⟩
abbrev cX8_in : ByteArray := prog_10_method_4_code
def yX8_in : MethodName := ⟨RX8, "in", "(JJJ)Z"⟩
abbrev cX8_held : ByteArray := prog_10_method_5_code
def yX8_held : MethodName := ⟨RX8, "held", "(III)I"⟩
abbrev cX8_isRoof : ByteArray := prog_10_method_6_code
def yX8_isRoof : MethodName := ⟨RX8, "isRoof", "(I)Z"⟩
abbrev cX8_isCloud : ByteArray := prog_10_method_7_code
def yX8_isCloud : MethodName := ⟨RX8, "isCloud", "(I)Z"⟩
abbrev cX8_its : ByteArray := prog_10_method_8_code
def yX8_its : MethodName := ⟨RX8, "its", "(II)I"⟩
abbrev cX8_of : ByteArray := prog_10_method_9_code
def yX8_of : MethodName := ⟨RX8, "of", "(II)I"⟩
abbrev cX8_keepAside : ByteArray := prog_10_method_10_code
def yX8_keepAside : MethodName := ⟨RX8, "keepAside", "()V"⟩
abbrev cX8_putBack : ByteArray := prog_10_method_11_code
def yX8_putBack : MethodName := ⟨RX8, "putBack", "()V"⟩
abbrev cX8_here : ByteArray := prog_10_method_12_code
def yX8_here : MethodName := ⟨RX8, "here", "()I"⟩
abbrev cX8_wrong : ByteArray := prog_10_method_13_code
def yX8_wrong : MethodName := ⟨RX8, "wrong", "()I"⟩
abbrev cX8_takes : ByteArray := prog_10_method_14_code
def yX8_takes : MethodName := ⟨RX8, "takes", "(I)Z"⟩
abbrev cX8_nameOf : ByteArray := prog_10_method_15_code
def yX8_nameOf : MethodName := ⟨RX8, "nameOf", "(I)I"⟩
abbrev cX8_either : ByteArray := prog_10_method_16_code
def yX8_either : MethodName := ⟨RX8, "either", "()I"⟩
abbrev cX8_both : ByteArray := prog_10_method_17_code
def yX8_both : MethodName := ⟨RX8, "both", "()I"⟩
abbrev cX8_compared : ByteArray := prog_10_method_18_code
def yX8_compared : MethodName := ⟨RX8, "compared", "()I"⟩
abbrev cX8_sum : ByteArray := prog_10_method_19_code
def yX8_sum : MethodName := ⟨RX8, "sum", "()I"⟩
abbrev cX8_product : ByteArray := prog_10_method_20_code
def yX8_product : MethodName := ⟨RX8, "product", "()I"⟩
abbrev cX8_unit : ByteArray := prog_10_method_21_code
def yX8_unit : MethodName := ⟨RX8, "unit", "()I"⟩
abbrev cX8_worked : ByteArray := prog_10_method_22_code
def yX8_worked : MethodName := ⟨RX8, "worked", "(III)I"⟩
abbrev cX8_feed : ByteArray := prog_10_method_23_code
def yX8_feed : MethodName := ⟨RX8, "feed", "(JI)I"⟩
abbrev cX8_text : ByteArray := prog_10_method_24_code
def yX8_text : MethodName := ⟨RX8, "text", "(I)I"⟩
abbrev cX8_textGives : ByteArray := prog_10_method_25_code
def yX8_textGives : MethodName := ⟨RX8, "textGives", "(IIII)I"⟩
abbrev cX8_law : ByteArray := prog_10_method_26_code
def yX8_law : MethodName := ⟨RX8, "law", "(IIII)I"⟩
abbrev cX8_roof : ByteArray := prog_10_method_27_code
def yX8_roof : MethodName := ⟨RX8, "roof", "(I)I"⟩
abbrev cX8_ofRoof : ByteArray := prog_10_method_28_code
def yX8_ofRoof : MethodName := ⟨RX8, "ofRoof", "(II)I"⟩
abbrev cX8_change : ByteArray := prog_10_method_29_code
def yX8_change : MethodName := ⟨RX8, "change", "(III)I"⟩
abbrev cX8_areTwo : ByteArray := prog_10_method_30_code
def yX8_areTwo : MethodName := ⟨RX8, "areTwo", "(II)Z"⟩
abbrev cX8_owe : ByteArray := prog_10_method_31_code
def yX8_owe : MethodName := ⟨RX8, "owe", "(III)I"⟩
abbrev cX8_owed : ByteArray := prog_10_method_32_code
def yX8_owed : MethodName := ⟨RX8, "owed", "(II)I"⟩
abbrev cX8_pay : ByteArray := prog_10_method_33_code
def yX8_pay : MethodName := ⟨RX8, "pay", "(II)I"⟩
abbrev cX8_sell : ByteArray := prog_10_method_34_code
def yX8_sell : MethodName := ⟨RX8, "sell", "(III)I"⟩
abbrev cX8_cloud : ByteArray := prog_10_method_35_code
def yX8_cloud : MethodName := ⟨RX8, "cloud", "(II)I"⟩
abbrev cX8_fallsOn : ByteArray := prog_10_method_36_code
def yX8_fallsOn : MethodName := ⟨RX8, "fallsOn", "(II)I"⟩
abbrev cX8_lasts : ByteArray := prog_10_method_37_code
def yX8_lasts : MethodName := ⟨RX8, "lasts", "(I)I"⟩
abbrev cX8_isSpent : ByteArray := prog_10_method_38_code
def yX8_isSpent : MethodName := ⟨RX8, "isSpent", "(I)Z"⟩
abbrev cX8_driftsTo : ByteArray := prog_10_method_39_code
def yX8_driftsTo : MethodName := ⟨RX8, "driftsTo", "(I)I"⟩
abbrev cX8_ofCloud : ByteArray := prog_10_method_40_code
def yX8_ofCloud : MethodName := ⟨RX8, "ofCloud", "(II)I"⟩
abbrev cX8_become : ByteArray := prog_10_method_41_code
def yX8_become : MethodName := ⟨RX8, "become", "(II)I"⟩
abbrev cX8_above : ByteArray := prog_10_method_42_code
def yX8_above : MethodName := ⟨RX8, "above", "(I)I"⟩
abbrev cX8_as : ByteArray := prog_10_method_43_code
def yX8_as : MethodName := ⟨RX8, "as", "(II)I"⟩
abbrev cX8_lead : ByteArray := prog_10_method_44_code
def yX8_lead : MethodName := ⟨RX8, "lead", "(III)I"⟩
abbrev cX8_mostInArrears : ByteArray := prog_10_method_45_code
def yX8_mostInArrears : MethodName := ⟨RX8, "mostInArrears", "()I"⟩
abbrev cX8_fallsWhere : ByteArray := prog_10_method_46_code
def yX8_fallsWhere : MethodName := ⟨RX8, "fallsWhere", "(II)I"⟩
abbrev cX8_dayGoes : ByteArray := prog_10_method_47_code
def yX8_dayGoes : MethodName := ⟨RX8, "dayGoes", "()V"⟩
abbrev cX8_daysGo : ByteArray := prog_10_method_48_code
def yX8_daysGo : MethodName := ⟨RX8, "daysGo", "(I)V"⟩
abbrev cX8_all : ByteArray := prog_10_method_49_code
def yX8_all : MethodName := ⟨RX8, "all", "(I)I"⟩
abbrev cX8_days : ByteArray := prog_10_method_50_code
def yX8_days : MethodName := ⟨RX8, "days", "(I)I"⟩
abbrev cX8_drawn : ByteArray := prog_10_method_51_code
def yX8_drawn : MethodName := ⟨RX8, "drawn", "()I"⟩
abbrev cX8_loose : ByteArray := prog_10_method_52_code
def yX8_loose : MethodName := ⟨RX8, "loose", "(I)I"⟩
abbrev cX8_lessens : ByteArray := prog_10_method_53_code
def yX8_lessens : MethodName := ⟨RX8, "lessens", "(III)V"⟩
abbrev cX8_clearsAll : ByteArray := prog_10_method_54_code
def yX8_clearsAll : MethodName := ⟨RX8, "clearsAll", "()I"⟩
abbrev cX8_clear : ByteArray := prog_10_method_55_code
def yX8_clear : MethodName := ⟨RX8, "clear", "()I"⟩
abbrev cX8_then : ByteArray := prog_10_method_56_code
def yX8_then : MethodName := ⟨RX8, "then", "(III)I"⟩
abbrev cX8_drought : ByteArray := prog_10_method_57_code
def yX8_drought : MethodName := ⟨RX8, "drought", "(II)I"⟩
abbrev cX8_when : ByteArray := prog_10_method_58_code
def yX8_when : MethodName := ⟨RX8, "when", "(II)I"⟩
abbrev cX8_sellers : ByteArray := prog_10_method_59_code
def yX8_sellers : MethodName := ⟨RX8, "sellers", "(II)I"⟩
abbrev cX8_clears : ByteArray := prog_10_method_60_code
def yX8_clears : MethodName := ⟨RX8, "clears", "()I"⟩
abbrev cX8_daysLeft : ByteArray := prog_10_method_61_code
def yX8_daysLeft : MethodName := ⟨RX8, "daysLeft", "(I)I"⟩
abbrev cX8_fewestLeft : ByteArray := prog_10_method_62_code
def yX8_fewestLeft : MethodName := ⟨RX8, "fewestLeft", "()I"⟩
abbrev cX8_patches : ByteArray := prog_10_method_63_code
def yX8_patches : MethodName := ⟨RX8, "patches", "(I)I"⟩
abbrev cX8_trades : ByteArray := prog_10_method_64_code
def yX8_trades : MethodName := ⟨RX8, "trades", "()I"⟩
abbrev cX8_fell : ByteArray := prog_10_method_65_code
def yX8_fell : MethodName := ⟨RX8, "fell", "(II)I"⟩
abbrev cX8_gains : ByteArray := prog_10_method_66_code
def yX8_gains : MethodName := ⟨RX8, "gains", "(III)I"⟩
abbrev cX8_seed : ByteArray := prog_10_method_67_code
def yX8_seed : MethodName := ⟨RX8, "seed", "(I)I"⟩
abbrev cX8_ran : ByteArray := prog_10_method_68_code
def yX8_ran : MethodName := ⟨RX8, "ran", "(I)V"⟩
abbrev cX8_rainsBy : ByteArray := prog_10_method_69_code
def yX8_rainsBy : MethodName := ⟨RX8, "rainsBy", "(II)I"⟩
abbrev cX8_driftsBy : ByteArray := prog_10_method_70_code
def yX8_driftsBy : MethodName := ⟨RX8, "driftsBy", "(II)I"⟩
abbrev cX8_wearsBy : ByteArray := prog_10_method_71_code
def yX8_wearsBy : MethodName := ⟨RX8, "wearsBy", "(II)I"⟩
abbrev cX8_tellsBy : ByteArray := prog_10_method_72_code
def yX8_tellsBy : MethodName := ⟨RX8, "tellsBy", "(II)I"⟩
abbrev cX8_voice : ByteArray := prog_10_method_73_code
def yX8_voice : MethodName := ⟨RX8, "voice", "(III)I"⟩
abbrev cX8_trace : ByteArray := prog_10_method_74_code
def yX8_trace : MethodName := ⟨RX8, "trace", "(I)I"⟩
abbrev cX8_isSheet : ByteArray := prog_10_method_75_code
def yX8_isSheet : MethodName := ⟨RX8, "isSheet", "(I)Z"⟩
abbrev cX8_sheet : ByteArray := prog_10_method_76_code
def yX8_sheet : MethodName := ⟨RX8, "sheet", "(III)I"⟩
abbrev cX8_put : ByteArray := prog_10_method_77_code
def yX8_put : MethodName := ⟨RX8, "put", "(III)I"⟩
abbrev cX8_move : ByteArray := prog_10_method_78_code
def yX8_move : MethodName := ⟨RX8, "move", "(IIIII)I"⟩
abbrev cX8_shares : ByteArray := prog_10_method_79_code
def yX8_shares : MethodName := ⟨RX8, "shares", "(I)I"⟩
abbrev cX8_judge : ByteArray := prog_10_method_80_code
def yX8_judge : MethodName := ⟨RX8, "judge", "(I)I"⟩
abbrev cX8_image : ByteArray := prog_10_method_81_code
def yX8_image : MethodName := ⟨RX8, "image", "()I"⟩
abbrev cX8_restore : ByteArray := prog_10_method_82_code
def yX8_restore : MethodName := ⟨RX8, "restore", "()I"⟩
abbrev cX8_tell : ByteArray := prog_10_method_83_code
def yX8_tell : MethodName := ⟨RX8, "tell", "(I)I"⟩
abbrev cX8_check : ByteArray := prog_10_method_84_code
def yX8_check : MethodName := ⟨RX8, "check", "()I"⟩
abbrev cX8_count : ByteArray := prog_10_method_85_code
def yX8_count : MethodName := ⟨RX8, "count", "(I)I"⟩
abbrev cX8_told : ByteArray := prog_10_method_86_code
def yX8_told : MethodName := ⟨RX8, "told", "(I)I"⟩
