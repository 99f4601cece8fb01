section
-- ===== PART A: goes FIRST, ahead of the names: the tables' words, and 'selects' of the private methods out of them =====
/-- a private method of a class that the tables say can be made, by its rows of tables_1 -/
def lw_okq (q : MethodName × Nat) : Prop := (q.1.cls ≠ "java/lang/invoke/MethodHandle" ∧ q.1.cls ≠ "java/lang/invoke/VarHandle") ∧ Cond.instantiable q.1.cls q.2 ∈ tables_1 ∧ Cond.privateMethod q.1 ∈ tables_1 ∧ Cond.instanceMethod q.1 ∈ tables_1
theorem lw_p0 : lw_okq (⟨"RainShares", "error", "(I)I"⟩, 8) := ⟨⟨by decide +kernel, by decide +kernel⟩, List.mem_of_getElem? (i := 14) (by decide +kernel), List.mem_of_getElem? (i := 277) (by decide +kernel), List.mem_of_getElem? (i := 278) (by decide +kernel)⟩
theorem lw_p1 : lw_okq (⟨"RainShares", "replace", "([IIII)I"⟩, 8) := ⟨⟨by decide +kernel, by decide +kernel⟩, List.mem_of_getElem? (i := 14) (by decide +kernel), List.mem_of_getElem? (i := 310) (by decide +kernel), List.mem_of_getElem? (i := 311) (by decide +kernel)⟩
theorem lw_p2 : lw_okq (⟨"RainShares$Reader", "readJoined", "(II)V"⟩, 7) := ⟨⟨by decide +kernel, by decide +kernel⟩, List.mem_of_getElem? (i := 171) (by decide +kernel), List.mem_of_getElem? (i := 427) (by decide +kernel), List.mem_of_getElem? (i := 428) (by decide +kernel)⟩
theorem lw_p3 : lw_okq (⟨"RainShares$Reader", "readSingle", "(I)V"⟩, 7) := ⟨⟨by decide +kernel, by decide +kernel⟩, List.mem_of_getElem? (i := 171) (by decide +kernel), List.mem_of_getElem? (i := 431) (by decide +kernel), List.mem_of_getElem? (i := 432) (by decide +kernel)⟩
theorem lw_p4 : lw_okq (⟨"RainShares$Reader", "next", "()I"⟩, 7) := ⟨⟨by decide +kernel, by decide +kernel⟩, List.mem_of_getElem? (i := 171) (by decide +kernel), List.mem_of_getElem? (i := 435) (by decide +kernel), List.mem_of_getElem? (i := 436) (by decide +kernel)⟩
theorem lw_p5 : lw_okq (⟨"RainShares$Reader", "nameOf", "(I)I"⟩, 7) := ⟨⟨by decide +kernel, by decide +kernel⟩, List.mem_of_getElem? (i := 171) (by decide +kernel), List.mem_of_getElem? (i := 439) (by decide +kernel), List.mem_of_getElem? (i := 440) (by decide +kernel)⟩
theorem lw_p6 : lw_okq (⟨"RainShares$Reader", "readNumber", "()V"⟩, 7) := ⟨⟨by decide +kernel, by decide +kernel⟩, List.mem_of_getElem? (i := 171) (by decide +kernel), List.mem_of_getElem? (i := 448) (by decide +kernel), List.mem_of_getElem? (i := 449) (by decide +kernel)⟩
theorem lw_p7 : lw_okq (⟨"RainShares$Reader", "write", "(I)V"⟩, 7) := ⟨⟨by decide +kernel, by decide +kernel⟩, List.mem_of_getElem? (i := 171) (by decide +kernel), List.mem_of_getElem? (i := 452) (by decide +kernel), List.mem_of_getElem? (i := 453) (by decide +kernel)⟩
theorem lw_p8 : lw_okq (⟨"RainShares$Reader", "readClosing", "()V"⟩, 7) := ⟨⟨by decide +kernel, by decide +kernel⟩, List.mem_of_getElem? (i := 171) (by decide +kernel), List.mem_of_getElem? (i := 456) (by decide +kernel), List.mem_of_getElem? (i := 457) (by decide +kernel)⟩
theorem lw_p9 : lw_okq (⟨"RainShares$Valley", "rain", "()V"⟩, 12) := ⟨⟨by decide +kernel, by decide +kernel⟩, List.mem_of_getElem? (i := 22) (by decide +kernel), List.mem_of_getElem? (i := 491) (by decide +kernel), List.mem_of_getElem? (i := 492) (by decide +kernel)⟩
theorem lw_p10 : lw_okq (⟨"RainShares$Valley", "charge", "()V"⟩, 12) := ⟨⟨by decide +kernel, by decide +kernel⟩, List.mem_of_getElem? (i := 22) (by decide +kernel), List.mem_of_getElem? (i := 496) (by decide +kernel), List.mem_of_getElem? (i := 497) (by decide +kernel)⟩
theorem lw_p11 : lw_okq (⟨"RainShares$Valley", "drift", "()V"⟩, 12) := ⟨⟨by decide +kernel, by decide +kernel⟩, List.mem_of_getElem? (i := 22) (by decide +kernel), List.mem_of_getElem? (i := 500) (by decide +kernel), List.mem_of_getElem? (i := 501) (by decide +kernel)⟩
theorem lw_p12 : lw_okq (⟨"RainShares$Valley", "draw", "()I"⟩, 12) := ⟨⟨by decide +kernel, by decide +kernel⟩, List.mem_of_getElem? (i := 22) (by decide +kernel), List.mem_of_getElem? (i := 514) (by decide +kernel), List.mem_of_getElem? (i := 515) (by decide +kernel)⟩
theorem lw_p13 : lw_okq (⟨"RainShares$Roofs", "clearPair", "(II)I"⟩, 6) := ⟨⟨by decide +kernel, by decide +kernel⟩, List.mem_of_getElem? (i := 28) (by decide +kernel), List.mem_of_getElem? (i := 527) (by decide +kernel), List.mem_of_getElem? (i := 528) (by decide +kernel)⟩
theorem lw_p14 : lw_okq (⟨"RainShares$Roofs", "clearRing", "(III)I"⟩, 6) := ⟨⟨by decide +kernel, by decide +kernel⟩, List.mem_of_getElem? (i := 28) (by decide +kernel), List.mem_of_getElem? (i := 532) (by decide +kernel), List.mem_of_getElem? (i := 533) (by decide +kernel)⟩
theorem lw_p15 : lw_okq (⟨"RainShares$Roofs", "sellsRather", "(II)Z"⟩, 6) := ⟨⟨by decide +kernel, by decide +kernel⟩, List.mem_of_getElem? (i := 28) (by decide +kernel), List.mem_of_getElem? (i := 577) (by decide +kernel), List.mem_of_getElem? (i := 578) (by decide +kernel)⟩
def lw_privs_1 : List (MethodName × Nat) := [(⟨"RainShares", "error", "(I)I"⟩, 8), (⟨"RainShares", "replace", "([IIII)I"⟩, 8), (⟨"RainShares$Reader", "readJoined", "(II)V"⟩, 7), (⟨"RainShares$Reader", "readSingle", "(I)V"⟩, 7), (⟨"RainShares$Reader", "next", "()I"⟩, 7), (⟨"RainShares$Reader", "nameOf", "(I)I"⟩, 7), (⟨"RainShares$Reader", "readNumber", "()V"⟩, 7), (⟨"RainShares$Reader", "write", "(I)V"⟩, 7), (⟨"RainShares$Reader", "readClosing", "()V"⟩, 7), (⟨"RainShares$Valley", "rain", "()V"⟩, 12), (⟨"RainShares$Valley", "charge", "()V"⟩, 12), (⟨"RainShares$Valley", "drift", "()V"⟩, 12), (⟨"RainShares$Valley", "draw", "()I"⟩, 12), (⟨"RainShares$Roofs", "clearPair", "(II)I"⟩, 6), (⟨"RainShares$Roofs", "clearRing", "(III)I"⟩, 6), (⟨"RainShares$Roofs", "sellsRather", "(II)Z"⟩, 6)]
theorem lw_r1 : ∀ q ∈ lw_privs_1, lw_okq q := List.forall_mem_cons.mpr ⟨lw_p0, List.forall_mem_cons.mpr ⟨lw_p1, List.forall_mem_cons.mpr ⟨lw_p2, List.forall_mem_cons.mpr ⟨lw_p3, List.forall_mem_cons.mpr ⟨lw_p4, List.forall_mem_cons.mpr ⟨lw_p5, List.forall_mem_cons.mpr ⟨lw_p6, List.forall_mem_cons.mpr ⟨lw_p7, List.forall_mem_cons.mpr ⟨lw_p8, List.forall_mem_cons.mpr ⟨lw_p9, List.forall_mem_cons.mpr ⟨lw_p10, List.forall_mem_cons.mpr ⟨lw_p11, List.forall_mem_cons.mpr ⟨lw_p12, List.forall_mem_cons.mpr ⟨lw_p13, List.forall_mem_cons.mpr ⟨lw_p14, List.forall_mem_cons.mpr ⟨lw_p15, fun _ h => absurd h List.not_mem_nil⟩⟩⟩⟩⟩⟩⟩⟩⟩⟩⟩⟩⟩⟩⟩⟩
theorem lw_p16 : lw_okq (⟨"RainShares", "arrearsBehind", "(III)I"⟩, 8) := ⟨⟨by decide +kernel, by decide +kernel⟩, List.mem_of_getElem? (i := 14) (by decide +kernel), List.mem_of_getElem? (i := 636) (by decide +kernel), List.mem_of_getElem? (i := 637) (by decide +kernel)⟩
theorem lw_p17 : lw_okq (⟨"RainShares$Voices", "say", "(IIII)I"⟩, 5) := ⟨⟨by decide +kernel, by decide +kernel⟩, List.mem_of_getElem? (i := 201) (by decide +kernel), List.mem_of_getElem? (i := 653) (by decide +kernel), List.mem_of_getElem? (i := 654) (by decide +kernel)⟩
theorem lw_p18 : lw_okq (⟨"RainShares$Voices", "note", "(I)V"⟩, 5) := ⟨⟨by decide +kernel, by decide +kernel⟩, List.mem_of_getElem? (i := 201) (by decide +kernel), List.mem_of_getElem? (i := 660) (by decide +kernel), List.mem_of_getElem? (i := 661) (by decide +kernel)⟩
theorem lw_p19 : lw_okq (⟨"RainShares$Voices", "sayBody", "(IIII)I"⟩, 5) := ⟨⟨by decide +kernel, by decide +kernel⟩, List.mem_of_getElem? (i := 201) (by decide +kernel), List.mem_of_getElem? (i := 664) (by decide +kernel), List.mem_of_getElem? (i := 665) (by decide +kernel)⟩
theorem lw_p20 : lw_okq (⟨"RainSharesModel", "finds", "(I)I"⟩, 20) := ⟨⟨by decide +kernel, by decide +kernel⟩, List.mem_of_getElem? (i := 735) (by decide +kernel), List.mem_of_getElem? (i := 810) (by decide +kernel), List.mem_of_getElem? (i := 811) (by decide +kernel)⟩
theorem lw_p21 : lw_okq (⟨"RainSharesModel", "worked", "(III)I"⟩, 20) := ⟨⟨by decide +kernel, by decide +kernel⟩, List.mem_of_getElem? (i := 735) (by decide +kernel), List.mem_of_getElem? (i := 820) (by decide +kernel), List.mem_of_getElem? (i := 821) (by decide +kernel)⟩
theorem lw_p22 : lw_okq (⟨"RainSharesModel", "either", "()I"⟩, 20) := ⟨⟨by decide +kernel, by decide +kernel⟩, List.mem_of_getElem? (i := 735) (by decide +kernel), List.mem_of_getElem? (i := 824) (by decide +kernel), List.mem_of_getElem? (i := 825) (by decide +kernel)⟩
theorem lw_p23 : lw_okq (⟨"RainSharesModel", "both", "()I"⟩, 20) := ⟨⟨by decide +kernel, by decide +kernel⟩, List.mem_of_getElem? (i := 735) (by decide +kernel), List.mem_of_getElem? (i := 828) (by decide +kernel), List.mem_of_getElem? (i := 829) (by decide +kernel)⟩
theorem lw_p24 : lw_okq (⟨"RainSharesModel", "compared", "()I"⟩, 20) := ⟨⟨by decide +kernel, by decide +kernel⟩, List.mem_of_getElem? (i := 735) (by decide +kernel), List.mem_of_getElem? (i := 832) (by decide +kernel), List.mem_of_getElem? (i := 833) (by decide +kernel)⟩
theorem lw_p25 : lw_okq (⟨"RainSharesModel", "sum", "()I"⟩, 20) := ⟨⟨by decide +kernel, by decide +kernel⟩, List.mem_of_getElem? (i := 735) (by decide +kernel), List.mem_of_getElem? (i := 836) (by decide +kernel), List.mem_of_getElem? (i := 837) (by decide +kernel)⟩
theorem lw_p26 : lw_okq (⟨"RainSharesModel", "product", "()I"⟩, 20) := ⟨⟨by decide +kernel, by decide +kernel⟩, List.mem_of_getElem? (i := 735) (by decide +kernel), List.mem_of_getElem? (i := 840) (by decide +kernel), List.mem_of_getElem? (i := 841) (by decide +kernel)⟩
theorem lw_p27 : lw_okq (⟨"RainSharesModel", "unit", "()I"⟩, 20) := ⟨⟨by decide +kernel, by decide +kernel⟩, List.mem_of_getElem? (i := 735) (by decide +kernel), List.mem_of_getElem? (i := 844) (by decide +kernel), List.mem_of_getElem? (i := 845) (by decide +kernel)⟩
theorem lw_p28 : lw_okq (⟨"RainSharesModel", "here", "()I"⟩, 20) := ⟨⟨by decide +kernel, by decide +kernel⟩, List.mem_of_getElem? (i := 735) (by decide +kernel), List.mem_of_getElem? (i := 848) (by decide +kernel), List.mem_of_getElem? (i := 849) (by decide +kernel)⟩
theorem lw_p29 : lw_okq (⟨"RainSharesModel", "wrong", "()I"⟩, 20) := ⟨⟨by decide +kernel, by decide +kernel⟩, List.mem_of_getElem? (i := 735) (by decide +kernel), List.mem_of_getElem? (i := 852) (by decide +kernel), List.mem_of_getElem? (i := 853) (by decide +kernel)⟩
theorem lw_p30 : lw_okq (⟨"RainSharesModel", "takes", "(I)Z"⟩, 20) := ⟨⟨by decide +kernel, by decide +kernel⟩, List.mem_of_getElem? (i := 735) (by decide +kernel), List.mem_of_getElem? (i := 856) (by decide +kernel), List.mem_of_getElem? (i := 857) (by decide +kernel)⟩
theorem lw_p31 : lw_okq (⟨"RainSharesModel", "nameOf", "(I)I"⟩, 20) := ⟨⟨by decide +kernel, by decide +kernel⟩, List.mem_of_getElem? (i := 735) (by decide +kernel), List.mem_of_getElem? (i := 860) (by decide +kernel), List.mem_of_getElem? (i := 861) (by decide +kernel)⟩
def lw_privs_2 : List (MethodName × Nat) := [(⟨"RainShares", "arrearsBehind", "(III)I"⟩, 8), (⟨"RainShares$Voices", "say", "(IIII)I"⟩, 5), (⟨"RainShares$Voices", "note", "(I)V"⟩, 5), (⟨"RainShares$Voices", "sayBody", "(IIII)I"⟩, 5), (⟨"RainSharesModel", "finds", "(I)I"⟩, 20), (⟨"RainSharesModel", "worked", "(III)I"⟩, 20), (⟨"RainSharesModel", "either", "()I"⟩, 20), (⟨"RainSharesModel", "both", "()I"⟩, 20), (⟨"RainSharesModel", "compared", "()I"⟩, 20), (⟨"RainSharesModel", "sum", "()I"⟩, 20), (⟨"RainSharesModel", "product", "()I"⟩, 20), (⟨"RainSharesModel", "unit", "()I"⟩, 20), (⟨"RainSharesModel", "here", "()I"⟩, 20), (⟨"RainSharesModel", "wrong", "()I"⟩, 20), (⟨"RainSharesModel", "takes", "(I)Z"⟩, 20), (⟨"RainSharesModel", "nameOf", "(I)I"⟩, 20)]
theorem lw_r2 : ∀ q ∈ lw_privs_2, lw_okq q := List.forall_mem_cons.mpr ⟨lw_p16, List.forall_mem_cons.mpr ⟨lw_p17, List.forall_mem_cons.mpr ⟨lw_p18, List.forall_mem_cons.mpr ⟨lw_p19, List.forall_mem_cons.mpr ⟨lw_p20, List.forall_mem_cons.mpr ⟨lw_p21, List.forall_mem_cons.mpr ⟨lw_p22, List.forall_mem_cons.mpr ⟨lw_p23, List.forall_mem_cons.mpr ⟨lw_p24, List.forall_mem_cons.mpr ⟨lw_p25, List.forall_mem_cons.mpr ⟨lw_p26, List.forall_mem_cons.mpr ⟨lw_p27, List.forall_mem_cons.mpr ⟨lw_p28, List.forall_mem_cons.mpr ⟨lw_p29, List.forall_mem_cons.mpr ⟨lw_p30, List.forall_mem_cons.mpr ⟨lw_p31, fun _ h => absurd h List.not_mem_nil⟩⟩⟩⟩⟩⟩⟩⟩⟩⟩⟩⟩⟩⟩⟩⟩
theorem lw_p32 : lw_okq (⟨"RainSharesModel", "textGives", "(IIII)I"⟩, 20) := ⟨⟨by decide +kernel, by decide +kernel⟩, List.mem_of_getElem? (i := 735) (by decide +kernel), List.mem_of_getElem? (i := 870) (by decide +kernel), List.mem_of_getElem? (i := 871) (by decide +kernel)⟩
theorem lw_p33 : lw_okq (⟨"RainSharesModel", "isRoof", "(I)Z"⟩, 20) := ⟨⟨by decide +kernel, by decide +kernel⟩, List.mem_of_getElem? (i := 735) (by decide +kernel), List.mem_of_getElem? (i := 886) (by decide +kernel), List.mem_of_getElem? (i := 887) (by decide +kernel)⟩
theorem lw_p34 : lw_okq (⟨"RainSharesModel", "of", "(II)I"⟩, 20) := ⟨⟨by decide +kernel, by decide +kernel⟩, List.mem_of_getElem? (i := 735) (by decide +kernel), List.mem_of_getElem? (i := 891) (by decide +kernel), List.mem_of_getElem? (i := 892) (by decide +kernel)⟩
theorem lw_p35 : lw_okq (⟨"RainSharesModel", "its", "(II)I"⟩, 20) := ⟨⟨by decide +kernel, by decide +kernel⟩, List.mem_of_getElem? (i := 735) (by decide +kernel), List.mem_of_getElem? (i := 895) (by decide +kernel), List.mem_of_getElem? (i := 896) (by decide +kernel)⟩
theorem lw_p36 : lw_okq (⟨"RainSharesModel", "areTwo", "(II)Z"⟩, 20) := ⟨⟨by decide +kernel, by decide +kernel⟩, List.mem_of_getElem? (i := 735) (by decide +kernel), List.mem_of_getElem? (i := 909) (by decide +kernel), List.mem_of_getElem? (i := 910) (by decide +kernel)⟩
theorem lw_p37 : lw_okq (⟨"RainSharesModel", "isCloud", "(I)Z"⟩, 20) := ⟨⟨by decide +kernel, by decide +kernel⟩, List.mem_of_getElem? (i := 735) (by decide +kernel), List.mem_of_getElem? (i := 935) (by decide +kernel), List.mem_of_getElem? (i := 936) (by decide +kernel)⟩
theorem lw_p38 : lw_okq (⟨"RainSharesModel", "lasts", "(I)I"⟩, 20) := ⟨⟨by decide +kernel, by decide +kernel⟩, List.mem_of_getElem? (i := 735) (by decide +kernel), List.mem_of_getElem? (i := 940) (by decide +kernel), List.mem_of_getElem? (i := 941) (by decide +kernel)⟩
theorem lw_p39 : lw_okq (⟨"RainSharesModel", "isSpent", "(I)Z"⟩, 20) := ⟨⟨by decide +kernel, by decide +kernel⟩, List.mem_of_getElem? (i := 735) (by decide +kernel), List.mem_of_getElem? (i := 944) (by decide +kernel), List.mem_of_getElem? (i := 945) (by decide +kernel)⟩
theorem lw_p40 : lw_okq (⟨"RainSharesModel", "fallsOn", "(II)I"⟩, 20) := ⟨⟨by decide +kernel, by decide +kernel⟩, List.mem_of_getElem? (i := 735) (by decide +kernel), List.mem_of_getElem? (i := 948) (by decide +kernel), List.mem_of_getElem? (i := 949) (by decide +kernel)⟩
theorem lw_p41 : lw_okq (⟨"RainSharesModel", "driftsTo", "(I)I"⟩, 20) := ⟨⟨by decide +kernel, by decide +kernel⟩, List.mem_of_getElem? (i := 735) (by decide +kernel), List.mem_of_getElem? (i := 952) (by decide +kernel), List.mem_of_getElem? (i := 953) (by decide +kernel)⟩
theorem lw_p42 : lw_okq (⟨"RainSharesModel", "daysGo", "(I)V"⟩, 20) := ⟨⟨by decide +kernel, by decide +kernel⟩, List.mem_of_getElem? (i := 735) (by decide +kernel), List.mem_of_getElem? (i := 977) (by decide +kernel), List.mem_of_getElem? (i := 978) (by decide +kernel)⟩
theorem lw_p43 : lw_okq (⟨"RainSharesModel", "dayGoes", "()V"⟩, 20) := ⟨⟨by decide +kernel, by decide +kernel⟩, List.mem_of_getElem? (i := 735) (by decide +kernel), List.mem_of_getElem? (i := 981) (by decide +kernel), List.mem_of_getElem? (i := 982) (by decide +kernel)⟩
theorem lw_p44 : lw_okq (⟨"RainSharesModel", "mostInArrears", "()I"⟩, 20) := ⟨⟨by decide +kernel, by decide +kernel⟩, List.mem_of_getElem? (i := 735) (by decide +kernel), List.mem_of_getElem? (i := 985) (by decide +kernel), List.mem_of_getElem? (i := 986) (by decide +kernel)⟩
theorem lw_p45 : lw_okq (⟨"RainSharesModel", "fallsWhere", "(II)I"⟩, 20) := ⟨⟨by decide +kernel, by decide +kernel⟩, List.mem_of_getElem? (i := 735) (by decide +kernel), List.mem_of_getElem? (i := 989) (by decide +kernel), List.mem_of_getElem? (i := 990) (by decide +kernel)⟩
theorem lw_p46 : lw_okq (⟨"RainSharesModel", "all", "(I)I"⟩, 20) := ⟨⟨by decide +kernel, by decide +kernel⟩, List.mem_of_getElem? (i := 735) (by decide +kernel), List.mem_of_getElem? (i := 994) (by decide +kernel), List.mem_of_getElem? (i := 995) (by decide +kernel)⟩
theorem lw_p47 : lw_okq (⟨"RainSharesModel", "drawn", "()I"⟩, 20) := ⟨⟨by decide +kernel, by decide +kernel⟩, List.mem_of_getElem? (i := 735) (by decide +kernel), List.mem_of_getElem? (i := 1003) (by decide +kernel), List.mem_of_getElem? (i := 1004) (by decide +kernel)⟩
def lw_privs_3 : List (MethodName × Nat) := [(⟨"RainSharesModel", "textGives", "(IIII)I"⟩, 20), (⟨"RainSharesModel", "isRoof", "(I)Z"⟩, 20), (⟨"RainSharesModel", "of", "(II)I"⟩, 20), (⟨"RainSharesModel", "its", "(II)I"⟩, 20), (⟨"RainSharesModel", "areTwo", "(II)Z"⟩, 20), (⟨"RainSharesModel", "isCloud", "(I)Z"⟩, 20), (⟨"RainSharesModel", "lasts", "(I)I"⟩, 20), (⟨"RainSharesModel", "isSpent", "(I)Z"⟩, 20), (⟨"RainSharesModel", "fallsOn", "(II)I"⟩, 20), (⟨"RainSharesModel", "driftsTo", "(I)I"⟩, 20), (⟨"RainSharesModel", "daysGo", "(I)V"⟩, 20), (⟨"RainSharesModel", "dayGoes", "()V"⟩, 20), (⟨"RainSharesModel", "mostInArrears", "()I"⟩, 20), (⟨"RainSharesModel", "fallsWhere", "(II)I"⟩, 20), (⟨"RainSharesModel", "all", "(I)I"⟩, 20), (⟨"RainSharesModel", "drawn", "()I"⟩, 20)]
theorem lw_r3 : ∀ q ∈ lw_privs_3, lw_okq q := List.forall_mem_cons.mpr ⟨lw_p32, List.forall_mem_cons.mpr ⟨lw_p33, List.forall_mem_cons.mpr ⟨lw_p34, List.forall_mem_cons.mpr ⟨lw_p35, List.forall_mem_cons.mpr ⟨lw_p36, List.forall_mem_cons.mpr ⟨lw_p37, List.forall_mem_cons.mpr ⟨lw_p38, List.forall_mem_cons.mpr ⟨lw_p39, List.forall_mem_cons.mpr ⟨lw_p40, List.forall_mem_cons.mpr ⟨lw_p41, List.forall_mem_cons.mpr ⟨lw_p42, List.forall_mem_cons.mpr ⟨lw_p43, List.forall_mem_cons.mpr ⟨lw_p44, List.forall_mem_cons.mpr ⟨lw_p45, List.forall_mem_cons.mpr ⟨lw_p46, List.forall_mem_cons.mpr ⟨lw_p47, fun _ h => absurd h List.not_mem_nil⟩⟩⟩⟩⟩⟩⟩⟩⟩⟩⟩⟩⟩⟩⟩⟩
theorem lw_p48 : lw_okq (⟨"RainSharesModel", "clearsAll", "()I"⟩, 20) := ⟨⟨by decide +kernel, by decide +kernel⟩, List.mem_of_getElem? (i := 735) (by decide +kernel), List.mem_of_getElem? (i := 1012) (by decide +kernel), List.mem_of_getElem? (i := 1013) (by decide +kernel)⟩
theorem lw_p49 : lw_okq (⟨"RainSharesModel", "lessens", "(III)V"⟩, 20) := ⟨⟨by decide +kernel, by decide +kernel⟩, List.mem_of_getElem? (i := 735) (by decide +kernel), List.mem_of_getElem? (i := 1016) (by decide +kernel), List.mem_of_getElem? (i := 1017) (by decide +kernel)⟩
theorem lw_p50 : lw_okq (⟨"RainSharesModel", "keepAside", "()V"⟩, 20) := ⟨⟨by decide +kernel, by decide +kernel⟩, List.mem_of_getElem? (i := 735) (by decide +kernel), List.mem_of_getElem? (i := 1024) (by decide +kernel), List.mem_of_getElem? (i := 1025) (by decide +kernel)⟩
theorem lw_p51 : lw_okq (⟨"RainSharesModel", "putBack", "()V"⟩, 20) := ⟨⟨by decide +kernel, by decide +kernel⟩, List.mem_of_getElem? (i := 735) (by decide +kernel), List.mem_of_getElem? (i := 1028) (by decide +kernel), List.mem_of_getElem? (i := 1029) (by decide +kernel)⟩
theorem lw_p52 : lw_okq (⟨"RainSharesModel", "fewestLeft", "()I"⟩, 20) := ⟨⟨by decide +kernel, by decide +kernel⟩, List.mem_of_getElem? (i := 735) (by decide +kernel), List.mem_of_getElem? (i := 1053) (by decide +kernel), List.mem_of_getElem? (i := 1054) (by decide +kernel)⟩
theorem lw_p53 : lw_okq (⟨"RainSharesModel", "daysLeft", "(I)I"⟩, 20) := ⟨⟨by decide +kernel, by decide +kernel⟩, List.mem_of_getElem? (i := 735) (by decide +kernel), List.mem_of_getElem? (i := 1057) (by decide +kernel), List.mem_of_getElem? (i := 1058) (by decide +kernel)⟩
theorem lw_p54 : lw_okq (⟨"RainSharesModel", "rainsBy", "(II)I"⟩, 20) := ⟨⟨by decide +kernel, by decide +kernel⟩, List.mem_of_getElem? (i := 735) (by decide +kernel), List.mem_of_getElem? (i := 1085) (by decide +kernel), List.mem_of_getElem? (i := 1086) (by decide +kernel)⟩
theorem lw_p55 : lw_okq (⟨"RainSharesModel", "ran", "(I)V"⟩, 20) := ⟨⟨by decide +kernel, by decide +kernel⟩, List.mem_of_getElem? (i := 735) (by decide +kernel), List.mem_of_getElem? (i := 1089) (by decide +kernel), List.mem_of_getElem? (i := 1090) (by decide +kernel)⟩
theorem lw_p56 : lw_okq (⟨"RainSharesModel", "driftsBy", "(II)I"⟩, 20) := ⟨⟨by decide +kernel, by decide +kernel⟩, List.mem_of_getElem? (i := 735) (by decide +kernel), List.mem_of_getElem? (i := 1093) (by decide +kernel), List.mem_of_getElem? (i := 1094) (by decide +kernel)⟩
theorem lw_p57 : lw_okq (⟨"RainSharesModel", "wearsBy", "(II)I"⟩, 20) := ⟨⟨by decide +kernel, by decide +kernel⟩, List.mem_of_getElem? (i := 735) (by decide +kernel), List.mem_of_getElem? (i := 1097) (by decide +kernel), List.mem_of_getElem? (i := 1098) (by decide +kernel)⟩
theorem lw_p58 : lw_okq (⟨"RainSharesModel", "tellsBy", "(II)I"⟩, 20) := ⟨⟨by decide +kernel, by decide +kernel⟩, List.mem_of_getElem? (i := 735) (by decide +kernel), List.mem_of_getElem? (i := 1101) (by decide +kernel), List.mem_of_getElem? (i := 1102) (by decide +kernel)⟩
def lw_privs_4 : List (MethodName × Nat) := [(⟨"RainSharesModel", "clearsAll", "()I"⟩, 20), (⟨"RainSharesModel", "lessens", "(III)V"⟩, 20), (⟨"RainSharesModel", "keepAside", "()V"⟩, 20), (⟨"RainSharesModel", "putBack", "()V"⟩, 20), (⟨"RainSharesModel", "fewestLeft", "()I"⟩, 20), (⟨"RainSharesModel", "daysLeft", "(I)I"⟩, 20), (⟨"RainSharesModel", "rainsBy", "(II)I"⟩, 20), (⟨"RainSharesModel", "ran", "(I)V"⟩, 20), (⟨"RainSharesModel", "driftsBy", "(II)I"⟩, 20), (⟨"RainSharesModel", "wearsBy", "(II)I"⟩, 20), (⟨"RainSharesModel", "tellsBy", "(II)I"⟩, 20)]
theorem lw_r4 : ∀ q ∈ lw_privs_4, lw_okq q := List.forall_mem_cons.mpr ⟨lw_p48, List.forall_mem_cons.mpr ⟨lw_p49, List.forall_mem_cons.mpr ⟨lw_p50, List.forall_mem_cons.mpr ⟨lw_p51, List.forall_mem_cons.mpr ⟨lw_p52, List.forall_mem_cons.mpr ⟨lw_p53, List.forall_mem_cons.mpr ⟨lw_p54, List.forall_mem_cons.mpr ⟨lw_p55, List.forall_mem_cons.mpr ⟨lw_p56, List.forall_mem_cons.mpr ⟨lw_p57, List.forall_mem_cons.mpr ⟨lw_p58, fun _ h => absurd h List.not_mem_nil⟩⟩⟩⟩⟩⟩⟩⟩⟩⟩⟩
def lw_privs : List (MethodName × Nat) := lw_privs_1 ++ (lw_privs_2 ++ (lw_privs_3 ++ (lw_privs_4)))
def lw_tbl : List Cond := k2_sels lw_privs ++ tables_1
theorem lw_privs_ok : ∀ q ∈ lw_privs, lw_okq q := by
  show ∀ q ∈ lw_privs_1 ++ (lw_privs_2 ++ (lw_privs_3 ++ (lw_privs_4))), lw_okq q
  exact List.forall_mem_append.mpr ⟨lw_r1, List.forall_mem_append.mpr ⟨lw_r2, List.forall_mem_append.mpr ⟨lw_r3, lw_r4⟩⟩⟩
/-! ===== BEGIN words of one list among another's, by their places ===== -/
theorem goodIn_r {big : List Cond} (ws : List Cond) (ps : List Nat) (hp : ws = ps.filterMap (fun i => big[i]?)) (h : ws.all goodWord = true) : GoodIn big ws := by
  intro w hw
  have h1 := List.all_eq_true.mp h w hw
  rw [hp] at hw
  obtain ⟨i, -, hi⟩ := List.mem_filterMap.mp hw
  have hm : w ∈ big := by first | exact List.mem_of_getElem? hi | exact List.getElem?_mem hi
  exact ⟨hm, good_of_word h1⟩
theorem goodIn_app {big a b : List Cond} (ha : GoodIn big a) (hb : GoodIn big b) : GoodIn big (a ++ b) := fun w h => (List.mem_append.mp h).elim (ha w) (hb w)
theorem goodIn_ca {big a b : List Cond} {c : Cond} (ha : GoodIn big (c :: a)) (hb : GoodIn big b) : GoodIn big (c :: (a ++ b)) := fun w h => (List.mem_cons.mp h).elim (fun e => ha w (List.mem_cons.mpr (Or.inl e))) (fun h => (List.mem_append.mp h).elim (fun h => ha w (List.mem_cons.mpr (Or.inr h))) (hb w))
theorem goodIn_sub {big ws : List Cond} (hm : ∀ w ∈ ws, w ∈ big) (h : ws.all goodWord = true) : GoodIn big ws := fun w hw => ⟨hm w hw, good_of_word (List.all_eq_true.mp h w hw)⟩
/-! ===== END ===== -/

/-! ===== BEGIN new T[n][m]: the outer array a place, the inner ones among the pooled ===== -/
/-- f, but v at every address of l -/
def vr_up {α : Type} (f : Nat → α) (l : List Nat) (v : α) : Nat → α := fun a => if a ∈ l then v else f a
theorem vr_up_in {α : Type} {f : Nat → α} {l : List Nat} {v : α} {a : Nat} (h : a ∈ l) : vr_up f l v a = v := if_pos h
theorem vr_up_ne {α : Type} {f : Nat → α} {l : List Nat} {v : α} {a : Nat} (h : a ∉ l) : vr_up f l v a = f a := if_neg h
theorem vr_rows {L l : List Nat} {f : Nat → va_E} {e : va_E} (h : ∀ a, a ∈ l → a ∉ L) : va_pl L f ++ l.map (fun a => (a, e)) = va_pl (L ++ l) (vr_up f l e) := by
  unfold va_pl
  rw [List.map_append]
  congr 1
  · apply List.map_congr_left
    intro a ha
    rw [vr_up_ne (fun q => h a q ha)]
  · apply List.map_congr_left
    intro a ha
    rw [vr_up_in ha]
theorem vr_lay {X rows : va_W} {x : Nat × va_E} {pl : va_W} {D : va_G} {cl : List vw_C} {H : Heap} (hP : va_P D cl (((X ++ pl) ++ [x]) ++ rows) H) : va_P D cl ((X ++ [x]) ++ (pl ++ rows)) H := by
  rw [List.append_assoc (X ++ pl)] at hP
  have h := va_P.swap hP
  rw [← List.append_assoc X] at h
  have h2 := va_P.swap h
  rw [List.append_assoc (X ++ [x])] at h2
  exact h2
theorem vr_layD {X rows : va_W} {x : Nat × va_E} {pl : va_W} {A : Nat → Prop} (hD : va_D A (((X ++ pl) ++ [x]) ++ rows)) : va_D A ((X ++ [x]) ++ (pl ++ rows)) := by
  rw [List.append_assoc (X ++ pl)] at hD
  have h := va_D.swap hD
  rw [← List.append_assoc X] at h
  have h2 := va_D.swap h
  rw [List.append_assoc (X ++ [x])] at h2
  exact h2
theorem vr_outer (c : ClassId) (N h0 : Nat) : ∀ i : Nat, Jvm.Free.Multi.outerC c N h0 i = arrV c N (fun j => va_rf (if j < i then some (h0 + 1 + j) else none))
  | 0 => by
    show ({ cls := c, slots := Array.replicate N .null, vm := .none } : Cell) = _
    rw [arrV_new]
    refine congrArg (arrV c N) (funext fun j => ?_)
    simp [va_rf]
  | i + 1 => by
    show (Jvm.Free.Multi.outerC c N h0 i).setSlot i (.ref (h0 + 1 + i)) = _
    rw [vr_outer c N h0 i, arrV_store]
    refine congrArg (arrV c N) (funext fun j => ?_)
    by_cases e : j = i
    · subst e
      simp [updV, va_rf]
    · by_cases h : j < i
      · simp [updV, e, h, Nat.lt_succ_of_lt h]
      · simp [updV, e, h, show ¬ j < i + 1 by omega]
def va_AOA (ty : FieldType) (U : State) : Prop := (Cond.arrayOver (.array ty)).before #[] U = true
theorem va_AOA.use {ty : FieldType} {A : Array Value} {U : State} (h : va_AOA ty U) : (Cond.arrayOver (.array ty)).before A U = true := h
theorem va_AOA.of {ty : FieldType} {A : Array Value} {U : State} (h : (Cond.arrayOver (.array ty)).before A U = true) : va_AOA ty U := h
section VGM
variable {p : Program} {l : Launch} {e : Env} {R : Room} {s : State} {m : MethodId} {args : Array Value} {below : List Frame} {meth : Method} {c : Code} {H : Heap} {locs : List Loc} {cells slots : Nat} {Q : State → Prop}
variable {cc : ByteArray} {pc : Nat} {ls : Array Slot} {rest : List Value} {D : va_G} {cl : List vw_C} {A : Nat → Prop} {a : Nat} {tys : List (ClassId × FieldType)} {ws : va_W} {H0 : Heap}
theorem va_mna {X : va_W} {L : List Nat} {f : Nat → va_E} {cc : ByteArray} (hexec : p.tables.exec = Jvm.exec) (hb : c.code = cc) {own : String} {index : Nat} {ty : FieldType} {cy : ClassId} (hown : s.vm.findClass own = some m.cls) (hclink : (Cond.classLink own index ("[" ++ (FieldType.array ty).toString)).before args s = true) (hover : va_AOA ty s) (harr : (Cond.arrayClass ty).before args s = true) (hcy : s.vm.findClass (FieldType.array ty).toString = some cy)
    (hK : va_K D cl tys s) (hP : va_P D cl (X ++ va_pl L f) H) (hD : va_D A (X ++ va_pl L f)) (hS : va_S A H0 H locs) (hA : ∀ q, H0.size ≤ q → A q) {n k : Int32} {N' K' : Nat} {z : vp_A} (hn : ¬ n < 0) (hk : ¬ k < 0) (hN : n.toNatClampNeg = N') (hM : k.toNatClampNeg = K')
    (hb1 : N' * 4 ≤ 536870912) (hb2 : K' * componentBytes ty ≤ 536870912) (hb3 : K' ≤ 536870912) (hdf : fits ty (defaultValue ty) = true) (hdd : (defaultValue ty).isDefault = true) (hcells : cells + (1 + N') ≤ R.cells) (hslots : slots + (N' + N' * K') ≤ R.slots) (hz : ∀ c : ClassId, Jvm.Free.Multi.innerC c K' (defaultValue ty) = vp_cell c z) (hdg : decode cc pc = .ok (.multianewarray index 2, 4))
    (kk : ∀ (q : Nat) (r : Nat → Nat) (cA : ClassId) (H1 : Heap), (∀ i j : Nat, i < N' → j < N' → r i = r j → i = j) → (∀ i : Nat, i < N' → r i ∉ L) → va_K D cl (tys ++ [(cA, .array ty)]) s →
      va_P D cl ((X ++ [(q, .inl (cA, N', .inr (.inr (.inr (.inr (fun i => if i < N' then some (r i) else none))))))]) ++ va_pl (L ++ (List.range N').map r) (vr_up f ((List.range N').map r) (.inl (cy, z)))) H1 → va_D A ((X ++ [(q, .inl (cA, N', .inr (.inr (.inr (.inr (fun i => if i < N' then some (r i) else none))))))]) ++ va_pl (L ++ (List.range N').map r) (vr_up f ((List.range N').map r) (.inl (cy, z)))) → va_S A H0 H1 locs →
      W p l e R s m args below meth c H1 locs (cells + 1 + N') (slots + N' + N' * K') Q (F0 m (pc + 4) ls (.ref q :: rest))) : W p l e R s m args below meth c H locs cells slots Q (F0 m pc ls (.int k :: .int n :: rest)) := by
  subst hN
  subst hM
  intro T hT Xs
  obtain ⟨vm₁, cA, comp, -, fA, fC, hO, -, X', step⟩ := Xs.multianewarray2F hexec hown hclink (va_AOA.use hover) harr (g := F0 m pc ls (.int k :: .int n :: rest)) rfl (by rw [hb]; exact hdg) rfl hn hk hb1 hb2 hb3 hdf hdd hcells hslots
  have ec : some cy = some comp := hcy.symm.trans fC
  cases ec
  generalize hF : Jvm.Free.Multi.fill (T.setVm vm₁) cA cy n.toNatClampNeg k.toNatClampNeg (defaultValue ty) n.toNatClampNeg = F at X' step
  have hTh : (T.setVm vm₁).heap = H := hT
  obtain ⟨f1, f2, -, -⟩ := Jvm.Free.Multi.fill_facts (T.setVm vm₁) cA cy n.toNatClampNeg k.toNatClampNeg (defaultValue ty) n.toNatClampNeg
  rw [hF, hTh] at f1 f2
  have hold : ∀ x : Nat, x < H.size → F.heap[x]? = H[x]? := fun x hx => by
    have := Jvm.Free.Multi.fill_old (T.setVm vm₁) cA cy n.toNatClampNeg k.toNatClampNeg (defaultValue ty) (a := x) (by rw [hTh]; exact hx) n.toNatClampNeg
    rw [hF, hTh] at this
    exact this
  have hrow : ∀ j : Nat, j < n.toNatClampNeg → F.heap[H.size + 1 + j]? = some (vp_cell cy z) := fun j hj => by
    have := Jvm.Free.Multi.fill_inner (T.setVm vm₁) cA cy n.toNatClampNeg k.toNatClampNeg (defaultValue ty) n.toNatClampNeg j hj
    rw [hF, hTh, hz] at this
    exact this
  have hout : Jvm.Free.Multi.outerC cA n.toNatClampNeg H.size n.toNatClampNeg = vp_cell cA (n.toNatClampNeg, .inr (.inr (.inr (.inr (fun i => if i < n.toNatClampNeg then some (H.size + 1 + i) else none))))) := by
    rw [vp_cell_q]
    exact vr_outer cA n.toNatClampNeg H.size n.toNatClampNeg
  rw [hout] at f2
  have hlt : ∀ a, a ∈ L → a < H.size := fun a ha => by
    obtain ⟨k9, hk9⟩ := va_pl_get (X := X) (f := f) ha
    exact (hP k9 _ hk9).lt
  have hnl : ∀ i : Nat, i < n.toNatClampNeg → H.size + 1 + i ∉ L := fun i _ h => by
    have := hlt _ h
    omega
  have hnm : ∀ a, a ∈ (List.range n.toNatClampNeg).map (fun i => H.size + 1 + i) → a ∉ L := fun a ha h => by
    obtain ⟨i, -, rfl⟩ := List.mem_map.mp ha
    have := hlt _ h
    omega
  have hP0 : va_P D cl (X ++ va_pl L f) F.heap := hP.kept (fun k9 x hx => hold x.1 ((hP k9 x hx).lt))
  have hP1 : va_P D cl ((X ++ va_pl L f) ++ [(H.size, .inl (cA, n.toNatClampNeg, .inr (.inr (.inr (.inr (fun i => if i < n.toNatClampNeg then some (H.size + 1 + i) else none))))))]) F.heap := hP0.app (fun k9 x hx => by
    have h0 : k9 < 1 := (List.getElem?_eq_some_iff.mp hx).1
    rw [show k9 = 0 by omega] at hx
    cases hx
    exact f2)
  have hP2 : va_P D cl (((X ++ va_pl L f) ++ [(H.size, .inl (cA, n.toNatClampNeg, .inr (.inr (.inr (.inr (fun i => if i < n.toNatClampNeg then some (H.size + 1 + i) else none))))))]) ++ ((List.range n.toNatClampNeg).map (fun i => H.size + 1 + i)).map (fun a => (a, .inl (cy, z)))) F.heap := hP1.app (fun k9 x hx => by
    obtain ⟨a, ha, rfl⟩ := List.mem_map.mp (List.mem_of_getElem? hx)
    obtain ⟨i, hi, rfl⟩ := List.mem_map.mp ha
    exact hrow i (List.mem_range.mp hi))
  have hD2 : va_D A (((X ++ va_pl L f) ++ [(H.size, .inl (cA, n.toNatClampNeg, .inr (.inr (.inr (.inr (fun i => if i < n.toNatClampNeg then some (H.size + 1 + i) else none))))))]) ++ ((List.range n.toNatClampNeg).map (fun i => H.size + 1 + i)).map (fun a => (a, .inl (cy, z)))) := by
    have hD1 := hD.push (e := .inl (cA, n.toNatClampNeg, .inr (.inr (.inr (.inr (fun i => if i < n.toNatClampNeg then some (H.size + 1 + i) else none)))))) hP rfl (hA _ hS.1)
    generalize hW1 : (X ++ va_pl L f) ++ [(H.size, .inl (cA, n.toNatClampNeg, .inr (.inr (.inr (.inr (fun i => if i < n.toNatClampNeg then some (H.size + 1 + i) else none))))))] = W1 at hD1 hP1 ⊢
    have hle : ∀ (k9 : Nat) (x : Nat × va_E), W1[k9]? = some x → x.1 ≤ H.size := fun k9 x hx => by
      rw [← hW1] at hx
      by_cases hl : k9 < (X ++ va_pl L f).length
      · rw [List.getElem?_append_left hl] at hx
        exact Nat.le_of_lt ((hP k9 x hx).lt)
      · rw [List.getElem?_append_right (by omega)] at hx
        have h0 : k9 - (X ++ va_pl L f).length < 1 := (List.getElem?_eq_some_iff.mp hx).1
        rw [show k9 - (X ++ va_pl L f).length = 0 by omega] at hx
        cases hx
        exact Nat.le_refl _
    have hr : ∀ (k9 : Nat) (x : Nat × va_E), (((List.range n.toNatClampNeg).map (fun i => H.size + 1 + i)).map (fun a => ((a, .inl (cy, z)) : Nat × va_E)))[k9]? = some x → x.1 = H.size + 1 + k9 := fun k9 x hx => by
      rw [List.getElem?_map, List.getElem?_map] at hx
      by_cases h9 : k9 < n.toNatClampNeg
      · rw [List.getElem?_range h9] at hx
        cases hx
        rfl
      · have hn0 : (List.range n.toNatClampNeg)[k9]? = none := List.getElem?_eq_none (by rw [List.length_range]; omega)
        rw [hn0] at hx
        cases hx
    refine ⟨fun i j x y hi hj hxy => ?_, fun k9 x hx => ?_⟩
    · by_cases h1 : i < W1.length <;> by_cases h2 : j < W1.length
      · rw [List.getElem?_append_left h1] at hi
        rw [List.getElem?_append_left h2] at hj
        exact hD1.1 i j x y hi hj hxy
      · rw [List.getElem?_append_left h1] at hi
        rw [List.getElem?_append_right (by omega)] at hj
        have := hle _ _ hi
        have := hr _ _ hj
        omega
      · rw [List.getElem?_append_right (by omega)] at hi
        rw [List.getElem?_append_left h2] at hj
        have := hle _ _ hj
        have := hr _ _ hi
        omega
      · rw [List.getElem?_append_right (by omega)] at hi hj
        have := hr _ _ hi
        have := hr _ _ hj
        omega
    · by_cases h1 : k9 < W1.length
      · rw [List.getElem?_append_left h1] at hx
        exact hD1.2 k9 x hx
      · rw [List.getElem?_append_right (by omega)] at hx
        have := hr _ _ hx
        exact hA _ (by have := hS.1; omega)
  have hAr : ArrOfT s cA (.array ty) := fun N9 z9 => by
    obtain ⟨-, k9, hk9, cm9, hkk9⟩ := (hO 0 0 0).1
    exact ⟨(fun q hq => by cases hq), k9, hk9, cm9, hkk9⟩
  have hK2 : va_K D cl (tys ++ [(cA, .array ty)]) s := ⟨hK.1, fun k9 x hx => by
    by_cases hl : k9 < tys.length
    · rw [List.getElem?_append_left hl] at hx
      exact hK.2 k9 x hx
    · rw [List.getElem?_append_right (by omega)] at hx
      have h0 : k9 - tys.length < 1 := (List.getElem?_eq_some_iff.mp hx).1
      rw [show k9 - tys.length = 0 by omega] at hx
      cases hx
      exact ⟨hAr, fA⟩⟩
  obtain ⟨t, a1, b1⟩ := kk H.size (fun i => H.size + 1 + i) cA F.heap (fun i j _ _ h => by have h9 : H.size + 1 + i = H.size + 1 + j := h; omega) hnl hK2 (by rw [← vr_rows hnm]; exact vr_lay hP2) (by rw [← vr_rows hnm]; exact vr_layD hD2) ⟨by rw [f1]; have := hS.1; omega, fun x h1 h2 => (hold x (Nat.lt_of_lt_of_le h1 hS.1)).trans (hS.2.1 x h1 h2), hS.2.2⟩ F rfl X'
  refine ⟨t, step t ?_, b1⟩
  have e : T.heap.size = H.size := by rw [hT]
  rw [e]
  exact a1
end VGM
/-! ===== END ===== -/

def RX0 : String := "RainShares$Clouds"
def TX0 : u_T := fun k => match k with
  | 0 => ("RainShares$Clouds", "many", "I", false)
  | 1 => ("RainShares$Clouds", "kind", "[I", true)
  | 2 => ("RainShares$Clouds", "m", "[I", true)
  | 3 => ("RainShares$Clouds", "over", "[I", true)
  | _ => ("RainShares$Clouds", "wear", "[I", true)
def tyX0 : Nat → FieldType := fun k => match k with
  | 0 => .int
  | 1 => .array .int
  | 2 => .array .int
  | 3 => .array .int
  | _ => .array .int
abbrev wsX00 : List Cond := u_ws RX0 TX0 5
theorem nmX0 : ∀ a, a < 5 → ∀ b, b < 5 → a ≠ b → (TX0 a).2.1 ≠ (TX0 b).2.1 := by decide +kernel
theorem tyX0_ok : ∀ k, k < 5 → parseFieldDescriptor (TX0 k).2.2.1 = some (tyX0 k) := by decide +kernel
abbrev cX0_init : ByteArray := prog_2_method_1_code
def yX0_init : MethodName := ⟨RX0, "<init>", "()V"⟩
abbrev cX0_copyFrom : ByteArray := prog_2_method_2_code
def yX0_copyFrom : MethodName := ⟨RX0, "copyFrom", "(LRainShares$Clouds;)V"⟩
abbrev cX0_add : ByteArray := prog_2_method_3_code
def yX0_add : MethodName := ⟨RX0, "add", "(II)I"⟩
abbrev cX0_setKind : ByteArray := prog_2_method_4_code
def yX0_setKind : MethodName := ⟨RX0, "setKind", "(II)V"⟩
abbrev cX0_has : ByteArray := prog_2_method_5_code
def yX0_has : MethodName := ⟨RX0, "has", "(I)Z"⟩
abbrev cX0_isOf : ByteArray := prog_2_method_6_code
def yX0_isOf : MethodName := ⟨RX0, "isOf", "(II)Z"⟩
abbrev cX0_lasting : ByteArray := prog_2_method_7_code
def yX0_lasting : MethodName := ⟨RX0, "lasting", "(I)I"⟩
abbrev cX0_isSpent : ByteArray := prog_2_method_8_code
def yX0_isSpent : MethodName := ⟨RX0, "isSpent", "(I)Z"⟩
abbrev cX0_spentMany : ByteArray := prog_2_method_9_code
def yX0_spentMany : MethodName := ⟨RX0, "spentMany", "()I"⟩
abbrev cX0_setOver : ByteArray := prog_2_method_10_code
def yX0_setOver : MethodName := ⟨RX0, "setOver", "(I)I"⟩
abbrev cX0_daysLeft : ByteArray := prog_2_method_11_code
def yX0_daysLeft : MethodName := ⟨RX0, "daysLeft", "(I)I"⟩
abbrev cX0_weakest : ByteArray := prog_2_method_12_code
def yX0_weakest : MethodName := ⟨RX0, "weakest", "()I"⟩
def RX1 : String := "RainShares$Law"
def TX1 : u_T := fun k => match k with
  | 0 => ("RainShares$Law", "without", "I", true)
  | 1 => ("RainShares$Law", "most", "I", true)
  | 2 => ("RainShares$Law", "code", "[I", true)
  | 3 => ("RainShares$Law", "size", "I", false)
  | _ => ("RainShares$Law", "stack", "[I", true)
def tyX1 : Nat → FieldType := fun k => match k with
  | 0 => .int
  | 1 => .int
  | 2 => .array .int
  | 3 => .int
  | _ => .array .int
abbrev wsX10 : List Cond := u_ws RX1 TX1 5
theorem nmX1 : ∀ a, a < 5 → ∀ b, b < 5 → a ≠ b → (TX1 a).2.1 ≠ (TX1 b).2.1 := by decide +kernel
theorem tyX1_ok : ∀ k, k < 5 → parseFieldDescriptor (TX1 k).2.2.1 = some (tyX1 k) := by decide +kernel
abbrev cX1_init : ByteArray := prog_3_method_1_code
def yX1_init : MethodName := ⟨RX1, "<init>", "(II)V"⟩
abbrev cX1_take : ByteArray := prog_3_method_2_code
def yX1_take : MethodName := ⟨RX1, "take", "([II)V"⟩
abbrev cX1_given : ByteArray := prog_3_method_3_code
def yX1_given : MethodName := ⟨RX1, "given", "(III)I"⟩
abbrev cX1_join : ByteArray := prog_3_method_4_code
def yX1_join : MethodName := ⟨RX1, "join", "(III)I"⟩
def RX2 : String := "RainShares$Reader"
def TX2 : u_T := fun k => match k with
  | 0 => ("RainShares$Reader", "code", "[I", true)
  | 1 => ("RainShares$Reader", "size", "I", false)
  | 2 => ("RainShares$Reader", "tape", "[I", true)
  | 3 => ("RainShares$Reader", "end", "I", false)
  | 4 => ("RainShares$Reader", "at", "I", false)
  | 5 => ("RainShares$Reader", "use", "I", false)
  | _ => ("RainShares$Reader", "stuck", "Z", false)
def tyX2 : Nat → FieldType := fun k => match k with
  | 0 => .array .int
  | 1 => .int
  | 2 => .array .int
  | 3 => .int
  | 4 => .int
  | 5 => .int
  | _ => .boolean
abbrev wsX20 : List Cond := u_ws RX2 TX2 7
theorem nmX2 : ∀ a, a < 7 → ∀ b, b < 7 → a ≠ b → (TX2 a).2.1 ≠ (TX2 b).2.1 := by decide +kernel
theorem tyX2_ok : ∀ k, k < 7 → parseFieldDescriptor (TX2 k).2.2.1 = some (tyX2 k) := by decide +kernel
abbrev cX2_init : ByteArray := prog_4_method_1_code
def yX2_init : MethodName := ⟨RX2, "<init>", "()V"⟩
abbrev cX2_read : ByteArray := prog_4_method_2_code
def yX2_read : MethodName := ⟨RX2, "read", "([III)I"⟩
abbrev cX2_readJoined : ByteArray := prog_4_method_3_code
def yX2_readJoined : MethodName := ⟨RX2, "readJoined", "(II)V"⟩
abbrev cX2_readSingle : ByteArray := prog_4_method_4_code
def yX2_readSingle : MethodName := ⟨RX2, "readSingle", "(I)V"⟩
abbrev cX2_readClosing : ByteArray := prog_4_method_5_code
def yX2_readClosing : MethodName := ⟨RX2, "readClosing", "()V"⟩
abbrev cX2_readNumber : ByteArray := prog_4_method_6_code
def yX2_readNumber : MethodName := ⟨RX2, "readNumber", "()V"⟩
abbrev cX2_next : ByteArray := prog_4_method_7_code
def yX2_next : MethodName := ⟨RX2, "next", "()I"⟩
abbrev cX2_write : ByteArray := prog_4_method_8_code
def yX2_write : MethodName := ⟨RX2, "write", "(I)V"⟩
abbrev cX2_isDigit : ByteArray := prog_4_method_9_code
def yX2_isDigit : MethodName := ⟨RX2, "isDigit", "(I)Z"⟩
abbrev cX2_nameOf : ByteArray := prog_4_method_10_code
def yX2_nameOf : MethodName := ⟨RX2, "nameOf", "(I)I"⟩
abbrev cX2_joins : ByteArray := prog_4_method_11_code
def yX2_joins : MethodName := ⟨RX2, "joins", "(II)Z"⟩
def RX3 : String := "RainShares$Roofs"
def TX3 : u_T := fun k => match k with
  | 0 => ("RainShares$Roofs", "many", "I", false)
  | 1 => ("RainShares$Roofs", "shares", "[I", true)
  | 2 => ("RainShares$Roofs", "arrears", "[I", true)
  | 3 => ("RainShares$Roofs", "got", "[I", true)
  | 4 => ("RainShares$Roofs", "rank", "[I", true)
  | _ => ("RainShares$Roofs", "owed", "[[I", true)
def tyX3 : Nat → FieldType := fun k => match k with
  | 0 => .int
  | 1 => .array .int
  | 2 => .array .int
  | 3 => .array .int
  | 4 => .array .int
  | _ => .array (.array .int)
abbrev wsX30 : List Cond := u_ws RX3 TX3 6
theorem nmX3 : ∀ a, a < 6 → ∀ b, b < 6 → a ≠ b → (TX3 a).2.1 ≠ (TX3 b).2.1 := by decide +kernel
theorem tyX3_ok : ∀ k, k < 6 → parseFieldDescriptor (TX3 k).2.2.1 = some (tyX3 k) := by decide +kernel
abbrev cX3_init : ByteArray := prog_5_method_1_code
def yX3_init : MethodName := ⟨RX3, "<init>", "()V"⟩
abbrev cX3_copyFrom : ByteArray := prog_5_method_2_code
def yX3_copyFrom : MethodName := ⟨RX3, "copyFrom", "(LRainShares$Roofs;)V"⟩
abbrev cX3_add : ByteArray := prog_5_method_3_code
def yX3_add : MethodName := ⟨RX3, "add", "(I)I"⟩
abbrev cX3_has : ByteArray := prog_5_method_4_code
def yX3_has : MethodName := ⟨RX3, "has", "(I)Z"⟩
abbrev cX3_areTwo : ByteArray := prog_5_method_5_code
def yX3_areTwo : MethodName := ⟨RX3, "areTwo", "(II)Z"⟩
abbrev cX3_sum : ByteArray := prog_5_method_6_code
def yX3_sum : MethodName := ⟨RX3, "sum", "([I)I"⟩
abbrev cX3_sumOver : ByteArray := prog_5_method_7_code
def yX3_sumOver : MethodName := ⟨RX3, "sumOver", "(I[I)I"⟩
abbrev cX3_owedToAll : ByteArray := prog_5_method_8_code
def yX3_owedToAll : MethodName := ⟨RX3, "owedToAll", "(I)I"⟩
abbrev cX3_mostInArrears : ByteArray := prog_5_method_9_code
def yX3_mostInArrears : MethodName := ⟨RX3, "mostInArrears", "()I"⟩
abbrev cX3_bestSellers : ByteArray := prog_5_method_10_code
def yX3_bestSellers : MethodName := ⟨RX3, "bestSellers", "(I)I"⟩
abbrev cX3_sellsRather : ByteArray := prog_5_method_11_code
def yX3_sellsRather : MethodName := ⟨RX3, "sellsRather", "(II)Z"⟩
abbrev cX3_tradingPairs : ByteArray := prog_5_method_12_code
def yX3_tradingPairs : MethodName := ⟨RX3, "tradingPairs", "()I"⟩
abbrev cX3_clearDebts : ByteArray := prog_5_method_13_code
def yX3_clearDebts : MethodName := ⟨RX3, "clearDebts", "()I"⟩
abbrev cX3_clearPair : ByteArray := prog_5_method_14_code
def yX3_clearPair : MethodName := ⟨RX3, "clearPair", "(II)I"⟩
abbrev cX3_clearRing : ByteArray := prog_5_method_15_code
def yX3_clearRing : MethodName := ⟨RX3, "clearRing", "(III)I"⟩
def RX4 : String := "RainShares$Sheet"
def TX4 : u_T := fun k => match k with
  | 0 => ("RainShares$Sheet", "bits", "I", false)
  | 1 => ("RainShares$Sheet", "size", "I", false)
  | _ => ("RainShares$Sheet", "numbers", "[I", true)
def tyX4 : Nat → FieldType := fun k => match k with
  | 0 => .int
  | 1 => .int
  | _ => .array .int
abbrev wsX40 : List Cond := u_ws RX4 TX4 3
theorem nmX4 : ∀ a, a < 3 → ∀ b, b < 3 → a ≠ b → (TX4 a).2.1 ≠ (TX4 b).2.1 := by decide +kernel
theorem tyX4_ok : ∀ k, k < 3 → parseFieldDescriptor (TX4 k).2.2.1 = some (tyX4 k) := by decide +kernel
abbrev cX4_init : ByteArray := prog_6_method_1_code
def yX4_init : MethodName := ⟨RX4, "<init>", "()V"⟩
abbrev cX4_isMissing : ByteArray := prog_6_method_2_code
def yX4_isMissing : MethodName := ⟨RX4, "isMissing", "()Z"⟩
abbrev cX4_lay : ByteArray := prog_6_method_3_code
def yX4_lay : MethodName := ⟨RX4, "lay", "(II)V"⟩
abbrev cX4_cutToBits : ByteArray := prog_6_method_4_code
def yX4_cutToBits : MethodName := ⟨RX4, "cutToBits", "(I)I"⟩
abbrev cX4_holds : ByteArray := prog_6_method_5_code
def yX4_holds : MethodName := ⟨RX4, "holds", "(II)Z"⟩
def RX5 : String := "RainShares$Valley"
def TX5 : u_T := fun k => match k with
  | 0 => ("RainShares$Valley", "roofs", "LRainShares$Roofs;", true)
  | 1 => ("RainShares$Valley", "clouds", "LRainShares$Clouds;", true)
  | 2 => ("RainShares$Valley", "laws", "[LRainShares$Law;", true)
  | 3 => ("RainShares$Valley", "day", "I", false)
  | 4 => ("RainShares$Valley", "z", "I", false)
  | 5 => ("RainShares$Valley", "tape", "[I", true)
  | 6 => ("RainShares$Valley", "tapeBytes", "I", false)
  | 7 => ("RainShares$Valley", "waiting", "[I", true)
  | 8 => ("RainShares$Valley", "waitingMany", "I", false)
  | 9 => ("RainShares$Valley", "fallen", "[I", true)
  | 10 => ("RainShares$Valley", "onto", "[I", true)
  | _ => ("RainShares$Valley", "drops", "[I", true)
def tyX5 : Nat → FieldType := fun k => match k with
  | 0 => .object "RainShares$Roofs"
  | 1 => .object "RainShares$Clouds"
  | 2 => .array (.object "RainShares$Law")
  | 3 => .int
  | 4 => .int
  | 5 => .array .int
  | 6 => .int
  | 7 => .array .int
  | 8 => .int
  | 9 => .array .int
  | 10 => .array .int
  | _ => .array .int
abbrev wsX50 : List Cond := u_ws RX5 TX5 12
theorem nmX5 : ∀ a, a < 12 → ∀ b, b < 12 → a ≠ b → (TX5 a).2.1 ≠ (TX5 b).2.1 := by decide +kernel
theorem tyX5_ok : ∀ k, k < 12 → parseFieldDescriptor (TX5 k).2.2.1 = some (tyX5 k) := by decide +kernel
abbrev cX5_init : ByteArray := prog_7_method_1_code
def yX5_init : MethodName := ⟨RX5, "<init>", "()V"⟩
abbrev cX5_copyFrom : ByteArray := prog_7_method_2_code
def yX5_copyFrom : MethodName := ⟨RX5, "copyFrom", "(LRainShares$Valley;)V"⟩
abbrev cX5_dropsOn : ByteArray := prog_7_method_3_code
def yX5_dropsOn : MethodName := ⟨RX5, "dropsOn", "(II)I"⟩
abbrev cX5_nextOver : ByteArray := prog_7_method_4_code
def yX5_nextOver : MethodName := ⟨RX5, "nextOver", "(I)I"⟩
abbrev cX5_passDays : ByteArray := prog_7_method_5_code
def yX5_passDays : MethodName := ⟨RX5, "passDays", "(I)V"⟩
abbrev cX5_aim : ByteArray := prog_7_method_6_code
def yX5_aim : MethodName := ⟨RX5, "aim", "()V"⟩
abbrev cX5_rain : ByteArray := prog_7_method_7_code
def yX5_rain : MethodName := ⟨RX5, "rain", "()V"⟩
abbrev cX5_charge : ByteArray := prog_7_method_8_code
def yX5_charge : MethodName := ⟨RX5, "charge", "()V"⟩
abbrev cX5_drift : ByteArray := prog_7_method_9_code
def yX5_drift : MethodName := ⟨RX5, "drift", "()V"⟩
abbrev cX5_wouldGive : ByteArray := prog_7_method_10_code
def yX5_wouldGive : MethodName := ⟨RX5, "wouldGive", "(I[I)Z"⟩
abbrev cX5_scatter : ByteArray := prog_7_method_11_code
def yX5_scatter : MethodName := ⟨RX5, "scatter", "()V"⟩
abbrev cX5_draw : ByteArray := prog_7_method_12_code
def yX5_draw : MethodName := ⟨RX5, "draw", "()I"⟩
abbrev cX5_rest : ByteArray := prog_7_method_13_code
def yX5_rest : MethodName := ⟨RX5, "rest", "(II)I"⟩
def RX6 : String := "RainShares$Voices"
def TX6 : u_T := fun k => match k with
  | 0 => ("RainShares$Voices", "bodies", "[I", true)
  | 1 => ("RainShares$Voices", "traced", "I", false)
  | 2 => ("RainShares$Voices", "kind", "I", false)
  | 3 => ("RainShares$Voices", "n", "I", false)
  | _ => ("RainShares$Voices", "m", "I", false)
def tyX6 : Nat → FieldType := fun k => match k with
  | 0 => .array .int
  | 1 => .int
  | 2 => .int
  | 3 => .int
  | _ => .int
abbrev wsX60 : List Cond := u_ws RX6 TX6 5
theorem nmX6 : ∀ a, a < 5 → ∀ b, b < 5 → a ≠ b → (TX6 a).2.1 ≠ (TX6 b).2.1 := by decide +kernel
theorem tyX6_ok : ∀ k, k < 5 → parseFieldDescriptor (TX6 k).2.2.1 = some (tyX6 k) := by decide +kernel
abbrev cX6_init : ByteArray := prog_8_method_1_code
def yX6_init : MethodName := ⟨RX6, "<init>", "()V"⟩
abbrev cX6_answer : ByteArray := prog_8_method_2_code
def yX6_answer : MethodName := ⟨RX6, "answer", "(IIIII)I"⟩
abbrev cX6_say : ByteArray := prog_8_method_3_code
def yX6_say : MethodName := ⟨RX6, "say", "(IIII)I"⟩
abbrev cX6_sayBody : ByteArray := prog_8_method_4_code
def yX6_sayBody : MethodName := ⟨RX6, "sayBody", "(IIII)I"⟩
abbrev cX6_note : ByteArray := prog_8_method_5_code
def yX6_note : MethodName := ⟨RX6, "note", "(I)V"⟩
def RX7 : String := "RainShares"
def TX7 : u_T := fun k => match k with
  | 0 => ("RainShares", "now", "LRainShares$Valley;", true)
  | 1 => ("RainShares", "thought", "LRainShares$Valley;", true)
  | 2 => ("RainShares", "kept", "LRainShares$Valley;", true)
  | 3 => ("RainShares", "images", "I", false)
  | 4 => ("RainShares", "reader", "LRainShares$Reader;", true)
  | 5 => ("RainShares", "voices", "LRainShares$Voices;", true)
  | 6 => ("RainShares", "sheets", "[LRainShares$Sheet;", true)
  | _ => ("RainShares", "errors", "[I", true)
def tyX7 : Nat → FieldType := fun k => match k with
  | 0 => .object "RainShares$Valley"
  | 1 => .object "RainShares$Valley"
  | 2 => .object "RainShares$Valley"
  | 3 => .int
  | 4 => .object "RainShares$Reader"
  | 5 => .object "RainShares$Voices"
  | 6 => .array (.object "RainShares$Sheet")
  | _ => .array .int
abbrev wsX70 : List Cond := u_ws RX7 TX7 8
theorem nmX7 : ∀ a, a < 8 → ∀ b, b < 8 → a ≠ b → (TX7 a).2.1 ≠ (TX7 b).2.1 := by decide +kernel
theorem tyX7_ok : ∀ k, k < 8 → parseFieldDescriptor (TX7 k).2.2.1 = some (tyX7 k) := by decide +kernel
abbrev cX7_init : ByteArray := prog_1_method_1_code
def yX7_init : MethodName := ⟨RX7, "<init>", "()V"⟩
abbrev cX7_roof : ByteArray := prog_1_method_2_code
def yX7_roof : MethodName := ⟨RX7, "roof", "(I)I"⟩
abbrev cX7_ofRoof : ByteArray := prog_1_method_3_code
def yX7_ofRoof : MethodName := ⟨RX7, "ofRoof", "(II)I"⟩
abbrev cX7_change : ByteArray := prog_1_method_4_code
def yX7_change : MethodName := ⟨RX7, "change", "(III)I"⟩
abbrev cX7_owe : ByteArray := prog_1_method_5_code
def yX7_owe : MethodName := ⟨RX7, "owe", "(III)I"⟩
abbrev cX7_owed : ByteArray := prog_1_method_6_code
def yX7_owed : MethodName := ⟨RX7, "owed", "(II)I"⟩
abbrev cX7_pay : ByteArray := prog_1_method_7_code
def yX7_pay : MethodName := ⟨RX7, "pay", "(II)I"⟩
abbrev cX7_sell : ByteArray := prog_1_method_8_code
def yX7_sell : MethodName := ⟨RX7, "sell", "(III)I"⟩
abbrev cX7_cloud : ByteArray := prog_1_method_9_code
def yX7_cloud : MethodName := ⟨RX7, "cloud", "(II)I"⟩
abbrev cX7_ofCloud : ByteArray := prog_1_method_10_code
def yX7_ofCloud : MethodName := ⟨RX7, "ofCloud", "(II)I"⟩
abbrev cX7_become : ByteArray := prog_1_method_11_code
def yX7_become : MethodName := ⟨RX7, "become", "(II)I"⟩
abbrev cX7_as : ByteArray := prog_1_method_12_code
def yX7_as : MethodName := ⟨RX7, "as", "(II)I"⟩
abbrev cX7_lead : ByteArray := prog_1_method_13_code
def yX7_lead : MethodName := ⟨RX7, "lead", "(III)I"⟩
abbrev cX7_feed : ByteArray := prog_1_method_14_code
def yX7_feed : MethodName := ⟨RX7, "feed", "(JI)I"⟩
abbrev cX7_text : ByteArray := prog_1_method_15_code
def yX7_text : MethodName := ⟨RX7, "text", "(I)I"⟩
abbrev cX7_law : ByteArray := prog_1_method_16_code
def yX7_law : MethodName := ⟨RX7, "law", "(IIII)I"⟩
abbrev cX7_days : ByteArray := prog_1_method_17_code
def yX7_days : MethodName := ⟨RX7, "days", "(I)I"⟩
abbrev cX7_loose : ByteArray := prog_1_method_18_code
def yX7_loose : MethodName := ⟨RX7, "loose", "(I)I"⟩
abbrev cX7_clear : ByteArray := prog_1_method_19_code
def yX7_clear : MethodName := ⟨RX7, "clear", "()I"⟩
abbrev cX7_then : ByteArray := prog_1_method_20_code
def yX7_then : MethodName := ⟨RX7, "then", "(III)I"⟩
abbrev cX7_drought : ByteArray := prog_1_method_21_code
def yX7_drought : MethodName := ⟨RX7, "drought", "(II)I"⟩
abbrev cX7_when : ByteArray := prog_1_method_22_code
def yX7_when : MethodName := ⟨RX7, "when", "(II)I"⟩
abbrev cX7_sellers : ByteArray := prog_1_method_23_code
def yX7_sellers : MethodName := ⟨RX7, "sellers", "(II)I"⟩
abbrev cX7_clears : ByteArray := prog_1_method_24_code
def yX7_clears : MethodName := ⟨RX7, "clears", "()I"⟩
abbrev cX7_patches : ByteArray := prog_1_method_25_code
def yX7_patches : MethodName := ⟨RX7, "patches", "(I)I"⟩
abbrev cX7_trades : ByteArray := prog_1_method_26_code
def yX7_trades : MethodName := ⟨RX7, "trades", "()I"⟩
abbrev cX7_fell : ByteArray := prog_1_method_27_code
def yX7_fell : MethodName := ⟨RX7, "fell", "(II)I"⟩
abbrev cX7_gains : ByteArray := prog_1_method_28_code
def yX7_gains : MethodName := ⟨RX7, "gains", "(III)I"⟩
abbrev cX7_seed : ByteArray := prog_1_method_29_code
def yX7_seed : MethodName := ⟨RX7, "seed", "(I)I"⟩
abbrev cX7_voice : ByteArray := prog_1_method_30_code
def yX7_voice : MethodName := ⟨RX7, "voice", "(III)I"⟩
abbrev cX7_trace : ByteArray := prog_1_method_31_code
def yX7_trace : MethodName := ⟨RX7, "trace", "(I)I"⟩
abbrev cX7_sheet : ByteArray := prog_1_method_32_code
def yX7_sheet : MethodName := ⟨RX7, "sheet", "(III)I"⟩
abbrev cX7_put : ByteArray := prog_1_method_33_code
def yX7_put : MethodName := ⟨RX7, "put", "(III)I"⟩
abbrev cX7_move : ByteArray := prog_1_method_34_code
def yX7_move : MethodName := ⟨RX7, "move", "(IIIII)I"⟩
abbrev cX7_shares : ByteArray := prog_1_method_35_code
def yX7_shares : MethodName := ⟨RX7, "shares", "(I)I"⟩
abbrev cX7_judge : ByteArray := prog_1_method_36_code
def yX7_judge : MethodName := ⟨RX7, "judge", "(I)I"⟩
abbrev cX7_image : ByteArray := prog_1_method_37_code
def yX7_image : MethodName := ⟨RX7, "image", "()I"⟩
abbrev cX7_restore : ByteArray := prog_1_method_38_code
def yX7_restore : MethodName := ⟨RX7, "restore", "()I"⟩
abbrev cX7_tell : ByteArray := prog_1_method_39_code
def yX7_tell : MethodName := ⟨RX7, "tell", "(I)I"⟩
abbrev cX7_check : ByteArray := prog_1_method_40_code
def yX7_check : MethodName := ⟨RX7, "check", "()I"⟩
abbrev cX7_count : ByteArray := prog_1_method_41_code
def yX7_count : MethodName := ⟨RX7, "count", "(I)I"⟩
abbrev cX7_told : ByteArray := prog_1_method_42_code
def yX7_told : MethodName := ⟨RX7, "told", "(I)I"⟩
abbrev cX7_within : ByteArray := prog_1_method_43_code
def yX7_within : MethodName := ⟨RX7, "within", "(III)Z"⟩
abbrev cX7_isKindAndM : ByteArray := prog_1_method_44_code
def yX7_isKindAndM : MethodName := ⟨RX7, "isKindAndM", "(I)Z"⟩
abbrev cX7_isSheet : ByteArray := prog_1_method_45_code
def yX7_isSheet : MethodName := ⟨RX7, "isSheet", "(I)Z"⟩
abbrev cX7_error : ByteArray := prog_1_method_46_code
def yX7_error : MethodName := ⟨RX7, "error", "(I)I"⟩
abbrev cX7_replace : ByteArray := prog_1_method_47_code
def yX7_replace : MethodName := ⟨RX7, "replace", "([IIII)I"⟩
abbrev cX7_arrearsBehind : ByteArray := prog_1_method_48_code
def yX7_arrearsBehind : MethodName := ⟨RX7, "arrearsBehind", "(III)I"⟩
def RX8 : String := "RainSharesModel"
def TX8 : u_T := fun k => match k with
  | 0 => ("RainSharesModel", "d", "[I", true)
  | 1 => ("RainSharesModel", "kept", "[I", true)
  | 2 => ("RainSharesModel", "images", "I", false)
  | 3 => ("RainSharesModel", "found", "[I", true)
  | 4 => ("RainSharesModel", "aside", "[I", true)
  | 5 => ("RainSharesModel", "base", "I", false)
  | 6 => ("RainSharesModel", "at", "I", false)
  | 7 => ("RainSharesModel", "size", "I", false)
  | 8 => ("RainSharesModel", "fault", "I", false)
  | 9 => ("RainSharesModel", "opened", "I", false)
  | 10 => ("RainSharesModel", "isPrice", "Z", false)
  | 11 => ("RainSharesModel", "names", "[I", true)
  | 12 => ("RainSharesModel", "fallen", "[I", true)
  | 13 => ("RainSharesModel", "traced", "[I", true)
  | 14 => ("RainSharesModel", "traceMany", "I", false)
  | 15 => ("RainSharesModel", "who", "I", false)
  | 16 => ("RainSharesModel", "bitsOf", "[I", true)
  | 17 => ("RainSharesModel", "sizeOf", "[I", true)
  | 18 => ("RainSharesModel", "number", "[I", true)
  | _ => ("RainSharesModel", "lifted", "[I", true)
def tyX8 : Nat → FieldType := fun k => match k with
  | 0 => .array .int
  | 1 => .array .int
  | 2 => .int
  | 3 => .array .int
  | 4 => .array .int
  | 5 => .int
  | 6 => .int
  | 7 => .int
  | 8 => .int
  | 9 => .int
  | 10 => .boolean
  | 11 => .array .int
  | 12 => .array .int
  | 13 => .array .int
  | 14 => .int
  | 15 => .int
  | 16 => .array .int
  | 17 => .array .int
  | 18 => .array .int
  | _ => .array .int
abbrev wsX80 : List Cond := u_ws RX8 TX8 20
theorem nmX8 : ∀ a, a < 20 → ∀ b, b < 20 → a ≠ b → (TX8 a).2.1 ≠ (TX8 b).2.1 := by decide +kernel
theorem tyX8_ok : ∀ k, k < 20 → parseFieldDescriptor (TX8 k).2.2.1 = some (tyX8 k) := by decide +kernel
abbrev cX8_init : ByteArray := prog_10_method_1_code
def yX8_init : MethodName := ⟨RX8, "<init>", "()V"⟩
abbrev cX8_finds : ByteArray := prog_10_method_3_code
def yX8_finds : MethodName := ⟨RX8, "finds", "(I)I"⟩
abbrev cX8_in : ByteArray := prog_10_method_4_code
def yX8_in : MethodName := ⟨RX8, "in", "(JJJ)Z"⟩
abbrev cX8_held : ByteArray := prog_10_method_5_code
def yX8_held : MethodName := ⟨RX8, "held", "(III)I"⟩
abbrev cX8_isRoof : ByteArray := prog_10_method_6_code
def yX8_isRoof : MethodName := ⟨RX8, "isRoof", "(I)Z"⟩
abbrev cX8_isCloud : ByteArray := prog_10_method_7_code
def yX8_isCloud : MethodName := ⟨RX8, "isCloud", "(I)Z"⟩
abbrev cX8_its : ByteArray := prog_10_method_8_code
def yX8_its : MethodName := ⟨RX8, "its", "(II)I"⟩
abbrev cX8_of : ByteArray := prog_10_method_9_code
def yX8_of : MethodName := ⟨RX8, "of", "(II)I"⟩
abbrev cX8_keepAside : ByteArray := prog_10_method_10_code
def yX8_keepAside : MethodName := ⟨RX8, "keepAside", "()V"⟩
abbrev cX8_putBack : ByteArray := prog_10_method_11_code
def yX8_putBack : MethodName := ⟨RX8, "putBack", "()V"⟩
abbrev cX8_here : ByteArray := prog_10_method_12_code
def yX8_here : MethodName := ⟨RX8, "here", "()I"⟩
abbrev cX8_wrong : ByteArray := prog_10_method_13_code
def yX8_wrong : MethodName := ⟨RX8, "wrong", "()I"⟩
abbrev cX8_takes : ByteArray := prog_10_method_14_code
def yX8_takes : MethodName := ⟨RX8, "takes", "(I)Z"⟩
abbrev cX8_nameOf : ByteArray := prog_10_method_15_code
def yX8_nameOf : MethodName := ⟨RX8, "nameOf", "(I)I"⟩
abbrev cX8_either : ByteArray := prog_10_method_16_code
def yX8_either : MethodName := ⟨RX8, "either", "()I"⟩
abbrev cX8_both : ByteArray := prog_10_method_17_code
def yX8_both : MethodName := ⟨RX8, "both", "()I"⟩
abbrev cX8_compared : ByteArray := prog_10_method_18_code
def yX8_compared : MethodName := ⟨RX8, "compared", "()I"⟩
abbrev cX8_sum : ByteArray := prog_10_method_19_code
def yX8_sum : MethodName := ⟨RX8, "sum", "()I"⟩
abbrev cX8_product : ByteArray := prog_10_method_20_code
def yX8_product : MethodName := ⟨RX8, "product", "()I"⟩
abbrev cX8_unit : ByteArray := prog_10_method_21_code
def yX8_unit : MethodName := ⟨RX8, "unit", "()I"⟩
abbrev cX8_worked : ByteArray := prog_10_method_22_code
def yX8_worked : MethodName := ⟨RX8, "worked", "(III)I"⟩
abbrev cX8_feed : ByteArray := prog_10_method_23_code
def yX8_feed : MethodName := ⟨RX8, "feed", "(JI)I"⟩
abbrev cX8_text : ByteArray := prog_10_method_24_code
def yX8_text : MethodName := ⟨RX8, "text", "(I)I"⟩
abbrev cX8_textGives : ByteArray := prog_10_method_25_code
def yX8_textGives : MethodName := ⟨RX8, "textGives", "(IIII)I"⟩
abbrev cX8_law : ByteArray := prog_10_method_26_code
def yX8_law : MethodName := ⟨RX8, "law", "(IIII)I"⟩
abbrev cX8_roof : ByteArray := prog_10_method_27_code
def yX8_roof : MethodName := ⟨RX8, "roof", "(I)I"⟩
abbrev cX8_ofRoof : ByteArray := prog_10_method_28_code
def yX8_ofRoof : MethodName := ⟨RX8, "ofRoof", "(II)I"⟩
abbrev cX8_change : ByteArray := prog_10_method_29_code
def yX8_change : MethodName := ⟨RX8, "change", "(III)I"⟩
abbrev cX8_areTwo : ByteArray := prog_10_method_30_code
def yX8_areTwo : MethodName := ⟨RX8, "areTwo", "(II)Z"⟩
abbrev cX8_owe : ByteArray := prog_10_method_31_code
def yX8_owe : MethodName := ⟨RX8, "owe", "(III)I"⟩
abbrev cX8_owed : ByteArray := prog_10_method_32_code
def yX8_owed : MethodName := ⟨RX8, "owed", "(II)I"⟩
abbrev cX8_pay : ByteArray := prog_10_method_33_code
def yX8_pay : MethodName := ⟨RX8, "pay", "(II)I"⟩
abbrev cX8_sell : ByteArray := prog_10_method_34_code
def yX8_sell : MethodName := ⟨RX8, "sell", "(III)I"⟩
abbrev cX8_cloud : ByteArray := prog_10_method_35_code
def yX8_cloud : MethodName := ⟨RX8, "cloud", "(II)I"⟩
abbrev cX8_fallsOn : ByteArray := prog_10_method_36_code
def yX8_fallsOn : MethodName := ⟨RX8, "fallsOn", "(II)I"⟩
abbrev cX8_lasts : ByteArray := prog_10_method_37_code
def yX8_lasts : MethodName := ⟨RX8, "lasts", "(I)I"⟩
abbrev cX8_isSpent : ByteArray := prog_10_method_38_code
def yX8_isSpent : MethodName := ⟨RX8, "isSpent", "(I)Z"⟩
abbrev cX8_driftsTo : ByteArray := prog_10_method_39_code
def yX8_driftsTo : MethodName := ⟨RX8, "driftsTo", "(I)I"⟩
abbrev cX8_ofCloud : ByteArray := prog_10_method_40_code
def yX8_ofCloud : MethodName := ⟨RX8, "ofCloud", "(II)I"⟩
abbrev cX8_become : ByteArray := prog_10_method_41_code
def yX8_become : MethodName := ⟨RX8, "become", "(II)I"⟩
abbrev cX8_above : ByteArray := prog_10_method_42_code
def yX8_above : MethodName := ⟨RX8, "above", "(I)I"⟩
abbrev cX8_as : ByteArray := prog_10_method_43_code
def yX8_as : MethodName := ⟨RX8, "as", "(II)I"⟩
abbrev cX8_lead : ByteArray := prog_10_method_44_code
def yX8_lead : MethodName := ⟨RX8, "lead", "(III)I"⟩
abbrev cX8_mostInArrears : ByteArray := prog_10_method_45_code
def yX8_mostInArrears : MethodName := ⟨RX8, "mostInArrears", "()I"⟩
abbrev cX8_fallsWhere : ByteArray := prog_10_method_46_code
def yX8_fallsWhere : MethodName := ⟨RX8, "fallsWhere", "(II)I"⟩
abbrev cX8_dayGoes : ByteArray := prog_10_method_47_code
def yX8_dayGoes : MethodName := ⟨RX8, "dayGoes", "()V"⟩
abbrev cX8_daysGo : ByteArray := prog_10_method_48_code
def yX8_daysGo : MethodName := ⟨RX8, "daysGo", "(I)V"⟩
abbrev cX8_all : ByteArray := prog_10_method_49_code
def yX8_all : MethodName := ⟨RX8, "all", "(I)I"⟩
abbrev cX8_days : ByteArray := prog_10_method_50_code
def yX8_days : MethodName := ⟨RX8, "days", "(I)I"⟩
abbrev cX8_drawn : ByteArray := prog_10_method_51_code
def yX8_drawn : MethodName := ⟨RX8, "drawn", "()I"⟩
abbrev cX8_loose : ByteArray := prog_10_method_52_code
def yX8_loose : MethodName := ⟨RX8, "loose", "(I)I"⟩
abbrev cX8_lessens : ByteArray := prog_10_method_53_code
def yX8_lessens : MethodName := ⟨RX8, "lessens", "(III)V"⟩
abbrev cX8_clearsAll : ByteArray := prog_10_method_54_code
def yX8_clearsAll : MethodName := ⟨RX8, "clearsAll", "()I"⟩
abbrev cX8_clear : ByteArray := prog_10_method_55_code
def yX8_clear : MethodName := ⟨RX8, "clear", "()I"⟩
abbrev cX8_then : ByteArray := prog_10_method_56_code
def yX8_then : MethodName := ⟨RX8, "then", "(III)I"⟩
abbrev cX8_drought : ByteArray := prog_10_method_57_code
def yX8_drought : MethodName := ⟨RX8, "drought", "(II)I"⟩
abbrev cX8_when : ByteArray := prog_10_method_58_code
def yX8_when : MethodName := ⟨RX8, "when", "(II)I"⟩
abbrev cX8_sellers : ByteArray := prog_10_method_59_code
def yX8_sellers : MethodName := ⟨RX8, "sellers", "(II)I"⟩
abbrev cX8_clears : ByteArray := prog_10_method_60_code
def yX8_clears : MethodName := ⟨RX8, "clears", "()I"⟩
abbrev cX8_daysLeft : ByteArray := prog_10_method_61_code
def yX8_daysLeft : MethodName := ⟨RX8, "daysLeft", "(I)I"⟩
abbrev cX8_fewestLeft : ByteArray := prog_10_method_62_code
def yX8_fewestLeft : MethodName := ⟨RX8, "fewestLeft", "()I"⟩
abbrev cX8_patches : ByteArray := prog_10_method_63_code
def yX8_patches : MethodName := ⟨RX8, "patches", "(I)I"⟩
abbrev cX8_trades : ByteArray := prog_10_method_64_code
def yX8_trades : MethodName := ⟨RX8, "trades", "()I"⟩
abbrev cX8_fell : ByteArray := prog_10_method_65_code
def yX8_fell : MethodName := ⟨RX8, "fell", "(II)I"⟩
abbrev cX8_gains : ByteArray := prog_10_method_66_code
def yX8_gains : MethodName := ⟨RX8, "gains", "(III)I"⟩
abbrev cX8_seed : ByteArray := prog_10_method_67_code
def yX8_seed : MethodName := ⟨RX8, "seed", "(I)I"⟩
abbrev cX8_ran : ByteArray := prog_10_method_68_code
def yX8_ran : MethodName := ⟨RX8, "ran", "(I)V"⟩
abbrev cX8_rainsBy : ByteArray := prog_10_method_69_code
def yX8_rainsBy : MethodName := ⟨RX8, "rainsBy", "(II)I"⟩
abbrev cX8_driftsBy : ByteArray := prog_10_method_70_code
def yX8_driftsBy : MethodName := ⟨RX8, "driftsBy", "(II)I"⟩
abbrev cX8_wearsBy : ByteArray := prog_10_method_71_code
def yX8_wearsBy : MethodName := ⟨RX8, "wearsBy", "(II)I"⟩
abbrev cX8_tellsBy : ByteArray := prog_10_method_72_code
def yX8_tellsBy : MethodName := ⟨RX8, "tellsBy", "(II)I"⟩
abbrev cX8_voice : ByteArray := prog_10_method_73_code
def yX8_voice : MethodName := ⟨RX8, "voice", "(III)I"⟩
abbrev cX8_trace : ByteArray := prog_10_method_74_code
def yX8_trace : MethodName := ⟨RX8, "trace", "(I)I"⟩
abbrev cX8_isSheet : ByteArray := prog_10_method_75_code
def yX8_isSheet : MethodName := ⟨RX8, "isSheet", "(I)Z"⟩
abbrev cX8_sheet : ByteArray := prog_10_method_76_code
def yX8_sheet : MethodName := ⟨RX8, "sheet", "(III)I"⟩
abbrev cX8_put : ByteArray := prog_10_method_77_code
def yX8_put : MethodName := ⟨RX8, "put", "(III)I"⟩
abbrev cX8_move : ByteArray := prog_10_method_78_code
def yX8_move : MethodName := ⟨RX8, "move", "(IIIII)I"⟩
abbrev cX8_shares : ByteArray := prog_10_method_79_code
def yX8_shares : MethodName := ⟨RX8, "shares", "(I)I"⟩
abbrev cX8_judge : ByteArray := prog_10_method_80_code
def yX8_judge : MethodName := ⟨RX8, "judge", "(I)I"⟩
abbrev cX8_image : ByteArray := prog_10_method_81_code
def yX8_image : MethodName := ⟨RX8, "image", "()I"⟩
abbrev cX8_restore : ByteArray := prog_10_method_82_code
def yX8_restore : MethodName := ⟨RX8, "restore", "()I"⟩
abbrev cX8_tell : ByteArray := prog_10_method_83_code
def yX8_tell : MethodName := ⟨RX8, "tell", "(I)I"⟩
abbrev cX8_check : ByteArray := prog_10_method_84_code
def yX8_check : MethodName := ⟨RX8, "check", "()I"⟩
abbrev cX8_count : ByteArray := prog_10_method_85_code
def yX8_count : MethodName := ⟨RX8, "count", "(I)I"⟩
abbrev cX8_told : ByteArray := prog_10_method_86_code
def yX8_told : MethodName := ⟨RX8, "told", "(I)I"⟩
end
section
/-- the tables' words that stay true -/
def pm_tb : List Cond := lw_tbl.filter goodWord
theorem pm_w {w : Cond} (i : Nat) (h : lw_tbl[i]? = some w) (hg : goodWord w = true) : w ∈ pm_tb := List.mem_filter.mpr ⟨List.mem_of_getElem? h, hg⟩
theorem pm_goodw {w : Cond} (h : w ∈ pm_tb) : w ∈ pm_tb ∧ ((w.onTables && w.keeps) = true ∨ ∃ ty, w = .arrayClass ty) := ⟨h, good_of_word (List.mem_filter.mp h).2⟩
/-! the pure memory: a place (a cell of the world), an index in it -/
abbrev pm_M : Type := Nat → Nat → Int32
def pm_up (M : pm_M) (k i : Nat) (x : Int32) : pm_M := fun k' j => if k' = k then (if j = i then x else M k' j) else M k' j
def pm_cpy (M : pm_M) (k0 sp k1 dp n : Nat) : pm_M := fun k' j => if k' = k1 then (if dp ≤ j ∧ j < dp + n then M k0 (sp + (j - dp)) else M k' j) else M k' j
def pm_chk {α : Type} (b : Bool) (E : Option α) : Option α := match b with
  | true => E
  | false => none
def pm_in (i : Int32) (n : Nat) : Bool := decide (0 ≤ i.toInt) && decide (i.toInt < (n : Int))
def pm_nz (y : Int32) : Bool := !(decide (y = 0))
def pm_zo (y : Int32) : Bool := decide (y = 0) || decide (y = 1)
def pm_cin (sp dp n : Int32) (n0 n1 : Nat) : Bool := decide (0 ≤ sp.toInt) && (decide (0 ≤ dp.toInt) && (decide (0 ≤ n.toInt) && (decide (sp.toNatClampNeg + n.toNatClampNeg ≤ n0) && decide (dp.toNatClampNeg + n.toNatClampNeg ≤ n1))))
theorem pm_in_iff {i : Int32} {n : Nat} : pm_in i n = true ↔ vp_in i n := by
  rw [vp_in_iff]; simp [pm_in]
/-- a loop, or a group of methods that call one another: n rounds -/
def pm_it {A : Type} (bot : A) (g : A → A) : Nat → A
  | 0 => bot
  | n + 1 => g (pm_it bot g n)
/-! shapes: a prim array (kind of array, length); an array of references (kind, places); an object (class, its fields: none a number, some p the place that it names) -/
abbrev pm_Sh : Type := (Nat × Nat) ⊕ ((Nat × List Nat) ⊕ (Nat × List (Option Nat)))
/-- the world's addresses, the array classes, the classes -/
abbrev pm_V : Type := (Nat → Nat) × (Nat → ClassId) × va_G
def pm_fv (V : pm_V) (M : pm_M) (k j : Nat) (f : Option Nat) : Value := match f with
  | none => .int (M k j)
  | some p => .ref (V.1 p)
def pm_cell (V : pm_V) (M : pm_M) (k : Nat) (sh : pm_Sh) : va_E := match sh with
  | .inl q => .inl (V.2.1 q.1, (q.2, .inl (M k)))
  | .inr (.inl q) => .inl (V.2.1 q.1, (q.2.length, .inr (.inr (.inr (.inr (fun i => (q.2[i]?).map V.1))))))
  | .inr (.inr q) => .inr (q.1, q.2.mapIdx (fun j f => pm_fv V M k j f))
def pm_wld (V : pm_V) (sk : List pm_Sh) (M : pm_M) : va_W := sk.mapIdx (fun k sh => (V.1 k, pm_cell V M k sh))
theorem pm_wld_at {V : pm_V} {sk : List pm_Sh} {M : pm_M} {k : Nat} {sh : pm_Sh} (h : sk[k]? = some sh) : (pm_wld V sk M)[k]? = some (V.1 k, pm_cell V M k sh) := by
  unfold pm_wld
  rw [List.getElem?_mapIdx, h]
  rfl
theorem pm_fv_congr {V : pm_V} {M M' : pm_M} {k : Nat} (h : M k = M' k) : pm_fv V M k = pm_fv V M' k := by
  funext j f
  cases f with
  | none => show Value.int (M k j) = .int (M' k j); rw [h]
  | some p => rfl
theorem pm_cell_congr {V : pm_V} {M M' : pm_M} {k : Nat} (h : M k = M' k) (sh : pm_Sh) : pm_cell V M k sh = pm_cell V M' k sh := by
  rcases sh with q | q | q
  · show Sum.inl (_, (_, Sum.inl (M k))) = Sum.inl (_, (_, Sum.inl (M' k))); rw [h]
  · rfl
  · show Sum.inr (q.1, q.2.mapIdx (fun j f => pm_fv V M k j f)) = Sum.inr (q.1, q.2.mapIdx (fun j f => pm_fv V M' k j f))
    rw [pm_fv_congr h]
theorem pm_wld_set {V : pm_V} {sk : List pm_Sh} {M M' : pm_M} {k : Nat} {sh : pm_Sh} {e : va_E} (h : sk[k]? = some sh) (ho : ∀ k', k' ≠ k → M' k' = M k') (he : pm_cell V M' k sh = e) : (pm_wld V sk M).set k (V.1 k, e) = pm_wld V sk M' := by
  apply List.ext_getElem?
  intro j
  have hl : k < sk.length := (List.getElem?_eq_some_iff.mp h).1
  by_cases hj : j = k
  · subst hj
    rw [List.getElem?_set_self (by unfold pm_wld; rw [List.length_mapIdx]; exact hl), pm_wld_at h, he]
  · rw [List.getElem?_set_ne (Ne.symm hj)]
    unfold pm_wld
    rw [List.getElem?_mapIdx, List.getElem?_mapIdx]
    cases hs : sk[j]? with
    | none => rfl
    | some s => show some (V.1 j, pm_cell V M j s) = some (V.1 j, pm_cell V M' j s); rw [pm_cell_congr (ho j hj) s]
theorem pm_up_o {M : pm_M} {k i : Nat} {x : Int32} (k' : Nat) (h : k' ≠ k) : pm_up M k i x k' = M k' := by
  funext j; simp [pm_up, h]
theorem pm_up_s {M : pm_M} {k i : Nat} {x : Int32} : pm_up M k i x k = upd (M k) i x := by
  funext j; simp [pm_up, upd]
theorem pm_cpy_o {M : pm_M} {k0 sp k1 dp n : Nat} (k' : Nat) (h : k' ≠ k1) : pm_cpy M k0 sp k1 dp n k' = M k' := by
  funext j; simp [pm_cpy, h]
theorem pm_cpy_s {M : pm_M} {k0 sp k1 dp n : Nat} : pm_cpy M k0 sp k1 dp n k1 = va_cpy (M k0) (M k1) sp dp n := by
  funext j; simp [pm_cpy, va_cpy]
theorem pm_wld_ast {V : pm_V} {sk : List pm_Sh} {M : pm_M} {k i t n : Nat} {x : Int32} (h : sk[k]? = some (.inl (t, n))) : (pm_wld V sk M).set k (V.1 k, .inl (V.2.1 t, (n, .inl (upd (M k) i x)))) = pm_wld V sk (pm_up M k i x) :=
  pm_wld_set h (fun k' h' => pm_up_o k' h') (by show Sum.inl (_, (_, Sum.inl (pm_up M k i x k))) = _; rw [pm_up_s])
theorem pm_wld_cpy {V : pm_V} {sk : List pm_Sh} {M : pm_M} {k0 sp k1 dp n0 t n : Nat} (h : sk[k1]? = some (.inl (t, n))) : (pm_wld V sk M).set k1 (V.1 k1, .inl (V.2.1 t, (n, .inl (va_cpy (M k0) (M k1) sp dp n0)))) = pm_wld V sk (pm_cpy M k0 sp k1 dp n0) :=
  pm_wld_set h (fun k' h' => pm_cpy_o k' h') (by show Sum.inl (_, (_, Sum.inl (pm_cpy M k0 sp k1 dp n0 k1))) = _; rw [pm_cpy_s])
theorem pm_wld_put {V : pm_V} {sk : List pm_Sh} {M : pm_M} {k j ci : Nat} {fs : List (Option Nat)} {x : Int32} (h : sk[k]? = some (.inr (.inr (ci, fs)))) (hj : fs[j]? = some none) : (pm_wld V sk M).set k (V.1 k, .inr (ci, (fs.mapIdx (fun j f => pm_fv V M k j f)).set j (.int x))) = pm_wld V sk (pm_up M k j x) := by
  refine pm_wld_set h (fun k' h' => pm_up_o k' h') ?_
  show (Sum.inr (ci, fs.mapIdx (fun j9 f => pm_fv V (pm_up M k j x) k j9 f)) : va_E) = _
  refine congrArg (fun z => (Sum.inr (ci, z) : va_E)) ?_
  apply List.ext_getElem?
  intro i
  by_cases hi : i = j
  · subst hi
    rw [List.getElem?_set_self (by rw [List.length_mapIdx]; exact (List.getElem?_eq_some_iff.mp hj).1), List.getElem?_mapIdx, hj]
    show some (Value.int (pm_up M k i x k i)) = some (Value.int x)
    simp [pm_up]
  · rw [List.getElem?_set_ne (Ne.symm hi), List.getElem?_mapIdx, List.getElem?_mapIdx]
    cases fs[i]? with
    | none => rfl
    | some f =>
      cases f with
      | none => show some (Value.int (pm_up M k j x k i)) = some (Value.int (M k i)); simp [pm_up, hi]
      | some p => rfl
/-! the classes whose objects the worlds hold, the kinds of arrays -/
def pm_cls : List vw_C := [(RX0, TX0, 5), (RX1, TX1, 5), (RX2, TX2, 7), (RX3, TX3, 6), (RX4, TX4, 3), (RX5, TX5, 12), (RX6, TX6, 5), (RX7, TX7, 8), (RX8, TX8, 20)]
def pm_tys (V : pm_V) : List (ClassId × FieldType) := [(V.2.1 0, .int), (V.2.1 1, .object "RainShares$Law"), (V.2.1 2, .object "RainShares$Sheet"), (V.2.1 3, .array .int)]
/-! static arrays: places 900, 901, 902 -/
def pm_ABOVE (j : Nat) : Int32 := ([-1, 0, 0, 0, 1, 2, 3] : List Int32).getD j 0
def pm_NAMES (j : Nat) : Int32 := ([119, 100, 109, 115, 114, 100] : List Int32).getD j 0
def pm_BODIES (j : Nat) : Int32 := ([10, 11, 12, 13, 0, 0, 20, 0, 30, 0, 0, 0, 0, 40, 0, 0, 0, 0, 50, 51, 0, 0, 0, 60, 0, 70, 0, 0] : List Int32).getD j 0
def pm_stat (V : pm_V) (A : Nat → Prop) (U : State) (H : Heap) : Prop :=
  (va_Z "RainShares" "ABOVE" "[I" (.ref (V.1 900)) A U H ∧ va_T .int (V.1 900) 7 (fun j => .int (pm_ABOVE j)) A U H) ∧
  (va_Z "RainShares" "NAMES" "[C" (.ref (V.1 901)) A U H ∧ va_T .char (V.1 901) 6 (fun j => .int (pm_NAMES j)) A U H) ∧
  (va_Z "RainShares$Voices" "BODIES" "[I" (.ref (V.1 902)) A U H ∧ va_T .int (V.1 902) 28 (fun j => .int (pm_BODIES j)) A U H)
theorem pm_stat_kept {V : pm_V} {A B : Nat → Prop} {u U : State} {H H1 : Heap} (h : pm_stat V A u H) (hvm : u.vm.Alike U.vm) (hq : ∀ a : Nat, a < H.size → ¬ A a → H1[a]? = H[a]?) (hAB : ∀ q, B q → A q) : pm_stat V B U H1 := by
  obtain ⟨⟨a1, a2⟩, ⟨b1, b2⟩, c1, c2⟩ := h
  exact ⟨⟨((a1.kept hq).moved hvm).narrow hAB, ((a2.kept hq).moved hvm).narrow hAB⟩, ⟨((b1.kept hq).moved hvm).narrow hAB, ((b2.kept hq).moved hvm).narrow hAB⟩, ((c1.kept hq).moved hvm).narrow hAB, ((c2.kept hq).moved hvm).narrow hAB⟩
/-! the judgement -/
abbrev pm_X : Type := Program × Launch × Env × Room × State × MethodId × Array Value × List Frame × Method × Code × (State → Prop) × (Nat × Nat) × (Nat → Prop)
/-- a method: its bytes, its class, its locals, what it returns -/
abbrev pm_I : Type := ByteArray × String × Nat × Option FieldType
def pm_DC (b : ByteArray) (pc pc' n : Nat) (i : Instr) : Prop := decode b pc = .ok (i, n) ∧ pc + n = pc'
def pm_ok0 (V : pm_V) (mi : pm_I) (ht : Nat) (p : Program) (R : Room) (s : State) (m : MethodId) (args : Array Value) (meth : Method) (c : Code) (cells slots : Nat) (A : Nat → Prop) : Prop :=
  p.tables.exec = Jvm.exec ∧ c.code = mi.1 ∧ c.maxLocals = mi.2.2.1 ∧ s.vm.findClass mi.2.1 = some m.cls ∧ (∀ w ∈ pm_tb, w.before args s = true) ∧ va_K V.2.2 pm_cls (pm_tys V) s ∧ pm_stat V A s s.heap ∧ (cells ≤ R.cells ∧ slots ≤ R.slots) ∧ (ht + 1 ≤ R.frames ∧ 64 * (ht + 1) ≤ R.locals)
def pm_J0 (V : pm_V) (mi : pm_I) (ht : Nat) (ws : va_W) (pc : Nat) (L : List (Nat × Value)) (st : List Value) (p : Program) (l : Launch) (e : Env) (R : Room) (s : State) (m : MethodId) (args : Array Value) (below : List Frame) (meth : Method) (c : Code) (Q : State → Prop) (cells slots : Nat) (A : Nat → Prop) : Prop :=
  pm_ok0 V mi ht p R s m args meth c cells slots A → ∀ (H : Heap) (locs : List Loc) (ls : Array Slot), va_P V.2.2 pm_cls ws H → va_D A ws → va_S A s.heap H locs → lv_has ls mi.2.2.1 L → W p l e R s m args below meth c H locs cells slots Q (F0 m pc ls st)
def pm_J (X : pm_X) (V : pm_V) (mi : pm_I) (ht : Nat) (ws : va_W) (pc : Nat) (L : List (Nat × Value)) (st : List Value) : Prop := match X with
  | (p, l, e, R, s, m, args, below, meth, c, Q, (cells, slots), A) => pm_J0 V mi ht ws pc L st p l e R s m args below meth c Q cells slots A
/-! rows that ask nothing of the world -/
section PMR
variable {X : pm_X} {V : pm_V} {mi : pm_I} {ht : Nat} {ws : va_W} {pc pc' : Nat} {L L' : List (Nat × Value)} {st : List Value}
theorem jr_sub (ks : List Nat) (hl : lv_pick L ks = L') (k : pm_J X V mi ht ws pc L' st) : pm_J X V mi ht ws pc L st := by
  obtain ⟨p, l, e, R, s, m, args, below, meth, c, Q, ⟨cells, slots⟩, A⟩ := X
  intro ok H locs ls hP hD hS hl0
  exact k ok H locs ls hP hD hS (lv_sub hl0 ks hl)
theorem jr_iconst {n : Int} {v : Int32} (hd : pm_DC mi.1 pc pc' 1 (.iconst n)) (hv : Int32.ofInt n = v) (k : pm_J X V mi ht ws pc' L (.int v :: st)) : pm_J X V mi ht ws pc L st := by
  obtain ⟨p, l, e, R, s, m, args, below, meth, c, Q, ⟨cells, slots⟩, A⟩ := X
  intro ok H locs ls hP hD hS hl
  obtain ⟨hd, rfl⟩ := hd
  exact lv_iconst ok.1 ok.2.1 hd hv (k ok H locs ls hP hD hS hl)
theorem jr_bipush {n : Int} {v : Int32} (hd : pm_DC mi.1 pc pc' 2 (.bipush n)) (hv : (Int8.ofInt n).toInt32 = v) (k : pm_J X V mi ht ws pc' L (.int v :: st)) : pm_J X V mi ht ws pc L st := by
  obtain ⟨p, l, e, R, s, m, args, below, meth, c, Q, ⟨cells, slots⟩, A⟩ := X
  intro ok H locs ls hP hD hS hl
  obtain ⟨hd, rfl⟩ := hd
  exact lv_bipush ok.1 ok.2.1 hd hv (k ok H locs ls hP hD hS hl)
theorem jr_sipush {n : Int} {v : Int32} (hd : pm_DC mi.1 pc pc' 3 (.sipush n)) (hv : (Int16.ofInt n).toInt32 = v) (k : pm_J X V mi ht ws pc' L (.int v :: st)) : pm_J X V mi ht ws pc L st := by
  obtain ⟨p, l, e, R, s, m, args, below, meth, c, Q, ⟨cells, slots⟩, A⟩ := X
  intro ok H locs ls hP hD hS hl
  obtain ⟨hd, rfl⟩ := hd
  exact lv_sipush ok.1 ok.2.1 hd hv (k ok H locs ls hP hD hS hl)
theorem jr_lconst {n : Fin 2} {v : Int64} (hd : pm_DC mi.1 pc pc' 1 (.lconst n)) (hv : Int64.ofNat (n : Nat) = v) (k : pm_J X V mi ht ws pc' L (.long v :: st)) : pm_J X V mi ht ws pc L st := by
  obtain ⟨p, l, e, R, s, m, args, below, meth, c, Q, ⟨cells, slots⟩, A⟩ := X
  intro ok H locs ls hP hD hS hl
  obtain ⟨hd, rfl⟩ := hd
  exact lv_lconst ok.1 ok.2.1 hd hv (k ok H locs ls hP hD hS hl)
theorem jr_ldc {idx : Nat} {v : Int32} (hd : pm_DC mi.1 pc pc' 2 (.ldc idx)) (hw : Cond.constant mi.2.1 idx v ∈ pm_tb) (k : pm_J X V mi ht ws pc' L (.int v :: st)) : pm_J X V mi ht ws pc L st := by
  obtain ⟨p, l, e, R, s, m, args, below, meth, c, Q, ⟨cells, slots⟩, A⟩ := X
  intro ok H locs ls hP hD hS hl
  obtain ⟨hd, rfl⟩ := hd
  exact lv_ldc ok.1 ok.2.1 ok.2.2.2.1 (ok.2.2.2.2.1 _ hw) hd (k ok H locs ls hP hD hS hl)
theorem jr_ldcw {idx : Nat} {v : Int32} (hd : pm_DC mi.1 pc pc' 3 (.ldc_w idx)) (hw : Cond.constant mi.2.1 idx v ∈ pm_tb) (k : pm_J X V mi ht ws pc' L (.int v :: st)) : pm_J X V mi ht ws pc L st := by
  obtain ⟨p, l, e, R, s, m, args, below, meth, c, Q, ⟨cells, slots⟩, A⟩ := X
  intro ok H locs ls hP hD hS hl
  obtain ⟨hd, rfl⟩ := hd
  exact lv_ldcw ok.1 ok.2.1 ok.2.2.2.1 (ok.2.2.2.2.1 _ hw) hd (k ok H locs ls hP hD hS hl)
theorem jr_ldc2 {idx : Nat} {v : Int64} (hd : pm_DC mi.1 pc pc' 3 (.ldc2_w idx)) (hw : Cond.constantLong mi.2.1 idx v ∈ pm_tb) (k : pm_J X V mi ht ws pc' L (.long v :: st)) : pm_J X V mi ht ws pc L st := by
  obtain ⟨p, l, e, R, s, m, args, below, meth, c, Q, ⟨cells, slots⟩, A⟩ := X
  intro ok H locs ls hP hD hS hl
  obtain ⟨hd, rfl⟩ := hd
  exact lv_ldc2 ok.1 ok.2.1 ok.2.2.2.1 (ok.2.2.2.2.1 _ hw) hd (k ok H locs ls hP hD hS hl)
theorem jr_iload {i j : Nat} {x : Int32} (hd : pm_DC mi.1 pc pc' 2 (.iload i)) (hl : L[j]? = some (i, .int x)) (k : pm_J X V mi ht ws pc' L (.int x :: st)) : pm_J X V mi ht ws pc L st := by
  obtain ⟨p, l, e, R, s, m, args, below, meth, c, Q, ⟨cells, slots⟩, A⟩ := X
  intro ok H locs ls hP hD hS hl0
  obtain ⟨hd, rfl⟩ := hd
  exact lv_iload ok.1 ok.2.1 hd (lv_at hl0 j hl) (k ok H locs ls hP hD hS hl0)
theorem jr_iloadn {i : Fin 4} {j : Nat} {x : Int32} (hd : pm_DC mi.1 pc pc' 1 (.iload_n i)) (hl : L[j]? = some (i.val, .int x)) (k : pm_J X V mi ht ws pc' L (.int x :: st)) : pm_J X V mi ht ws pc L st := by
  obtain ⟨p, l, e, R, s, m, args, below, meth, c, Q, ⟨cells, slots⟩, A⟩ := X
  intro ok H locs ls hP hD hS hl0
  obtain ⟨hd, rfl⟩ := hd
  exact lv_iload_n ok.1 ok.2.1 hd rfl (lv_at hl0 j hl) (k ok H locs ls hP hD hS hl0)
theorem jr_lload {i j : Nat} {x : Int64} (hd : pm_DC mi.1 pc pc' 2 (.lload i)) (hl : L[j]? = some (i, .long x)) (k : pm_J X V mi ht ws pc' L (.long x :: st)) : pm_J X V mi ht ws pc L st := by
  obtain ⟨p, l, e, R, s, m, args, below, meth, c, Q, ⟨cells, slots⟩, A⟩ := X
  intro ok H locs ls hP hD hS hl0
  obtain ⟨hd, rfl⟩ := hd
  exact lv_lload ok.1 ok.2.1 hd (lv_at hl0 j hl) (k ok H locs ls hP hD hS hl0)
theorem jr_lloadn {i : Fin 4} {j : Nat} {x : Int64} (hd : pm_DC mi.1 pc pc' 1 (.lload_n i)) (hl : L[j]? = some (i.val, .long x)) (k : pm_J X V mi ht ws pc' L (.long x :: st)) : pm_J X V mi ht ws pc L st := by
  obtain ⟨p, l, e, R, s, m, args, below, meth, c, Q, ⟨cells, slots⟩, A⟩ := X
  intro ok H locs ls hP hD hS hl0
  obtain ⟨hd, rfl⟩ := hd
  exact lv_lload_n ok.1 ok.2.1 hd rfl (lv_at hl0 j hl) (k ok H locs ls hP hD hS hl0)
theorem jr_aload {i j : Nat} {x : Nat} (hd : pm_DC mi.1 pc pc' 2 (.aload i)) (hl : L[j]? = some (i, .ref x)) (k : pm_J X V mi ht ws pc' L (.ref x :: st)) : pm_J X V mi ht ws pc L st := by
  obtain ⟨p, l, e, R, s, m, args, below, meth, c, Q, ⟨cells, slots⟩, A⟩ := X
  intro ok H locs ls hP hD hS hl0
  obtain ⟨hd, rfl⟩ := hd
  exact lv_aload ok.1 ok.2.1 hd (lv_at hl0 j hl) (k ok H locs ls hP hD hS hl0)
theorem jr_aloadn {i : Fin 4} {j : Nat} {x : Nat} (hd : pm_DC mi.1 pc pc' 1 (.aload_n i)) (hl : L[j]? = some (i.val, .ref x)) (k : pm_J X V mi ht ws pc' L (.ref x :: st)) : pm_J X V mi ht ws pc L st := by
  obtain ⟨p, l, e, R, s, m, args, below, meth, c, Q, ⟨cells, slots⟩, A⟩ := X
  intro ok H locs ls hP hD hS hl0
  obtain ⟨hd, rfl⟩ := hd
  exact lv_aload_n ok.1 ok.2.1 hd rfl (lv_at hl0 j hl) (k ok H locs ls hP hD hS hl0)
theorem jr_istore {i : Nat} {x : Int32} (hd : pm_DC mi.1 pc pc' 2 (.istore i)) (hn : i < mi.2.2.1) (hl : (i, Value.int x) :: L.filter (fun q => !(q.1 == i) && !(q.1 + 1 == i && q.2.category == 2)) = L') (k : pm_J X V mi ht ws pc' L' st) : pm_J X V mi ht ws pc L (.int x :: st) := by
  obtain ⟨p, l, e, R, s, m, args, below, meth, c, Q, ⟨cells, slots⟩, A⟩ := X
  intro ok H locs ls hP hD hS hl0
  obtain ⟨hd, rfl⟩ := hd
  exact lv_istore ok.1 ok.2.1 hd hl0 hn hl (fun ls' hl' => k ok H locs ls' hP hD hS hl')
theorem jr_istoren {i : Fin 4} {x : Int32} (hd : pm_DC mi.1 pc pc' 1 (.istore_n i)) (hn : i.val < mi.2.2.1) (hl : (i.val, Value.int x) :: L.filter (fun q => !(q.1 == i.val) && !(q.1 + 1 == i.val && q.2.category == 2)) = L') (k : pm_J X V mi ht ws pc' L' st) : pm_J X V mi ht ws pc L (.int x :: st) := by
  obtain ⟨p, l, e, R, s, m, args, below, meth, c, Q, ⟨cells, slots⟩, A⟩ := X
  intro ok H locs ls hP hD hS hl0
  obtain ⟨hd, rfl⟩ := hd
  exact lv_istore_n ok.1 ok.2.1 hd rfl hl0 hn hl (fun ls' hl' => k ok H locs ls' hP hD hS hl')
theorem jr_astore {i : Nat} {x : Nat} (hd : pm_DC mi.1 pc pc' 2 (.astore i)) (hn : i < mi.2.2.1) (hl : (i, Value.ref x) :: L.filter (fun q => !(q.1 == i) && !(q.1 + 1 == i && q.2.category == 2)) = L') (k : pm_J X V mi ht ws pc' L' st) : pm_J X V mi ht ws pc L (.ref x :: st) := by
  obtain ⟨p, l, e, R, s, m, args, below, meth, c, Q, ⟨cells, slots⟩, A⟩ := X
  intro ok H locs ls hP hD hS hl0
  obtain ⟨hd, rfl⟩ := hd
  exact lv_astore ok.1 ok.2.1 hd hl0 hn hl (fun ls' hl' => k ok H locs ls' hP hD hS hl')
theorem jr_astoren {i : Fin 4} {x : Nat} (hd : pm_DC mi.1 pc pc' 1 (.astore_n i)) (hn : i.val < mi.2.2.1) (hl : (i.val, Value.ref x) :: L.filter (fun q => !(q.1 == i.val) && !(q.1 + 1 == i.val && q.2.category == 2)) = L') (k : pm_J X V mi ht ws pc' L' st) : pm_J X V mi ht ws pc L (.ref x :: st) := by
  obtain ⟨p, l, e, R, s, m, args, below, meth, c, Q, ⟨cells, slots⟩, A⟩ := X
  intro ok H locs ls hP hD hS hl0
  obtain ⟨hd, rfl⟩ := hd
  exact lv_astore_n ok.1 ok.2.1 hd rfl hl0 hn hl (fun ls' hl' => k ok H locs ls' hP hD hS hl')
theorem jr_iinc {i j : Nat} {n : Int} {x v : Int32} (hd : pm_DC mi.1 pc pc' 3 (.iinc i n)) (hk : L[j]? = some (i, .int x)) (hv : x + Int32.ofInt n = v) (hn : i < mi.2.2.1) (hl : (i, Value.int v) :: L.filter (fun q => !(q.1 == i) && !(q.1 + 1 == i && q.2.category == 2)) = L') (k : pm_J X V mi ht ws pc' L' st) : pm_J X V mi ht ws pc L st := by
  obtain ⟨p, l, e, R, s, m, args, below, meth, c, Q, ⟨cells, slots⟩, A⟩ := X
  intro ok H locs ls hP hD hS hl0
  obtain ⟨hd, rfl⟩ := hd
  exact lv_iinc ok.1 ok.2.1 hd hl0 hk hv hn hl (fun ls' hl' => k ok H locs ls' hP hD hS hl')
theorem jr_goto {off : Int} {tgt n : Nat} (hd : pm_DC mi.1 pc n 3 (.goto off)) (h9 : (pc : Int) + off = (tgt : Int)) (k : pm_J X V mi ht ws tgt L st) : pm_J X V mi ht ws pc L st := by
  obtain ⟨p, l, e, R, s, m, args, below, meth, c, Q, ⟨cells, slots⟩, A⟩ := X
  intro ok H locs ls hP hD hS hl
  exact lv_goto ok.1 ok.2.1 hd.1 h9 (k ok H locs ls hP hD hS hl)
theorem jr_dup {v : Value} (hd : pm_DC mi.1 pc pc' 1 .dup) (hv : v.category = 1) (k : pm_J X V mi ht ws pc' L (v :: v :: st)) : pm_J X V mi ht ws pc L (v :: st) := by
  obtain ⟨p, l, e, R, s, m, args, below, meth, c, Q, ⟨cells, slots⟩, A⟩ := X
  intro ok H locs ls hP hD hS hl
  obtain ⟨hd, rfl⟩ := hd
  exact lv_dup ok.1 ok.2.1 hd hv (k ok H locs ls hP hD hS hl)
theorem jr_pop {v : Value} (hd : pm_DC mi.1 pc pc' 1 .pop) (hv : v.category = 1) (k : pm_J X V mi ht ws pc' L st) : pm_J X V mi ht ws pc L (v :: st) := by
  obtain ⟨p, l, e, R, s, m, args, below, meth, c, Q, ⟨cells, slots⟩, A⟩ := X
  intro ok H locs ls hP hD hS hl
  obtain ⟨hd, rfl⟩ := hd
  exact lv_pop ok.1 ok.2.1 hd hv (k ok H locs ls hP hD hS hl)
theorem jr_dupx1 {v w : Value} (hd : pm_DC mi.1 pc pc' 1 .dup_x1) (hv : v.category = 1) (hw : w.category = 1) (k : pm_J X V mi ht ws pc' L (v :: w :: v :: st)) : pm_J X V mi ht ws pc L (v :: w :: st) := by
  obtain ⟨p, l, e, R, s, m, args, below, meth, c, Q, ⟨cells, slots⟩, A⟩ := X
  intro ok H locs ls hP hD hS hl
  obtain ⟨hd, rfl⟩ := hd
  exact lv_dup_x1 ok.1 ok.2.1 hd hv hw (k ok H locs ls hP hD hS hl)
theorem jr_dup2 {v w : Value} (hd : pm_DC mi.1 pc pc' 1 .dup2) (hv : v.category = 1) (hw : w.category = 1) (k : pm_J X V mi ht ws pc' L (v :: w :: v :: w :: st)) : pm_J X V mi ht ws pc L (v :: w :: st) := by
  obtain ⟨p, l, e, R, s, m, args, below, meth, c, Q, ⟨cells, slots⟩, A⟩ := X
  intro ok H locs ls hP hD hS hl
  obtain ⟨hd, rfl⟩ := hd
  exact lv_dup2_11 ok.1 ok.2.1 hd hv hw (k ok H locs ls hP hD hS hl)
theorem jr_iadd {x y : Int32} (hd : pm_DC mi.1 pc pc' 1 .iadd) (k : pm_J X V mi ht ws pc' L (.int (x + y) :: st)) : pm_J X V mi ht ws pc L (.int y :: .int x :: st) := by
  obtain ⟨p, l, e, R, s, m, args, below, meth, c, Q, ⟨cells, slots⟩, A⟩ := X
  intro ok H locs ls hP hD hS hl
  obtain ⟨hd, rfl⟩ := hd
  exact lv_iadd ok.1 ok.2.1 hd (k ok H locs ls hP hD hS hl)
theorem jr_isub {x y : Int32} (hd : pm_DC mi.1 pc pc' 1 .isub) (k : pm_J X V mi ht ws pc' L (.int (x - y) :: st)) : pm_J X V mi ht ws pc L (.int y :: .int x :: st) := by
  obtain ⟨p, l, e, R, s, m, args, below, meth, c, Q, ⟨cells, slots⟩, A⟩ := X
  intro ok H locs ls hP hD hS hl
  obtain ⟨hd, rfl⟩ := hd
  exact lv_isub ok.1 ok.2.1 hd (k ok H locs ls hP hD hS hl)
theorem jr_imul {x y : Int32} (hd : pm_DC mi.1 pc pc' 1 .imul) (k : pm_J X V mi ht ws pc' L (.int (x * y) :: st)) : pm_J X V mi ht ws pc L (.int y :: .int x :: st) := by
  obtain ⟨p, l, e, R, s, m, args, below, meth, c, Q, ⟨cells, slots⟩, A⟩ := X
  intro ok H locs ls hP hD hS hl
  obtain ⟨hd, rfl⟩ := hd
  exact lv_imul ok.1 ok.2.1 hd (k ok H locs ls hP hD hS hl)
theorem jr_iand {x y : Int32} (hd : pm_DC mi.1 pc pc' 1 .iand) (k : pm_J X V mi ht ws pc' L (.int (x &&& y) :: st)) : pm_J X V mi ht ws pc L (.int y :: .int x :: st) := by
  obtain ⟨p, l, e, R, s, m, args, below, meth, c, Q, ⟨cells, slots⟩, A⟩ := X
  intro ok H locs ls hP hD hS hl
  obtain ⟨hd, rfl⟩ := hd
  exact lv_iand ok.1 ok.2.1 hd (k ok H locs ls hP hD hS hl)
theorem jr_ior {x y : Int32} (hd : pm_DC mi.1 pc pc' 1 .ior) (k : pm_J X V mi ht ws pc' L (.int (x ||| y) :: st)) : pm_J X V mi ht ws pc L (.int y :: .int x :: st) := by
  obtain ⟨p, l, e, R, s, m, args, below, meth, c, Q, ⟨cells, slots⟩, A⟩ := X
  intro ok H locs ls hP hD hS hl
  obtain ⟨hd, rfl⟩ := hd
  exact lv_ior ok.1 ok.2.1 hd (k ok H locs ls hP hD hS hl)
theorem jr_ixor {x y : Int32} (hd : pm_DC mi.1 pc pc' 1 .ixor) (k : pm_J X V mi ht ws pc' L (.int (x ^^^ y) :: st)) : pm_J X V mi ht ws pc L (.int y :: .int x :: st) := by
  obtain ⟨p, l, e, R, s, m, args, below, meth, c, Q, ⟨cells, slots⟩, A⟩ := X
  intro ok H locs ls hP hD hS hl
  obtain ⟨hd, rfl⟩ := hd
  exact lv_ixor ok.1 ok.2.1 hd (k ok H locs ls hP hD hS hl)
theorem jr_idiv {x y : Int32} (hd : pm_DC mi.1 pc pc' 1 .idiv) (hne : ¬ y = 0) (k : pm_J X V mi ht ws pc' L (.int (x / y) :: st)) : pm_J X V mi ht ws pc L (.int y :: .int x :: st) := by
  obtain ⟨p, l, e, R, s, m, args, below, meth, c, Q, ⟨cells, slots⟩, A⟩ := X
  intro ok H locs ls hP hD hS hl
  obtain ⟨hd, rfl⟩ := hd
  exact lv_idiv ok.1 ok.2.1 hd hne (k ok H locs ls hP hD hS hl)
theorem jr_irem {x y : Int32} (hd : pm_DC mi.1 pc pc' 1 .irem) (hne : ¬ y = 0) (k : pm_J X V mi ht ws pc' L (.int (x - x / y * y) :: st)) : pm_J X V mi ht ws pc L (.int y :: .int x :: st) := by
  obtain ⟨p, l, e, R, s, m, args, below, meth, c, Q, ⟨cells, slots⟩, A⟩ := X
  intro ok H locs ls hP hD hS hl
  obtain ⟨hd, rfl⟩ := hd
  exact lv_irem ok.1 ok.2.1 hd hne (k ok H locs ls hP hD hS hl)
theorem jr_ineg {x : Int32} (hd : pm_DC mi.1 pc pc' 1 .ineg) (k : pm_J X V mi ht ws pc' L (.int (-x) :: st)) : pm_J X V mi ht ws pc L (.int x :: st) := by
  obtain ⟨p, l, e, R, s, m, args, below, meth, c, Q, ⟨cells, slots⟩, A⟩ := X
  intro ok H locs ls hP hD hS hl
  obtain ⟨hd, rfl⟩ := hd
  exact lv_ineg ok.1 ok.2.1 hd (k ok H locs ls hP hD hS hl)
theorem jr_ishl {x y : Int32} (hd : pm_DC mi.1 pc pc' 1 .ishl) (k : pm_J X V mi ht ws pc' L (.int (x <<< (y &&& 31)) :: st)) : pm_J X V mi ht ws pc L (.int y :: .int x :: st) := by
  obtain ⟨p, l, e, R, s, m, args, below, meth, c, Q, ⟨cells, slots⟩, A⟩ := X
  intro ok H locs ls hP hD hS hl
  obtain ⟨hd, rfl⟩ := hd
  exact lv_ishl ok.1 ok.2.1 hd (k ok H locs ls hP hD hS hl)
theorem jr_ishr {x y : Int32} (hd : pm_DC mi.1 pc pc' 1 .ishr) (k : pm_J X V mi ht ws pc' L (.int (x >>> (y &&& 31)) :: st)) : pm_J X V mi ht ws pc L (.int y :: .int x :: st) := by
  obtain ⟨p, l, e, R, s, m, args, below, meth, c, Q, ⟨cells, slots⟩, A⟩ := X
  intro ok H locs ls hP hD hS hl
  obtain ⟨hd, rfl⟩ := hd
  exact lv_ishr ok.1 ok.2.1 hd (k ok H locs ls hP hD hS hl)
theorem jr_iushr {x y : Int32} (hd : pm_DC mi.1 pc pc' 1 .iushr) (k : pm_J X V mi ht ws pc' L (.int ((x.toUInt32 >>> (y.toUInt32 &&& Int32.toUInt32 31)).toInt32) :: st)) : pm_J X V mi ht ws pc L (.int y :: .int x :: st) := by
  obtain ⟨p, l, e, R, s, m, args, below, meth, c, Q, ⟨cells, slots⟩, A⟩ := X
  intro ok H locs ls hP hD hS hl
  obtain ⟨hd, rfl⟩ := hd
  exact lv_iushr ok.1 ok.2.1 hd rfl (k ok H locs ls hP hD hS hl)
theorem jr_i2l {x : Int32} (hd : pm_DC mi.1 pc pc' 1 .i2l) (k : pm_J X V mi ht ws pc' L (.long x.toInt64 :: st)) : pm_J X V mi ht ws pc L (.int x :: st) := by
  obtain ⟨p, l, e, R, s, m, args, below, meth, c, Q, ⟨cells, slots⟩, A⟩ := X
  intro ok H locs ls hP hD hS hl
  obtain ⟨hd, rfl⟩ := hd
  exact lv_i2l ok.1 ok.2.1 hd rfl (k ok H locs ls hP hD hS hl)
theorem jr_l2i {x : Int64} (hd : pm_DC mi.1 pc pc' 1 .l2i) (k : pm_J X V mi ht ws pc' L (.int x.toInt32 :: st)) : pm_J X V mi ht ws pc L (.long x :: st) := by
  obtain ⟨p, l, e, R, s, m, args, below, meth, c, Q, ⟨cells, slots⟩, A⟩ := X
  intro ok H locs ls hP hD hS hl
  obtain ⟨hd, rfl⟩ := hd
  exact lv_l2i ok.1 ok.2.1 hd rfl (k ok H locs ls hP hD hS hl)
theorem jr_i2b {x : Int32} (hd : pm_DC mi.1 pc pc' 1 .i2b) (k : pm_J X V mi ht ws pc' L (.int x.toInt8.toInt32 :: st)) : pm_J X V mi ht ws pc L (.int x :: st) := by
  obtain ⟨p, l, e, R, s, m, args, below, meth, c, Q, ⟨cells, slots⟩, A⟩ := X
  intro ok H locs ls hP hD hS hl
  obtain ⟨hd, rfl⟩ := hd
  exact lv_i2b ok.1 ok.2.1 hd rfl (k ok H locs ls hP hD hS hl)
theorem jr_i2s {x : Int32} (hd : pm_DC mi.1 pc pc' 1 .i2s) (k : pm_J X V mi ht ws pc' L (.int x.toInt16.toInt32 :: st)) : pm_J X V mi ht ws pc L (.int x :: st) := by
  obtain ⟨p, l, e, R, s, m, args, below, meth, c, Q, ⟨cells, slots⟩, A⟩ := X
  intro ok H locs ls hP hD hS hl
  obtain ⟨hd, rfl⟩ := hd
  exact lv_i2s ok.1 ok.2.1 hd rfl (k ok H locs ls hP hD hS hl)
theorem jr_land {x y : Int64} (hd : pm_DC mi.1 pc pc' 1 .land) (k : pm_J X V mi ht ws pc' L (.long (x &&& y) :: st)) : pm_J X V mi ht ws pc L (.long y :: .long x :: st) := by
  obtain ⟨p, l, e, R, s, m, args, below, meth, c, Q, ⟨cells, slots⟩, A⟩ := X
  intro ok H locs ls hP hD hS hl
  obtain ⟨hd, rfl⟩ := hd
  exact lv_land ok.1 ok.2.1 hd (k ok H locs ls hP hD hS hl)
theorem jr_lor {x y : Int64} (hd : pm_DC mi.1 pc pc' 1 .lor) (k : pm_J X V mi ht ws pc' L (.long (x ||| y) :: st)) : pm_J X V mi ht ws pc L (.long y :: .long x :: st) := by
  obtain ⟨p, l, e, R, s, m, args, below, meth, c, Q, ⟨cells, slots⟩, A⟩ := X
  intro ok H locs ls hP hD hS hl
  obtain ⟨hd, rfl⟩ := hd
  exact lv_lor ok.1 ok.2.1 hd (k ok H locs ls hP hD hS hl)
theorem jr_lshl {x : Int64} {y : Int32} (hd : pm_DC mi.1 pc pc' 1 .lshl) (k : pm_J X V mi ht ws pc' L (.long (x <<< (y.toInt64 &&& 63)) :: st)) : pm_J X V mi ht ws pc L (.int y :: .long x :: st) := by
  obtain ⟨p, l, e, R, s, m, args, below, meth, c, Q, ⟨cells, slots⟩, A⟩ := X
  intro ok H locs ls hP hD hS hl
  obtain ⟨hd, rfl⟩ := hd
  exact lv_lshl ok.1 ok.2.1 hd rfl (k ok H locs ls hP hD hS hl)
theorem jr_lshr {x : Int64} {y : Int32} (hd : pm_DC mi.1 pc pc' 1 .lshr) (k : pm_J X V mi ht ws pc' L (.long (x >>> (y.toInt64 &&& 63)) :: st)) : pm_J X V mi ht ws pc L (.int y :: .long x :: st) := by
  obtain ⟨p, l, e, R, s, m, args, below, meth, c, Q, ⟨cells, slots⟩, A⟩ := X
  intro ok H locs ls hP hD hS hl
  obtain ⟨hd, rfl⟩ := hd
  exact lv_lshr ok.1 ok.2.1 hd rfl (k ok H locs ls hP hD hS hl)
theorem jr_lushr {x : Int64} {y : Int32} (hd : pm_DC mi.1 pc pc' 1 .lushr) (k : pm_J X V mi ht ws pc' L (.long ((x.toUInt64 >>> (y.toInt64.toUInt64 &&& Int64.toUInt64 63)).toInt64) :: st)) : pm_J X V mi ht ws pc L (.int y :: .long x :: st) := by
  obtain ⟨p, l, e, R, s, m, args, below, meth, c, Q, ⟨cells, slots⟩, A⟩ := X
  intro ok H locs ls hP hD hS hl
  obtain ⟨hd, rfl⟩ := hd
  exact lv_lushr ok.1 ok.2.1 hd rfl (k ok H locs ls hP hD hS hl)
theorem jr_lcmp {x y : Int64} (hd : pm_DC mi.1 pc pc' 1 .lcmp) (k : pm_J X V mi ht ws pc' L (.int (lg_cmp x y) :: st)) : pm_J X V mi ht ws pc L (.long y :: .long x :: st) := by
  obtain ⟨p, l, e, R, s, m, args, below, meth, c, Q, ⟨cells, slots⟩, A⟩ := X
  intro ok H locs ls hP hD hS hl
  obtain ⟨hd, rfl⟩ := hd
  exact W.lcmp ok.1 ok.2.1 hd (k ok H locs ls hP hD hS hl)
theorem jr_if_eq {x : Int32} {off : Int} {tgt : Nat} (hd : pm_DC mi.1 pc pc' 3 (.ifCond .eq off)) (h9 : (pc : Int) + off = (tgt : Int)) (kt : x = 0 → pm_J X V mi ht ws tgt L st) (kf : ¬ x = 0 → pm_J X V mi ht ws pc' L st) : pm_J X V mi ht ws pc L (.int x :: st) := by
  obtain ⟨p, l, e, R, s, m, args, below, meth, c, Q, ⟨cells, slots⟩, A⟩ := X
  intro ok H locs ls hP hD hS hl
  obtain ⟨hd, rfl⟩ := hd
  exact lv_if_eq ok.1 ok.2.1 hd h9 (fun h => kt h ok H locs ls hP hD hS hl) (fun h => kf h ok H locs ls hP hD hS hl)
theorem jr_ic_eq {x y : Int32} {off : Int} {tgt : Nat} (hd : pm_DC mi.1 pc pc' 3 (.if_icmp .eq off)) (h9 : (pc : Int) + off = (tgt : Int)) (kt : x = y → pm_J X V mi ht ws tgt L st) (kf : ¬ x = y → pm_J X V mi ht ws pc' L st) : pm_J X V mi ht ws pc L (.int y :: .int x :: st) := by
  obtain ⟨p, l, e, R, s, m, args, below, meth, c, Q, ⟨cells, slots⟩, A⟩ := X
  intro ok H locs ls hP hD hS hl
  obtain ⟨hd, rfl⟩ := hd
  exact lv_icmp_eq ok.1 ok.2.1 hd h9 (fun h => kt h ok H locs ls hP hD hS hl) (fun h => kf h ok H locs ls hP hD hS hl)
theorem jr_if_ne {x : Int32} {off : Int} {tgt : Nat} (hd : pm_DC mi.1 pc pc' 3 (.ifCond .ne off)) (h9 : (pc : Int) + off = (tgt : Int)) (kf : x = 0 → pm_J X V mi ht ws pc' L st) (kt : ¬ x = 0 → pm_J X V mi ht ws tgt L st) : pm_J X V mi ht ws pc L (.int x :: st) := by
  obtain ⟨p, l, e, R, s, m, args, below, meth, c, Q, ⟨cells, slots⟩, A⟩ := X
  intro ok H locs ls hP hD hS hl
  obtain ⟨hd, rfl⟩ := hd
  exact lv_if_ne ok.1 ok.2.1 hd h9 (fun h => kt h ok H locs ls hP hD hS hl) (fun h => kf h ok H locs ls hP hD hS hl)
theorem jr_ic_ne {x y : Int32} {off : Int} {tgt : Nat} (hd : pm_DC mi.1 pc pc' 3 (.if_icmp .ne off)) (h9 : (pc : Int) + off = (tgt : Int)) (kf : x = y → pm_J X V mi ht ws pc' L st) (kt : ¬ x = y → pm_J X V mi ht ws tgt L st) : pm_J X V mi ht ws pc L (.int y :: .int x :: st) := by
  obtain ⟨p, l, e, R, s, m, args, below, meth, c, Q, ⟨cells, slots⟩, A⟩ := X
  intro ok H locs ls hP hD hS hl
  obtain ⟨hd, rfl⟩ := hd
  exact lv_icmp_ne ok.1 ok.2.1 hd h9 (fun h => kt h ok H locs ls hP hD hS hl) (fun h => kf h ok H locs ls hP hD hS hl)
theorem jr_if_lt {x : Int32} {off : Int} {tgt : Nat} (hd : pm_DC mi.1 pc pc' 3 (.ifCond .lt off)) (h9 : (pc : Int) + off = (tgt : Int)) (kt : x < 0 → pm_J X V mi ht ws tgt L st) (kf : ¬ x < 0 → pm_J X V mi ht ws pc' L st) : pm_J X V mi ht ws pc L (.int x :: st) := by
  obtain ⟨p, l, e, R, s, m, args, below, meth, c, Q, ⟨cells, slots⟩, A⟩ := X
  intro ok H locs ls hP hD hS hl
  obtain ⟨hd, rfl⟩ := hd
  exact lv_if_lt ok.1 ok.2.1 hd h9 (fun h => kt h ok H locs ls hP hD hS hl) (fun h => kf h ok H locs ls hP hD hS hl)
theorem jr_ic_lt {x y : Int32} {off : Int} {tgt : Nat} (hd : pm_DC mi.1 pc pc' 3 (.if_icmp .lt off)) (h9 : (pc : Int) + off = (tgt : Int)) (kt : x < y → pm_J X V mi ht ws tgt L st) (kf : ¬ x < y → pm_J X V mi ht ws pc' L st) : pm_J X V mi ht ws pc L (.int y :: .int x :: st) := by
  obtain ⟨p, l, e, R, s, m, args, below, meth, c, Q, ⟨cells, slots⟩, A⟩ := X
  intro ok H locs ls hP hD hS hl
  obtain ⟨hd, rfl⟩ := hd
  exact lv_icmp_lt ok.1 ok.2.1 hd h9 (fun h => kt h ok H locs ls hP hD hS hl) (fun h => kf h ok H locs ls hP hD hS hl)
theorem jr_if_ge {x : Int32} {off : Int} {tgt : Nat} (hd : pm_DC mi.1 pc pc' 3 (.ifCond .ge off)) (h9 : (pc : Int) + off = (tgt : Int)) (kt : 0 ≤ x → pm_J X V mi ht ws tgt L st) (kf : ¬ 0 ≤ x → pm_J X V mi ht ws pc' L st) : pm_J X V mi ht ws pc L (.int x :: st) := by
  obtain ⟨p, l, e, R, s, m, args, below, meth, c, Q, ⟨cells, slots⟩, A⟩ := X
  intro ok H locs ls hP hD hS hl
  obtain ⟨hd, rfl⟩ := hd
  exact lv_if_ge ok.1 ok.2.1 hd h9 (fun h => kt h ok H locs ls hP hD hS hl) (fun h => kf h ok H locs ls hP hD hS hl)
theorem jr_ic_ge {x y : Int32} {off : Int} {tgt : Nat} (hd : pm_DC mi.1 pc pc' 3 (.if_icmp .ge off)) (h9 : (pc : Int) + off = (tgt : Int)) (kt : y ≤ x → pm_J X V mi ht ws tgt L st) (kf : ¬ y ≤ x → pm_J X V mi ht ws pc' L st) : pm_J X V mi ht ws pc L (.int y :: .int x :: st) := by
  obtain ⟨p, l, e, R, s, m, args, below, meth, c, Q, ⟨cells, slots⟩, A⟩ := X
  intro ok H locs ls hP hD hS hl
  obtain ⟨hd, rfl⟩ := hd
  exact lv_icmp_ge ok.1 ok.2.1 hd h9 (fun h => kt h ok H locs ls hP hD hS hl) (fun h => kf h ok H locs ls hP hD hS hl)
theorem jr_if_gt {x : Int32} {off : Int} {tgt : Nat} (hd : pm_DC mi.1 pc pc' 3 (.ifCond .gt off)) (h9 : (pc : Int) + off = (tgt : Int)) (kt : 0 < x → pm_J X V mi ht ws tgt L st) (kf : ¬ 0 < x → pm_J X V mi ht ws pc' L st) : pm_J X V mi ht ws pc L (.int x :: st) := by
  obtain ⟨p, l, e, R, s, m, args, below, meth, c, Q, ⟨cells, slots⟩, A⟩ := X
  intro ok H locs ls hP hD hS hl
  obtain ⟨hd, rfl⟩ := hd
  exact lv_if_gt ok.1 ok.2.1 hd h9 (fun h => kt h ok H locs ls hP hD hS hl) (fun h => kf h ok H locs ls hP hD hS hl)
theorem jr_ic_gt {x y : Int32} {off : Int} {tgt : Nat} (hd : pm_DC mi.1 pc pc' 3 (.if_icmp .gt off)) (h9 : (pc : Int) + off = (tgt : Int)) (kt : y < x → pm_J X V mi ht ws tgt L st) (kf : ¬ y < x → pm_J X V mi ht ws pc' L st) : pm_J X V mi ht ws pc L (.int y :: .int x :: st) := by
  obtain ⟨p, l, e, R, s, m, args, below, meth, c, Q, ⟨cells, slots⟩, A⟩ := X
  intro ok H locs ls hP hD hS hl
  obtain ⟨hd, rfl⟩ := hd
  exact lv_icmp_gt ok.1 ok.2.1 hd h9 (fun h => kt h ok H locs ls hP hD hS hl) (fun h => kf h ok H locs ls hP hD hS hl)
theorem jr_if_le {x : Int32} {off : Int} {tgt : Nat} (hd : pm_DC mi.1 pc pc' 3 (.ifCond .le off)) (h9 : (pc : Int) + off = (tgt : Int)) (kt : x ≤ 0 → pm_J X V mi ht ws tgt L st) (kf : ¬ x ≤ 0 → pm_J X V mi ht ws pc' L st) : pm_J X V mi ht ws pc L (.int x :: st) := by
  obtain ⟨p, l, e, R, s, m, args, below, meth, c, Q, ⟨cells, slots⟩, A⟩ := X
  intro ok H locs ls hP hD hS hl
  obtain ⟨hd, rfl⟩ := hd
  exact lv_if_le ok.1 ok.2.1 hd h9 (fun h => kt h ok H locs ls hP hD hS hl) (fun h => kf h ok H locs ls hP hD hS hl)
theorem jr_ic_le {x y : Int32} {off : Int} {tgt : Nat} (hd : pm_DC mi.1 pc pc' 3 (.if_icmp .le off)) (h9 : (pc : Int) + off = (tgt : Int)) (kt : x ≤ y → pm_J X V mi ht ws tgt L st) (kf : ¬ x ≤ y → pm_J X V mi ht ws pc' L st) : pm_J X V mi ht ws pc L (.int y :: .int x :: st) := by
  obtain ⟨p, l, e, R, s, m, args, below, meth, c, Q, ⟨cells, slots⟩, A⟩ := X
  intro ok H locs ls hP hD hS hl
  obtain ⟨hd, rfl⟩ := hd
  exact lv_icmp_le ok.1 ok.2.1 hd h9 (fun h => kt h ok H locs ls hP hD hS hl) (fun h => kf h ok H locs ls hP hD hS hl)
theorem jr_tin {dflt lo hi off : Int} {offs : Array Int} {len tgt n : Nat} {x v : Int32} (hd : pm_DC mi.1 pc n len (.tableswitch dflt lo hi offs)) (hx : x = v) (h1 : ¬ v.toInt < lo) (h2 : ¬ hi < v.toInt) (ho : offs[(v.toInt - lo).toNat]? = some off) (h9 : (pc : Int) + off = (tgt : Int)) (k : pm_J X V mi ht ws tgt L st) : pm_J X V mi ht ws pc L (.int x :: st) := by
  subst hx
  obtain ⟨p, l, e, R, s, m, args, below, meth, c, Q, ⟨cells, slots⟩, A⟩ := X
  intro ok H locs ls hP hD hS hl
  exact lv_tableIn ok.1 ok.2.1 hd.1 h1 h2 ho h9 (k ok H locs ls hP hD hS hl)
theorem jr_tout {dflt lo hi : Int} {offs : Array Int} {len tgt n : Nat} {x : Int32} (hd : pm_DC mi.1 pc n len (.tableswitch dflt lo hi offs)) (h : x.toInt < lo ∨ hi < x.toInt) (h9 : (pc : Int) + dflt = (tgt : Int)) (k : pm_J X V mi ht ws tgt L st) : pm_J X V mi ht ws pc L (.int x :: st) := by
  obtain ⟨p, l, e, R, s, m, args, below, meth, c, Q, ⟨cells, slots⟩, A⟩ := X
  intro ok H locs ls hP hD hS hl
  exact lv_tableOut ok.1 ok.2.1 hd.1 h h9 (k ok H locs ls hP hD hS hl)
theorem jr_lin {dflt off : Int} {ps : Array (Int × Int)} {len tgt n : Nat} {x v : Int32} (hd : pm_DC mi.1 pc n len (.lookupswitch dflt ps)) (hx : x = v) (hp : (ps.toList.zip (ps.toList.drop 1)).all (fun (a, next) => a.1 < next.1) = true) (ho : Op.lookupswitch.offset ps.toList dflt v.toInt = off) (h9 : (pc : Int) + off = (tgt : Int)) (k : pm_J X V mi ht ws tgt L st) : pm_J X V mi ht ws pc L (.int x :: st) := by
  subst hx
  obtain ⟨p, l, e, R, s, m, args, below, meth, c, Q, ⟨cells, slots⟩, A⟩ := X
  intro ok H locs ls hP hD hS hl
  exact lv_lookup ok.1 ok.2.1 hd.1 hp ho h9 (k ok H locs ls hP hD hS hl)
theorem pm_lkd : ∀ (ps : List (Int × Int)) (d : Int) (x : Int), (∀ q ∈ ps, ¬ q.1 = x) → Op.lookupswitch.offset ps d x = d := by
  intro ps d x
  induction ps with
  | nil => intro _; rfl
  | cons q l ih =>
    intro h
    obtain ⟨a, o⟩ := q
    rw [Op.lookupswitch.offset_cons, if_neg (h (a, o) List.mem_cons_self)]
    exact ih (fun q hq => h q (List.mem_cons_of_mem _ hq))
theorem jr_lout {dflt : Int} {ps : Array (Int × Int)} {len tgt n : Nat} {x : Int32} (hd : pm_DC mi.1 pc n len (.lookupswitch dflt ps)) (hx : ∀ q ∈ ps.toList, ¬ q.1 = x.toInt) (hp : (ps.toList.zip (ps.toList.drop 1)).all (fun (a, next) => a.1 < next.1) = true) (h9 : (pc : Int) + dflt = (tgt : Int)) (k : pm_J X V mi ht ws tgt L st) : pm_J X V mi ht ws pc L (.int x :: st) := by
  obtain ⟨p, l, e, R, s, m, args, below, meth, c, Q, ⟨cells, slots⟩, A⟩ := X
  intro ok H locs ls hP hD hS hl
  exact lv_lookup ok.1 ok.2.1 hd.1 hp (pm_lkd _ _ _ hx) h9 (k ok H locs ls hP hD hS hl)
end PMR
end
section
def pm_ws (y : MethodName) (mi : pm_I) : List Cond := Cond.code y mi.1 mi.2.2.1 mi.2.2.2 :: pm_tb
def pm_R (ht : Nat) : Room := { frames := ht + 1, cells := 0, slots := 0, locals := 64 * (ht + 1) }
def pm_AQ (V : pm_V) (sk : List pm_Sh) : Nat → Prop := fun a => ∃ k, k < sk.length ∧ a = V.1 k
def pm_B (V : pm_V) (sk : List pm_Sh) (M : pm_M) (U : State) : Prop := va_P V.2.2 pm_cls (pm_wld V sk M) U.heap ∧ va_K V.2.2 pm_cls (pm_tys V) U ∧ va_D (pm_AQ V sk) (pm_wld V sk M) ∧ pm_stat V (pm_AQ V sk) U U.heap
/-- the contract of a method: from the world with M, the answer r, and the world with M' -/
def pm_Ci (l : Launch) (V : pm_V) (sk : List pm_Sh) (y : MethodName) (mi : pm_I) (ht : Nat) (As : List Value) (M : pm_M) (r : Int32) (M' : pm_M) : Prop :=
  Met l y (pm_ws y mi) (pm_R ht) (va_Pc As (pm_B V sk M)) (va_Qi (fun (x : Int32) (_ : Unit) => x = r) (fun _ t => pm_B V sk M' t) (pm_AQ V sk)) 0 0 (pm_AQ V sk)
def pm_Cv (l : Launch) (V : pm_V) (sk : List pm_Sh) (y : MethodName) (mi : pm_I) (ht : Nat) (As : List Value) (M : pm_M) (M' : pm_M) : Prop :=
  Met l y (pm_ws y mi) (pm_R ht) (va_Pc As (pm_B V sk M)) (va_Qv (fun (_ : Unit) => True) (fun _ t => pm_B V sk M' t) (pm_AQ V sk)) 0 0 (pm_AQ V sk)
theorem pm_B_moved {V : pm_V} {sk : List pm_Sh} {M : pm_M} {u U : State} (h : pm_B V sk M u) (hh : U.heap = u.heap) (hvm : u.vm.Alike U.vm) : pm_B V sk M U := by
  obtain ⟨h1, h2, h3, h4⟩ := h
  refine ⟨by rw [hh]; exact h1, h2.moved hvm, h3, pm_stat_kept h4 hvm (fun a _ _ => by rw [hh]) (fun _ h => h)⟩
theorem pm_blind {V : pm_V} {sk : List pm_Sh} {M : pm_M} {As : List Value} : FrameBlind (va_Pc As (pm_B V sk M)) := by
  intro a U g mk q
  exact ⟨q.1, pm_B_moved q.2 rfl (Vm.Alike.refl U.vm)⟩
theorem pm_AQ_of {V : pm_V} {sk : List pm_Sh} {M : pm_M} {A : Nat → Prop} (h : va_D A (pm_wld V sk M)) : ∀ q, pm_AQ V sk q → A q := by
  rintro q ⟨k, hk, rfl⟩
  exact h.2 k _ (pm_wld_at (List.getElem?_eq_getElem hk))
theorem pm_D_self {V : pm_V} {sk : List pm_Sh} {M : pm_M} {A : Nat → Prop} (h : va_D A (pm_wld V sk M)) : va_D (pm_AQ V sk) (pm_wld V sk M) := by
  refine h.weaken (fun k q hk _ => ?_)
  have hl : k < sk.length := by
    have := (List.getElem?_eq_some_iff.mp hk).1
    unfold pm_wld at this
    rwa [List.length_mapIdx] at this
  rw [pm_wld_at (List.getElem?_eq_getElem hl)] at hk
  cases hk
  exact ⟨k, hl, rfl⟩
/-- what a call needs of the tables -/
def pm_cv (y : MethodName) (mi : pm_I) : Prop := Cond.instanceMethod y ∈ pm_tb ∧ Cond.selects y.cls y y ∈ pm_tb ∧ Cond.initialized y.cls ∈ pm_tb ∧ Cond.code y mi.1 mi.2.2.1 mi.2.2.2 ∈ pm_tb ∧ y.cls ≠ "java/lang/invoke/MethodHandle" ∧ y.cls ≠ "java/lang/invoke/VarHandle" ∧ mi.2.2.1 ≤ 40
def pm_cs (y : MethodName) (mi : pm_I) : Prop := Cond.static y ∈ pm_tb ∧ Cond.initialized y.cls ∈ pm_tb ∧ Cond.code y mi.1 mi.2.2.1 mi.2.2.2 ∈ pm_tb ∧ y.cls ≠ "java/lang/invoke/MethodHandle" ∧ y.cls ≠ "java/lang/invoke/VarHandle" ∧ mi.2.2.1 ≤ 40
def pm_np (y : MethodName) (n : Nat) : Prop := (parseMethodDescriptor y.desc).map (fun d => d.parameters.length) = some n
/-- a field: of class ci its slot j, named by the entry idx of own -/
def pm_fl (own : String) (idx ci j : Nat) : Prop := ∃ (C : String) (T : u_T) (N : Nat), pm_cls[ci]? = some (C, T, N) ∧ (∀ w ∈ u_ws C T N, w ∈ pm_tb) ∧ j < N ∧ Cond.fieldLink own idx (T j).1 (T j).2.1 (T j).2.2.1 ∈ pm_tb
def pm_fp (own : String) (idx ci j : Nat) (ty : FieldType) : Prop := ∃ (C : String) (T : u_T) (N : Nat) (ty0 : Nat → FieldType), pm_cls[ci]? = some (C, T, N) ∧ (∀ w ∈ u_ws C T N, w ∈ pm_tb) ∧ j < N ∧ Cond.fieldLink own idx (T j).1 (T j).2.1 (T j).2.2.1 ∈ pm_tb ∧
  (∀ k, k < N → parseFieldDescriptor (T k).2.2.1 = some (ty0 k)) ∧ (∀ a, a < N → ∀ b, b < N → a ≠ b → (T a).2.1 ≠ (T b).2.1) ∧ (T j).2.2.2 = false ∧ parseFieldDescriptor (T j).2.2.1 = some ty
section PMH
variable {X : pm_X} {V : pm_V} {mi : pm_I} {ht : Nat} {sk : List pm_Sh} {M M' : pm_M} {pc pc' : Nat} {L L' : List (Nat × Value)} {st stk : List Value}
theorem hr_getI {ci j idx k : Nat} {fs : List (Option Nat)} (hd : pm_DC mi.1 pc pc' 3 (.getfield idx)) (hf : pm_fl mi.2.1 idx ci j) (hs : sk[k]? = some (.inr (.inr (ci, fs)))) (hj : fs[j]? = some none)
    (kk : pm_J X V mi ht (pm_wld V sk M) pc' L (.int (M k j) :: st)) : pm_J X V mi ht (pm_wld V sk M) pc L (.ref (V.1 k) :: st) := by
  obtain ⟨p, l, e, R, s, m, args, below, meth, c, Q, ⟨cells, slots⟩, A⟩ := X
  intro ok H locs ls hP hD hS hl
  obtain ⟨hd, rfl⟩ := hd
  obtain ⟨C, T, N, f1, f2, f3, f4⟩ := hf
  exact va_get (v := .int (M k j)) ok.1 ok.2.1 ok.2.2.2.2.1 f2 ok.2.2.2.1 ok.2.2.2.2.2.1 hP k (pm_wld_at hs) f1 j f3 (ok.2.2.2.2.1 _ f4) (fun _ h => h) (by rw [List.getElem?_mapIdx, hj]; rfl) hd (kk ok H locs ls hP hD hS hl)
theorem hr_getR {ci j idx k q : Nat} {fs : List (Option Nat)} (hd : pm_DC mi.1 pc pc' 3 (.getfield idx)) (hf : pm_fl mi.2.1 idx ci j) (hs : sk[k]? = some (.inr (.inr (ci, fs)))) (hj : fs[j]? = some (some q))
    (kk : pm_J X V mi ht (pm_wld V sk M) pc' L (.ref (V.1 q) :: st)) : pm_J X V mi ht (pm_wld V sk M) pc L (.ref (V.1 k) :: st) := by
  obtain ⟨p, l, e, R, s, m, args, below, meth, c, Q, ⟨cells, slots⟩, A⟩ := X
  intro ok H locs ls hP hD hS hl
  obtain ⟨hd, rfl⟩ := hd
  obtain ⟨C, T, N, f1, f2, f3, f4⟩ := hf
  exact va_get (v := .ref (V.1 q)) ok.1 ok.2.1 ok.2.2.2.2.1 f2 ok.2.2.2.1 ok.2.2.2.2.2.1 hP k (pm_wld_at hs) f1 j f3 (ok.2.2.2.2.1 _ f4) (fun _ h => h) (by rw [List.getElem?_mapIdx, hj]; rfl) hd (kk ok H locs ls hP hD hS hl)
theorem hr_put {ci j idx k : Nat} {fs : List (Option Nat)} {x : Int32} {ty : FieldType} (hd : pm_DC mi.1 pc pc' 3 (.putfield idx)) (hf : pm_fp mi.2.1 idx ci j ty) (hs : sk[k]? = some (.inr (.inr (ci, fs)))) (hj : fs[j]? = some none) (hn : narrow ty (.int x) = .int x) (hfit : fits ty (.int x) = true)
    (kk : pm_J X V mi ht (pm_wld V sk (pm_up M k j x)) pc' L st) : pm_J X V mi ht (pm_wld V sk M) pc L (.int x :: .ref (V.1 k) :: st) := by
  obtain ⟨p, l, e, R, s, m, args, below, meth, c, Q, ⟨cells, slots⟩, A⟩ := X
  intro ok H locs ls hP hD hS hl
  obtain ⟨hd, rfl⟩ := hd
  obtain ⟨C, T, N, ty0, f1, f2, f3, f4, f5, f6, f7, f8⟩ := hf
  refine va_put (v := .int x) ok.1 ok.2.1 ok.2.2.2.2.1 f2 ty0 f5 f6 ok.2.2.2.1 ok.2.2.2.2.2.1 hP hD hS k (pm_wld_at hs) f1 j f3 (ok.2.2.2.2.1 _ f4) (fun _ h => h) f7 f8 hn hfit (by rw [List.length_mapIdx]; exact (List.getElem?_eq_some_iff.mp hj).1) hd (fun H1 locs1 hP1 hD1 hS1 => ?_)
  rw [pm_wld_put hs hj] at hP1 hD1
  exact kk ok H1 locs1 ls hP1 hD1 hS1 hl
theorem hr_iald {k n : Nat} {i : Int32} (hd : pm_DC mi.1 pc pc' 1 .iaload) (hs : sk[k]? = some (.inl (0, n))) (hin : pm_in i n = true)
    (kk : pm_J X V mi ht (pm_wld V sk M) pc' L (.int (M k i.toNatClampNeg) :: st)) : pm_J X V mi ht (pm_wld V sk M) pc L (.int i :: .ref (V.1 k) :: st) := by
  obtain ⟨p, l, e, R, s, m, args, below, meth, c, Q, ⟨cells, slots⟩, A⟩ := X
  intro ok H locs ls hP hD hS hl
  obtain ⟨hd, rfl⟩ := hd
  exact va_iald (tys := pm_tys V) (f := M k) ok.1 ok.2.1 ok.2.2.2.2.2.1 hP k 0 (pm_wld_at hs) rfl (pm_in_iff.mp hin) hd (kk ok H locs ls hP hD hS hl)
theorem hr_iast {k n : Nat} {i x : Int32} (hd : pm_DC mi.1 pc pc' 1 .iastore) (hs : sk[k]? = some (.inl (0, n))) (hin : pm_in i n = true)
    (kk : pm_J X V mi ht (pm_wld V sk (pm_up M k i.toNatClampNeg x)) pc' L st) : pm_J X V mi ht (pm_wld V sk M) pc L (.int x :: .int i :: .ref (V.1 k) :: st) := by
  obtain ⟨p, l, e, R, s, m, args, below, meth, c, Q, ⟨cells, slots⟩, A⟩ := X
  intro ok H locs ls hP hD hS hl
  obtain ⟨hd, rfl⟩ := hd
  refine va_iast (tys := pm_tys V) (f := M k) ok.1 ok.2.1 ok.2.2.2.2.2.1 hP hD hS k 0 (pm_wld_at hs) rfl (pm_in_iff.mp hin) hd (fun H1 locs1 hP1 hD1 hS1 => ?_)
  rw [pm_wld_ast hs] at hP1 hD1
  exact kk ok H1 locs1 ls hP1 hD1 hS1 hl
theorem hr_aald {k t q : Nat} {ps : List Nat} {i : Int32} {ty : FieldType} (hd : pm_DC mi.1 pc pc' 1 .aaload) (hs : sk[k]? = some (.inr (.inl (t, ps)))) (htt : ∀ V : pm_V, (pm_tys V)[t]? = some (V.2.1 t, ty)) (hr : ty.isReference = true) (hin : pm_in i ps.length = true) (hq : ps[i.toNatClampNeg]? = some q)
    (kk : pm_J X V mi ht (pm_wld V sk M) pc' L (.ref (V.1 q) :: st)) : pm_J X V mi ht (pm_wld V sk M) pc L (.int i :: .ref (V.1 k) :: st) := by
  obtain ⟨p, l, e, R, s, m, args, below, meth, c, Q, ⟨cells, slots⟩, A⟩ := X
  intro ok H locs ls hP hD hS hl
  obtain ⟨hd, rfl⟩ := hd
  have hin' := pm_in_iff.mp hin
  have hlt : i.toNatClampNeg < ps.length := Nat.not_le.mp fun q => hin' (Or.inr q)
  have hK := ok.2.2.2.2.2.1
  have e1 : va_rf ((ps[i.toNatClampNeg]?).map V.1) = .ref (V.1 q) := by rw [hq]; rfl
  exact W.aald (v := .ref (V.1 q)) (ty := ty) ok.1 ok.2.1 (hP k _ (pm_wld_at hs)) ((hK.2 t _ (htt V)).1 ps.length (fun j => va_rf ((ps[j]?).map V.1))) hr (fun q => by cases q) (by show ¬ (i < 0 ∨ (arrV _ _ _).slots.size ≤ _); rw [arrV_size]; exact hin') (by show (arrV _ _ (fun j => va_rf ((ps[j]?).map V.1))).slots[_]? = _; rw [arrV_read _ _ hlt, e1]) rfl rfl hd (kk ok H locs ls hP hD hS hl)
theorem hr_gets {own ref n d : String} {idx q : Nat} (hq : (ref = "RainShares" ∧ n = "ABOVE" ∧ d = "[I" ∧ q = 900) ∨ (ref = "RainShares" ∧ n = "NAMES" ∧ d = "[C" ∧ q = 901) ∨ (ref = "RainShares$Voices" ∧ n = "BODIES" ∧ d = "[I" ∧ q = 902)) (ho : mi.2.1 = own) (hd : pm_DC mi.1 pc pc' 3 (.getstatic idx)) (hw : Cond.fieldLink own idx ref n d ∈ pm_tb) {ws : va_W}
    (kk : pm_J X V mi ht ws pc' L (.ref (V.1 q) :: st)) : pm_J X V mi ht ws pc L st := by
  obtain ⟨p, l, e, R, s, m, args, below, meth, c, Q, ⟨cells, slots⟩, A⟩ := X
  intro ok H locs ls hP hD hS hl
  obtain ⟨hd, rfl⟩ := hd
  subst ho
  have hst := ok.2.2.2.2.2.2.1
  rcases hq with ⟨rfl, rfl, rfl, rfl⟩ | ⟨rfl, rfl, rfl, rfl⟩ | ⟨rfl, rfl, rfl, rfl⟩
  · exact va_gets ok.1 ok.2.1 hst.1.1 hS ok.2.2.2.1 (ok.2.2.2.2.1 _ hw) (fun _ h => h) hd (kk ok H locs ls hP hD hS hl)
  · exact va_gets ok.1 ok.2.1 hst.2.1.1 hS ok.2.2.2.1 (ok.2.2.2.2.1 _ hw) (fun _ h => h) hd (kk ok H locs ls hP hD hS hl)
  · exact va_gets ok.1 ok.2.1 hst.2.2.1 hS ok.2.2.2.1 (ok.2.2.2.2.1 _ hw) (fun _ h => h) hd (kk ok H locs ls hP hD hS hl)
theorem hr_tA {i : Int32} {ws : va_W} (hd : pm_DC mi.1 pc pc' 1 .iaload) (hin : pm_in i 7 = true) (kk : pm_J X V mi ht ws pc' L (.int (pm_ABOVE i.toNatClampNeg) :: st)) : pm_J X V mi ht ws pc L (.int i :: .ref (V.1 900) :: st) := by
  obtain ⟨p, l, e, R, s, m, args, below, meth, c, Q, ⟨cells, slots⟩, A⟩ := X
  intro ok H locs ls hP hD hS hl
  obtain ⟨hd, rfl⟩ := hd
  exact va_ti ok.1 ok.2.1 ok.2.2.2.2.2.2.1.1.2 hS (pm_in_iff.mp hin) rfl hd (kk ok H locs ls hP hD hS hl)
theorem hr_tN {i : Int32} {ws : va_W} (hd : pm_DC mi.1 pc pc' 1 .caload) (hin : pm_in i 6 = true) (kk : pm_J X V mi ht ws pc' L (.int (pm_NAMES i.toNatClampNeg) :: st)) : pm_J X V mi ht ws pc L (.int i :: .ref (V.1 901) :: st) := by
  obtain ⟨p, l, e, R, s, m, args, below, meth, c, Q, ⟨cells, slots⟩, A⟩ := X
  intro ok H locs ls hP hD hS hl
  obtain ⟨hd, rfl⟩ := hd
  exact va_tc ok.1 ok.2.1 ok.2.2.2.2.2.2.1.2.1.2 hS (pm_in_iff.mp hin) rfl hd (kk ok H locs ls hP hD hS hl)
theorem hr_tB {i : Int32} {ws : va_W} (hd : pm_DC mi.1 pc pc' 1 .iaload) (hin : pm_in i 28 = true) (kk : pm_J X V mi ht ws pc' L (.int (pm_BODIES i.toNatClampNeg) :: st)) : pm_J X V mi ht ws pc L (.int i :: .ref (V.1 902) :: st) := by
  obtain ⟨p, l, e, R, s, m, args, below, meth, c, Q, ⟨cells, slots⟩, A⟩ := X
  intro ok H locs ls hP hD hS hl
  obtain ⟨hd, rfl⟩ := hd
  exact va_ti ok.1 ok.2.1 ok.2.2.2.2.2.2.1.2.2.2 hS (pm_in_iff.mp hin) rfl hd (kk ok H locs ls hP hD hS hl)
theorem pm_cat (v : List Value) (h : (v.map fun v => v.category).sum ≤ 8) (ht : Nat) {R : Room} (hR : 64 * (ht + 1) ≤ R.locals) : (v.map fun v => v.category).sum + 13 ≤ R.locals := by omega
theorem hr_max {idx : Nat} {x y : Int32} {ws : va_W} (hd : pm_DC mi.1 pc pc' 3 (.invokestatic idx)) (h1 : Cond.methodLink mi.2.1 idx Lib.Math.max.name ∈ pm_tb) (h2 : Cond.static Lib.Math.max.name ∈ pm_tb) (h3 : Cond.initialized "java/lang/Math" ∈ pm_tb) (h4 : Cond.code Lib.Math.max.name Lib.Math.max.code 2 (some .int) ∈ pm_tb) (hrest : (st.map fun v => v.category).sum ≤ 8)
    (kk : pm_J X V mi ht ws pc' L (.int (if x < y then y else x) :: st)) : pm_J X V mi ht ws pc L (.int y :: .int x :: st) := by
  obtain ⟨p, l, e, R, s, m, args, below, meth, c, Q, ⟨cells, slots⟩, A⟩ := X
  intro ok H locs ls hP hD hS hl
  obtain ⟨hd, rfl⟩ := hd
  have hts := ok.2.2.2.2.1
  obtain ⟨hc, hR1, hR2⟩ := ok.2.2.2.2.2.2.2
  exact va_mmax ok.1 ok.2.1 (ok.2.2.1.trans hl.1.symm) ok.2.2.2.1 (hts _ h1) (hts _ h2) (hts _ h3) (hts _ h4) (by omega) (pm_cat _ hrest ht hR2) hc.1 hc.2 hd (kk ok H locs ls hP hD hS hl)
theorem hr_min {idx : Nat} {x y : Int32} {ws : va_W} (hd : pm_DC mi.1 pc pc' 3 (.invokestatic idx)) (h1 : Cond.methodLink mi.2.1 idx Lib.Math.min.name ∈ pm_tb) (h2 : Cond.static Lib.Math.min.name ∈ pm_tb) (h3 : Cond.initialized "java/lang/Math" ∈ pm_tb) (h4 : Cond.code Lib.Math.min.name Lib.Math.min.code 2 (some .int) ∈ pm_tb) (hrest : (st.map fun v => v.category).sum ≤ 8)
    (kk : pm_J X V mi ht ws pc' L (.int (if y < x then y else x) :: st)) : pm_J X V mi ht ws pc L (.int y :: .int x :: st) := by
  obtain ⟨p, l, e, R, s, m, args, below, meth, c, Q, ⟨cells, slots⟩, A⟩ := X
  intro ok H locs ls hP hD hS hl
  obtain ⟨hd, rfl⟩ := hd
  have hts := ok.2.2.2.2.1
  obtain ⟨hc, hR1, hR2⟩ := ok.2.2.2.2.2.2.2
  exact va_mmin ok.1 ok.2.1 (ok.2.2.1.trans hl.1.symm) ok.2.2.2.1 (hts _ h1) (hts _ h2) (hts _ h3) (hts _ h4) (by omega) (pm_cat _ hrest ht hR2) hc.1 hc.2 hd (kk ok H locs ls hP hD hS hl)
theorem pm_nw : nativeFrameWords "java/lang/System" "arraycopy" 5 + 11 ≤ 56 := by decide +kernel
theorem hr_copy {idx k0 k1 n0 n1 : Nat} {sp dp n : Int32} (hd : pm_DC mi.1 pc pc' 3 (.invokestatic idx)) (h1 : Cond.methodLink mi.2.1 idx arraycopyName ∈ pm_tb) (h2 : Cond.native arraycopyName ∈ pm_tb) (h3 : Cond.static arraycopyName ∈ pm_tb) (h4 : Cond.initialized "java/lang/System" ∈ pm_tb) (hrest : (st.map fun v => v.category).sum ≤ 8)
    (hs0 : sk[k0]? = some (.inl (0, n0))) (hs1 : sk[k1]? = some (.inl (0, n1))) (hin : pm_cin sp dp n n0 n1 = true)
    (kk : pm_J X V mi ht (pm_wld V sk (pm_cpy M k0 sp.toNatClampNeg k1 dp.toNatClampNeg n.toNatClampNeg)) pc' L st) : pm_J X V mi ht (pm_wld V sk M) pc L (.int n :: .int dp :: .ref (V.1 k1) :: .int sp :: .ref (V.1 k0) :: st) := by
  obtain ⟨p, l, e, R, s, m, args, below, meth, c, Q, ⟨cells, slots⟩, A⟩ := X
  intro ok H locs ls hP hD hS hl
  obtain ⟨hd, rfl⟩ := hd
  have hts := ok.2.2.2.2.1
  obtain ⟨hc, hR1, hR2⟩ := ok.2.2.2.2.2.2.2
  simp only [pm_cin, Bool.and_eq_true, decide_eq_true_eq] at hin
  obtain ⟨g1, g2, g3, g4, g5⟩ := hin
  have z : ∀ x : Int32, 0 ≤ x.toInt → ¬ x < 0 := fun x h q => by
    have := Int32.lt_iff_toInt_lt.mp q
    simp at this
    omega
  refine va_copyi (tys := pm_tys V) (f := M k0) (g := M k1) ok.1 ok.2.1 (ok.2.2.1.trans hl.1.symm) ok.2.2.2.1 (hts _ h1) (hts _ h2) (hts _ h3) (hts _ h4) ok.2.2.2.2.2.1 hP hD hS k0 k1 0 0 (pm_wld_at hs0) (pm_wld_at hs1) rfl rfl rfl (z _ g1) (z _ g2) (z _ g3) g4 g5 (fun _ _ => rfl) (by omega) (by have := pm_nw; omega) hd (fun H1 locs1 hP1 hD1 hS1 => ?_)
  rw [pm_wld_cpy hs1] at hP1 hD1
  exact kk ok H1 locs1 ls hP1 hD1 hS1 hl
/-! calls -/
theorem hr_callI {y : MethodName} {mi' : pm_I} {ht' idx b ci : Nat} {fs : List (Option Nat)} {q : vw_C} {As : List Value} {r : Int32} (hd : pm_DC mi.1 pc pc' 3 (.invokevirtual idx)) (hl : Cond.methodLink mi.2.1 idx y ∈ pm_tb) (hy : pm_cv y mi') (hn : pm_np y As.length) (hh : ht' + 1 ≤ ht) (hrest : (st.map fun v => v.category).sum ≤ 8) (hb : sk[b]? = some (.inr (.inr (ci, fs)))) (hc : pm_cls[ci]? = some q) (hq : q.1 = y.cls) (hst : stk = As.reverse ++ .ref (V.1 b) :: st)
    (hM : ∀ l : Launch, pm_Ci l V sk y mi' ht' (.ref (V.1 b) :: As) M r M') (kk : pm_J X V mi ht (pm_wld V sk M') pc' L (.int r :: st)) : pm_J X V mi ht (pm_wld V sk M) pc L stk := by
  obtain ⟨p, l, e, R, s, m, args, below, meth, c, Q, ⟨cells, slots⟩, A⟩ := X
  intro ok H locs ls hP hD hS hl0
  obtain ⟨hd, rfl⟩ := hd
  have hts := ok.2.2.2.2.1
  have hK := ok.2.2.2.2.2.1
  obtain ⟨hc0, hR1, hR2⟩ := ok.2.2.2.2.2.2.2
  have hAQ := pm_AQ_of hD
  obtain ⟨y1, y2, y3, y4, y5, y6, y7⟩ := hy
  have hg : GoodIn pm_tb (wsV mi.2.1 idx y.cls y (pm_ws y mi')) := by
    intro w hw
    simp only [wsV, pm_ws, List.cons_append, List.nil_append, List.mem_cons] at hw
    rcases hw with rfl | rfl | rfl | rfl | rfl | hw
    · exact pm_goodw hl
    · exact pm_goodw y1
    · exact pm_goodw y2
    · exact pm_goodw y3
    · exact pm_goodw y4
    · exact pm_goodw hw
  refine va_calli (va_runV (C := y.cls) (As := As) (rest := st) ⟨ok.1, ok.2.1, ok.2.2.1, ok.2.2.2.1, hts⟩ (hM l) (cwV As.length hts hg rfl rfl rfl ⟨rfl, y5, y6, hn⟩ ⟨by show ht' + 1 + 1 ≤ _; omega, by show 8 + (mi'.2.2.1 + 11) + 64 * (ht' + 1) ≤ _; omega⟩) ⟨pm_blind, ?_, fun U hU hW => ⟨rfl, ?_⟩⟩ rfl rfl hl0.1 hst (lv_room hrest) hd ⟨hc0.1, hc0.2⟩) hS (fun q _ h => hAQ q h) hAQ (fun r' u t H1 locs1 h1 hvm hw hB hz1 hk1 hS1 => ?_)
  · have := va_recv hK hP hc (pm_wld_at hb)
    rw [hq] at this
    exact this
  · exact ⟨by rw [hU]; exact hP, va_K.moved hW.alike hK, pm_D_self hD, pm_stat_kept ok.2.2.2.2.2.2.1 hW.alike (fun a h1 h2 => by rw [hU]; exact hS.2.1 a h1 h2) hAQ⟩
  · subst hw
    obtain ⟨b1, b2, b3, b4⟩ := hB
    rw [h1] at b1
    exact kk ok H1 locs1 ls b1 (b3.weaken (fun _ q _ h => hAQ q.1 h)) hS1 hl0
theorem hr_callV {y : MethodName} {mi' : pm_I} {ht' idx b ci : Nat} {fs : List (Option Nat)} {q : vw_C} {As : List Value} (hd : pm_DC mi.1 pc pc' 3 (.invokevirtual idx)) (hl : Cond.methodLink mi.2.1 idx y ∈ pm_tb) (hy : pm_cv y mi') (hn : pm_np y As.length) (hh : ht' + 1 ≤ ht) (hrest : (st.map fun v => v.category).sum ≤ 8) (hb : sk[b]? = some (.inr (.inr (ci, fs)))) (hc : pm_cls[ci]? = some q) (hq : q.1 = y.cls) (hst : stk = As.reverse ++ .ref (V.1 b) :: st)
    (hM : ∀ l : Launch, pm_Cv l V sk y mi' ht' (.ref (V.1 b) :: As) M M') (kk : pm_J X V mi ht (pm_wld V sk M') pc' L st) : pm_J X V mi ht (pm_wld V sk M) pc L stk := by
  obtain ⟨p, l, e, R, s, m, args, below, meth, c, Q, ⟨cells, slots⟩, A⟩ := X
  intro ok H locs ls hP hD hS hl0
  obtain ⟨hd, rfl⟩ := hd
  have hts := ok.2.2.2.2.1
  have hK := ok.2.2.2.2.2.1
  obtain ⟨hc0, hR1, hR2⟩ := ok.2.2.2.2.2.2.2
  have hAQ := pm_AQ_of hD
  obtain ⟨y1, y2, y3, y4, y5, y6, y7⟩ := hy
  have hg : GoodIn pm_tb (wsV mi.2.1 idx y.cls y (pm_ws y mi')) := by
    intro w hw
    simp only [wsV, pm_ws, List.cons_append, List.nil_append, List.mem_cons] at hw
    rcases hw with rfl | rfl | rfl | rfl | rfl | hw
    · exact pm_goodw hl
    · exact pm_goodw y1
    · exact pm_goodw y2
    · exact pm_goodw y3
    · exact pm_goodw y4
    · exact pm_goodw hw
  refine va_callv (va_runV (C := y.cls) (As := As) (rest := st) ⟨ok.1, ok.2.1, ok.2.2.1, ok.2.2.2.1, hts⟩ (hM l) (cwV As.length hts hg rfl rfl rfl ⟨rfl, y5, y6, hn⟩ ⟨by show ht' + 1 + 1 ≤ _; omega, by show 8 + (mi'.2.2.1 + 11) + 64 * (ht' + 1) ≤ _; omega⟩) ⟨pm_blind, ?_, fun U hU hW => ⟨rfl, ?_⟩⟩ rfl rfl hl0.1 hst (lv_room hrest) hd ⟨hc0.1, hc0.2⟩) hS (fun q _ h => hAQ q h) hAQ (fun u t H1 locs1 h1 hvm hw hB hz1 hk1 hS1 => ?_)
  · have := va_recv hK hP hc (pm_wld_at hb)
    rw [hq] at this
    exact this
  · exact ⟨by rw [hU]; exact hP, va_K.moved hW.alike hK, pm_D_self hD, pm_stat_kept ok.2.2.2.2.2.2.1 hW.alike (fun a h1 h2 => by rw [hU]; exact hS.2.1 a h1 h2) hAQ⟩
  · obtain ⟨b1, b2, b3, b4⟩ := hB
    rw [h1] at b1
    exact kk ok H1 locs1 ls b1 (b3.weaken (fun _ q _ h => hAQ q.1 h)) hS1 hl0
theorem hr_callS {y : MethodName} {mi' : pm_I} {ht' idx : Nat} {As : List Value} {r : Int32} (hd : pm_DC mi.1 pc pc' 3 (.invokestatic idx)) (hl : Cond.methodLink mi.2.1 idx y ∈ pm_tb) (hy : pm_cs y mi') (hn : pm_np y As.length) (hh : ht' + 1 ≤ ht) (hrest : (st.map fun v => v.category).sum ≤ 8) (hst : stk = As.reverse ++ st)
    (hM : ∀ l : Launch, pm_Ci l V sk y mi' ht' As M r M') (kk : pm_J X V mi ht (pm_wld V sk M') pc' L (.int r :: st)) : pm_J X V mi ht (pm_wld V sk M) pc L stk := by
  obtain ⟨p, l, e, R, s, m, args, below, meth, c, Q, ⟨cells, slots⟩, A⟩ := X
  intro ok H locs ls hP hD hS hl0
  obtain ⟨hd, rfl⟩ := hd
  have hts := ok.2.2.2.2.1
  have hK := ok.2.2.2.2.2.1
  obtain ⟨hc0, hR1, hR2⟩ := ok.2.2.2.2.2.2.2
  have hAQ := pm_AQ_of hD
  obtain ⟨y1, y3, y4, y5, y6, y7⟩ := hy
  have hg : GoodIn pm_tb (va_wsS mi.2.1 idx y (pm_ws y mi')) := by
    intro w hw
    simp only [va_wsS, pm_ws, List.cons_append, List.nil_append, List.mem_cons] at hw
    rcases hw with rfl | rfl | rfl | rfl | hw
    · exact pm_goodw hl
    · exact pm_goodw y1
    · exact pm_goodw y3
    · exact pm_goodw y4
    · exact pm_goodw hw
  refine va_calli (va_runS (As := As) (rest := st) ⟨ok.1, ok.2.1, ok.2.2.1, ok.2.2.2.1, hts⟩ (hM l) (va_cwS As.length hts hg rfl rfl rfl ⟨y5, y6, hn⟩ ⟨by show ht' + 1 + 1 ≤ _; omega, by show 8 + (mi'.2.2.1 + 11) + 64 * (ht' + 1) ≤ _; omega⟩) ⟨pm_blind, fun U hU hW => ⟨rfl, ?_⟩⟩ rfl rfl hl0.1 hst (lv_room hrest) hd ⟨hc0.1, hc0.2⟩) hS (fun q _ h => hAQ q h) hAQ (fun r' u t H1 locs1 h1 hvm hw hB hz1 hk1 hS1 => ?_)
  · exact ⟨by rw [hU]; exact hP, va_K.moved hW.alike hK, pm_D_self hD, pm_stat_kept ok.2.2.2.2.2.2.1 hW.alike (fun a h1 h2 => by rw [hU]; exact hS.2.1 a h1 h2) hAQ⟩
  · subst hw
    obtain ⟨b1, b2, b3, b4⟩ := hB
    rw [h1] at b1
    exact kk ok H1 locs1 ls b1 (b3.weaken (fun _ q _ h => hAQ q.1 h)) hS1 hl0
end PMH
/-! the walk beside the pure function: E is what is still to be worked out -/
def pm_VF {α : Type} (E : Option α) (Kt : α → Prop) (G : Prop) : Prop := ∀ a, E = some a → Kt a → G
section PMV
variable {α β : Type} {E E1 E2 : Option α} {Kt : α → Prop} {G G' G1 G2 : Prop}
theorem vf_j (row : G' → G) (k : pm_VF E Kt G') : pm_VF E Kt G := fun a h q => row (k a h q)
theorem vf_end {a : α} (h : Kt a → G) : pm_VF (some a) Kt G := fun b e q => h (by cases e; exact q)
theorem vf_none : pm_VF (none : Option α) Kt G := fun b e _ => by cases e
theorem vf_chk {b : Bool} (k : b = true → pm_VF E Kt G) : pm_VF (pm_chk b E) Kt G := by
  intro a h q
  cases b with
  | true => exact k rfl a h q
  | false => cases h
theorem vf_br {c : Prop} [Decidable c] (row : (c → G1) → (¬ c → G2) → G) (k1 : c → pm_VF E1 Kt G1) (k2 : ¬ c → pm_VF E2 Kt G2) : pm_VF (if c then E1 else E2) Kt G := by
  intro a h q
  refine row (fun hc => ?_) (fun hc => ?_)
  · rw [if_pos hc] at h; exact k1 hc a h q
  · rw [if_neg hc] at h; exact k2 hc a h q
theorem vf_case {c : Prop} [Decidable c] (k1 : c → pm_VF E1 Kt G) (k2 : ¬ c → pm_VF E2 Kt G) : pm_VF (if c then E1 else E2) Kt G := vf_br (fun a b => if h : c then a h else b h) k1 k2
/-- a call, or an inner loop: what it gives, then the rest -/
theorem vf_bind {x : Option β} {f : β → Option α} {P : β → Prop} (row : ∀ b, x = some b → P b → G) (k : ∀ b, pm_VF (f b) Kt (P b)) : pm_VF (x.bind f) Kt G := by
  intro a h q
  cases x with
  | none => cases h
  | some b => exact row b rfl (k b a h q)
/-- behind an inner loop: its walk, then the rest -/
theorem vf_loop {x : Option β} {f : β → Option α} {P : β → Prop} (w : pm_VF x P G) (k : ∀ b, pm_VF (f b) Kt (P b)) : pm_VF (x.bind f) Kt G := vf_bind (fun b hb hP => w b hb hP) k
end PMV
theorem pm_it_ind {A : Type} {bot : A} {g : A → A} {P : A → Prop} (h0 : P bot) (h1 : ∀ f, P f → P (g f)) : ∀ n, P (pm_it bot g n)
  | 0 => h0
  | n + 1 => h1 _ (pm_it_ind h0 h1 n)
/-! the ends of a method -/
def pm_K (X : pm_X) (V : pm_V) (mi : pm_I) (ht : Nat) (sk : List pm_Sh) : Int32 × pm_M → Prop := fun a =>
  ∀ (pc pc' : Nat) (L : List (Nat × Value)), pm_DC mi.1 pc pc' 1 .ireturn → (mi.2.2.2 = some .int ∨ (mi.2.2.2 = some .boolean ∧ (a.1 = 0 ∨ a.1 = 1))) → pm_J X V mi ht (pm_wld V sk a.2) pc L [.int a.1]
def pm_Kv (X : pm_X) (V : pm_V) (mi : pm_I) (ht : Nat) (sk : List pm_Sh) : pm_M → Prop := fun a =>
  ∀ (pc pc' : Nat) (L : List (Nat × Value)), pm_DC mi.1 pc pc' 1 .return_ → pm_J X V mi ht (pm_wld V sk a) pc L []
theorem vf_ret {X : pm_X} {V : pm_V} {mi : pm_I} {ht : Nat} {sk : List pm_Sh} {pc pc' : Nat} {L : List (Nat × Value)} {r : Int32} {M : pm_M} (hd : pm_DC mi.1 pc pc' 1 .ireturn) (hr : mi.2.2.2 = some .int) : pm_VF (some (r, M)) (pm_K X V mi ht sk) (pm_J X V mi ht (pm_wld V sk M) pc L [.int r]) :=
  vf_end (fun h => h pc pc' L hd (Or.inl hr))
theorem vf_zret {X : pm_X} {V : pm_V} {mi : pm_I} {ht : Nat} {sk : List pm_Sh} {pc pc' : Nat} {L : List (Nat × Value)} {r : Int32} {M : pm_M} (hd : pm_DC mi.1 pc pc' 1 .ireturn) (hr : mi.2.2.2 = some .boolean) (hz : pm_zo r = true) : pm_VF (some (r, M)) (pm_K X V mi ht sk) (pm_J X V mi ht (pm_wld V sk M) pc L [.int r]) :=
  vf_end (fun h => h pc pc' L hd (Or.inr ⟨hr, by simpa [pm_zo] using hz⟩))
theorem vf_vret {X : pm_X} {V : pm_V} {mi : pm_I} {ht : Nat} {sk : List pm_Sh} {pc pc' : Nat} {L : List (Nat × Value)} {M : pm_M} (hd : pm_DC mi.1 pc pc' 1 .return_) : pm_VF (some M) (pm_Kv X V mi ht sk) (pm_J X V mi ht (pm_wld V sk M) pc L []) :=
  vf_end (fun h => h pc pc' L hd)
theorem pm_metI {l : Launch} {V : pm_V} {sk : List pm_Sh} {y : MethodName} {mi : pm_I} {ht : Nat} {As : List Value} {M : pm_M} {E : Option (Int32 × pm_M)} {r : Int32} {M' : pm_M} (hy : plainName y.cls = true) (hcl : mi.2.1 = y.cls) (hent : (lg_sl As).length ≤ mi.2.2.1) (hE : E = some (r, M'))
    (h : ∀ X, pm_VF E (pm_K X V mi ht sk) (pm_J X V mi ht (pm_wld V sk M) 0 (lv_args 0 As) [])) : pm_Ci l V sk y mi ht As M r M' := by
  refine Met.ofW (cc := mi.1) (maxL := mi.2.2.1) (ret := mi.2.2.2) hy rfl ?_
  intro p e s m args below meth c s₁ B hml hv
  obtain ⟨rfl, hB⟩ := hv
  have hx := B.exec
  have hb := B.bytes
  have hr := B.returns
  have hts0 := atoms_spec (ws := pm_ws y mi) B.pre
  have hts : ∀ w ∈ pm_tb, w.before As.toArray s = true := fun w hw => hts0 w (List.mem_cons_of_mem _ hw)
  have hown : s.vm.findClass mi.2.1 = some m.cls := by rw [hcl]; exact findClass_of_methodNamed B.named
  have hlocks := B.notSynchronized
  obtain ⟨hP, hK, hD, hst⟩ := hB
  have hl := lv_entry As (n := mi.2.2.1) hent
  rw [lg_entry_eq]
  generalize (lg_sl As ++ List.replicate (mi.2.2.1 - (lg_sl As).length) Slot.unset).toArray = ls at hl ⊢
  refine h (p, l, e, (headSpec (pm_ws y mi) (pm_R ht)).room, s, m, As.toArray, below, meth, c, MQ below (va_Qi (fun (x : Int32) (_ : Unit) => x = r) (fun _ t => pm_B V sk M' t) (pm_AQ V sk)) As.toArray s 0 0 (pm_AQ V sk), (0, 0), pm_AQ V sk) (r, M') hE ?_ ⟨hx, hb, hml, hown, hts, hK, hst, ⟨Nat.zero_le _, Nat.zero_le _⟩, Nat.le_refl _, Nat.le_refl _⟩ s.heap [] ls hP hD va_S.rf hl
  intro pc pc' L hd hret ok H locs ls hP hD hS hl
  rcases hret with hret | ⟨hret, hz⟩
  · exact W.iret (v := r) hx hb (hr.trans hret) (fun t ht hW => ⟨⟨r, (), rfl, rfl, by rw [ht]; exact hP, va_K.moved hW.alike hK, hD, pm_stat_kept hst hW.alike (fun a h1 h2 => by rw [ht]; exact hS.2.1 a h1 h2) (fun _ h => h)⟩, hS.F ht⟩) hS.2.2 hd.1 hlocks
  · exact W.zret (v := r) (ty := .boolean) hx hb (hr.trans hret) (by rcases hz with hz | hz <;> (simp only at hz; subst hz; rfl)) (fun t ht hW => ⟨⟨r, (), rfl, rfl, by rw [ht]; exact hP, va_K.moved hW.alike hK, hD, pm_stat_kept hst hW.alike (fun a h1 h2 => by rw [ht]; exact hS.2.1 a h1 h2) (fun _ h => h)⟩, hS.F ht⟩) hS.2.2 hd.1 hlocks
theorem pm_metV {l : Launch} {V : pm_V} {sk : List pm_Sh} {y : MethodName} {mi : pm_I} {ht : Nat} {As : List Value} {M : pm_M} {E : Option pm_M} {M' : pm_M} (hy : plainName y.cls = true) (hcl : mi.2.1 = y.cls) (hent : (lg_sl As).length ≤ mi.2.2.1) (hret : mi.2.2.2 = none) (hE : E = some M')
    (h : ∀ X, pm_VF E (pm_Kv X V mi ht sk) (pm_J X V mi ht (pm_wld V sk M) 0 (lv_args 0 As) [])) : pm_Cv l V sk y mi ht As M M' := by
  refine Met.ofW (cc := mi.1) (maxL := mi.2.2.1) (ret := mi.2.2.2) hy rfl ?_
  intro p e s m args below meth c s₁ B hml hv
  obtain ⟨rfl, hB⟩ := hv
  have hx := B.exec
  have hb := B.bytes
  have hr := B.returns
  have hts0 := atoms_spec (ws := pm_ws y mi) B.pre
  have hts : ∀ w ∈ pm_tb, w.before As.toArray s = true := fun w hw => hts0 w (List.mem_cons_of_mem _ hw)
  have hown : s.vm.findClass mi.2.1 = some m.cls := by rw [hcl]; exact findClass_of_methodNamed B.named
  have hlocks := B.notSynchronized
  obtain ⟨hP, hK, hD, hst⟩ := hB
  have hl := lv_entry As (n := mi.2.2.1) hent
  rw [lg_entry_eq]
  generalize (lg_sl As ++ List.replicate (mi.2.2.1 - (lg_sl As).length) Slot.unset).toArray = ls at hl ⊢
  refine h (p, l, e, (headSpec (pm_ws y mi) (pm_R ht)).room, s, m, As.toArray, below, meth, c, MQ below (va_Qv (fun (_ : Unit) => True) (fun _ t => pm_B V sk M' t) (pm_AQ V sk)) As.toArray s 0 0 (pm_AQ V sk), (0, 0), pm_AQ V sk) M' hE ?_ ⟨hx, hb, hml, hown, hts, hK, hst, ⟨Nat.zero_le _, Nat.zero_le _⟩, Nat.le_refl _, Nat.le_refl _⟩ s.heap [] ls hP hD va_S.rf hl
  intro pc pc' L hd ok H locs ls hP hD hS hl
  exact W.vret hx hb (hr.trans hret) (fun t ht hW => ⟨⟨(), rfl, trivial, by rw [ht]; exact hP, va_K.moved hW.alike hK, hD, pm_stat_kept hst hW.alike (fun a h1 h2 => by rw [ht]; exact hS.2.1 a h1 h2) (fun _ h => h)⟩, hS.F ht⟩) hS.2.2 hd.1 hlocks
end
section
def pm_let {α β : Type} (v : α) (f : α → β) : β := f v
def pm_b1 {a1 β : Type} (x : Option a1) (f : a1 → Option β) : Option β := match x with
  | some b => f b
  | none => none
def pm_b2 {a1 a2 β : Type} (x : Option (a1 × a2)) (f : a1 → a2 → Option β) : Option β := match x with
  | some b => f b.1 b.2
  | none => none
def pm_b3 {a1 a2 a3 β : Type} (x : Option (a1 × a2 × a3)) (f : a1 → a2 → a3 → Option β) : Option β := match x with
  | some b => f b.1 b.2.1 b.2.2
  | none => none
def pm_b4 {a1 a2 a3 a4 β : Type} (x : Option (a1 × a2 × a3 × a4)) (f : a1 → a2 → a3 → a4 → Option β) : Option β := match x with
  | some b => f b.1 b.2.1 b.2.2.1 b.2.2.2
  | none => none
def pm_b5 {a1 a2 a3 a4 a5 β : Type} (x : Option (a1 × a2 × a3 × a4 × a5)) (f : a1 → a2 → a3 → a4 → a5 → Option β) : Option β := match x with
  | some b => f b.1 b.2.1 b.2.2.1 b.2.2.2.1 b.2.2.2.2
  | none => none
/-- behind a loop that may return: the first kind goes on, the second is the method's answer -/
def pm_s1 {a1 β : Type} (x : Option (a1 ⊕ β)) (f : a1 → Option β) : Option β := match x with
  | some (.inl b) => f b
  | some (.inr r) => some r
  | none => none
def pm_s2 {a1 a2 β : Type} (x : Option ((a1 × a2) ⊕ β)) (f : a1 → a2 → Option β) : Option β := match x with
  | some (.inl b) => f b.1 b.2
  | some (.inr r) => some r
  | none => none
def pm_s3 {a1 a2 a3 β : Type} (x : Option ((a1 × a2 × a3) ⊕ β)) (f : a1 → a2 → a3 → Option β) : Option β := match x with
  | some (.inl b) => f b.1 b.2.1 b.2.2
  | some (.inr r) => some r
  | none => none
def pm_max (x y : Int32) : Int32 := if x < y then y else x
def pm_min (x y : Int32) : Int32 := if y < x then y else x
def pm_rem (x y : Int32) : Int32 := x - x / y * y
def pm_ushr (x y : Int32) : Int32 := (x.toUInt32 >>> (y.toUInt32 &&& Int32.toUInt32 31)).toInt32
def pm_shl (x y : Int32) : Int32 := x <<< (y &&& 31)
def pm_shr (x y : Int32) : Int32 := x >>> (y &&& 31)
def pm_F : Nat := 100000
def pm_D : Nat := 100
section PMW
variable {α β : Type} {E E1 E2 : Option α} {Kt : α → Prop} {X : pm_X} {V : pm_V} {mi : pm_I} {ht : Nat} {ws : va_W} {sk : List pm_Sh} {M M' : pm_M} {pc pc' : Nat} {L L' : List (Nat × Value)} {st stk : List Value}
theorem vf_letM {v : pm_M} {f : pm_M → Option α} (k : ∀ M1, pm_VF (f M1) Kt (pm_J X V mi ht (pm_wld V sk M1) pc L st)) : pm_VF (pm_let v f) Kt (pm_J X V mi ht (pm_wld V sk v) pc L st) := k v
theorem vf_letS {v : Int32} {f : Int32 → Option α} (k : ∀ x, pm_VF (f x) Kt (pm_J X V mi ht ws pc L (.int x :: st))) : pm_VF (pm_let v f) Kt (pm_J X V mi ht ws pc L (.int v :: st)) := k v
theorem vf_letL {v : Int64} {f : Int64 → Option α} (k : ∀ x, pm_VF (f x) Kt (pm_J X V mi ht ws pc L (.long x :: st))) : pm_VF (pm_let v f) Kt (pm_J X V mi ht ws pc L (.long v :: st)) := k v
theorem jv_sub (ks : List Nat) (hl : lv_pick L ks = L') (kz : pm_VF E Kt (pm_J X V mi ht ws pc L' st)) : pm_VF E Kt (pm_J X V mi ht ws pc L st) := vf_j (fun g => jr_sub ks hl g) kz
theorem jv_iconst {n : Int} {v : Int32} (hd : pm_DC mi.1 pc pc' 1 (.iconst n)) (hv : Int32.ofInt n = v) (kz : pm_VF E Kt (pm_J X V mi ht ws pc' L (.int v :: st))) : pm_VF E Kt (pm_J X V mi ht ws pc L st) := vf_j (fun g => jr_iconst hd hv g) kz
theorem jv_bipush {n : Int} {v : Int32} (hd : pm_DC mi.1 pc pc' 2 (.bipush n)) (hv : (Int8.ofInt n).toInt32 = v) (kz : pm_VF E Kt (pm_J X V mi ht ws pc' L (.int v :: st))) : pm_VF E Kt (pm_J X V mi ht ws pc L st) := vf_j (fun g => jr_bipush hd hv g) kz
theorem jv_sipush {n : Int} {v : Int32} (hd : pm_DC mi.1 pc pc' 3 (.sipush n)) (hv : (Int16.ofInt n).toInt32 = v) (kz : pm_VF E Kt (pm_J X V mi ht ws pc' L (.int v :: st))) : pm_VF E Kt (pm_J X V mi ht ws pc L st) := vf_j (fun g => jr_sipush hd hv g) kz
theorem jv_lconst {n : Fin 2} {v : Int64} (hd : pm_DC mi.1 pc pc' 1 (.lconst n)) (hv : Int64.ofNat (n : Nat) = v) (kz : pm_VF E Kt (pm_J X V mi ht ws pc' L (.long v :: st))) : pm_VF E Kt (pm_J X V mi ht ws pc L st) := vf_j (fun g => jr_lconst hd hv g) kz
theorem jv_ldc {idx : Nat} {v : Int32} (hd : pm_DC mi.1 pc pc' 2 (.ldc idx)) (hw : Cond.constant mi.2.1 idx v ∈ pm_tb) (kz : pm_VF E Kt (pm_J X V mi ht ws pc' L (.int v :: st))) : pm_VF E Kt (pm_J X V mi ht ws pc L st) := vf_j (fun g => jr_ldc hd hw g) kz
theorem jv_ldcw {idx : Nat} {v : Int32} (hd : pm_DC mi.1 pc pc' 3 (.ldc_w idx)) (hw : Cond.constant mi.2.1 idx v ∈ pm_tb) (kz : pm_VF E Kt (pm_J X V mi ht ws pc' L (.int v :: st))) : pm_VF E Kt (pm_J X V mi ht ws pc L st) := vf_j (fun g => jr_ldcw hd hw g) kz
theorem jv_ldc2 {idx : Nat} {v : Int64} (hd : pm_DC mi.1 pc pc' 3 (.ldc2_w idx)) (hw : Cond.constantLong mi.2.1 idx v ∈ pm_tb) (kz : pm_VF E Kt (pm_J X V mi ht ws pc' L (.long v :: st))) : pm_VF E Kt (pm_J X V mi ht ws pc L st) := vf_j (fun g => jr_ldc2 hd hw g) kz
theorem jv_iload {i j : Nat} {x : Int32} (hd : pm_DC mi.1 pc pc' 2 (.iload i)) (hl : L[j]? = some (i, .int x)) (kz : pm_VF E Kt (pm_J X V mi ht ws pc' L (.int x :: st))) : pm_VF E Kt (pm_J X V mi ht ws pc L st) := vf_j (fun g => jr_iload hd hl g) kz
theorem jv_iloadn {i : Fin 4} {j : Nat} {x : Int32} (hd : pm_DC mi.1 pc pc' 1 (.iload_n i)) (hl : L[j]? = some (i.val, .int x)) (kz : pm_VF E Kt (pm_J X V mi ht ws pc' L (.int x :: st))) : pm_VF E Kt (pm_J X V mi ht ws pc L st) := vf_j (fun g => jr_iloadn hd hl g) kz
theorem jv_lload {i j : Nat} {x : Int64} (hd : pm_DC mi.1 pc pc' 2 (.lload i)) (hl : L[j]? = some (i, .long x)) (kz : pm_VF E Kt (pm_J X V mi ht ws pc' L (.long x :: st))) : pm_VF E Kt (pm_J X V mi ht ws pc L st) := vf_j (fun g => jr_lload hd hl g) kz
theorem jv_lloadn {i : Fin 4} {j : Nat} {x : Int64} (hd : pm_DC mi.1 pc pc' 1 (.lload_n i)) (hl : L[j]? = some (i.val, .long x)) (kz : pm_VF E Kt (pm_J X V mi ht ws pc' L (.long x :: st))) : pm_VF E Kt (pm_J X V mi ht ws pc L st) := vf_j (fun g => jr_lloadn hd hl g) kz
theorem jv_aload {i j : Nat} {x : Nat} (hd : pm_DC mi.1 pc pc' 2 (.aload i)) (hl : L[j]? = some (i, .ref x)) (kz : pm_VF E Kt (pm_J X V mi ht ws pc' L (.ref x :: st))) : pm_VF E Kt (pm_J X V mi ht ws pc L st) := vf_j (fun g => jr_aload hd hl g) kz
theorem jv_aloadn {i : Fin 4} {j : Nat} {x : Nat} (hd : pm_DC mi.1 pc pc' 1 (.aload_n i)) (hl : L[j]? = some (i.val, .ref x)) (kz : pm_VF E Kt (pm_J X V mi ht ws pc' L (.ref x :: st))) : pm_VF E Kt (pm_J X V mi ht ws pc L st) := vf_j (fun g => jr_aloadn hd hl g) kz
theorem jv_istore {i : Nat} {x : Int32} (hd : pm_DC mi.1 pc pc' 2 (.istore i)) (hn : i < mi.2.2.1) (hl : (i, Value.int x) :: L.filter (fun q => !(q.1 == i) && !(q.1 + 1 == i && q.2.category == 2)) = L') (kz : pm_VF E Kt (pm_J X V mi ht ws pc' L' st)) : pm_VF E Kt (pm_J X V mi ht ws pc L (.int x :: st)) := vf_j (fun g => jr_istore hd hn hl g) kz
theorem jv_istoren {i : Fin 4} {x : Int32} (hd : pm_DC mi.1 pc pc' 1 (.istore_n i)) (hn : i.val < mi.2.2.1) (hl : (i.val, Value.int x) :: L.filter (fun q => !(q.1 == i.val) && !(q.1 + 1 == i.val && q.2.category == 2)) = L') (kz : pm_VF E Kt (pm_J X V mi ht ws pc' L' st)) : pm_VF E Kt (pm_J X V mi ht ws pc L (.int x :: st)) := vf_j (fun g => jr_istoren hd hn hl g) kz
theorem jv_astore {i : Nat} {x : Nat} (hd : pm_DC mi.1 pc pc' 2 (.astore i)) (hn : i < mi.2.2.1) (hl : (i, Value.ref x) :: L.filter (fun q => !(q.1 == i) && !(q.1 + 1 == i && q.2.category == 2)) = L') (kz : pm_VF E Kt (pm_J X V mi ht ws pc' L' st)) : pm_VF E Kt (pm_J X V mi ht ws pc L (.ref x :: st)) := vf_j (fun g => jr_astore hd hn hl g) kz
theorem jv_astoren {i : Fin 4} {x : Nat} (hd : pm_DC mi.1 pc pc' 1 (.astore_n i)) (hn : i.val < mi.2.2.1) (hl : (i.val, Value.ref x) :: L.filter (fun q => !(q.1 == i.val) && !(q.1 + 1 == i.val && q.2.category == 2)) = L') (kz : pm_VF E Kt (pm_J X V mi ht ws pc' L' st)) : pm_VF E Kt (pm_J X V mi ht ws pc L (.ref x :: st)) := vf_j (fun g => jr_astoren hd hn hl g) kz
theorem jv_iinc {i j : Nat} {n : Int} {x v : Int32} (hd : pm_DC mi.1 pc pc' 3 (.iinc i n)) (hk : L[j]? = some (i, .int x)) (hv : x + Int32.ofInt n = v) (hn : i < mi.2.2.1) (hl : (i, Value.int v) :: L.filter (fun q => !(q.1 == i) && !(q.1 + 1 == i && q.2.category == 2)) = L') (kz : pm_VF E Kt (pm_J X V mi ht ws pc' L' st)) : pm_VF E Kt (pm_J X V mi ht ws pc L st) := vf_j (fun g => jr_iinc hd hk hv hn hl g) kz
theorem jv_goto {off : Int} {tgt n : Nat} (hd : pm_DC mi.1 pc n 3 (.goto off)) (h9 : (pc : Int) + off = (tgt : Int)) (kz : pm_VF E Kt (pm_J X V mi ht ws tgt L st)) : pm_VF E Kt (pm_J X V mi ht ws pc L st) := vf_j (fun g => jr_goto hd h9 g) kz
theorem jv_dup {v : Value} (hd : pm_DC mi.1 pc pc' 1 .dup) (hv : v.category = 1) (kz : pm_VF E Kt (pm_J X V mi ht ws pc' L (v :: v :: st))) : pm_VF E Kt (pm_J X V mi ht ws pc L (v :: st)) := vf_j (fun g => jr_dup hd hv g) kz
theorem jv_pop {v : Value} (hd : pm_DC mi.1 pc pc' 1 .pop) (hv : v.category = 1) (kz : pm_VF E Kt (pm_J X V mi ht ws pc' L st)) : pm_VF E Kt (pm_J X V mi ht ws pc L (v :: st)) := vf_j (fun g => jr_pop hd hv g) kz
theorem jv_dupx1 {v w : Value} (hd : pm_DC mi.1 pc pc' 1 .dup_x1) (hv : v.category = 1) (hw : w.category = 1) (kz : pm_VF E Kt (pm_J X V mi ht ws pc' L (v :: w :: v :: st))) : pm_VF E Kt (pm_J X V mi ht ws pc L (v :: w :: st)) := vf_j (fun g => jr_dupx1 hd hv hw g) kz
theorem jv_dup2 {v w : Value} (hd : pm_DC mi.1 pc pc' 1 .dup2) (hv : v.category = 1) (hw : w.category = 1) (kz : pm_VF E Kt (pm_J X V mi ht ws pc' L (v :: w :: v :: w :: st))) : pm_VF E Kt (pm_J X V mi ht ws pc L (v :: w :: st)) := vf_j (fun g => jr_dup2 hd hv hw g) kz
theorem jv_iadd {x y : Int32} (hd : pm_DC mi.1 pc pc' 1 .iadd) (kz : pm_VF E Kt (pm_J X V mi ht ws pc' L (.int (x + y) :: st))) : pm_VF E Kt (pm_J X V mi ht ws pc L (.int y :: .int x :: st)) := vf_j (fun g => jr_iadd hd g) kz
theorem jv_isub {x y : Int32} (hd : pm_DC mi.1 pc pc' 1 .isub) (kz : pm_VF E Kt (pm_J X V mi ht ws pc' L (.int (x - y) :: st))) : pm_VF E Kt (pm_J X V mi ht ws pc L (.int y :: .int x :: st)) := vf_j (fun g => jr_isub hd g) kz
theorem jv_imul {x y : Int32} (hd : pm_DC mi.1 pc pc' 1 .imul) (kz : pm_VF E Kt (pm_J X V mi ht ws pc' L (.int (x * y) :: st))) : pm_VF E Kt (pm_J X V mi ht ws pc L (.int y :: .int x :: st)) := vf_j (fun g => jr_imul hd g) kz
theorem jv_iand {x y : Int32} (hd : pm_DC mi.1 pc pc' 1 .iand) (kz : pm_VF E Kt (pm_J X V mi ht ws pc' L (.int (x &&& y) :: st))) : pm_VF E Kt (pm_J X V mi ht ws pc L (.int y :: .int x :: st)) := vf_j (fun g => jr_iand hd g) kz
theorem jv_ior {x y : Int32} (hd : pm_DC mi.1 pc pc' 1 .ior) (kz : pm_VF E Kt (pm_J X V mi ht ws pc' L (.int (x ||| y) :: st))) : pm_VF E Kt (pm_J X V mi ht ws pc L (.int y :: .int x :: st)) := vf_j (fun g => jr_ior hd g) kz
theorem jv_ixor {x y : Int32} (hd : pm_DC mi.1 pc pc' 1 .ixor) (kz : pm_VF E Kt (pm_J X V mi ht ws pc' L (.int (x ^^^ y) :: st))) : pm_VF E Kt (pm_J X V mi ht ws pc L (.int y :: .int x :: st)) := vf_j (fun g => jr_ixor hd g) kz
theorem jv_idiv {x y : Int32} (hd : pm_DC mi.1 pc pc' 1 .idiv) (hne : ¬ y = 0) (kz : pm_VF E Kt (pm_J X V mi ht ws pc' L (.int (x / y) :: st))) : pm_VF E Kt (pm_J X V mi ht ws pc L (.int y :: .int x :: st)) := vf_j (fun g => jr_idiv hd hne g) kz
theorem jv_idivC {x y : Int32} (hd : pm_DC mi.1 pc pc' 1 .idiv)  (kz : pm_VF E Kt (pm_J X V mi ht ws pc' L (.int (x / y) :: st))) : pm_VF (pm_chk (pm_nz y) E) Kt (pm_J X V mi ht ws pc L (.int y :: .int x :: st)) := vf_chk (fun h => vf_j (fun g => jr_idiv hd (by simpa [pm_nz] using h) g) kz)
theorem jv_irem {x y : Int32} (hd : pm_DC mi.1 pc pc' 1 .irem) (hne : ¬ y = 0) (kz : pm_VF E Kt (pm_J X V mi ht ws pc' L (.int (pm_rem x y) :: st))) : pm_VF E Kt (pm_J X V mi ht ws pc L (.int y :: .int x :: st)) := vf_j (fun g => jr_irem hd hne g) kz
theorem jv_iremC {x y : Int32} (hd : pm_DC mi.1 pc pc' 1 .irem)  (kz : pm_VF E Kt (pm_J X V mi ht ws pc' L (.int (pm_rem x y) :: st))) : pm_VF (pm_chk (pm_nz y) E) Kt (pm_J X V mi ht ws pc L (.int y :: .int x :: st)) := vf_chk (fun h => vf_j (fun g => jr_irem hd (by simpa [pm_nz] using h) g) kz)
theorem jv_ineg {x : Int32} (hd : pm_DC mi.1 pc pc' 1 .ineg) (kz : pm_VF E Kt (pm_J X V mi ht ws pc' L (.int (-x) :: st))) : pm_VF E Kt (pm_J X V mi ht ws pc L (.int x :: st)) := vf_j (fun g => jr_ineg hd g) kz
theorem jv_ishl {x y : Int32} (hd : pm_DC mi.1 pc pc' 1 .ishl) (kz : pm_VF E Kt (pm_J X V mi ht ws pc' L (.int (pm_shl x y) :: st))) : pm_VF E Kt (pm_J X V mi ht ws pc L (.int y :: .int x :: st)) := vf_j (fun g => jr_ishl hd g) kz
theorem jv_ishr {x y : Int32} (hd : pm_DC mi.1 pc pc' 1 .ishr) (kz : pm_VF E Kt (pm_J X V mi ht ws pc' L (.int (pm_shr x y) :: st))) : pm_VF E Kt (pm_J X V mi ht ws pc L (.int y :: .int x :: st)) := vf_j (fun g => jr_ishr hd g) kz
theorem jv_iushr {x y : Int32} (hd : pm_DC mi.1 pc pc' 1 .iushr) (kz : pm_VF E Kt (pm_J X V mi ht ws pc' L (.int (pm_ushr x y) :: st))) : pm_VF E Kt (pm_J X V mi ht ws pc L (.int y :: .int x :: st)) := vf_j (fun g => jr_iushr hd g) kz
theorem jv_i2l {x : Int32} (hd : pm_DC mi.1 pc pc' 1 .i2l) (kz : pm_VF E Kt (pm_J X V mi ht ws pc' L (.long x.toInt64 :: st))) : pm_VF E Kt (pm_J X V mi ht ws pc L (.int x :: st)) := vf_j (fun g => jr_i2l hd g) kz
theorem jv_l2i {x : Int64} (hd : pm_DC mi.1 pc pc' 1 .l2i) (kz : pm_VF E Kt (pm_J X V mi ht ws pc' L (.int x.toInt32 :: st))) : pm_VF E Kt (pm_J X V mi ht ws pc L (.long x :: st)) := vf_j (fun g => jr_l2i hd g) kz
theorem jv_i2b {x : Int32} (hd : pm_DC mi.1 pc pc' 1 .i2b) (kz : pm_VF E Kt (pm_J X V mi ht ws pc' L (.int x.toInt8.toInt32 :: st))) : pm_VF E Kt (pm_J X V mi ht ws pc L (.int x :: st)) := vf_j (fun g => jr_i2b hd g) kz
theorem jv_i2s {x : Int32} (hd : pm_DC mi.1 pc pc' 1 .i2s) (kz : pm_VF E Kt (pm_J X V mi ht ws pc' L (.int x.toInt16.toInt32 :: st))) : pm_VF E Kt (pm_J X V mi ht ws pc L (.int x :: st)) := vf_j (fun g => jr_i2s hd g) kz
theorem jv_land {x y : Int64} (hd : pm_DC mi.1 pc pc' 1 .land) (kz : pm_VF E Kt (pm_J X V mi ht ws pc' L (.long (x &&& y) :: st))) : pm_VF E Kt (pm_J X V mi ht ws pc L (.long y :: .long x :: st)) := vf_j (fun g => jr_land hd g) kz
theorem jv_lor {x y : Int64} (hd : pm_DC mi.1 pc pc' 1 .lor) (kz : pm_VF E Kt (pm_J X V mi ht ws pc' L (.long (x ||| y) :: st))) : pm_VF E Kt (pm_J X V mi ht ws pc L (.long y :: .long x :: st)) := vf_j (fun g => jr_lor hd g) kz
theorem jv_lshl {x : Int64} {y : Int32} (hd : pm_DC mi.1 pc pc' 1 .lshl) (kz : pm_VF E Kt (pm_J X V mi ht ws pc' L (.long (x <<< (y.toInt64 &&& 63)) :: st))) : pm_VF E Kt (pm_J X V mi ht ws pc L (.int y :: .long x :: st)) := vf_j (fun g => jr_lshl hd g) kz
theorem jv_lshr {x : Int64} {y : Int32} (hd : pm_DC mi.1 pc pc' 1 .lshr) (kz : pm_VF E Kt (pm_J X V mi ht ws pc' L (.long (x >>> (y.toInt64 &&& 63)) :: st))) : pm_VF E Kt (pm_J X V mi ht ws pc L (.int y :: .long x :: st)) := vf_j (fun g => jr_lshr hd g) kz
theorem jv_lushr {x : Int64} {y : Int32} (hd : pm_DC mi.1 pc pc' 1 .lushr) (kz : pm_VF E Kt (pm_J X V mi ht ws pc' L (.long ((x.toUInt64 >>> (y.toInt64.toUInt64 &&& Int64.toUInt64 63)).toInt64) :: st))) : pm_VF E Kt (pm_J X V mi ht ws pc L (.int y :: .long x :: st)) := vf_j (fun g => jr_lushr hd g) kz
theorem jv_lcmp {x y : Int64} (hd : pm_DC mi.1 pc pc' 1 .lcmp) (kz : pm_VF E Kt (pm_J X V mi ht ws pc' L (.int (lg_cmp x y) :: st))) : pm_VF E Kt (pm_J X V mi ht ws pc L (.long y :: .long x :: st)) := vf_j (fun g => jr_lcmp hd g) kz
theorem jv_if_eq {x : Int32} {off : Int} {tgt : Nat} (hd : pm_DC mi.1 pc pc' 3 (.ifCond .eq off)) (h9 : (pc : Int) + off = (tgt : Int)) {dc : Decidable (x = 0)} (k1 : x = 0 → pm_VF E1 Kt (pm_J X V mi ht ws tgt L st)) (k2 : ¬ x = 0 → pm_VF E2 Kt (pm_J X V mi ht ws pc' L st)) : pm_VF (@ite _ (x = 0) dc E1 E2) Kt (pm_J X V mi ht ws pc L (.int x :: st)) := vf_br (fun a b => jr_if_eq hd h9 a b) k1 k2
theorem jv_ic_eq {x y : Int32} {off : Int} {tgt : Nat} (hd : pm_DC mi.1 pc pc' 3 (.if_icmp .eq off)) (h9 : (pc : Int) + off = (tgt : Int)) {dc : Decidable (x = y)} (k1 : x = y → pm_VF E1 Kt (pm_J X V mi ht ws tgt L st)) (k2 : ¬ x = y → pm_VF E2 Kt (pm_J X V mi ht ws pc' L st)) : pm_VF (@ite _ (x = y) dc E1 E2) Kt (pm_J X V mi ht ws pc L (.int y :: .int x :: st)) := vf_br (fun a b => jr_ic_eq hd h9 a b) k1 k2
theorem jv_if_ne {x : Int32} {off : Int} {tgt : Nat} (hd : pm_DC mi.1 pc pc' 3 (.ifCond .ne off)) (h9 : (pc : Int) + off = (tgt : Int)) {dc : Decidable (x = 0)} (k1 : x = 0 → pm_VF E1 Kt (pm_J X V mi ht ws pc' L st)) (k2 : ¬ x = 0 → pm_VF E2 Kt (pm_J X V mi ht ws tgt L st)) : pm_VF (@ite _ (x = 0) dc E1 E2) Kt (pm_J X V mi ht ws pc L (.int x :: st)) := vf_br (fun a b => jr_if_ne hd h9 a b) k1 k2
theorem jv_ic_ne {x y : Int32} {off : Int} {tgt : Nat} (hd : pm_DC mi.1 pc pc' 3 (.if_icmp .ne off)) (h9 : (pc : Int) + off = (tgt : Int)) {dc : Decidable (x = y)} (k1 : x = y → pm_VF E1 Kt (pm_J X V mi ht ws pc' L st)) (k2 : ¬ x = y → pm_VF E2 Kt (pm_J X V mi ht ws tgt L st)) : pm_VF (@ite _ (x = y) dc E1 E2) Kt (pm_J X V mi ht ws pc L (.int y :: .int x :: st)) := vf_br (fun a b => jr_ic_ne hd h9 a b) k1 k2
theorem jv_if_lt {x : Int32} {off : Int} {tgt : Nat} (hd : pm_DC mi.1 pc pc' 3 (.ifCond .lt off)) (h9 : (pc : Int) + off = (tgt : Int)) {dc : Decidable (x < 0)} (k1 : x < 0 → pm_VF E1 Kt (pm_J X V mi ht ws tgt L st)) (k2 : ¬ x < 0 → pm_VF E2 Kt (pm_J X V mi ht ws pc' L st)) : pm_VF (@ite _ (x < 0) dc E1 E2) Kt (pm_J X V mi ht ws pc L (.int x :: st)) := vf_br (fun a b => jr_if_lt hd h9 a b) k1 k2
theorem jv_ic_lt {x y : Int32} {off : Int} {tgt : Nat} (hd : pm_DC mi.1 pc pc' 3 (.if_icmp .lt off)) (h9 : (pc : Int) + off = (tgt : Int)) {dc : Decidable (x < y)} (k1 : x < y → pm_VF E1 Kt (pm_J X V mi ht ws tgt L st)) (k2 : ¬ x < y → pm_VF E2 Kt (pm_J X V mi ht ws pc' L st)) : pm_VF (@ite _ (x < y) dc E1 E2) Kt (pm_J X V mi ht ws pc L (.int y :: .int x :: st)) := vf_br (fun a b => jr_ic_lt hd h9 a b) k1 k2
theorem jv_if_ge {x : Int32} {off : Int} {tgt : Nat} (hd : pm_DC mi.1 pc pc' 3 (.ifCond .ge off)) (h9 : (pc : Int) + off = (tgt : Int)) {dc : Decidable (0 ≤ x)} (k1 : 0 ≤ x → pm_VF E1 Kt (pm_J X V mi ht ws tgt L st)) (k2 : ¬ 0 ≤ x → pm_VF E2 Kt (pm_J X V mi ht ws pc' L st)) : pm_VF (@ite _ (0 ≤ x) dc E1 E2) Kt (pm_J X V mi ht ws pc L (.int x :: st)) := vf_br (fun a b => jr_if_ge hd h9 a b) k1 k2
theorem jv_ic_ge {x y : Int32} {off : Int} {tgt : Nat} (hd : pm_DC mi.1 pc pc' 3 (.if_icmp .ge off)) (h9 : (pc : Int) + off = (tgt : Int)) {dc : Decidable (y ≤ x)} (k1 : y ≤ x → pm_VF E1 Kt (pm_J X V mi ht ws tgt L st)) (k2 : ¬ y ≤ x → pm_VF E2 Kt (pm_J X V mi ht ws pc' L st)) : pm_VF (@ite _ (y ≤ x) dc E1 E2) Kt (pm_J X V mi ht ws pc L (.int y :: .int x :: st)) := vf_br (fun a b => jr_ic_ge hd h9 a b) k1 k2
theorem jv_if_gt {x : Int32} {off : Int} {tgt : Nat} (hd : pm_DC mi.1 pc pc' 3 (.ifCond .gt off)) (h9 : (pc : Int) + off = (tgt : Int)) {dc : Decidable (0 < x)} (k1 : 0 < x → pm_VF E1 Kt (pm_J X V mi ht ws tgt L st)) (k2 : ¬ 0 < x → pm_VF E2 Kt (pm_J X V mi ht ws pc' L st)) : pm_VF (@ite _ (0 < x) dc E1 E2) Kt (pm_J X V mi ht ws pc L (.int x :: st)) := vf_br (fun a b => jr_if_gt hd h9 a b) k1 k2
theorem jv_ic_gt {x y : Int32} {off : Int} {tgt : Nat} (hd : pm_DC mi.1 pc pc' 3 (.if_icmp .gt off)) (h9 : (pc : Int) + off = (tgt : Int)) {dc : Decidable (y < x)} (k1 : y < x → pm_VF E1 Kt (pm_J X V mi ht ws tgt L st)) (k2 : ¬ y < x → pm_VF E2 Kt (pm_J X V mi ht ws pc' L st)) : pm_VF (@ite _ (y < x) dc E1 E2) Kt (pm_J X V mi ht ws pc L (.int y :: .int x :: st)) := vf_br (fun a b => jr_ic_gt hd h9 a b) k1 k2
theorem jv_if_le {x : Int32} {off : Int} {tgt : Nat} (hd : pm_DC mi.1 pc pc' 3 (.ifCond .le off)) (h9 : (pc : Int) + off = (tgt : Int)) {dc : Decidable (x ≤ 0)} (k1 : x ≤ 0 → pm_VF E1 Kt (pm_J X V mi ht ws tgt L st)) (k2 : ¬ x ≤ 0 → pm_VF E2 Kt (pm_J X V mi ht ws pc' L st)) : pm_VF (@ite _ (x ≤ 0) dc E1 E2) Kt (pm_J X V mi ht ws pc L (.int x :: st)) := vf_br (fun a b => jr_if_le hd h9 a b) k1 k2
theorem jv_ic_le {x y : Int32} {off : Int} {tgt : Nat} (hd : pm_DC mi.1 pc pc' 3 (.if_icmp .le off)) (h9 : (pc : Int) + off = (tgt : Int)) {dc : Decidable (x ≤ y)} (k1 : x ≤ y → pm_VF E1 Kt (pm_J X V mi ht ws tgt L st)) (k2 : ¬ x ≤ y → pm_VF E2 Kt (pm_J X V mi ht ws pc' L st)) : pm_VF (@ite _ (x ≤ y) dc E1 E2) Kt (pm_J X V mi ht ws pc L (.int y :: .int x :: st)) := vf_br (fun a b => jr_ic_le hd h9 a b) k1 k2
theorem jv_tin {dflt lo hi off : Int} {offs : Array Int} {len tgt n : Nat} {x v : Int32} (hd : pm_DC mi.1 pc n len (.tableswitch dflt lo hi offs)) (hx : x = v) (h1 : ¬ v.toInt < lo) (h2 : ¬ hi < v.toInt) (ho : offs[(v.toInt - lo).toNat]? = some off) (h9 : (pc : Int) + off = (tgt : Int)) (kz : pm_VF E Kt (pm_J X V mi ht ws tgt L st)) : pm_VF E Kt (pm_J X V mi ht ws pc L (.int x :: st)) := vf_j (fun g => jr_tin hd hx h1 h2 ho h9 g) kz
theorem jv_tout {dflt lo hi : Int} {offs : Array Int} {len tgt n : Nat} {x : Int32} (hd : pm_DC mi.1 pc n len (.tableswitch dflt lo hi offs)) (h : x.toInt < lo ∨ hi < x.toInt) (h9 : (pc : Int) + dflt = (tgt : Int)) (kz : pm_VF E Kt (pm_J X V mi ht ws tgt L st)) : pm_VF E Kt (pm_J X V mi ht ws pc L (.int x :: st)) := vf_j (fun g => jr_tout hd h h9 g) kz
theorem jv_lin {dflt off : Int} {ps : Array (Int × Int)} {len tgt n : Nat} {x v : Int32} (hd : pm_DC mi.1 pc n len (.lookupswitch dflt ps)) (hx : x = v) (hp : (ps.toList.zip (ps.toList.drop 1)).all (fun (a, next) => a.1 < next.1) = true) (ho : Op.lookupswitch.offset ps.toList dflt v.toInt = off) (h9 : (pc : Int) + off = (tgt : Int)) (kz : pm_VF E Kt (pm_J X V mi ht ws tgt L st)) : pm_VF E Kt (pm_J X V mi ht ws pc L (.int x :: st)) := vf_j (fun g => jr_lin hd hx hp ho h9 g) kz
theorem jv_lout {dflt : Int} {ps : Array (Int × Int)} {len tgt n : Nat} {x : Int32} (hd : pm_DC mi.1 pc n len (.lookupswitch dflt ps)) (hx : ∀ q ∈ ps.toList, ¬ q.1 = x.toInt) (hp : (ps.toList.zip (ps.toList.drop 1)).all (fun (a, next) => a.1 < next.1) = true) (h9 : (pc : Int) + dflt = (tgt : Int)) (kz : pm_VF E Kt (pm_J X V mi ht ws tgt L st)) : pm_VF E Kt (pm_J X V mi ht ws pc L (.int x :: st)) := vf_j (fun g => jr_lout hd hx hp h9 g) kz
theorem hv_getI {ci j idx k : Nat} {fs : List (Option Nat)} (hd : pm_DC mi.1 pc pc' 3 (.getfield idx)) (hf : pm_fl mi.2.1 idx ci j) (hs : sk[k]? = some (.inr (.inr (ci, fs)))) (hj : fs[j]? = some none) (kz : pm_VF E Kt (pm_J X V mi ht (pm_wld V sk M) pc' L (.int (M k j) :: st))) : pm_VF E Kt (pm_J X V mi ht (pm_wld V sk M) pc L (.ref (V.1 k) :: st)) := vf_j (fun g => hr_getI hd hf hs hj g) kz
theorem hv_getR {ci j idx k q : Nat} {fs : List (Option Nat)} (hd : pm_DC mi.1 pc pc' 3 (.getfield idx)) (hf : pm_fl mi.2.1 idx ci j) (hs : sk[k]? = some (.inr (.inr (ci, fs)))) (hj : fs[j]? = some (some q)) (kz : pm_VF E Kt (pm_J X V mi ht (pm_wld V sk M) pc' L (.ref (V.1 q) :: st))) : pm_VF E Kt (pm_J X V mi ht (pm_wld V sk M) pc L (.ref (V.1 k) :: st)) := vf_j (fun g => hr_getR hd hf hs hj g) kz
theorem hv_put {ci j idx k : Nat} {fs : List (Option Nat)} {x : Int32} {ty : FieldType} (hd : pm_DC mi.1 pc pc' 3 (.putfield idx)) (hf : pm_fp mi.2.1 idx ci j ty) (hs : sk[k]? = some (.inr (.inr (ci, fs)))) (hj : fs[j]? = some none) (hn : narrow ty (.int x) = .int x) (hfit : fits ty (.int x) = true) (kz : pm_VF E Kt (pm_J X V mi ht (pm_wld V sk (pm_up M k j x)) pc' L st)) : pm_VF E Kt (pm_J X V mi ht (pm_wld V sk M) pc L (.int x :: .ref (V.1 k) :: st)) := vf_j (fun g => hr_put hd hf hs hj hn hfit g) kz
theorem hv_iald {k n : Nat} {i : Int32} (hd : pm_DC mi.1 pc pc' 1 .iaload) (hs : sk[k]? = some (.inl (0, n))) (hin : pm_in i n = true) (kz : pm_VF E Kt (pm_J X V mi ht (pm_wld V sk M) pc' L (.int (M k i.toNatClampNeg) :: st))) : pm_VF E Kt (pm_J X V mi ht (pm_wld V sk M) pc L (.int i :: .ref (V.1 k) :: st)) := vf_j (fun g => hr_iald hd hs hin g) kz
theorem hv_ialdC {k n : Nat} {i : Int32} (hd : pm_DC mi.1 pc pc' 1 .iaload) (hs : sk[k]? = some (.inl (0, n)))  (kz : pm_in i n = true → pm_VF E Kt (pm_J X V mi ht (pm_wld V sk M) pc' L (.int (M k i.toNatClampNeg) :: st))) : pm_VF (pm_chk (pm_in i n) E) Kt (pm_J X V mi ht (pm_wld V sk M) pc L (.int i :: .ref (V.1 k) :: st)) := vf_chk (fun hin => vf_j (fun g => hr_iald hd hs hin g) (kz hin))
theorem hv_iast {k n : Nat} {i x : Int32} (hd : pm_DC mi.1 pc pc' 1 .iastore) (hs : sk[k]? = some (.inl (0, n))) (hin : pm_in i n = true) (kz : pm_VF E Kt (pm_J X V mi ht (pm_wld V sk (pm_up M k i.toNatClampNeg x)) pc' L st)) : pm_VF E Kt (pm_J X V mi ht (pm_wld V sk M) pc L (.int x :: .int i :: .ref (V.1 k) :: st)) := vf_j (fun g => hr_iast hd hs hin g) kz
theorem hv_iastC {k n : Nat} {i x : Int32} (hd : pm_DC mi.1 pc pc' 1 .iastore) (hs : sk[k]? = some (.inl (0, n)))  (kz : pm_in i n = true → pm_VF E Kt (pm_J X V mi ht (pm_wld V sk (pm_up M k i.toNatClampNeg x)) pc' L st)) : pm_VF (pm_chk (pm_in i n) E) Kt (pm_J X V mi ht (pm_wld V sk M) pc L (.int x :: .int i :: .ref (V.1 k) :: st)) := vf_chk (fun hin => vf_j (fun g => hr_iast hd hs hin g) (kz hin))
theorem hv_aald {k t q : Nat} {ps : List Nat} {i : Int32} {ty : FieldType} (hd : pm_DC mi.1 pc pc' 1 .aaload) (hs : sk[k]? = some (.inr (.inl (t, ps)))) (htt : ∀ V : pm_V, (pm_tys V)[t]? = some (V.2.1 t, ty)) (hr : ty.isReference = true) (hin : pm_in i ps.length = true) (hq : ps[i.toNatClampNeg]? = some q) (kz : pm_VF E Kt (pm_J X V mi ht (pm_wld V sk M) pc' L (.ref (V.1 q) :: st))) : pm_VF E Kt (pm_J X V mi ht (pm_wld V sk M) pc L (.int i :: .ref (V.1 k) :: st)) := vf_j (fun g => hr_aald hd hs htt hr hin hq g) kz
theorem hv_gets {own ref n d : String} {idx q : Nat} (hq : (ref = "RainShares" ∧ n = "ABOVE" ∧ d = "[I" ∧ q = 900) ∨ (ref = "RainShares" ∧ n = "NAMES" ∧ d = "[C" ∧ q = 901) ∨ (ref = "RainShares$Voices" ∧ n = "BODIES" ∧ d = "[I" ∧ q = 902)) (ho : mi.2.1 = own) (hd : pm_DC mi.1 pc pc' 3 (.getstatic idx)) (hw : Cond.fieldLink own idx ref n d ∈ pm_tb) {ws : va_W} (kz : pm_VF E Kt (pm_J X V mi ht ws pc' L (.ref (V.1 q) :: st))) : pm_VF E Kt (pm_J X V mi ht ws pc L st) := vf_j (fun g => hr_gets hq ho hd hw g) kz
theorem hv_tA {i : Int32} {ws : va_W} (hd : pm_DC mi.1 pc pc' 1 .iaload) (hin : pm_in i 7 = true) (kz : pm_VF E Kt (pm_J X V mi ht ws pc' L (.int (pm_ABOVE i.toNatClampNeg) :: st))) : pm_VF E Kt (pm_J X V mi ht ws pc L (.int i :: .ref (V.1 900) :: st)) := vf_j (fun g => hr_tA hd hin g) kz
theorem hv_tAC {i : Int32} {ws : va_W} (hd : pm_DC mi.1 pc pc' 1 .iaload)  (kz : pm_in i 7 = true → pm_VF E Kt (pm_J X V mi ht ws pc' L (.int (pm_ABOVE i.toNatClampNeg) :: st))) : pm_VF (pm_chk (pm_in i 7) E) Kt (pm_J X V mi ht ws pc L (.int i :: .ref (V.1 900) :: st)) := vf_chk (fun hin => vf_j (fun g => hr_tA hd hin g) (kz hin))
theorem hv_tN {i : Int32} {ws : va_W} (hd : pm_DC mi.1 pc pc' 1 .caload) (hin : pm_in i 6 = true) (kz : pm_VF E Kt (pm_J X V mi ht ws pc' L (.int (pm_NAMES i.toNatClampNeg) :: st))) : pm_VF E Kt (pm_J X V mi ht ws pc L (.int i :: .ref (V.1 901) :: st)) := vf_j (fun g => hr_tN hd hin g) kz
theorem hv_tNC {i : Int32} {ws : va_W} (hd : pm_DC mi.1 pc pc' 1 .caload)  (kz : pm_in i 6 = true → pm_VF E Kt (pm_J X V mi ht ws pc' L (.int (pm_NAMES i.toNatClampNeg) :: st))) : pm_VF (pm_chk (pm_in i 6) E) Kt (pm_J X V mi ht ws pc L (.int i :: .ref (V.1 901) :: st)) := vf_chk (fun hin => vf_j (fun g => hr_tN hd hin g) (kz hin))
theorem hv_tB {i : Int32} {ws : va_W} (hd : pm_DC mi.1 pc pc' 1 .iaload) (hin : pm_in i 28 = true) (kz : pm_VF E Kt (pm_J X V mi ht ws pc' L (.int (pm_BODIES i.toNatClampNeg) :: st))) : pm_VF E Kt (pm_J X V mi ht ws pc L (.int i :: .ref (V.1 902) :: st)) := vf_j (fun g => hr_tB hd hin g) kz
theorem hv_tBC {i : Int32} {ws : va_W} (hd : pm_DC mi.1 pc pc' 1 .iaload)  (kz : pm_in i 28 = true → pm_VF E Kt (pm_J X V mi ht ws pc' L (.int (pm_BODIES i.toNatClampNeg) :: st))) : pm_VF (pm_chk (pm_in i 28) E) Kt (pm_J X V mi ht ws pc L (.int i :: .ref (V.1 902) :: st)) := vf_chk (fun hin => vf_j (fun g => hr_tB hd hin g) (kz hin))
theorem hv_max {idx : Nat} {x y : Int32} {ws : va_W} (hd : pm_DC mi.1 pc pc' 3 (.invokestatic idx)) (h1 : Cond.methodLink mi.2.1 idx Lib.Math.max.name ∈ pm_tb) (h2 : Cond.static Lib.Math.max.name ∈ pm_tb) (h3 : Cond.initialized "java/lang/Math" ∈ pm_tb) (h4 : Cond.code Lib.Math.max.name Lib.Math.max.code 2 (some .int) ∈ pm_tb) (hrest : (st.map fun v => v.category).sum ≤ 8) (kz : pm_VF E Kt (pm_J X V mi ht ws pc' L (.int (pm_max x y) :: st))) : pm_VF E Kt (pm_J X V mi ht ws pc L (.int y :: .int x :: st)) := vf_j (fun g => hr_max hd h1 h2 h3 h4 hrest g) kz
theorem hv_min {idx : Nat} {x y : Int32} {ws : va_W} (hd : pm_DC mi.1 pc pc' 3 (.invokestatic idx)) (h1 : Cond.methodLink mi.2.1 idx Lib.Math.min.name ∈ pm_tb) (h2 : Cond.static Lib.Math.min.name ∈ pm_tb) (h3 : Cond.initialized "java/lang/Math" ∈ pm_tb) (h4 : Cond.code Lib.Math.min.name Lib.Math.min.code 2 (some .int) ∈ pm_tb) (hrest : (st.map fun v => v.category).sum ≤ 8) (kz : pm_VF E Kt (pm_J X V mi ht ws pc' L (.int (pm_min x y) :: st))) : pm_VF E Kt (pm_J X V mi ht ws pc L (.int y :: .int x :: st)) := vf_j (fun g => hr_min hd h1 h2 h3 h4 hrest g) kz
theorem hv_copy {idx k0 k1 n0 n1 : Nat} {sp dp n : Int32} (hd : pm_DC mi.1 pc pc' 3 (.invokestatic idx)) (h1 : Cond.methodLink mi.2.1 idx arraycopyName ∈ pm_tb) (h2 : Cond.native arraycopyName ∈ pm_tb) (h3 : Cond.static arraycopyName ∈ pm_tb) (h4 : Cond.initialized "java/lang/System" ∈ pm_tb) (hrest : (st.map fun v => v.category).sum ≤ 8) (hs0 : sk[k0]? = some (.inl (0, n0))) (hs1 : sk[k1]? = some (.inl (0, n1))) (hin : pm_cin sp dp n n0 n1 = true) (kz : pm_VF E Kt (pm_J X V mi ht (pm_wld V sk (pm_cpy M k0 sp.toNatClampNeg k1 dp.toNatClampNeg n.toNatClampNeg)) pc' L st)) : pm_VF E Kt (pm_J X V mi ht (pm_wld V sk M) pc L (.int n :: .int dp :: .ref (V.1 k1) :: .int sp :: .ref (V.1 k0) :: st)) := vf_j (fun g => hr_copy hd h1 h2 h3 h4 hrest hs0 hs1 hin g) kz
theorem hv_copyC {idx k0 k1 n0 n1 : Nat} {sp dp n : Int32} (hd : pm_DC mi.1 pc pc' 3 (.invokestatic idx)) (h1 : Cond.methodLink mi.2.1 idx arraycopyName ∈ pm_tb) (h2 : Cond.native arraycopyName ∈ pm_tb) (h3 : Cond.static arraycopyName ∈ pm_tb) (h4 : Cond.initialized "java/lang/System" ∈ pm_tb) (hrest : (st.map fun v => v.category).sum ≤ 8) (hs0 : sk[k0]? = some (.inl (0, n0))) (hs1 : sk[k1]? = some (.inl (0, n1)))  (kz : pm_cin sp dp n n0 n1 = true → pm_VF E Kt (pm_J X V mi ht (pm_wld V sk (pm_cpy M k0 sp.toNatClampNeg k1 dp.toNatClampNeg n.toNatClampNeg)) pc' L st)) : pm_VF (pm_chk (pm_cin sp dp n n0 n1) E) Kt (pm_J X V mi ht (pm_wld V sk M) pc L (.int n :: .int dp :: .ref (V.1 k1) :: .int sp :: .ref (V.1 k0) :: st)) := vf_chk (fun hin => vf_j (fun g => hr_copy hd h1 h2 h3 h4 hrest hs0 hs1 hin g) (kz hin))
theorem hv_callI {y : MethodName} {mi' : pm_I} {ht' idx b ci : Nat} {fs : List (Option Nat)} {q : vw_C} {As : List Value} {x : Option (Int32 × pm_M)} {f : Int32 → pm_M → Option α} (hd : pm_DC mi.1 pc pc' 3 (.invokevirtual idx)) (hl : Cond.methodLink mi.2.1 idx y ∈ pm_tb) (hy : pm_cv y mi') (hn : pm_np y As.length) (hh : ht' + 1 ≤ ht) (hrest : (st.map fun v => v.category).sum ≤ 8) (hb : sk[b]? = some (.inr (.inr (ci, fs)))) (hc : pm_cls[ci]? = some q) (hq : q.1 = y.cls) (hst : stk = As.reverse ++ .ref (V.1 b) :: st) (hM : ∀ (r : Int32) (M' : pm_M), x = some (r, M') → ∀ l : Launch, pm_Ci l V sk y mi' ht' (.ref (V.1 b) :: As) M r M') (kz : ∀ (r : Int32) (M' : pm_M), pm_VF (f r M') Kt (pm_J X V mi ht (pm_wld V sk M') pc' L (.int r :: st))) : pm_VF (pm_b2 x f) Kt (pm_J X V mi ht (pm_wld V sk M) pc L stk) := by
  intro a h q
  cases x with
  | none => cases h
  | some b => exact hr_callI hd hl hy hn hh hrest hb hc hq hst (hM b.1 b.2 rfl) (kz b.1 b.2 a h q)
theorem hv_callV {x : Option pm_M} {f : pm_M → Option α} {y : MethodName} {mi' : pm_I} {ht' idx b ci : Nat} {fs : List (Option Nat)} {q : vw_C} {As : List Value} (hd : pm_DC mi.1 pc pc' 3 (.invokevirtual idx)) (hl : Cond.methodLink mi.2.1 idx y ∈ pm_tb) (hy : pm_cv y mi') (hn : pm_np y As.length) (hh : ht' + 1 ≤ ht) (hrest : (st.map fun v => v.category).sum ≤ 8) (hb : sk[b]? = some (.inr (.inr (ci, fs)))) (hc : pm_cls[ci]? = some q) (hq : q.1 = y.cls) (hst : stk = As.reverse ++ .ref (V.1 b) :: st) (hM : ∀ (M' : pm_M), x = some M' → ∀ l : Launch, pm_Cv l V sk y mi' ht' (.ref (V.1 b) :: As) M M') (kz : ∀ (M' : pm_M), pm_VF (f M') Kt (pm_J X V mi ht (pm_wld V sk M') pc' L st)) : pm_VF (pm_b1 x f) Kt (pm_J X V mi ht (pm_wld V sk M) pc L stk) := by
  intro a h q
  cases x with
  | none => cases h
  | some b => exact hr_callV hd hl hy hn hh hrest hb hc hq hst (hM b rfl) (kz b a h q)
theorem hv_callS {y : MethodName} {mi' : pm_I} {ht' idx : Nat} {As : List Value} {x : Option (Int32 × pm_M)} {f : Int32 → pm_M → Option α} (hd : pm_DC mi.1 pc pc' 3 (.invokestatic idx)) (hl : Cond.methodLink mi.2.1 idx y ∈ pm_tb) (hy : pm_cs y mi') (hn : pm_np y As.length) (hh : ht' + 1 ≤ ht) (hrest : (st.map fun v => v.category).sum ≤ 8) (hst : stk = As.reverse ++ st) (hM : ∀ (r : Int32) (M' : pm_M), x = some (r, M') → ∀ l : Launch, pm_Ci l V sk y mi' ht' As M r M') (kz : ∀ (r : Int32) (M' : pm_M), pm_VF (f r M') Kt (pm_J X V mi ht (pm_wld V sk M') pc' L (.int r :: st))) : pm_VF (pm_b2 x f) Kt (pm_J X V mi ht (pm_wld V sk M) pc L stk) := by
  intro a h q
  cases x with
  | none => cases h
  | some b => exact hr_callS hd hl hy hn hh hrest hst (hM b.1 b.2 rfl) (kz b.1 b.2 a h q)
theorem vl_b1 {a1 : Type} {x : Option (a1)} {f : a1 → Option α} {P : a1 → Prop} {G : Prop} (w : pm_VF x P G) (k : ∀ (x1 : a1), pm_VF (f x1) Kt (P x1)) : pm_VF (pm_b1 x f) Kt G := by
  intro a h q
  cases x with
  | none => cases h
  | some b => exact w b rfl (k b a h q)
theorem vl_s1 {a1 : Type} {x : Option ((a1) ⊕ α)} {f : a1 → Option α} {P : a1 → Prop} {G : Prop} (w : pm_VF x (Sum.elim P Kt) G) (k : ∀ (x1 : a1), pm_VF (f x1) Kt (P x1)) : pm_VF (pm_s1 x f) Kt G := by
  intro a h q
  cases x with
  | none => cases h
  | some b =>
    cases b with
    | inl b => exact w (Sum.inl b) rfl (k b a h q)
    | inr r => exact w (Sum.inr r) rfl (by cases h; exact q)
theorem vl_b2 {a1 a2 : Type} {x : Option (a1 × a2)} {f : a1 → a2 → Option α} {P : a1 × a2 → Prop} {G : Prop} (w : pm_VF x P G) (k : ∀ (x1 : a1) (x2 : a2), pm_VF (f x1 x2) Kt (P (x1, x2))) : pm_VF (pm_b2 x f) Kt G := by
  intro a h q
  cases x with
  | none => cases h
  | some b => exact w b rfl (k b.1 b.2 a h q)
theorem vl_s2 {a1 a2 : Type} {x : Option ((a1 × a2) ⊕ α)} {f : a1 → a2 → Option α} {P : a1 × a2 → Prop} {G : Prop} (w : pm_VF x (Sum.elim P Kt) G) (k : ∀ (x1 : a1) (x2 : a2), pm_VF (f x1 x2) Kt (P (x1, x2))) : pm_VF (pm_s2 x f) Kt G := by
  intro a h q
  cases x with
  | none => cases h
  | some b =>
    cases b with
    | inl b => exact w (Sum.inl b) rfl (k b.1 b.2 a h q)
    | inr r => exact w (Sum.inr r) rfl (by cases h; exact q)
theorem vl_b3 {a1 a2 a3 : Type} {x : Option (a1 × a2 × a3)} {f : a1 → a2 → a3 → Option α} {P : a1 × a2 × a3 → Prop} {G : Prop} (w : pm_VF x P G) (k : ∀ (x1 : a1) (x2 : a2) (x3 : a3), pm_VF (f x1 x2 x3) Kt (P (x1, x2, x3))) : pm_VF (pm_b3 x f) Kt G := by
  intro a h q
  cases x with
  | none => cases h
  | some b => exact w b rfl (k b.1 b.2.1 b.2.2 a h q)
theorem vl_s3 {a1 a2 a3 : Type} {x : Option ((a1 × a2 × a3) ⊕ α)} {f : a1 → a2 → a3 → Option α} {P : a1 × a2 × a3 → Prop} {G : Prop} (w : pm_VF x (Sum.elim P Kt) G) (k : ∀ (x1 : a1) (x2 : a2) (x3 : a3), pm_VF (f x1 x2 x3) Kt (P (x1, x2, x3))) : pm_VF (pm_s3 x f) Kt G := by
  intro a h q
  cases x with
  | none => cases h
  | some b =>
    cases b with
    | inl b => exact w (Sum.inl b) rfl (k b.1 b.2.1 b.2.2 a h q)
    | inr r => exact w (Sum.inr r) rfl (by cases h; exact q)
theorem vl_b4 {a1 a2 a3 a4 : Type} {x : Option (a1 × a2 × a3 × a4)} {f : a1 → a2 → a3 → a4 → Option α} {P : a1 × a2 × a3 × a4 → Prop} {G : Prop} (w : pm_VF x P G) (k : ∀ (x1 : a1) (x2 : a2) (x3 : a3) (x4 : a4), pm_VF (f x1 x2 x3 x4) Kt (P (x1, x2, x3, x4))) : pm_VF (pm_b4 x f) Kt G := by
  intro a h q
  cases x with
  | none => cases h
  | some b => exact w b rfl (k b.1 b.2.1 b.2.2.1 b.2.2.2 a h q)
theorem vl_b5 {a1 a2 a3 a4 a5 : Type} {x : Option (a1 × a2 × a3 × a4 × a5)} {f : a1 → a2 → a3 → a4 → a5 → Option α} {P : a1 × a2 × a3 × a4 × a5 → Prop} {G : Prop} (w : pm_VF x P G) (k : ∀ (x1 : a1) (x2 : a2) (x3 : a3) (x4 : a4) (x5 : a5), pm_VF (f x1 x2 x3 x4 x5) Kt (P (x1, x2, x3, x4, x5))) : pm_VF (pm_b5 x f) Kt G := by
  intro a h q
  cases x with
  | none => cases h
  | some b => exact w b rfl (k b.1 b.2.1 b.2.2.1 b.2.2.2.1 b.2.2.2.2 a h q)
theorem vf_inl {γ : Type} {a : α} {P : α → Prop} {Q : γ → Prop} {G : Prop} (h : P a → G) : pm_VF (some (Sum.inl a : α ⊕ γ)) (Sum.elim P Q) G := vf_end h
theorem vf_inr {γ : Type} {a : γ} {P : α → Prop} {Q : γ → Prop} {G : Prop} (h : pm_VF (some a) Q G) : pm_VF (some (Sum.inr a : α ⊕ γ)) (Sum.elim P Q) G := vf_end (fun q => h a rfl q)
theorem vf_chkz {b : Bool} {G : Prop} (k : b = true → pm_VF E Kt G) : pm_VF (pm_chk b E) Kt G := vf_chk k
end PMW
end
