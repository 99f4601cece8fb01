section
-- ===== PART A: goes FIRST, ahead of the names: the tables' words, and 'selects' of the private methods out of them =====
/-- a private method of a class that the tables say can be made, by its rows of tables_1 -/
def lw_okq (q : MethodName × Nat) : Prop := (q.1.cls ≠ "java/lang/invoke/MethodHandle" ∧ q.1.cls ≠ "java/lang/invoke/VarHandle") ∧ Cond.instantiable q.1.cls q.2 ∈ tables_1 ∧ Cond.privateMethod q.1 ∈ tables_1 ∧ Cond.instanceMethod q.1 ∈ tables_1
theorem lw_p0 : lw_okq (⟨"RainShares", "error", "(I)I"⟩, 8) := ⟨⟨by decide +kernel, by decide +kernel⟩, List.mem_of_getElem? (i := 14) (by decide +kernel), List.mem_of_getElem? (i := 277) (by decide +kernel), List.mem_of_getElem? (i := 278) (by decide +kernel)⟩
theorem lw_p1 : lw_okq (⟨"RainShares", "replace", "([IIII)I"⟩, 8) := ⟨⟨by decide +kernel, by decide +kernel⟩, List.mem_of_getElem? (i := 14) (by decide +kernel), List.mem_of_getElem? (i := 310) (by decide +kernel), List.mem_of_getElem? (i := 311) (by decide +kernel)⟩
theorem lw_p2 : lw_okq (⟨"RainShares$Reader", "readJoined", "(II)V"⟩, 7) := ⟨⟨by decide +kernel, by decide +kernel⟩, List.mem_of_getElem? (i := 171) (by decide +kernel), List.mem_of_getElem? (i := 427) (by decide +kernel), List.mem_of_getElem? (i := 428) (by decide +kernel)⟩
theorem lw_p3 : lw_okq (⟨"RainShares$Reader", "readSingle", "(I)V"⟩, 7) := ⟨⟨by decide +kernel, by decide +kernel⟩, List.mem_of_getElem? (i := 171) (by decide +kernel), List.mem_of_getElem? (i := 431) (by decide +kernel), List.mem_of_getElem? (i := 432) (by decide +kernel)⟩
theorem lw_p4 : lw_okq (⟨"RainShares$Reader", "next", "()I"⟩, 7) := ⟨⟨by decide +kernel, by decide +kernel⟩, List.mem_of_getElem? (i := 171) (by decide +kernel), List.mem_of_getElem? (i := 435) (by decide +kernel), List.mem_of_getElem? (i := 436) (by decide +kernel)⟩
theorem lw_p5 : lw_okq (⟨"RainShares$Reader", "nameOf", "(I)I"⟩, 7) := ⟨⟨by decide +kernel, by decide +kernel⟩, List.mem_of_getElem? (i := 171) (by decide +kernel), List.mem_of_getElem? (i := 439) (by decide +kernel), List.mem_of_getElem? (i := 440) (by decide +kernel)⟩
theorem lw_p6 : lw_okq (⟨"RainShares$Reader", "readNumber", "()V"⟩, 7) := ⟨⟨by decide +kernel, by decide +kernel⟩, List.mem_of_getElem? (i := 171) (by decide +kernel), List.mem_of_getElem? (i := 448) (by decide +kernel), List.mem_of_getElem? (i := 449) (by decide +kernel)⟩
theorem lw_p7 : lw_okq (⟨"RainShares$Reader", "write", "(I)V"⟩, 7) := ⟨⟨by decide +kernel, by decide +kernel⟩, List.mem_of_getElem? (i := 171) (by decide +kernel), List.mem_of_getElem? (i := 452) (by decide +kernel), List.mem_of_getElem? (i := 453) (by decide +kernel)⟩
theorem lw_p8 : lw_okq (⟨"RainShares$Reader", "readClosing", "()V"⟩, 7) := ⟨⟨by decide +kernel, by decide +kernel⟩, List.mem_of_getElem? (i := 171) (by decide +kernel), List.mem_of_getElem? (i := 456) (by decide +kernel), List.mem_of_getElem? (i := 457) (by decide +kernel)⟩
theorem lw_p9 : lw_okq (⟨"RainShares$Valley", "rain", "()V"⟩, 12) := ⟨⟨by decide +kernel, by decide +kernel⟩, List.mem_of_getElem? (i := 22) (by decide +kernel), List.mem_of_getElem? (i := 491) (by decide +kernel), List.mem_of_getElem? (i := 492) (by decide +kernel)⟩
theorem lw_p10 : lw_okq (⟨"RainShares$Valley", "charge", "()V"⟩, 12) := ⟨⟨by decide +kernel, by decide +kernel⟩, List.mem_of_getElem? (i := 22) (by decide +kernel), List.mem_of_getElem? (i := 496) (by decide +kernel), List.mem_of_getElem? (i := 497) (by decide +kernel)⟩
theorem lw_p11 : lw_okq (⟨"RainShares$Valley", "drift", "()V"⟩, 12) := ⟨⟨by decide +kernel, by decide +kernel⟩, List.mem_of_getElem? (i := 22) (by decide +kernel), List.mem_of_getElem? (i := 500) (by decide +kernel), List.mem_of_getElem? (i := 501) (by decide +kernel)⟩
theorem lw_p12 : lw_okq (⟨"RainShares$Valley", "draw", "()I"⟩, 12) := ⟨⟨by decide +kernel, by decide +kernel⟩, List.mem_of_getElem? (i := 22) (by decide +kernel), List.mem_of_getElem? (i := 514) (by decide +kernel), List.mem_of_getElem? (i := 515) (by decide +kernel)⟩
theorem lw_p13 : lw_okq (⟨"RainShares$Roofs", "clearPair", "(II)I"⟩, 6) := ⟨⟨by decide +kernel, by decide +kernel⟩, List.mem_of_getElem? (i := 28) (by decide +kernel), List.mem_of_getElem? (i := 527) (by decide +kernel), List.mem_of_getElem? (i := 528) (by decide +kernel)⟩
theorem lw_p14 : lw_okq (⟨"RainShares$Roofs", "clearRing", "(III)I"⟩, 6) := ⟨⟨by decide +kernel, by decide +kernel⟩, List.mem_of_getElem? (i := 28) (by decide +kernel), List.mem_of_getElem? (i := 532) (by decide +kernel), List.mem_of_getElem? (i := 533) (by decide +kernel)⟩
theorem lw_p15 : lw_okq (⟨"RainShares$Roofs", "sellsRather", "(II)Z"⟩, 6) := ⟨⟨by decide +kernel, by decide +kernel⟩, List.mem_of_getElem? (i := 28) (by decide +kernel), List.mem_of_getElem? (i := 577) (by decide +kernel), List.mem_of_getElem? (i := 578) (by decide +kernel)⟩
def lw_privs_1 : List (MethodName × Nat) := [(⟨"RainShares", "error", "(I)I"⟩, 8), (⟨"RainShares", "replace", "([IIII)I"⟩, 8), (⟨"RainShares$Reader", "readJoined", "(II)V"⟩, 7), (⟨"RainShares$Reader", "readSingle", "(I)V"⟩, 7), (⟨"RainShares$Reader", "next", "()I"⟩, 7), (⟨"RainShares$Reader", "nameOf", "(I)I"⟩, 7), (⟨"RainShares$Reader", "readNumber", "()V"⟩, 7), (⟨"RainShares$Reader", "write", "(I)V"⟩, 7), (⟨"RainShares$Reader", "readClosing", "()V"⟩, 7), (⟨"RainShares$Valley", "rain", "()V"⟩, 12), (⟨"RainShares$Valley", "charge", "()V"⟩, 12), (⟨"RainShares$Valley", "drift", "()V"⟩, 12), (⟨"RainShares$Valley", "draw", "()I"⟩, 12), (⟨"RainShares$Roofs", "clearPair", "(II)I"⟩, 6), (⟨"RainShares$Roofs", "clearRing", "(III)I"⟩, 6), (⟨"RainShares$Roofs", "sellsRather", "(II)Z"⟩, 6)]
theorem lw_r1 : ∀ q ∈ lw_privs_1, lw_okq q := List.forall_mem_cons.mpr ⟨lw_p0, List.forall_mem_cons.mpr ⟨lw_p1, List.forall_mem_cons.mpr ⟨lw_p2, List.forall_mem_cons.mpr ⟨lw_p3, List.forall_mem_cons.mpr ⟨lw_p4, List.forall_mem_cons.mpr ⟨lw_p5, List.forall_mem_cons.mpr ⟨lw_p6, List.forall_mem_cons.mpr ⟨lw_p7, List.forall_mem_cons.mpr ⟨lw_p8, List.forall_mem_cons.mpr ⟨lw_p9, List.forall_mem_cons.mpr ⟨lw_p10, List.forall_mem_cons.mpr ⟨lw_p11, List.forall_mem_cons.mpr ⟨lw_p12, List.forall_mem_cons.mpr ⟨lw_p13, List.forall_mem_cons.mpr ⟨lw_p14, List.forall_mem_cons.mpr ⟨lw_p15, fun _ h => absurd h List.not_mem_nil⟩⟩⟩⟩⟩⟩⟩⟩⟩⟩⟩⟩⟩⟩⟩⟩
theorem lw_p16 : lw_okq (⟨"RainShares", "arrearsBehind", "(III)I"⟩, 8) := ⟨⟨by decide +kernel, by decide +kernel⟩, List.mem_of_getElem? (i := 14) (by decide +kernel), List.mem_of_getElem? (i := 636) (by decide +kernel), List.mem_of_getElem? (i := 637) (by decide +kernel)⟩
theorem lw_p17 : lw_okq (⟨"RainShares$Voices", "say", "(IIII)I"⟩, 5) := ⟨⟨by decide +kernel, by decide +kernel⟩, List.mem_of_getElem? (i := 201) (by decide +kernel), List.mem_of_getElem? (i := 653) (by decide +kernel), List.mem_of_getElem? (i := 654) (by decide +kernel)⟩
theorem lw_p18 : lw_okq (⟨"RainShares$Voices", "note", "(I)V"⟩, 5) := ⟨⟨by decide +kernel, by decide +kernel⟩, List.mem_of_getElem? (i := 201) (by decide +kernel), List.mem_of_getElem? (i := 660) (by decide +kernel), List.mem_of_getElem? (i := 661) (by decide +kernel)⟩
theorem lw_p19 : lw_okq (⟨"RainShares$Voices", "sayBody", "(IIII)I"⟩, 5) := ⟨⟨by decide +kernel, by decide +kernel⟩, List.mem_of_getElem? (i := 201) (by decide +kernel), List.mem_of_getElem? (i := 664) (by decide +kernel), List.mem_of_getElem? (i := 665) (by decide +kernel)⟩
theorem lw_p20 : lw_okq (⟨"RainSharesModel", "finds", "(I)I"⟩, 20) := ⟨⟨by decide +kernel, by decide +kernel⟩, List.mem_of_getElem? (i := 735) (by decide +kernel), List.mem_of_getElem? (i := 810) (by decide +kernel), List.mem_of_getElem? (i := 811) (by decide +kernel)⟩
theorem lw_p21 : lw_okq (⟨"RainSharesModel", "worked", "(III)I"⟩, 20) := ⟨⟨by decide +kernel, by decide +kernel⟩, List.mem_of_getElem? (i := 735) (by decide +kernel), List.mem_of_getElem? (i := 820) (by decide +kernel), List.mem_of_getElem? (i := 821) (by decide +kernel)⟩
theorem lw_p22 : lw_okq (⟨"RainSharesModel", "either", "()I"⟩, 20) := ⟨⟨by decide +kernel, by decide +kernel⟩, List.mem_of_getElem? (i := 735) (by decide +kernel), List.mem_of_getElem? (i := 824) (by decide +kernel), List.mem_of_getElem? (i := 825) (by decide +kernel)⟩
theorem lw_p23 : lw_okq (⟨"RainSharesModel", "both", "()I"⟩, 20) := ⟨⟨by decide +kernel, by decide +kernel⟩, List.mem_of_getElem? (i := 735) (by decide +kernel), List.mem_of_getElem? (i := 828) (by decide +kernel), List.mem_of_getElem? (i := 829) (by decide +kernel)⟩
theorem lw_p24 : lw_okq (⟨"RainSharesModel", "compared", "()I"⟩, 20) := ⟨⟨by decide +kernel, by decide +kernel⟩, List.mem_of_getElem? (i := 735) (by decide +kernel), List.mem_of_getElem? (i := 832) (by decide +kernel), List.mem_of_getElem? (i := 833) (by decide +kernel)⟩
theorem lw_p25 : lw_okq (⟨"RainSharesModel", "sum", "()I"⟩, 20) := ⟨⟨by decide +kernel, by decide +kernel⟩, List.mem_of_getElem? (i := 735) (by decide +kernel), List.mem_of_getElem? (i := 836) (by decide +kernel), List.mem_of_getElem? (i := 837) (by decide +kernel)⟩
theorem lw_p26 : lw_okq (⟨"RainSharesModel", "product", "()I"⟩, 20) := ⟨⟨by decide +kernel, by decide +kernel⟩, List.mem_of_getElem? (i := 735) (by decide +kernel), List.mem_of_getElem? (i := 840) (by decide +kernel), List.mem_of_getElem? (i := 841) (by decide +kernel)⟩
theorem lw_p27 : lw_okq (⟨"RainSharesModel", "unit", "()I"⟩, 20) := ⟨⟨by decide +kernel, by decide +kernel⟩, List.mem_of_getElem? (i := 735) (by decide +kernel), List.mem_of_getElem? (i := 844) (by decide +kernel), List.mem_of_getElem? (i := 845) (by decide +kernel)⟩
theorem lw_p28 : lw_okq (⟨"RainSharesModel", "here", "()I"⟩, 20) := ⟨⟨by decide +kernel, by decide +kernel⟩, List.mem_of_getElem? (i := 735) (by decide +kernel), List.mem_of_getElem? (i := 848) (by decide +kernel), List.mem_of_getElem? (i := 849) (by decide +kernel)⟩
theorem lw_p29 : lw_okq (⟨"RainSharesModel", "wrong", "()I"⟩, 20) := ⟨⟨by decide +kernel, by decide +kernel⟩, List.mem_of_getElem? (i := 735) (by decide +kernel), List.mem_of_getElem? (i := 852) (by decide +kernel), List.mem_of_getElem? (i := 853) (by decide +kernel)⟩
theorem lw_p30 : lw_okq (⟨"RainSharesModel", "takes", "(I)Z"⟩, 20) := ⟨⟨by decide +kernel, by decide +kernel⟩, List.mem_of_getElem? (i := 735) (by decide +kernel), List.mem_of_getElem? (i := 856) (by decide +kernel), List.mem_of_getElem? (i := 857) (by decide +kernel)⟩
theorem lw_p31 : lw_okq (⟨"RainSharesModel", "nameOf", "(I)I"⟩, 20) := ⟨⟨by decide +kernel, by decide +kernel⟩, List.mem_of_getElem? (i := 735) (by decide +kernel), List.mem_of_getElem? (i := 860) (by decide +kernel), List.mem_of_getElem? (i := 861) (by decide +kernel)⟩
def lw_privs_2 : List (MethodName × Nat) := [(⟨"RainShares", "arrearsBehind", "(III)I"⟩, 8), (⟨"RainShares$Voices", "say", "(IIII)I"⟩, 5), (⟨"RainShares$Voices", "note", "(I)V"⟩, 5), (⟨"RainShares$Voices", "sayBody", "(IIII)I"⟩, 5), (⟨"RainSharesModel", "finds", "(I)I"⟩, 20), (⟨"RainSharesModel", "worked", "(III)I"⟩, 20), (⟨"RainSharesModel", "either", "()I"⟩, 20), (⟨"RainSharesModel", "both", "()I"⟩, 20), (⟨"RainSharesModel", "compared", "()I"⟩, 20), (⟨"RainSharesModel", "sum", "()I"⟩, 20), (⟨"RainSharesModel", "product", "()I"⟩, 20), (⟨"RainSharesModel", "unit", "()I"⟩, 20), (⟨"RainSharesModel", "here", "()I"⟩, 20), (⟨"RainSharesModel", "wrong", "()I"⟩, 20), (⟨"RainSharesModel", "takes", "(I)Z"⟩, 20), (⟨"RainSharesModel", "nameOf", "(I)I"⟩, 20)]
theorem lw_r2 : ∀ q ∈ lw_privs_2, lw_okq q := List.forall_mem_cons.mpr ⟨lw_p16, List.forall_mem_cons.mpr ⟨lw_p17, List.forall_mem_cons.mpr ⟨lw_p18, List.forall_mem_cons.mpr ⟨lw_p19, List.forall_mem_cons.mpr ⟨lw_p20, List.forall_mem_cons.mpr ⟨lw_p21, List.forall_mem_cons.mpr ⟨lw_p22, List.forall_mem_cons.mpr ⟨lw_p23, List.forall_mem_cons.mpr ⟨lw_p24, List.forall_mem_cons.mpr ⟨lw_p25, List.forall_mem_cons.mpr ⟨lw_p26, List.forall_mem_cons.mpr ⟨lw_p27, List.forall_mem_cons.mpr ⟨lw_p28, List.forall_mem_cons.mpr ⟨lw_p29, List.forall_mem_cons.mpr ⟨lw_p30, List.forall_mem_cons.mpr ⟨lw_p31, fun _ h => absurd h List.not_mem_nil⟩⟩⟩⟩⟩⟩⟩⟩⟩⟩⟩⟩⟩⟩⟩⟩
theorem lw_p32 : lw_okq (⟨"RainSharesModel", "textGives", "(IIII)I"⟩, 20) := ⟨⟨by decide +kernel, by decide +kernel⟩, List.mem_of_getElem? (i := 735) (by decide +kernel), List.mem_of_getElem? (i := 870) (by decide +kernel), List.mem_of_getElem? (i := 871) (by decide +kernel)⟩
theorem lw_p33 : lw_okq (⟨"RainSharesModel", "isRoof", "(I)Z"⟩, 20) := ⟨⟨by decide +kernel, by decide +kernel⟩, List.mem_of_getElem? (i := 735) (by decide +kernel), List.mem_of_getElem? (i := 886) (by decide +kernel), List.mem_of_getElem? (i := 887) (by decide +kernel)⟩
theorem lw_p34 : lw_okq (⟨"RainSharesModel", "of", "(II)I"⟩, 20) := ⟨⟨by decide +kernel, by decide +kernel⟩, List.mem_of_getElem? (i := 735) (by decide +kernel), List.mem_of_getElem? (i := 891) (by decide +kernel), List.mem_of_getElem? (i := 892) (by decide +kernel)⟩
theorem lw_p35 : lw_okq (⟨"RainSharesModel", "its", "(II)I"⟩, 20) := ⟨⟨by decide +kernel, by decide +kernel⟩, List.mem_of_getElem? (i := 735) (by decide +kernel), List.mem_of_getElem? (i := 895) (by decide +kernel), List.mem_of_getElem? (i := 896) (by decide +kernel)⟩
theorem lw_p36 : lw_okq (⟨"RainSharesModel", "areTwo", "(II)Z"⟩, 20) := ⟨⟨by decide +kernel, by decide +kernel⟩, List.mem_of_getElem? (i := 735) (by decide +kernel), List.mem_of_getElem? (i := 909) (by decide +kernel), List.mem_of_getElem? (i := 910) (by decide +kernel)⟩
theorem lw_p37 : lw_okq (⟨"RainSharesModel", "isCloud", "(I)Z"⟩, 20) := ⟨⟨by decide +kernel, by decide +kernel⟩, List.mem_of_getElem? (i := 735) (by decide +kernel), List.mem_of_getElem? (i := 935) (by decide +kernel), List.mem_of_getElem? (i := 936) (by decide +kernel)⟩
theorem lw_p38 : lw_okq (⟨"RainSharesModel", "lasts", "(I)I"⟩, 20) := ⟨⟨by decide +kernel, by decide +kernel⟩, List.mem_of_getElem? (i := 735) (by decide +kernel), List.mem_of_getElem? (i := 940) (by decide +kernel), List.mem_of_getElem? (i := 941) (by decide +kernel)⟩
theorem lw_p39 : lw_okq (⟨"RainSharesModel", "isSpent", "(I)Z"⟩, 20) := ⟨⟨by decide +kernel, by decide +kernel⟩, List.mem_of_getElem? (i := 735) (by decide +kernel), List.mem_of_getElem? (i := 944) (by decide +kernel), List.mem_of_getElem? (i := 945) (by decide +kernel)⟩
theorem lw_p40 : lw_okq (⟨"RainSharesModel", "fallsOn", "(II)I"⟩, 20) := ⟨⟨by decide +kernel, by decide +kernel⟩, List.mem_of_getElem? (i := 735) (by decide +kernel), List.mem_of_getElem? (i := 948) (by decide +kernel), List.mem_of_getElem? (i := 949) (by decide +kernel)⟩
theorem lw_p41 : lw_okq (⟨"RainSharesModel", "driftsTo", "(I)I"⟩, 20) := ⟨⟨by decide +kernel, by decide +kernel⟩, List.mem_of_getElem? (i := 735) (by decide +kernel), List.mem_of_getElem? (i := 952) (by decide +kernel), List.mem_of_getElem? (i := 953) (by decide +kernel)⟩
theorem lw_p42 : lw_okq (⟨"RainSharesModel", "daysGo", "(I)V"⟩, 20) := ⟨⟨by decide +kernel, by decide +kernel⟩, List.mem_of_getElem? (i := 735) (by decide +kernel), List.mem_of_getElem? (i := 977) (by decide +kernel), List.mem_of_getElem? (i := 978) (by decide +kernel)⟩
theorem lw_p43 : lw_okq (⟨"RainSharesModel", "dayGoes", "()V"⟩, 20) := ⟨⟨by decide +kernel, by decide +kernel⟩, List.mem_of_getElem? (i := 735) (by decide +kernel), List.mem_of_getElem? (i := 981) (by decide +kernel), List.mem_of_getElem? (i := 982) (by decide +kernel)⟩
theorem lw_p44 : lw_okq (⟨"RainSharesModel", "mostInArrears", "()I"⟩, 20) := ⟨⟨by decide +kernel, by decide +kernel⟩, List.mem_of_getElem? (i := 735) (by decide +kernel), List.mem_of_getElem? (i := 985) (by decide +kernel), List.mem_of_getElem? (i := 986) (by decide +kernel)⟩
theorem lw_p45 : lw_okq (⟨"RainSharesModel", "fallsWhere", "(II)I"⟩, 20) := ⟨⟨by decide +kernel, by decide +kernel⟩, List.mem_of_getElem? (i := 735) (by decide +kernel), List.mem_of_getElem? (i := 989) (by decide +kernel), List.mem_of_getElem? (i := 990) (by decide +kernel)⟩
theorem lw_p46 : lw_okq (⟨"RainSharesModel", "all", "(I)I"⟩, 20) := ⟨⟨by decide +kernel, by decide +kernel⟩, List.mem_of_getElem? (i := 735) (by decide +kernel), List.mem_of_getElem? (i := 994) (by decide +kernel), List.mem_of_getElem? (i := 995) (by decide +kernel)⟩
theorem lw_p47 : lw_okq (⟨"RainSharesModel", "drawn", "()I"⟩, 20) := ⟨⟨by decide +kernel, by decide +kernel⟩, List.mem_of_getElem? (i := 735) (by decide +kernel), List.mem_of_getElem? (i := 1003) (by decide +kernel), List.mem_of_getElem? (i := 1004) (by decide +kernel)⟩
def lw_privs_3 : List (MethodName × Nat) := [(⟨"RainSharesModel", "textGives", "(IIII)I"⟩, 20), (⟨"RainSharesModel", "isRoof", "(I)Z"⟩, 20), (⟨"RainSharesModel", "of", "(II)I"⟩, 20), (⟨"RainSharesModel", "its", "(II)I"⟩, 20), (⟨"RainSharesModel", "areTwo", "(II)Z"⟩, 20), (⟨"RainSharesModel", "isCloud", "(I)Z"⟩, 20), (⟨"RainSharesModel", "lasts", "(I)I"⟩, 20), (⟨"RainSharesModel", "isSpent", "(I)Z"⟩, 20), (⟨"RainSharesModel", "fallsOn", "(II)I"⟩, 20), (⟨"RainSharesModel", "driftsTo", "(I)I"⟩, 20), (⟨"RainSharesModel", "daysGo", "(I)V"⟩, 20), (⟨"RainSharesModel", "dayGoes", "()V"⟩, 20), (⟨"RainSharesModel", "mostInArrears", "()I"⟩, 20), (⟨"RainSharesModel", "fallsWhere", "(II)I"⟩, 20), (⟨"RainSharesModel", "all", "(I)I"⟩, 20), (⟨"RainSharesModel", "drawn", "()I"⟩, 20)]
theorem lw_r3 : ∀ q ∈ lw_privs_3, lw_okq q := List.forall_mem_cons.mpr ⟨lw_p32, List.forall_mem_cons.mpr ⟨lw_p33, List.forall_mem_cons.mpr ⟨lw_p34, List.forall_mem_cons.mpr ⟨lw_p35, List.forall_mem_cons.mpr ⟨lw_p36, List.forall_mem_cons.mpr ⟨lw_p37, List.forall_mem_cons.mpr ⟨lw_p38, List.forall_mem_cons.mpr ⟨lw_p39, List.forall_mem_cons.mpr ⟨lw_p40, List.forall_mem_cons.mpr ⟨lw_p41, List.forall_mem_cons.mpr ⟨lw_p42, List.forall_mem_cons.mpr ⟨lw_p43, List.forall_mem_cons.mpr ⟨lw_p44, List.forall_mem_cons.mpr ⟨lw_p45, List.forall_mem_cons.mpr ⟨lw_p46, List.forall_mem_cons.mpr ⟨lw_p47, fun _ h => absurd h List.not_mem_nil⟩⟩⟩⟩⟩⟩⟩⟩⟩⟩⟩⟩⟩⟩⟩⟩
theorem lw_p48 : lw_okq (⟨"RainSharesModel", "clearsAll", "()I"⟩, 20) := ⟨⟨by decide +kernel, by decide +kernel⟩, List.mem_of_getElem? (i := 735) (by decide +kernel), List.mem_of_getElem? (i := 1012) (by decide +kernel), List.mem_of_getElem? (i := 1013) (by decide +kernel)⟩
theorem lw_p49 : lw_okq (⟨"RainSharesModel", "lessens", "(III)V"⟩, 20) := ⟨⟨by decide +kernel, by decide +kernel⟩, List.mem_of_getElem? (i := 735) (by decide +kernel), List.mem_of_getElem? (i := 1016) (by decide +kernel), List.mem_of_getElem? (i := 1017) (by decide +kernel)⟩
theorem lw_p50 : lw_okq (⟨"RainSharesModel", "keepAside", "()V"⟩, 20) := ⟨⟨by decide +kernel, by decide +kernel⟩, List.mem_of_getElem? (i := 735) (by decide +kernel), List.mem_of_getElem? (i := 1024) (by decide +kernel), List.mem_of_getElem? (i := 1025) (by decide +kernel)⟩
theorem lw_p51 : lw_okq (⟨"RainSharesModel", "putBack", "()V"⟩, 20) := ⟨⟨by decide +kernel, by decide +kernel⟩, List.mem_of_getElem? (i := 735) (by decide +kernel), List.mem_of_getElem? (i := 1028) (by decide +kernel), List.mem_of_getElem? (i := 1029) (by decide +kernel)⟩
theorem lw_p52 : lw_okq (⟨"RainSharesModel", "fewestLeft", "()I"⟩, 20) := ⟨⟨by decide +kernel, by decide +kernel⟩, List.mem_of_getElem? (i := 735) (by decide +kernel), List.mem_of_getElem? (i := 1053) (by decide +kernel), List.mem_of_getElem? (i := 1054) (by decide +kernel)⟩
theorem lw_p53 : lw_okq (⟨"RainSharesModel", "daysLeft", "(I)I"⟩, 20) := ⟨⟨by decide +kernel, by decide +kernel⟩, List.mem_of_getElem? (i := 735) (by decide +kernel), List.mem_of_getElem? (i := 1057) (by decide +kernel), List.mem_of_getElem? (i := 1058) (by decide +kernel)⟩
theorem lw_p54 : lw_okq (⟨"RainSharesModel", "rainsBy", "(II)I"⟩, 20) := ⟨⟨by decide +kernel, by decide +kernel⟩, List.mem_of_getElem? (i := 735) (by decide +kernel), List.mem_of_getElem? (i := 1085) (by decide +kernel), List.mem_of_getElem? (i := 1086) (by decide +kernel)⟩
theorem lw_p55 : lw_okq (⟨"RainSharesModel", "ran", "(I)V"⟩, 20) := ⟨⟨by decide +kernel, by decide +kernel⟩, List.mem_of_getElem? (i := 735) (by decide +kernel), List.mem_of_getElem? (i := 1089) (by decide +kernel), List.mem_of_getElem? (i := 1090) (by decide +kernel)⟩
theorem lw_p56 : lw_okq (⟨"RainSharesModel", "driftsBy", "(II)I"⟩, 20) := ⟨⟨by decide +kernel, by decide +kernel⟩, List.mem_of_getElem? (i := 735) (by decide +kernel), List.mem_of_getElem? (i := 1093) (by decide +kernel), List.mem_of_getElem? (i := 1094) (by decide +kernel)⟩
theorem lw_p57 : lw_okq (⟨"RainSharesModel", "wearsBy", "(II)I"⟩, 20) := ⟨⟨by decide +kernel, by decide +kernel⟩, List.mem_of_getElem? (i := 735) (by decide +kernel), List.mem_of_getElem? (i := 1097) (by decide +kernel), List.mem_of_getElem? (i := 1098) (by decide +kernel)⟩
theorem lw_p58 : lw_okq (⟨"RainSharesModel", "tellsBy", "(II)I"⟩, 20) := ⟨⟨by decide +kernel, by decide +kernel⟩, List.mem_of_getElem? (i := 735) (by decide +kernel), List.mem_of_getElem? (i := 1101) (by decide +kernel), List.mem_of_getElem? (i := 1102) (by decide +kernel)⟩
def lw_privs_4 : List (MethodName × Nat) := [(⟨"RainSharesModel", "clearsAll", "()I"⟩, 20), (⟨"RainSharesModel", "lessens", "(III)V"⟩, 20), (⟨"RainSharesModel", "keepAside", "()V"⟩, 20), (⟨"RainSharesModel", "putBack", "()V"⟩, 20), (⟨"RainSharesModel", "fewestLeft", "()I"⟩, 20), (⟨"RainSharesModel", "daysLeft", "(I)I"⟩, 20), (⟨"RainSharesModel", "rainsBy", "(II)I"⟩, 20), (⟨"RainSharesModel", "ran", "(I)V"⟩, 20), (⟨"RainSharesModel", "driftsBy", "(II)I"⟩, 20), (⟨"RainSharesModel", "wearsBy", "(II)I"⟩, 20), (⟨"RainSharesModel", "tellsBy", "(II)I"⟩, 20)]
theorem lw_r4 : ∀ q ∈ lw_privs_4, lw_okq q := List.forall_mem_cons.mpr ⟨lw_p48, List.forall_mem_cons.mpr ⟨lw_p49, List.forall_mem_cons.mpr ⟨lw_p50, List.forall_mem_cons.mpr ⟨lw_p51, List.forall_mem_cons.mpr ⟨lw_p52, List.forall_mem_cons.mpr ⟨lw_p53, List.forall_mem_cons.mpr ⟨lw_p54, List.forall_mem_cons.mpr ⟨lw_p55, List.forall_mem_cons.mpr ⟨lw_p56, List.forall_mem_cons.mpr ⟨lw_p57, List.forall_mem_cons.mpr ⟨lw_p58, fun _ h => absurd h List.not_mem_nil⟩⟩⟩⟩⟩⟩⟩⟩⟩⟩⟩
def lw_privs : List (MethodName × Nat) := lw_privs_1 ++ (lw_privs_2 ++ (lw_privs_3 ++ (lw_privs_4)))
def lw_tbl : List Cond := k2_sels lw_privs ++ tables_1
theorem lw_privs_ok : ∀ q ∈ lw_privs, lw_okq q := by
  show ∀ q ∈ lw_privs_1 ++ (lw_privs_2 ++ (lw_privs_3 ++ (lw_privs_4))), lw_okq q
  exact List.forall_mem_append.mpr ⟨lw_r1, List.forall_mem_append.mpr ⟨lw_r2, List.forall_mem_append.mpr ⟨lw_r3, lw_r4⟩⟩⟩
/-! ===== BEGIN words of one list among another's, by their places ===== -/
theorem goodIn_r {big : List Cond} (ws : List Cond) (ps : List Nat) (hp : ws = ps.filterMap (fun i => big[i]?)) (h : ws.all goodWord = true) : GoodIn big ws := by
  intro w hw
  have h1 := List.all_eq_true.mp h w hw
  rw [hp] at hw
  obtain ⟨i, -, hi⟩ := List.mem_filterMap.mp hw
  have hm : w ∈ big := by first | exact List.mem_of_getElem? hi | exact List.getElem?_mem hi
  exact ⟨hm, good_of_word h1⟩
theorem goodIn_app {big a b : List Cond} (ha : GoodIn big a) (hb : GoodIn big b) : GoodIn big (a ++ b) := fun w h => (List.mem_append.mp h).elim (ha w) (hb w)
theorem goodIn_ca {big a b : List Cond} {c : Cond} (ha : GoodIn big (c :: a)) (hb : GoodIn big b) : GoodIn big (c :: (a ++ b)) := fun w h => (List.mem_cons.mp h).elim (fun e => ha w (List.mem_cons.mpr (Or.inl e))) (fun h => (List.mem_append.mp h).elim (fun h => ha w (List.mem_cons.mpr (Or.inr h))) (hb w))
theorem goodIn_sub {big ws : List Cond} (hm : ∀ w ∈ ws, w ∈ big) (h : ws.all goodWord = true) : GoodIn big ws := fun w hw => ⟨hm w hw, good_of_word (List.all_eq_true.mp h w hw)⟩
/-! ===== END ===== -/

/-! ===== BEGIN new T[n][m]: the outer array a place, the inner ones among the pooled ===== -/
/-- f, but v at every address of l -/
def vr_up {α : Type} (f : Nat → α) (l : List Nat) (v : α) : Nat → α := fun a => if a ∈ l then v else f a
theorem vr_up_in {α : Type} {f : Nat → α} {l : List Nat} {v : α} {a : Nat} (h : a ∈ l) : vr_up f l v a = v := if_pos h
theorem vr_up_ne {α : Type} {f : Nat → α} {l : List Nat} {v : α} {a : Nat} (h : a ∉ l) : vr_up f l v a = f a := if_neg h
theorem vr_rows {L l : List Nat} {f : Nat → va_E} {e : va_E} (h : ∀ a, a ∈ l → a ∉ L) : va_pl L f ++ l.map (fun a => (a, e)) = va_pl (L ++ l) (vr_up f l e) := by
  unfold va_pl
  rw [List.map_append]
  congr 1
  · apply List.map_congr_left
    intro a ha
    rw [vr_up_ne (fun q => h a q ha)]
  · apply List.map_congr_left
    intro a ha
    rw [vr_up_in ha]
theorem vr_lay {X rows : va_W} {x : Nat × va_E} {pl : va_W} {D : va_G} {cl : List vw_C} {H : Heap} (hP : va_P D cl (((X ++ pl) ++ [x]) ++ rows) H) : va_P D cl ((X ++ [x]) ++ (pl ++ rows)) H := by
  rw [List.append_assoc (X ++ pl)] at hP
  have h := va_P.swap hP
  rw [← List.append_assoc X] at h
  have h2 := va_P.swap h
  rw [List.append_assoc (X ++ [x])] at h2
  exact h2
theorem vr_layD {X rows : va_W} {x : Nat × va_E} {pl : va_W} {A : Nat → Prop} (hD : va_D A (((X ++ pl) ++ [x]) ++ rows)) : va_D A ((X ++ [x]) ++ (pl ++ rows)) := by
  rw [List.append_assoc (X ++ pl)] at hD
  have h := va_D.swap hD
  rw [← List.append_assoc X] at h
  have h2 := va_D.swap h
  rw [List.append_assoc (X ++ [x])] at h2
  exact h2
theorem vr_outer (c : ClassId) (N h0 : Nat) : ∀ i : Nat, Jvm.Free.Multi.outerC c N h0 i = arrV c N (fun j => va_rf (if j < i then some (h0 + 1 + j) else none))
  | 0 => by
    show ({ cls := c, slots := Array.replicate N .null, vm := .none } : Cell) = _
    rw [arrV_new]
    refine congrArg (arrV c N) (funext fun j => ?_)
    simp [va_rf]
  | i + 1 => by
    show (Jvm.Free.Multi.outerC c N h0 i).setSlot i (.ref (h0 + 1 + i)) = _
    rw [vr_outer c N h0 i, arrV_store]
    refine congrArg (arrV c N) (funext fun j => ?_)
    by_cases e : j = i
    · subst e
      simp [updV, va_rf]
    · by_cases h : j < i
      · simp [updV, e, h, Nat.lt_succ_of_lt h]
      · simp [updV, e, h, show ¬ j < i + 1 by omega]
def va_AOA (ty : FieldType) (U : State) : Prop := (Cond.arrayOver (.array ty)).before #[] U = true
theorem va_AOA.use {ty : FieldType} {A : Array Value} {U : State} (h : va_AOA ty U) : (Cond.arrayOver (.array ty)).before A U = true := h
theorem va_AOA.of {ty : FieldType} {A : Array Value} {U : State} (h : (Cond.arrayOver (.array ty)).before A U = true) : va_AOA ty U := h
section VGM
variable {p : Program} {l : Launch} {e : Env} {R : Room} {s : State} {m : MethodId} {args : Array Value} {below : List Frame} {meth : Method} {c : Code} {H : Heap} {locs : List Loc} {cells slots : Nat} {Q : State → Prop}
variable {cc : ByteArray} {pc : Nat} {ls : Array Slot} {rest : List Value} {D : va_G} {cl : List vw_C} {A : Nat → Prop} {a : Nat} {tys : List (ClassId × FieldType)} {ws : va_W} {H0 : Heap}
theorem va_mna {X : va_W} {L : List Nat} {f : Nat → va_E} {cc : ByteArray} (hexec : p.tables.exec = Jvm.exec) (hb : c.code = cc) {own : String} {index : Nat} {ty : FieldType} {cy : ClassId} (hown : s.vm.findClass own = some m.cls) (hclink : (Cond.classLink own index ("[" ++ (FieldType.array ty).toString)).before args s = true) (hover : va_AOA ty s) (harr : (Cond.arrayClass ty).before args s = true) (hcy : s.vm.findClass (FieldType.array ty).toString = some cy)
    (hK : va_K D cl tys s) (hP : va_P D cl (X ++ va_pl L f) H) (hD : va_D A (X ++ va_pl L f)) (hS : va_S A H0 H locs) (hA : ∀ q, H0.size ≤ q → A q) {n k : Int32} {N' K' : Nat} {z : vp_A} (hn : ¬ n < 0) (hk : ¬ k < 0) (hN : n.toNatClampNeg = N') (hM : k.toNatClampNeg = K')
    (hb1 : N' * 4 ≤ 536870912) (hb2 : K' * componentBytes ty ≤ 536870912) (hb3 : K' ≤ 536870912) (hdf : fits ty (defaultValue ty) = true) (hdd : (defaultValue ty).isDefault = true) (hcells : cells + (1 + N') ≤ R.cells) (hslots : slots + (N' + N' * K') ≤ R.slots) (hz : ∀ c : ClassId, Jvm.Free.Multi.innerC c K' (defaultValue ty) = vp_cell c z) (hdg : decode cc pc = .ok (.multianewarray index 2, 4))
    (kk : ∀ (q : Nat) (r : Nat → Nat) (cA : ClassId) (H1 : Heap), (∀ i j : Nat, i < N' → j < N' → r i = r j → i = j) → (∀ i : Nat, i < N' → r i ∉ L) → va_K D cl (tys ++ [(cA, .array ty)]) s →
      va_P D cl ((X ++ [(q, .inl (cA, N', .inr (.inr (.inr (.inr (fun i => if i < N' then some (r i) else none))))))]) ++ va_pl (L ++ (List.range N').map r) (vr_up f ((List.range N').map r) (.inl (cy, z)))) H1 → va_D A ((X ++ [(q, .inl (cA, N', .inr (.inr (.inr (.inr (fun i => if i < N' then some (r i) else none))))))]) ++ va_pl (L ++ (List.range N').map r) (vr_up f ((List.range N').map r) (.inl (cy, z)))) → va_S A H0 H1 locs →
      W p l e R s m args below meth c H1 locs (cells + 1 + N') (slots + N' + N' * K') Q (F0 m (pc + 4) ls (.ref q :: rest))) : W p l e R s m args below meth c H locs cells slots Q (F0 m pc ls (.int k :: .int n :: rest)) := by
  subst hN
  subst hM
  intro T hT Xs
  obtain ⟨vm₁, cA, comp, -, fA, fC, hO, -, X', step⟩ := Xs.multianewarray2F hexec hown hclink (va_AOA.use hover) harr (g := F0 m pc ls (.int k :: .int n :: rest)) rfl (by rw [hb]; exact hdg) rfl hn hk hb1 hb2 hb3 hdf hdd hcells hslots
  have ec : some cy = some comp := hcy.symm.trans fC
  cases ec
  generalize hF : Jvm.Free.Multi.fill (T.setVm vm₁) cA cy n.toNatClampNeg k.toNatClampNeg (defaultValue ty) n.toNatClampNeg = F at X' step
  have hTh : (T.setVm vm₁).heap = H := hT
  obtain ⟨f1, f2, -, -⟩ := Jvm.Free.Multi.fill_facts (T.setVm vm₁) cA cy n.toNatClampNeg k.toNatClampNeg (defaultValue ty) n.toNatClampNeg
  rw [hF, hTh] at f1 f2
  have hold : ∀ x : Nat, x < H.size → F.heap[x]? = H[x]? := fun x hx => by
    have := Jvm.Free.Multi.fill_old (T.setVm vm₁) cA cy n.toNatClampNeg k.toNatClampNeg (defaultValue ty) (a := x) (by rw [hTh]; exact hx) n.toNatClampNeg
    rw [hF, hTh] at this
    exact this
  have hrow : ∀ j : Nat, j < n.toNatClampNeg → F.heap[H.size + 1 + j]? = some (vp_cell cy z) := fun j hj => by
    have := Jvm.Free.Multi.fill_inner (T.setVm vm₁) cA cy n.toNatClampNeg k.toNatClampNeg (defaultValue ty) n.toNatClampNeg j hj
    rw [hF, hTh, hz] at this
    exact this
  have hout : Jvm.Free.Multi.outerC cA n.toNatClampNeg H.size n.toNatClampNeg = vp_cell cA (n.toNatClampNeg, .inr (.inr (.inr (.inr (fun i => if i < n.toNatClampNeg then some (H.size + 1 + i) else none))))) := by
    rw [vp_cell_q]
    exact vr_outer cA n.toNatClampNeg H.size n.toNatClampNeg
  rw [hout] at f2
  have hlt : ∀ a, a ∈ L → a < H.size := fun a ha => by
    obtain ⟨k9, hk9⟩ := va_pl_get (X := X) (f := f) ha
    exact (hP k9 _ hk9).lt
  have hnl : ∀ i : Nat, i < n.toNatClampNeg → H.size + 1 + i ∉ L := fun i _ h => by
    have := hlt _ h
    omega
  have hnm : ∀ a, a ∈ (List.range n.toNatClampNeg).map (fun i => H.size + 1 + i) → a ∉ L := fun a ha h => by
    obtain ⟨i, -, rfl⟩ := List.mem_map.mp ha
    have := hlt _ h
    omega
  have hP0 : va_P D cl (X ++ va_pl L f) F.heap := hP.kept (fun k9 x hx => hold x.1 ((hP k9 x hx).lt))
  have hP1 : va_P D cl ((X ++ va_pl L f) ++ [(H.size, .inl (cA, n.toNatClampNeg, .inr (.inr (.inr (.inr (fun i => if i < n.toNatClampNeg then some (H.size + 1 + i) else none))))))]) F.heap := hP0.app (fun k9 x hx => by
    have h0 : k9 < 1 := (List.getElem?_eq_some_iff.mp hx).1
    rw [show k9 = 0 by omega] at hx
    cases hx
    exact f2)
  have hP2 : va_P D cl (((X ++ va_pl L f) ++ [(H.size, .inl (cA, n.toNatClampNeg, .inr (.inr (.inr (.inr (fun i => if i < n.toNatClampNeg then some (H.size + 1 + i) else none))))))]) ++ ((List.range n.toNatClampNeg).map (fun i => H.size + 1 + i)).map (fun a => (a, .inl (cy, z)))) F.heap := hP1.app (fun k9 x hx => by
    obtain ⟨a, ha, rfl⟩ := List.mem_map.mp (List.mem_of_getElem? hx)
    obtain ⟨i, hi, rfl⟩ := List.mem_map.mp ha
    exact hrow i (List.mem_range.mp hi))
  have hD2 : va_D A (((X ++ va_pl L f) ++ [(H.size, .inl (cA, n.toNatClampNeg, .inr (.inr (.inr (.inr (fun i => if i < n.toNatClampNeg then some (H.size + 1 + i) else none))))))]) ++ ((List.range n.toNatClampNeg).map (fun i => H.size + 1 + i)).map (fun a => (a, .inl (cy, z)))) := by
    have hD1 := hD.push (e := .inl (cA, n.toNatClampNeg, .inr (.inr (.inr (.inr (fun i => if i < n.toNatClampNeg then some (H.size + 1 + i) else none)))))) hP rfl (hA _ hS.1)
    generalize hW1 : (X ++ va_pl L f) ++ [(H.size, .inl (cA, n.toNatClampNeg, .inr (.inr (.inr (.inr (fun i => if i < n.toNatClampNeg then some (H.size + 1 + i) else none))))))] = W1 at hD1 hP1 ⊢
    have hle : ∀ (k9 : Nat) (x : Nat × va_E), W1[k9]? = some x → x.1 ≤ H.size := fun k9 x hx => by
      rw [← hW1] at hx
      by_cases hl : k9 < (X ++ va_pl L f).length
      · rw [List.getElem?_append_left hl] at hx
        exact Nat.le_of_lt ((hP k9 x hx).lt)
      · rw [List.getElem?_append_right (by omega)] at hx
        have h0 : k9 - (X ++ va_pl L f).length < 1 := (List.getElem?_eq_some_iff.mp hx).1
        rw [show k9 - (X ++ va_pl L f).length = 0 by omega] at hx
        cases hx
        exact Nat.le_refl _
    have hr : ∀ (k9 : Nat) (x : Nat × va_E), (((List.range n.toNatClampNeg).map (fun i => H.size + 1 + i)).map (fun a => ((a, .inl (cy, z)) : Nat × va_E)))[k9]? = some x → x.1 = H.size + 1 + k9 := fun k9 x hx => by
      rw [List.getElem?_map, List.getElem?_map] at hx
      by_cases h9 : k9 < n.toNatClampNeg
      · rw [List.getElem?_range h9] at hx
        cases hx
        rfl
      · have hn0 : (List.range n.toNatClampNeg)[k9]? = none := List.getElem?_eq_none (by rw [List.length_range]; omega)
        rw [hn0] at hx
        cases hx
    refine ⟨fun i j x y hi hj hxy => ?_, fun k9 x hx => ?_⟩
    · by_cases h1 : i < W1.length <;> by_cases h2 : j < W1.length
      · rw [List.getElem?_append_left h1] at hi
        rw [List.getElem?_append_left h2] at hj
        exact hD1.1 i j x y hi hj hxy
      · rw [List.getElem?_append_left h1] at hi
        rw [List.getElem?_append_right (by omega)] at hj
        have := hle _ _ hi
        have := hr _ _ hj
        omega
      · rw [List.getElem?_append_right (by omega)] at hi
        rw [List.getElem?_append_left h2] at hj
        have := hle _ _ hj
        have := hr _ _ hi
        omega
      · rw [List.getElem?_append_right (by omega)] at hi hj
        have := hr _ _ hi
        have := hr _ _ hj
        omega
    · by_cases h1 : k9 < W1.length
      · rw [List.getElem?_append_left h1] at hx
        exact hD1.2 k9 x hx
      · rw [List.getElem?_append_right (by omega)] at hx
        have := hr _ _ hx
        exact hA _ (by have := hS.1; omega)
  have hAr : ArrOfT s cA (.array ty) := fun N9 z9 => by
    obtain ⟨-, k9, hk9, cm9, hkk9⟩ := (hO 0 0 0).1
    exact ⟨(fun q hq => by cases hq), k9, hk9, cm9, hkk9⟩
  have hK2 : va_K D cl (tys ++ [(cA, .array ty)]) s := ⟨hK.1, fun k9 x hx => by
    by_cases hl : k9 < tys.length
    · rw [List.getElem?_append_left hl] at hx
      exact hK.2 k9 x hx
    · rw [List.getElem?_append_right (by omega)] at hx
      have h0 : k9 - tys.length < 1 := (List.getElem?_eq_some_iff.mp hx).1
      rw [show k9 - tys.length = 0 by omega] at hx
      cases hx
      exact ⟨hAr, fA⟩⟩
  obtain ⟨t, a1, b1⟩ := kk H.size (fun i => H.size + 1 + i) cA F.heap (fun i j _ _ h => by have h9 : H.size + 1 + i = H.size + 1 + j := h; omega) hnl hK2 (by rw [← vr_rows hnm]; exact vr_lay hP2) (by rw [← vr_rows hnm]; exact vr_layD hD2) ⟨by rw [f1]; have := hS.1; omega, fun x h1 h2 => (hold x (Nat.lt_of_lt_of_le h1 hS.1)).trans (hS.2.1 x h1 h2), hS.2.2⟩ F rfl X'
  refine ⟨t, step t ?_, b1⟩
  have e : T.heap.size = H.size := by rw [hT]
  rw [e]
  exact a1
end VGM
/-! ===== END ===== -/

def RX0 : String := "RainShares$Clouds"
def TX0 : u_T := fun k => match k with
  | 0 => ("RainShares$Clouds", "many", "I", false)
  | 1 => ("RainShares$Clouds", "kind", "[I", true)
  | 2 => ("RainShares$Clouds", "m", "[I", true)
  | 3 => ("RainShares$Clouds", "over", "[I", true)
  | _ => ("RainShares$Clouds", "wear", "[I", true)
def tyX0 : Nat → FieldType := fun k => match k with
  | 0 => .int
  | 1 => .array .int
  | 2 => .array .int
  | 3 => .array .int
  | _ => .array .int
abbrev wsX00 : List Cond := u_ws RX0 TX0 5
theorem nmX0 : ∀ a, a < 5 → ∀ b, b < 5 → a ≠ b → (TX0 a).2.1 ≠ (TX0 b).2.1 := by decide +kernel
theorem tyX0_ok : ∀ k, k < 5 → parseFieldDescriptor (TX0 k).2.2.1 = some (tyX0 k) := by decide +kernel
abbrev cX0_init : ByteArray := prog_2_method_1_code
def yX0_init : MethodName := ⟨RX0, "<init>", "()V"⟩
abbrev cX0_copyFrom : ByteArray := prog_2_method_2_code
def yX0_copyFrom : MethodName := ⟨RX0, "copyFrom", "(LRainShares$Clouds;)V"⟩
abbrev cX0_add : ByteArray := prog_2_method_3_code
def yX0_add : MethodName := ⟨RX0, "add", "(II)I"⟩
abbrev cX0_setKind : ByteArray := prog_2_method_4_code
def yX0_setKind : MethodName := ⟨RX0, "setKind", "(II)V"⟩
abbrev cX0_has : ByteArray := prog_2_method_5_code
def yX0_has : MethodName := ⟨RX0, "has", "(I)Z"⟩
abbrev cX0_isOf : ByteArray := prog_2_method_6_code
def yX0_isOf : MethodName := ⟨RX0, "isOf", "(II)Z"⟩
abbrev cX0_lasting : ByteArray := prog_2_method_7_code
def yX0_lasting : MethodName := ⟨RX0, "lasting", "(I)I"⟩
abbrev cX0_isSpent : ByteArray := prog_2_method_8_code
def yX0_isSpent : MethodName := ⟨RX0, "isSpent", "(I)Z"⟩
abbrev cX0_spentMany : ByteArray := prog_2_method_9_code
def yX0_spentMany : MethodName := ⟨RX0, "spentMany", "()I"⟩
abbrev cX0_setOver : ByteArray := prog_2_method_10_code
def yX0_setOver : MethodName := ⟨RX0, "setOver", "(I)I"⟩
abbrev cX0_daysLeft : ByteArray := prog_2_method_11_code
def yX0_daysLeft : MethodName := ⟨RX0, "daysLeft", "(I)I"⟩
abbrev cX0_weakest : ByteArray := prog_2_method_12_code
def yX0_weakest : MethodName := ⟨RX0, "weakest", "()I"⟩
def RX1 : String := "RainShares$Law"
def TX1 : u_T := fun k => match k with
  | 0 => ("RainShares$Law", "without", "I", true)
  | 1 => ("RainShares$Law", "most", "I", true)
  | 2 => ("RainShares$Law", "code", "[I", true)
  | 3 => ("RainShares$Law", "size", "I", false)
  | _ => ("RainShares$Law", "stack", "[I", true)
def tyX1 : Nat → FieldType := fun k => match k with
  | 0 => .int
  | 1 => .int
  | 2 => .array .int
  | 3 => .int
  | _ => .array .int
abbrev wsX10 : List Cond := u_ws RX1 TX1 5
theorem nmX1 : ∀ a, a < 5 → ∀ b, b < 5 → a ≠ b → (TX1 a).2.1 ≠ (TX1 b).2.1 := by decide +kernel
theorem tyX1_ok : ∀ k, k < 5 → parseFieldDescriptor (TX1 k).2.2.1 = some (tyX1 k) := by decide +kernel
abbrev cX1_init : ByteArray := prog_3_method_1_code
def yX1_init : MethodName := ⟨RX1, "<init>", "(II)V"⟩
abbrev cX1_take : ByteArray := prog_3_method_2_code
def yX1_take : MethodName := ⟨RX1, "take", "([II)V"⟩
abbrev cX1_given : ByteArray := prog_3_method_3_code
def yX1_given : MethodName := ⟨RX1, "given", "(III)I"⟩
abbrev cX1_join : ByteArray := prog_3_method_4_code
def yX1_join : MethodName := ⟨RX1, "join", "(III)I"⟩
def RX2 : String := "RainShares$Reader"
def TX2 : u_T := fun k => match k with
  | 0 => ("RainShares$Reader", "code", "[I", true)
  | 1 => ("RainShares$Reader", "size", "I", false)
  | 2 => ("RainShares$Reader", "tape", "[I", true)
  | 3 => ("RainShares$Reader", "end", "I", false)
  | 4 => ("RainShares$Reader", "at", "I", false)
  | 5 => ("RainShares$Reader", "use", "I", false)
  | _ => ("RainShares$Reader", "stuck", "Z", false)
def tyX2 : Nat → FieldType := fun k => match k with
  | 0 => .array .int
  | 1 => .int
  | 2 => .array .int
  | 3 => .int
  | 4 => .int
  | 5 => .int
  | _ => .boolean
abbrev wsX20 : List Cond := u_ws RX2 TX2 7
theorem nmX2 : ∀ a, a < 7 → ∀ b, b < 7 → a ≠ b → (TX2 a).2.1 ≠ (TX2 b).2.1 := by decide +kernel
theorem tyX2_ok : ∀ k, k < 7 → parseFieldDescriptor (TX2 k).2.2.1 = some (tyX2 k) := by decide +kernel
abbrev cX2_init : ByteArray := prog_4_method_1_code
def yX2_init : MethodName := ⟨RX2, "<init>", "()V"⟩
abbrev cX2_read : ByteArray := prog_4_method_2_code
def yX2_read : MethodName := ⟨RX2, "read", "([III)I"⟩
abbrev cX2_readJoined : ByteArray := prog_4_method_3_code
def yX2_readJoined : MethodName := ⟨RX2, "readJoined", "(II)V"⟩
abbrev cX2_readSingle : ByteArray := prog_4_method_4_code
def yX2_readSingle : MethodName := ⟨RX2, "readSingle", "(I)V"⟩
abbrev cX2_readClosing : ByteArray := prog_4_method_5_code
def yX2_readClosing : MethodName := ⟨RX2, "readClosing", "()V"⟩
abbrev cX2_readNumber : ByteArray := prog_4_method_6_code
def yX2_readNumber : MethodName := ⟨RX2, "readNumber", "()V"⟩
abbrev cX2_next : ByteArray := prog_4_method_7_code
def yX2_next : MethodName := ⟨RX2, "next", "()I"⟩
abbrev cX2_write : ByteArray := prog_4_method_8_code
def yX2_write : MethodName := ⟨RX2, "write", "(I)V"⟩
abbrev cX2_isDigit : ByteArray := prog_4_method_9_code
def yX2_isDigit : MethodName := ⟨RX2, "isDigit", "(I)Z"⟩
abbrev cX2_nameOf : ByteArray := prog_4_method_10_code
def yX2_nameOf : MethodName := ⟨RX2, "nameOf", "(I)I"⟩
abbrev cX2_joins : ByteArray := prog_4_method_11_code
def yX2_joins : MethodName := ⟨RX2, "joins", "(II)Z"⟩
def RX3 : String := "RainShares$Roofs"
def TX3 : u_T := fun k => match k with
  | 0 => ("RainShares$Roofs", "many", "I", false)
  | 1 => ("RainShares$Roofs", "shares", "[I", true)
  | 2 => ("RainShares$Roofs", "arrears", "[I", true)
  | 3 => ("RainShares$Roofs", "got", "[I", true)
  | 4 => ("RainShares$Roofs", "rank", "[I", true)
  | _ => ("RainShares$Roofs", "owed", "[[I", true)
def tyX3 : Nat → FieldType := fun k => match k with
  | 0 => .int
  | 1 => .array .int
  | 2 => .array .int
  | 3 => .array .int
  | 4 => .array .int
  | _ => .array (.array .int)
abbrev wsX30 : List Cond := u_ws RX3 TX3 6
theorem nmX3 : ∀ a, a < 6 → ∀ b, b < 6 → a ≠ b → (TX3 a).2.1 ≠ (TX3 b).2.1 := by decide +kernel
theorem tyX3_ok : ∀ k, k < 6 → parseFieldDescriptor (TX3 k).2.2.1 = some (tyX3 k) := by decide +kernel
abbrev cX3_init : ByteArray := prog_5_method_1_code
def yX3_init : MethodName := ⟨RX3, "<init>", "()V"⟩
abbrev cX3_copyFrom : ByteArray := prog_5_method_2_code
def yX3_copyFrom : MethodName := ⟨RX3, "copyFrom", "(LRainShares$Roofs;)V"⟩
abbrev cX3_add : ByteArray := prog_5_method_3_code
def yX3_add : MethodName := ⟨RX3, "add", "(I)I"⟩
abbrev cX3_has : ByteArray := prog_5_method_4_code
def yX3_has : MethodName := ⟨RX3, "has", "(I)Z"⟩
abbrev cX3_areTwo : ByteArray := prog_5_method_5_code
def yX3_areTwo : MethodName := ⟨RX3, "areTwo", "(II)Z"⟩
abbrev cX3_sum : ByteArray := prog_5_method_6_code
def yX3_sum : MethodName := ⟨RX3, "sum", "([I)I"⟩
abbrev cX3_sumOver : ByteArray := prog_5_method_7_code
def yX3_sumOver : MethodName := ⟨RX3, "sumOver", "(I[I)I"⟩
abbrev cX3_owedToAll : ByteArray := prog_5_method_8_code
def yX3_owedToAll : MethodName := ⟨RX3, "owedToAll", "(I)I"⟩
abbrev cX3_mostInArrears : ByteArray := prog_5_method_9_code
def yX3_mostInArrears : MethodName := ⟨RX3, "mostInArrears", "()I"⟩
abbrev cX3_bestSellers : ByteArray := prog_5_method_10_code
def yX3_bestSellers : MethodName := ⟨RX3, "bestSellers", "(I)I"⟩
abbrev cX3_sellsRather : ByteArray := prog_5_method_11_code
def yX3_sellsRather : MethodName := ⟨RX3, "sellsRather", "(II)Z"⟩
abbrev cX3_tradingPairs : ByteArray := prog_5_method_12_code
def yX3_tradingPairs : MethodName := ⟨RX3, "tradingPairs", "()I"⟩
abbrev cX3_clearDebts : ByteArray := prog_5_method_13_code
def yX3_clearDebts : MethodName := ⟨RX3, "clearDebts", "()I"⟩
abbrev cX3_clearPair : ByteArray := prog_5_method_14_code
def yX3_clearPair : MethodName := ⟨RX3, "clearPair", "(II)I"⟩
abbrev cX3_clearRing : ByteArray := prog_5_method_15_code
def yX3_clearRing : MethodName := ⟨RX3, "clearRing", "(III)I"⟩
def RX4 : String := "RainShares$Sheet"
def TX4 : u_T := fun k => match k with
  | 0 => ("RainShares$Sheet", "bits", "I", false)
  | 1 => ("RainShares$Sheet", "size", "I", false)
  | _ => ("RainShares$Sheet", "numbers", "[I", true)
def tyX4 : Nat → FieldType := fun k => match k with
  | 0 => .int
  | 1 => .int
  | _ => .array .int
abbrev wsX40 : List Cond := u_ws RX4 TX4 3
theorem nmX4 : ∀ a, a < 3 → ∀ b, b < 3 → a ≠ b → (TX4 a).2.1 ≠ (TX4 b).2.1 := by decide +kernel
theorem tyX4_ok : ∀ k, k < 3 → parseFieldDescriptor (TX4 k).2.2.1 = some (tyX4 k) := by decide +kernel
abbrev cX4_init : ByteArray := prog_6_method_1_code
def yX4_init : MethodName := ⟨RX4, "<init>", "()V"⟩
abbrev cX4_isMissing : ByteArray := prog_6_method_2_code
def yX4_isMissing : MethodName := ⟨RX4, "isMissing", "()Z"⟩
abbrev cX4_lay : ByteArray := prog_6_method_3_code
def yX4_lay : MethodName := ⟨RX4, "lay", "(II)V"⟩
abbrev cX4_cutToBits : ByteArray := prog_6_method_4_code
def yX4_cutToBits : MethodName := ⟨RX4, "cutToBits", "(I)I"⟩
abbrev cX4_holds : ByteArray := prog_6_method_5_code
def yX4_holds : MethodName := ⟨RX4, "holds", "(II)Z"⟩
def RX5 : String := "RainShares$Valley"
def TX5 : u_T := fun k => match k with
  | 0 => ("RainShares$Valley", "roofs", "LRainShares$Roofs;", true)
  | 1 => ("RainShares$Valley", "clouds", "LRainShares$Clouds;", true)
  | 2 => ("RainShares$Valley", "laws", "[LRainShares$Law;", true)
  | 3 => ("RainShares$Valley", "day", "I", false)
  | 4 => ("RainShares$Valley", "z", "I", false)
  | 5 => ("RainShares$Valley", "tape", "[I", true)
  | 6 => ("RainShares$Valley", "tapeBytes", "I", false)
  | 7 => ("RainShares$Valley", "waiting", "[I", true)
  | 8 => ("RainShares$Valley", "waitingMany", "I", false)
  | 9 => ("RainShares$Valley", "fallen", "[I", true)
  | 10 => ("RainShares$Valley", "onto", "[I", true)
  | _ => ("RainShares$Valley", "drops", "[I", true)
def tyX5 : Nat → FieldType := fun k => match k with
  | 0 => .object "RainShares$Roofs"
  | 1 => .object "RainShares$Clouds"
  | 2 => .array (.object "RainShares$Law")
  | 3 => .int
  | 4 => .int
  | 5 => .array .int
  | 6 => .int
  | 7 => .array .int
  | 8 => .int
  | 9 => .array .int
  | 10 => .array .int
  | _ => .array .int
abbrev wsX50 : List Cond := u_ws RX5 TX5 12
theorem nmX5 : ∀ a, a < 12 → ∀ b, b < 12 → a ≠ b → (TX5 a).2.1 ≠ (TX5 b).2.1 := by decide +kernel
theorem tyX5_ok : ∀ k, k < 12 → parseFieldDescriptor (TX5 k).2.2.1 = some (tyX5 k) := by decide +kernel
abbrev cX5_init : ByteArray := prog_7_method_1_code
def yX5_init : MethodName := ⟨RX5, "<init>", "()V"⟩
abbrev cX5_copyFrom : ByteArray := prog_7_method_2_code
def yX5_copyFrom : MethodName := ⟨RX5, "copyFrom", "(LRainShares$Valley;)V"⟩
abbrev cX5_dropsOn : ByteArray := prog_7_method_3_code
def yX5_dropsOn : MethodName := ⟨RX5, "dropsOn", "(II)I"⟩
abbrev cX5_nextOver : ByteArray := prog_7_method_4_code
def yX5_nextOver : MethodName := ⟨RX5, "nextOver", "(I)I"⟩
abbrev cX5_passDays : ByteArray := prog_7_method_5_code
def yX5_passDays : MethodName := ⟨RX5, "passDays", "(I)V"⟩
abbrev cX5_aim : ByteArray := prog_7_method_6_code
def yX5_aim : MethodName := ⟨RX5, "aim", "()V"⟩
abbrev cX5_rain : ByteArray := prog_7_method_7_code
def yX5_rain : MethodName := ⟨RX5, "rain", "()V"⟩
abbrev cX5_charge : ByteArray := prog_7_method_8_code
def yX5_charge : MethodName := ⟨RX5, "charge", "()V"⟩
abbrev cX5_drift : ByteArray := prog_7_method_9_code
def yX5_drift : MethodName := ⟨RX5, "drift", "()V"⟩
abbrev cX5_wouldGive : ByteArray := prog_7_method_10_code
def yX5_wouldGive : MethodName := ⟨RX5, "wouldGive", "(I[I)Z"⟩
abbrev cX5_scatter : ByteArray := prog_7_method_11_code
def yX5_scatter : MethodName := ⟨RX5, "scatter", "()V"⟩
abbrev cX5_draw : ByteArray := prog_7_method_12_code
def yX5_draw : MethodName := ⟨RX5, "draw", "()I"⟩
abbrev cX5_rest : ByteArray := prog_7_method_13_code
def yX5_rest : MethodName := ⟨RX5, "rest", "(II)I"⟩
def RX6 : String := "RainShares$Voices"
def TX6 : u_T := fun k => match k with
  | 0 => ("RainShares$Voices", "bodies", "[I", true)
  | 1 => ("RainShares$Voices", "traced", "I", false)
  | 2 => ("RainShares$Voices", "kind", "I", false)
  | 3 => ("RainShares$Voices", "n", "I", false)
  | _ => ("RainShares$Voices", "m", "I", false)
def tyX6 : Nat → FieldType := fun k => match k with
  | 0 => .array .int
  | 1 => .int
  | 2 => .int
  | 3 => .int
  | _ => .int
abbrev wsX60 : List Cond := u_ws RX6 TX6 5
theorem nmX6 : ∀ a, a < 5 → ∀ b, b < 5 → a ≠ b → (TX6 a).2.1 ≠ (TX6 b).2.1 := by decide +kernel
theorem tyX6_ok : ∀ k, k < 5 → parseFieldDescriptor (TX6 k).2.2.1 = some (tyX6 k) := by decide +kernel
abbrev cX6_init : ByteArray := prog_8_method_1_code
def yX6_init : MethodName := ⟨RX6, "<init>", "()V"⟩
abbrev cX6_answer : ByteArray := prog_8_method_2_code
def yX6_answer : MethodName := ⟨RX6, "answer", "(IIIII)I"⟩
abbrev cX6_say : ByteArray := prog_8_method_3_code
def yX6_say : MethodName := ⟨RX6, "say", "(IIII)I"⟩
abbrev cX6_sayBody : ByteArray := prog_8_method_4_code
def yX6_sayBody : MethodName := ⟨RX6, "sayBody", "(IIII)I"⟩
abbrev cX6_note : ByteArray := prog_8_method_5_code
def yX6_note : MethodName := ⟨RX6, "note", "(I)V"⟩
def RX7 : String := "RainShares"
def TX7 : u_T := fun k => match k with
  | 0 => ("RainShares", "now", "LRainShares$Valley;", true)
  | 1 => ("RainShares", "thought", "LRainShares$Valley;", true)
  | 2 => ("RainShares", "kept", "LRainShares$Valley;", true)
  | 3 => ("RainShares", "images", "I", false)
  | 4 => ("RainShares", "reader", "LRainShares$Reader;", true)
  | 5 => ("RainShares", "voices", "LRainShares$Voices;", true)
  | 6 => ("RainShares", "sheets", "[LRainShares$Sheet;", true)
  | _ => ("RainShares", "errors", "[I", true)
def tyX7 : Nat → FieldType := fun k => match k with
  | 0 => .object "RainShares$Valley"
  | 1 => .object "RainShares$Valley"
  | 2 => .object "RainShares$Valley"
  | 3 => .int
  | 4 => .object "RainShares$Reader"
  | 5 => .object "RainShares$Voices"
  | 6 => .array (.object "RainShares$Sheet")
  | _ => .array .int
abbrev wsX70 : List Cond := u_ws RX7 TX7 8
theorem nmX7 : ∀ a, a < 8 → ∀ b, b < 8 → a ≠ b → (TX7 a).2.1 ≠ (TX7 b).2.1 := by decide +kernel
theorem tyX7_ok : ∀ k, k < 8 → parseFieldDescriptor (TX7 k).2.2.1 = some (tyX7 k) := by decide +kernel
abbrev cX7_init : ByteArray := prog_1_method_1_code
def yX7_init : MethodName := ⟨RX7, "<init>", "()V"⟩
abbrev cX7_roof : ByteArray := prog_1_method_2_code
def yX7_roof : MethodName := ⟨RX7, "roof", "(I)I"⟩
abbrev cX7_ofRoof : ByteArray := prog_1_method_3_code
def yX7_ofRoof : MethodName := ⟨RX7, "ofRoof", "(II)I"⟩
abbrev cX7_change : ByteArray := prog_1_method_4_code
def yX7_change : MethodName := ⟨RX7, "change", "(III)I"⟩
abbrev cX7_owe : ByteArray := prog_1_method_5_code
def yX7_owe : MethodName := ⟨RX7, "owe", "(III)I"⟩
abbrev cX7_owed : ByteArray := prog_1_method_6_code
def yX7_owed : MethodName := ⟨RX7, "owed", "(II)I"⟩
abbrev cX7_pay : ByteArray := prog_1_method_7_code
def yX7_pay : MethodName := ⟨RX7, "pay", "(II)I"⟩
abbrev cX7_sell : ByteArray := prog_1_method_8_code
def yX7_sell : MethodName := ⟨RX7, "sell", "(III)I"⟩
abbrev cX7_cloud : ByteArray := prog_1_method_9_code
def yX7_cloud : MethodName := ⟨RX7, "cloud", "(II)I"⟩
abbrev cX7_ofCloud : ByteArray := prog_1_method_10_code
def yX7_ofCloud : MethodName := ⟨RX7, "ofCloud", "(II)I"⟩
abbrev cX7_become : ByteArray := prog_1_method_11_code
def yX7_become : MethodName := ⟨RX7, "become", "(II)I"⟩
abbrev cX7_as : ByteArray := prog_1_method_12_code
def yX7_as : MethodName := ⟨RX7, "as", "(II)I"⟩
abbrev cX7_lead : ByteArray := prog_1_method_13_code
def yX7_lead : MethodName := ⟨RX7, "lead", "(III)I"⟩
abbrev cX7_feed : ByteArray := prog_1_method_14_code
def yX7_feed : MethodName := ⟨RX7, "feed", "(JI)I"⟩
abbrev cX7_text : ByteArray := prog_1_method_15_code
def yX7_text : MethodName := ⟨RX7, "text", "(I)I"⟩
abbrev cX7_law : ByteArray := prog_1_method_16_code
def yX7_law : MethodName := ⟨RX7, "law", "(IIII)I"⟩
abbrev cX7_days : ByteArray := prog_1_method_17_code
def yX7_days : MethodName := ⟨RX7, "days", "(I)I"⟩
abbrev cX7_loose : ByteArray := prog_1_method_18_code
def yX7_loose : MethodName := ⟨RX7, "loose", "(I)I"⟩
abbrev cX7_clear : ByteArray := prog_1_method_19_code
def yX7_clear : MethodName := ⟨RX7, "clear", "()I"⟩
abbrev cX7_then : ByteArray := prog_1_method_20_code
def yX7_then : MethodName := ⟨RX7, "then", "(III)I"⟩
abbrev cX7_drought : ByteArray := prog_1_method_21_code
def yX7_drought : MethodName := ⟨RX7, "drought", "(II)I"⟩
abbrev cX7_when : ByteArray := prog_1_method_22_code
def yX7_when : MethodName := ⟨RX7, "when", "(II)I"⟩
abbrev cX7_sellers : ByteArray := prog_1_method_23_code
def yX7_sellers : MethodName := ⟨RX7, "sellers", "(II)I"⟩
abbrev cX7_clears : ByteArray := prog_1_method_24_code
def yX7_clears : MethodName := ⟨RX7, "clears", "()I"⟩
abbrev cX7_patches : ByteArray := prog_1_method_25_code
def yX7_patches : MethodName := ⟨RX7, "patches", "(I)I"⟩
abbrev cX7_trades : ByteArray := prog_1_method_26_code
def yX7_trades : MethodName := ⟨RX7, "trades", "()I"⟩
abbrev cX7_fell : ByteArray := prog_1_method_27_code
def yX7_fell : MethodName := ⟨RX7, "fell", "(II)I"⟩
abbrev cX7_gains : ByteArray := prog_1_method_28_code
def yX7_gains : MethodName := ⟨RX7, "gains", "(III)I"⟩
abbrev cX7_seed : ByteArray := prog_1_method_29_code
def yX7_seed : MethodName := ⟨RX7, "seed", "(I)I"⟩
abbrev cX7_voice : ByteArray := prog_1_method_30_code
def yX7_voice : MethodName := ⟨RX7, "voice", "(III)I"⟩
abbrev cX7_trace : ByteArray := prog_1_method_31_code
def yX7_trace : MethodName := ⟨RX7, "trace", "(I)I"⟩
abbrev cX7_sheet : ByteArray := prog_1_method_32_code
def yX7_sheet : MethodName := ⟨RX7, "sheet", "(III)I"⟩
abbrev cX7_put : ByteArray := prog_1_method_33_code
def yX7_put : MethodName := ⟨RX7, "put", "(III)I"⟩
abbrev cX7_move : ByteArray := prog_1_method_34_code
def yX7_move : MethodName := ⟨RX7, "move", "(IIIII)I"⟩
abbrev cX7_shares : ByteArray := prog_1_method_35_code
def yX7_shares : MethodName := ⟨RX7, "shares", "(I)I"⟩
abbrev cX7_judge : ByteArray := prog_1_method_36_code
def yX7_judge : MethodName := ⟨RX7, "judge", "(I)I"⟩
abbrev cX7_image : ByteArray := prog_1_method_37_code
def yX7_image : MethodName := ⟨RX7, "image", "()I"⟩
abbrev cX7_restore : ByteArray := prog_1_method_38_code
def yX7_restore : MethodName := ⟨RX7, "restore", "()I"⟩
abbrev cX7_tell : ByteArray := prog_1_method_39_code
def yX7_tell : MethodName := ⟨RX7, "tell", "(I)I"⟩
abbrev cX7_check : ByteArray := prog_1_method_40_code
def yX7_check : MethodName := ⟨RX7, "check", "()I"⟩
abbrev cX7_count : ByteArray := prog_1_method_41_code
def yX7_count : MethodName := ⟨RX7, "count", "(I)I"⟩
abbrev cX7_told : ByteArray := prog_1_method_42_code
def yX7_told : MethodName := ⟨RX7, "told", "(I)I"⟩
abbrev cX7_within : ByteArray := prog_1_method_43_code
def yX7_within : MethodName := ⟨RX7, "within", "(III)Z"⟩
abbrev cX7_isKindAndM : ByteArray := prog_1_method_44_code
def yX7_isKindAndM : MethodName := ⟨RX7, "isKindAndM", "(I)Z"⟩
abbrev cX7_isSheet : ByteArray := prog_1_method_45_code
def yX7_isSheet : MethodName := ⟨RX7, "isSheet", "(I)Z"⟩
abbrev cX7_error : ByteArray := prog_1_method_46_code
def yX7_error : MethodName := ⟨RX7, "error", "(I)I"⟩
abbrev cX7_replace : ByteArray := prog_1_method_47_code
def yX7_replace : MethodName := ⟨RX7, "replace", "([IIII)I"⟩
abbrev cX7_arrearsBehind : ByteArray := prog_1_method_48_code
def yX7_arrearsBehind : MethodName := ⟨RX7, "arrearsBehind", "(III)I"⟩
def RX8 : String := "RainSharesModel"
def TX8 : u_T := fun k => match k with
  | 0 => ("RainSharesModel", "d", "[I", true)
  | 1 => ("RainSharesModel", "kept", "[I", true)
  | 2 => ("RainSharesModel", "images", "I", false)
  | 3 => ("RainSharesModel", "found", "[I", true)
  | 4 => ("RainSharesModel", "aside", "[I", true)
  | 5 => ("RainSharesModel", "base", "I", false)
  | 6 => ("RainSharesModel", "at", "I", false)
  | 7 => ("RainSharesModel", "size", "I", false)
  | 8 => ("RainSharesModel", "fault", "I", false)
  | 9 => ("RainSharesModel", "opened", "I", false)
  | 10 => ("RainSharesModel", "isPrice", "Z", false)
  | 11 => ("RainSharesModel", "names", "[I", true)
  | 12 => ("RainSharesModel", "fallen", "[I", true)
  | 13 => ("RainSharesModel", "traced", "[I", true)
  | 14 => ("RainSharesModel", "traceMany", "I", false)
  | 15 => ("RainSharesModel", "who", "I", false)
  | 16 => ("RainSharesModel", "bitsOf", "[I", true)
  | 17 => ("RainSharesModel", "sizeOf", "[I", true)
  | 18 => ("RainSharesModel", "number", "[I", true)
  | _ => ("RainSharesModel", "lifted", "[I", true)
def tyX8 : Nat → FieldType := fun k => match k with
  | 0 => .array .int
  | 1 => .array .int
  | 2 => .int
  | 3 => .array .int
  | 4 => .array .int
  | 5 => .int
  | 6 => .int
  | 7 => .int
  | 8 => .int
  | 9 => .int
  | 10 => .boolean
  | 11 => .array .int
  | 12 => .array .int
  | 13 => .array .int
  | 14 => .int
  | 15 => .int
  | 16 => .array .int
  | 17 => .array .int
  | 18 => .array .int
  | _ => .array .int
abbrev wsX80 : List Cond := u_ws RX8 TX8 20
theorem nmX8 : ∀ a, a < 20 → ∀ b, b < 20 → a ≠ b → (TX8 a).2.1 ≠ (TX8 b).2.1 := by decide +kernel
theorem tyX8_ok : ∀ k, k < 20 → parseFieldDescriptor (TX8 k).2.2.1 = some (tyX8 k) := by decide +kernel
abbrev cX8_init : ByteArray := prog_10_method_1_code
def yX8_init : MethodName := ⟨RX8, "<init>", "()V"⟩
abbrev cX8_finds : ByteArray := prog_10_method_3_code
def yX8_finds : MethodName := ⟨RX8, "finds", "(I)I"⟩
abbrev cX8_in : ByteArray := prog_10_method_4_code
def yX8_in : MethodName := ⟨RX8, "in", "(JJJ)Z"⟩
abbrev cX8_held : ByteArray := prog_10_method_5_code
def yX8_held : MethodName := ⟨RX8, "held", "(III)I"⟩
abbrev cX8_isRoof : ByteArray := prog_10_method_6_code
def yX8_isRoof : MethodName := ⟨RX8, "isRoof", "(I)Z"⟩
abbrev cX8_isCloud : ByteArray := prog_10_method_7_code
def yX8_isCloud : MethodName := ⟨RX8, "isCloud", "(I)Z"⟩
abbrev cX8_its : ByteArray := prog_10_method_8_code
def yX8_its : MethodName := ⟨RX8, "its", "(II)I"⟩
abbrev cX8_of : ByteArray := prog_10_method_9_code
def yX8_of : MethodName := ⟨RX8, "of", "(II)I"⟩
abbrev cX8_keepAside : ByteArray := prog_10_method_10_code
def yX8_keepAside : MethodName := ⟨RX8, "keepAside", "()V"⟩
abbrev cX8_putBack : ByteArray := prog_10_method_11_code
def yX8_putBack : MethodName := ⟨RX8, "putBack", "()V"⟩
abbrev cX8_here : ByteArray := prog_10_method_12_code
def yX8_here : MethodName := ⟨RX8, "here", "()I"⟩
abbrev cX8_wrong : ByteArray := prog_10_method_13_code
def yX8_wrong : MethodName := ⟨RX8, "wrong", "()I"⟩
abbrev cX8_takes : ByteArray := prog_10_method_14_code
def yX8_takes : MethodName := ⟨RX8, "takes", "(I)Z"⟩
abbrev cX8_nameOf : ByteArray := prog_10_method_15_code
def yX8_nameOf : MethodName := ⟨RX8, "nameOf", "(I)I"⟩
abbrev cX8_either : ByteArray := prog_10_method_16_code
def yX8_either : MethodName := ⟨RX8, "either", "()I"⟩
abbrev cX8_both : ByteArray := prog_10_method_17_code
def yX8_both : MethodName := ⟨RX8, "both", "()I"⟩
abbrev cX8_compared : ByteArray := prog_10_method_18_code
def yX8_compared : MethodName := ⟨RX8, "compared", "()I"⟩
abbrev cX8_sum : ByteArray := prog_10_method_19_code
def yX8_sum : MethodName := ⟨RX8, "sum", "()I"⟩
abbrev cX8_product : ByteArray := prog_10_method_20_code
def yX8_product : MethodName := ⟨RX8, "product", "()I"⟩
abbrev cX8_unit : ByteArray := prog_10_method_21_code
def yX8_unit : MethodName := ⟨RX8, "unit", "()I"⟩
abbrev cX8_worked : ByteArray := prog_10_method_22_code
def yX8_worked : MethodName := ⟨RX8, "worked", "(III)I"⟩
abbrev cX8_feed : ByteArray := prog_10_method_23_code
def yX8_feed : MethodName := ⟨RX8, "feed", "(JI)I"⟩
abbrev cX8_text : ByteArray := prog_10_method_24_code
def yX8_text : MethodName := ⟨RX8, "text", "(I)I"⟩
abbrev cX8_textGives : ByteArray := prog_10_method_25_code
def yX8_textGives : MethodName := ⟨RX8, "textGives", "(IIII)I"⟩
abbrev cX8_law : ByteArray := prog_10_method_26_code
def yX8_law : MethodName := ⟨RX8, "law", "(IIII)I"⟩
abbrev cX8_roof : ByteArray := prog_10_method_27_code
def yX8_roof : MethodName := ⟨RX8, "roof", "(I)I"⟩
abbrev cX8_ofRoof : ByteArray := prog_10_method_28_code
def yX8_ofRoof : MethodName := ⟨RX8, "ofRoof", "(II)I"⟩
abbrev cX8_change : ByteArray := prog_10_method_29_code
def yX8_change : MethodName := ⟨RX8, "change", "(III)I"⟩
abbrev cX8_areTwo : ByteArray := prog_10_method_30_code
def yX8_areTwo : MethodName := ⟨RX8, "areTwo", "(II)Z"⟩
abbrev cX8_owe : ByteArray := prog_10_method_31_code
def yX8_owe : MethodName := ⟨RX8, "owe", "(III)I"⟩
abbrev cX8_owed : ByteArray := prog_10_method_32_code
def yX8_owed : MethodName := ⟨RX8, "owed", "(II)I"⟩
abbrev cX8_pay : ByteArray := prog_10_method_33_code
def yX8_pay : MethodName := ⟨RX8, "pay", "(II)I"⟩
abbrev cX8_sell : ByteArray := prog_10_method_34_code
def yX8_sell : MethodName := ⟨RX8, "sell", "(III)I"⟩
abbrev cX8_cloud : ByteArray := prog_10_method_35_code
def yX8_cloud : MethodName := ⟨RX8, "cloud", "(II)I"⟩
abbrev cX8_fallsOn : ByteArray := prog_10_method_36_code
def yX8_fallsOn : MethodName := ⟨RX8, "fallsOn", "(II)I"⟩
abbrev cX8_lasts : ByteArray := prog_10_method_37_code
def yX8_lasts : MethodName := ⟨RX8, "lasts", "(I)I"⟩
abbrev cX8_isSpent : ByteArray := prog_10_method_38_code
def yX8_isSpent : MethodName := ⟨RX8, "isSpent", "(I)Z"⟩
abbrev cX8_driftsTo : ByteArray := prog_10_method_39_code
def yX8_driftsTo : MethodName := ⟨RX8, "driftsTo", "(I)I"⟩
abbrev cX8_ofCloud : ByteArray := prog_10_method_40_code
def yX8_ofCloud : MethodName := ⟨RX8, "ofCloud", "(II)I"⟩
abbrev cX8_become : ByteArray := prog_10_method_41_code
def yX8_become : MethodName := ⟨RX8, "become", "(II)I"⟩
abbrev cX8_above : ByteArray := prog_10_method_42_code
def yX8_above : MethodName := ⟨RX8, "above", "(I)I"⟩
abbrev cX8_as : ByteArray := prog_10_method_43_code
def yX8_as : MethodName := ⟨RX8, "as", "(II)I"⟩
abbrev cX8_lead : ByteArray := prog_10_method_44_code
def yX8_lead : MethodName := ⟨RX8, "lead", "(III)I"⟩
abbrev cX8_mostInArrears : ByteArray := prog_10_method_45_code
def yX8_mostInArrears : MethodName := ⟨RX8, "mostInArrears", "()I"⟩
abbrev cX8_fallsWhere : ByteArray := prog_10_method_46_code
def yX8_fallsWhere : MethodName := ⟨RX8, "fallsWhere", "(II)I"⟩
abbrev cX8_dayGoes : ByteArray := prog_10_method_47_code
def yX8_dayGoes : MethodName := ⟨RX8, "dayGoes", "()V"⟩
abbrev cX8_daysGo : ByteArray := prog_10_method_48_code
def yX8_daysGo : MethodName := ⟨RX8, "daysGo", "(I)V"⟩
abbrev cX8_all : ByteArray := prog_10_method_49_code
def yX8_all : MethodName := ⟨RX8, "all", "(I)I"⟩
abbrev cX8_days : ByteArray := prog_10_method_50_code
def yX8_days : MethodName := ⟨RX8, "days", "(I)I"⟩
abbrev cX8_drawn : ByteArray := prog_10_method_51_code
def yX8_drawn : MethodName := ⟨RX8, "drawn", "()I"⟩
abbrev cX8_loose : ByteArray := prog_10_method_52_code
def yX8_loose : MethodName := ⟨RX8, "loose", "(I)I"⟩
abbrev cX8_lessens : ByteArray := prog_10_method_53_code
def yX8_lessens : MethodName := ⟨RX8, "lessens", "(III)V"⟩
abbrev cX8_clearsAll : ByteArray := prog_10_method_54_code
def yX8_clearsAll : MethodName := ⟨RX8, "clearsAll", "()I"⟩
abbrev cX8_clear : ByteArray := prog_10_method_55_code
def yX8_clear : MethodName := ⟨RX8, "clear", "()I"⟩
abbrev cX8_then : ByteArray := prog_10_method_56_code
def yX8_then : MethodName := ⟨RX8, "then", "(III)I"⟩
abbrev cX8_drought : ByteArray := prog_10_method_57_code
def yX8_drought : MethodName := ⟨RX8, "drought", "(II)I"⟩
abbrev cX8_when : ByteArray := prog_10_method_58_code
def yX8_when : MethodName := ⟨RX8, "when", "(II)I"⟩
abbrev cX8_sellers : ByteArray := prog_10_method_59_code
def yX8_sellers : MethodName := ⟨RX8, "sellers", "(II)I"⟩
abbrev cX8_clears : ByteArray := prog_10_method_60_code
def yX8_clears : MethodName := ⟨RX8, "clears", "()I"⟩
abbrev cX8_daysLeft : ByteArray := prog_10_method_61_code
def yX8_daysLeft : MethodName := ⟨RX8, "daysLeft", "(I)I"⟩
abbrev cX8_fewestLeft : ByteArray := prog_10_method_62_code
def yX8_fewestLeft : MethodName := ⟨RX8, "fewestLeft", "()I"⟩
abbrev cX8_patches : ByteArray := prog_10_method_63_code
def yX8_patches : MethodName := ⟨RX8, "patches", "(I)I"⟩
abbrev cX8_trades : ByteArray := prog_10_method_64_code
def yX8_trades : MethodName := ⟨RX8, "trades", "()I"⟩
abbrev cX8_fell : ByteArray := prog_10_method_65_code
def yX8_fell : MethodName := ⟨RX8, "fell", "(II)I"⟩
abbrev cX8_gains : ByteArray := prog_10_method_66_code
def yX8_gains : MethodName := ⟨RX8, "gains", "(III)I"⟩
abbrev cX8_seed : ByteArray := prog_10_method_67_code
def yX8_seed : MethodName := ⟨RX8, "seed", "(I)I"⟩
abbrev cX8_ran : ByteArray := prog_10_method_68_code
def yX8_ran : MethodName := ⟨RX8, "ran", "(I)V"⟩
abbrev cX8_rainsBy : ByteArray := prog_10_method_69_code
def yX8_rainsBy : MethodName := ⟨RX8, "rainsBy", "(II)I"⟩
abbrev cX8_driftsBy : ByteArray := prog_10_method_70_code
def yX8_driftsBy : MethodName := ⟨RX8, "driftsBy", "(II)I"⟩
abbrev cX8_wearsBy : ByteArray := prog_10_method_71_code
def yX8_wearsBy : MethodName := ⟨RX8, "wearsBy", "(II)I"⟩
abbrev cX8_tellsBy : ByteArray := prog_10_method_72_code
def yX8_tellsBy : MethodName := ⟨RX8, "tellsBy", "(II)I"⟩
abbrev cX8_voice : ByteArray := prog_10_method_73_code
def yX8_voice : MethodName := ⟨RX8, "voice", "(III)I"⟩
abbrev cX8_trace : ByteArray := prog_10_method_74_code
def yX8_trace : MethodName := ⟨RX8, "trace", "(I)I"⟩
abbrev cX8_isSheet : ByteArray := prog_10_method_75_code
def yX8_isSheet : MethodName := ⟨RX8, "isSheet", "(I)Z"⟩
abbrev cX8_sheet : ByteArray := prog_10_method_76_code
def yX8_sheet : MethodName := ⟨RX8, "sheet", "(III)I"⟩
abbrev cX8_put : ByteArray := prog_10_method_77_code
def yX8_put : MethodName := ⟨RX8, "put", "(III)I"⟩
abbrev cX8_move : ByteArray := prog_10_method_78_code
def yX8_move : MethodName := ⟨RX8, "move", "(IIIII)I"⟩
abbrev cX8_shares : ByteArray := prog_10_method_79_code
def yX8_shares : MethodName := ⟨RX8, "shares", "(I)I"⟩
abbrev cX8_judge : ByteArray := prog_10_method_80_code
def yX8_judge : MethodName := ⟨RX8, "judge", "(I)I"⟩
abbrev cX8_image : ByteArray := prog_10_method_81_code
def yX8_image : MethodName := ⟨RX8, "image", "()I"⟩
abbrev cX8_restore : ByteArray := prog_10_method_82_code
def yX8_restore : MethodName := ⟨RX8, "restore", "()I"⟩
abbrev cX8_tell : ByteArray := prog_10_method_83_code
def yX8_tell : MethodName := ⟨RX8, "tell", "(I)I"⟩
abbrev cX8_check : ByteArray := prog_10_method_84_code
def yX8_check : MethodName := ⟨RX8, "check", "()I"⟩
abbrev cX8_count : ByteArray := prog_10_method_85_code
def yX8_count : MethodName := ⟨RX8, "count", "(I)I"⟩
abbrev cX8_told : ByteArray := prog_10_method_86_code
def yX8_told : MethodName := ⟨RX8, "told", "(I)I"⟩
end
section
/-- the tables' words that stay true -/
def pm_tb : List Cond := lw_tbl.filter goodWord
theorem pm_w {w : Cond} (i : Nat) (h : lw_tbl[i]? = some w) (hg : goodWord w = true) : w ∈ pm_tb := List.mem_filter.mpr ⟨List.mem_of_getElem? h, hg⟩
theorem pm_goodw {w : Cond} (h : w ∈ pm_tb) : w ∈ pm_tb ∧ ((w.onTables && w.keeps) = true ∨ ∃ ty, w = .arrayClass ty) := ⟨h, good_of_word (List.mem_filter.mp h).2⟩
/-! the pure memory: a place (a cell of the world), an index in it -/
abbrev pm_M : Type := Nat → Nat → Int32
def pm_up (M : pm_M) (k i : Nat) (x : Int32) : pm_M := fun k' j => if k' = k then (if j = i then x else M k' j) else M k' j
def pm_cpy (M : pm_M) (k0 sp k1 dp n : Nat) : pm_M := fun k' j => if k' = k1 then (if dp ≤ j ∧ j < dp + n then M k0 (sp + (j - dp)) else M k' j) else M k' j
def pm_chk {α : Type} (b : Bool) (E : Option α) : Option α := match b with
  | true => E
  | false => none
def pm_in (i : Int32) (n : Nat) : Bool := decide (0 ≤ i.toInt) && decide (i.toInt < (n : Int))
def pm_nz (y : Int32) : Bool := !(decide (y = 0))
def pm_zo (y : Int32) : Bool := decide (y = 0) || decide (y = 1)
def pm_cin (sp dp n : Int32) (n0 n1 : Nat) : Bool := decide (0 ≤ sp.toInt) && (decide (0 ≤ dp.toInt) && (decide (0 ≤ n.toInt) && (decide (sp.toNatClampNeg + n.toNatClampNeg ≤ n0) && decide (dp.toNatClampNeg + n.toNatClampNeg ≤ n1))))
theorem pm_in_iff {i : Int32} {n : Nat} : pm_in i n = true ↔ vp_in i n := by
  rw [vp_in_iff]; simp [pm_in]
/-- a loop, or a group of methods that call one another: n rounds -/
def pm_it {A : Type} (bot : A) (g : A → A) : Nat → A
  | 0 => bot
  | n + 1 => g (pm_it bot g n)
/-! shapes: a prim array (kind of array, length); an array of references (kind, places); an object (class, its fields: none a number, some p the place that it names) -/
abbrev pm_Sh : Type := (Nat × Nat) ⊕ ((Nat × List Nat) ⊕ (Nat × List (Option Nat)))
/-- the world's addresses, the array classes, the classes -/
abbrev pm_V : Type := (Nat → Nat) × (Nat → ClassId) × va_G
def pm_fv (V : pm_V) (M : pm_M) (k j : Nat) (f : Option Nat) : Value := match f with
  | none => .int (M k j)
  | some p => .ref (V.1 p)
def pm_cell (V : pm_V) (M : pm_M) (k : Nat) (sh : pm_Sh) : va_E := match sh with
  | .inl q => .inl (V.2.1 q.1, (q.2, .inl (M k)))
  | .inr (.inl q) => .inl (V.2.1 q.1, (q.2.length, .inr (.inr (.inr (.inr (fun i => (q.2[i]?).map V.1))))))
  | .inr (.inr q) => .inr (q.1, q.2.mapIdx (fun j f => pm_fv V M k j f))
def pm_wld (V : pm_V) (sk : List pm_Sh) (M : pm_M) : va_W := sk.mapIdx (fun k sh => (V.1 k, pm_cell V M k sh))
theorem pm_wld_at {V : pm_V} {sk : List pm_Sh} {M : pm_M} {k : Nat} {sh : pm_Sh} (h : sk[k]? = some sh) : (pm_wld V sk M)[k]? = some (V.1 k, pm_cell V M k sh) := by
  unfold pm_wld
  rw [List.getElem?_mapIdx, h]
  rfl
theorem pm_fv_congr {V : pm_V} {M M' : pm_M} {k : Nat} (h : M k = M' k) : pm_fv V M k = pm_fv V M' k := by
  funext j f
  cases f with
  | none => show Value.int (M k j) = .int (M' k j); rw [h]
  | some p => rfl
theorem pm_cell_congr {V : pm_V} {M M' : pm_M} {k : Nat} (h : M k = M' k) (sh : pm_Sh) : pm_cell V M k sh = pm_cell V M' k sh := by
  rcases sh with q | q | q
  · show Sum.inl (_, (_, Sum.inl (M k))) = Sum.inl (_, (_, Sum.inl (M' k))); rw [h]
  · rfl
  · show Sum.inr (q.1, q.2.mapIdx (fun j f => pm_fv V M k j f)) = Sum.inr (q.1, q.2.mapIdx (fun j f => pm_fv V M' k j f))
    rw [pm_fv_congr h]
theorem pm_wld_set {V : pm_V} {sk : List pm_Sh} {M M' : pm_M} {k : Nat} {sh : pm_Sh} {e : va_E} (h : sk[k]? = some sh) (ho : ∀ k', k' ≠ k → M' k' = M k') (he : pm_cell V M' k sh = e) : (pm_wld V sk M).set k (V.1 k, e) = pm_wld V sk M' := by
  apply List.ext_getElem?
  intro j
  have hl : k < sk.length := (List.getElem?_eq_some_iff.mp h).1
  by_cases hj : j = k
  · subst hj
    rw [List.getElem?_set_self (by unfold pm_wld; rw [List.length_mapIdx]; exact hl), pm_wld_at h, he]
  · rw [List.getElem?_set_ne (Ne.symm hj)]
    unfold pm_wld
    rw [List.getElem?_mapIdx, List.getElem?_mapIdx]
    cases hs : sk[j]? with
    | none => rfl
    | some s => show some (V.1 j, pm_cell V M j s) = some (V.1 j, pm_cell V M' j s); rw [pm_cell_congr (ho j hj) s]
theorem pm_up_o {M : pm_M} {k i : Nat} {x : Int32} (k' : Nat) (h : k' ≠ k) : pm_up M k i x k' = M k' := by
  funext j; simp [pm_up, h]
theorem pm_up_s {M : pm_M} {k i : Nat} {x : Int32} : pm_up M k i x k = upd (M k) i x := by
  funext j; simp [pm_up, upd]
theorem pm_cpy_o {M : pm_M} {k0 sp k1 dp n : Nat} (k' : Nat) (h : k' ≠ k1) : pm_cpy M k0 sp k1 dp n k' = M k' := by
  funext j; simp [pm_cpy, h]
theorem pm_cpy_s {M : pm_M} {k0 sp k1 dp n : Nat} : pm_cpy M k0 sp k1 dp n k1 = va_cpy (M k0) (M k1) sp dp n := by
  funext j; simp [pm_cpy, va_cpy]
theorem pm_wld_ast {V : pm_V} {sk : List pm_Sh} {M : pm_M} {k i t n : Nat} {x : Int32} (h : sk[k]? = some (.inl (t, n))) : (pm_wld V sk M).set k (V.1 k, .inl (V.2.1 t, (n, .inl (upd (M k) i x)))) = pm_wld V sk (pm_up M k i x) :=
  pm_wld_set h (fun k' h' => pm_up_o k' h') (by show Sum.inl (_, (_, Sum.inl (pm_up M k i x k))) = _; rw [pm_up_s])
theorem pm_wld_cpy {V : pm_V} {sk : List pm_Sh} {M : pm_M} {k0 sp k1 dp n0 t n : Nat} (h : sk[k1]? = some (.inl (t, n))) : (pm_wld V sk M).set k1 (V.1 k1, .inl (V.2.1 t, (n, .inl (va_cpy (M k0) (M k1) sp dp n0)))) = pm_wld V sk (pm_cpy M k0 sp k1 dp n0) :=
  pm_wld_set h (fun k' h' => pm_cpy_o k' h') (by show Sum.inl (_, (_, Sum.inl (pm_cpy M k0 sp k1 dp n0 k1))) = _; rw [pm_cpy_s])
theorem pm_wld_put {V : pm_V} {sk : List pm_Sh} {M : pm_M} {k j ci : Nat} {fs : List (Option Nat)} {x : Int32} (h : sk[k]? = some (.inr (.inr (ci, fs)))) (hj : fs[j]? = some none) : (pm_wld V sk M).set k (V.1 k, .inr (ci, (fs.mapIdx (fun j f => pm_fv V M k j f)).set j (.int x))) = pm_wld V sk (pm_up M k j x) := by
  refine pm_wld_set h (fun k' h' => pm_up_o k' h') ?_
  show (Sum.inr (ci, fs.mapIdx (fun j9 f => pm_fv V (pm_up M k j x) k j9 f)) : va_E) = _
  refine congrArg (fun z => (Sum.inr (ci, z) : va_E)) ?_
  apply List.ext_getElem?
  intro i
  by_cases hi : i = j
  · subst hi
    rw [List.getElem?_set_self (by rw [List.length_mapIdx]; exact (List.getElem?_eq_some_iff.mp hj).1), List.getElem?_mapIdx, hj]
    show some (Value.int (pm_up M k i x k i)) = some (Value.int x)
    simp [pm_up]
  · rw [List.getElem?_set_ne (Ne.symm hi), List.getElem?_mapIdx, List.getElem?_mapIdx]
    cases fs[i]? with
    | none => rfl
    | some f =>
      cases f with
      | none => show some (Value.int (pm_up M k j x k i)) = some (Value.int (M k i)); simp [pm_up, hi]
      | some p => rfl
/-! the classes whose objects the worlds hold, the kinds of arrays -/
def pm_cls : List vw_C := [(RX0, TX0, 5), (RX1, TX1, 5), (RX2, TX2, 7), (RX3, TX3, 6), (RX4, TX4, 3), (RX5, TX5, 12), (RX6, TX6, 5), (RX7, TX7, 8), (RX8, TX8, 20)]
def pm_tys (V : pm_V) : List (ClassId × FieldType) := [(V.2.1 0, .int), (V.2.1 1, .object "RainShares$Law"), (V.2.1 2, .object "RainShares$Sheet"), (V.2.1 3, .array .int)]
/-! static arrays: places 900, 901, 902 -/
def pm_ABOVE (j : Nat) : Int32 := ([-1, 0, 0, 0, 1, 2, 3] : List Int32).getD j 0
def pm_NAMES (j : Nat) : Int32 := ([119, 100, 109, 115, 114, 100] : List Int32).getD j 0
def pm_BODIES (j : Nat) : Int32 := ([10, 11, 12, 13, 0, 0, 20, 0, 30, 0, 0, 0, 0, 40, 0, 0, 0, 0, 50, 51, 0, 0, 0, 60, 0, 70, 0, 0] : List Int32).getD j 0
def pm_stat (V : pm_V) (A : Nat → Prop) (U : State) (H : Heap) : Prop :=
  (va_Z "RainShares" "ABOVE" "[I" (.ref (V.1 900)) A U H ∧ va_T .int (V.1 900) 7 (fun j => .int (pm_ABOVE j)) A U H) ∧
  (va_Z "RainShares" "NAMES" "[C" (.ref (V.1 901)) A U H ∧ va_T .char (V.1 901) 6 (fun j => .int (pm_NAMES j)) A U H) ∧
  (va_Z "RainShares$Voices" "BODIES" "[I" (.ref (V.1 902)) A U H ∧ va_T .int (V.1 902) 28 (fun j => .int (pm_BODIES j)) A U H)
theorem pm_stat_kept {V : pm_V} {A B : Nat → Prop} {u U : State} {H H1 : Heap} (h : pm_stat V A u H) (hvm : u.vm.Alike U.vm) (hq : ∀ a : Nat, a < H.size → ¬ A a → H1[a]? = H[a]?) (hAB : ∀ q, B q → A q) : pm_stat V B U H1 := by
  obtain ⟨⟨a1, a2⟩, ⟨b1, b2⟩, c1, c2⟩ := h
  exact ⟨⟨((a1.kept hq).moved hvm).narrow hAB, ((a2.kept hq).moved hvm).narrow hAB⟩, ⟨((b1.kept hq).moved hvm).narrow hAB, ((b2.kept hq).moved hvm).narrow hAB⟩, ((c1.kept hq).moved hvm).narrow hAB, ((c2.kept hq).moved hvm).narrow hAB⟩
/-- links of a nest mate to a private static -/
def pm_nst (U : State) : Prop := va_Nw (.fieldLinkNest "RainShares$Clouds" 38 "RainShares" "ABOVE" "[I" "RainShares") U ∧ va_Nw (.fieldLinkNest "RainShares$Reader" 74 "RainShares" "NAMES" "[C" "RainShares") U ∧ va_Nw (.fieldLinkNest "RainShares$Voices" 35 "RainShares" "ABOVE" "[I" "RainShares") U
theorem pm_nst_warm {s U : State} (hW : s.WarmedH U.vm) (h : pm_nst s) : pm_nst U := ⟨va_Nw.warmF hW h.1, va_Nw.warmF hW h.2.1, va_Nw.warmF hW h.2.2⟩
theorem pm_nst_vm {u U : State} (e : u.vm = U.vm) (h : pm_nst u) : pm_nst U := ⟨va_tabs rfl e h.1, va_tabs rfl e h.2.1, va_tabs rfl e h.2.2⟩
/-! the judgement -/
abbrev pm_X : Type := Program × Launch × Env × Room × State × MethodId × Array Value × List Frame × Method × Code × (State → Prop) × (Nat × Nat) × (Nat → Prop)
/-- a method: its bytes, its class, its locals, what it returns -/
abbrev pm_I : Type := ByteArray × String × Nat × Option FieldType
def pm_DC (b : ByteArray) (pc pc' n : Nat) (i : Instr) : Prop := decode b pc = .ok (i, n) ∧ pc + n = pc'
def pm_ok0 (V : pm_V) (mi : pm_I) (ht : Nat) (p : Program) (R : Room) (s : State) (m : MethodId) (args : Array Value) (meth : Method) (c : Code) (cells slots : Nat) (A : Nat → Prop) : Prop :=
  p.tables.exec = Jvm.exec ∧ c.code = mi.1 ∧ c.maxLocals = mi.2.2.1 ∧ s.vm.findClass mi.2.1 = some m.cls ∧ (∀ w ∈ pm_tb, w.before args s = true) ∧ va_K V.2.2 pm_cls (pm_tys V) s ∧ (pm_stat V A s s.heap ∧ pm_nst s) ∧ (cells ≤ R.cells ∧ slots ≤ R.slots) ∧ (ht + 1 ≤ R.frames ∧ 64 * (ht + 1) ≤ R.locals)
def pm_J0 (V : pm_V) (mi : pm_I) (ht : Nat) (ws : va_W) (pc : Nat) (L : List (Nat × Value)) (st : List Value) (p : Program) (l : Launch) (e : Env) (R : Room) (s : State) (m : MethodId) (args : Array Value) (below : List Frame) (meth : Method) (c : Code) (Q : State → Prop) (cells slots : Nat) (A : Nat → Prop) : Prop :=
  pm_ok0 V mi ht p R s m args meth c cells slots A → ∀ (H : Heap) (locs : List Loc) (ls : Array Slot), va_P V.2.2 pm_cls ws H → va_D A ws → va_S A s.heap H locs → lv_has ls mi.2.2.1 L → W p l e R s m args below meth c H locs cells slots Q (F0 m pc ls st)
def pm_J (X : pm_X) (V : pm_V) (mi : pm_I) (ht : Nat) (ws : va_W) (pc : Nat) (L : List (Nat × Value)) (st : List Value) : Prop := match X with
  | (p, l, e, R, s, m, args, below, meth, c, Q, (cells, slots), A) => pm_J0 V mi ht ws pc L st p l e R s m args below meth c Q cells slots A
/-! rows that ask nothing of the world -/
section PMR
variable {X : pm_X} {V : pm_V} {mi : pm_I} {ht : Nat} {ws : va_W} {pc pc' : Nat} {L L' : List (Nat × Value)} {st : List Value}
theorem jr_sub (ks : List Nat) (hl : lv_pick L ks = L') (k : pm_J X V mi ht ws pc L' st) : pm_J X V mi ht ws pc L st := by
  obtain ⟨p, l, e, R, s, m, args, below, meth, c, Q, ⟨cells, slots⟩, A⟩ := X
  intro ok H locs ls hP hD hS hl0
  exact k ok H locs ls hP hD hS (lv_sub hl0 ks hl)
theorem jr_iconst {n : Int} {v : Int32} (hd : pm_DC mi.1 pc pc' 1 (.iconst n)) (hv : Int32.ofInt n = v) (k : pm_J X V mi ht ws pc' L (.int v :: st)) : pm_J X V mi ht ws pc L st := by
  obtain ⟨p, l, e, R, s, m, args, below, meth, c, Q, ⟨cells, slots⟩, A⟩ := X
  intro ok H locs ls hP hD hS hl
  obtain ⟨hd, rfl⟩ := hd
  exact lv_iconst ok.1 ok.2.1 hd hv (k ok H locs ls hP hD hS hl)
theorem jr_bipush {n : Int} {v : Int32} (hd : pm_DC mi.1 pc pc' 2 (.bipush n)) (hv : (Int8.ofInt n).toInt32 = v) (k : pm_J X V mi ht ws pc' L (.int v :: st)) : pm_J X V mi ht ws pc L st := by
  obtain ⟨p, l, e, R, s, m, args, below, meth, c, Q, ⟨cells, slots⟩, A⟩ := X
  intro ok H locs ls hP hD hS hl
  obtain ⟨hd, rfl⟩ := hd
  exact lv_bipush ok.1 ok.2.1 hd hv (k ok H locs ls hP hD hS hl)
theorem jr_sipush {n : Int} {v : Int32} (hd : pm_DC mi.1 pc pc' 3 (.sipush n)) (hv : (Int16.ofInt n).toInt32 = v) (k : pm_J X V mi ht ws pc' L (.int v :: st)) : pm_J X V mi ht ws pc L st := by
  obtain ⟨p, l, e, R, s, m, args, below, meth, c, Q, ⟨cells, slots⟩, A⟩ := X
  intro ok H locs ls hP hD hS hl
  obtain ⟨hd, rfl⟩ := hd
  exact lv_sipush ok.1 ok.2.1 hd hv (k ok H locs ls hP hD hS hl)
theorem jr_lconst {n : Fin 2} {v : Int64} (hd : pm_DC mi.1 pc pc' 1 (.lconst n)) (hv : Int64.ofNat (n : Nat) = v) (k : pm_J X V mi ht ws pc' L (.long v :: st)) : pm_J X V mi ht ws pc L st := by
  obtain ⟨p, l, e, R, s, m, args, below, meth, c, Q, ⟨cells, slots⟩, A⟩ := X
  intro ok H locs ls hP hD hS hl
  obtain ⟨hd, rfl⟩ := hd
  exact lv_lconst ok.1 ok.2.1 hd hv (k ok H locs ls hP hD hS hl)
theorem jr_ldc {idx : Nat} {v : Int32} (hd : pm_DC mi.1 pc pc' 2 (.ldc idx)) (hw : Cond.constant mi.2.1 idx v ∈ pm_tb) (k : pm_J X V mi ht ws pc' L (.int v :: st)) : pm_J X V mi ht ws pc L st := by
  obtain ⟨p, l, e, R, s, m, args, below, meth, c, Q, ⟨cells, slots⟩, A⟩ := X
  intro ok H locs ls hP hD hS hl
  obtain ⟨hd, rfl⟩ := hd
  exact lv_ldc ok.1 ok.2.1 ok.2.2.2.1 (ok.2.2.2.2.1 _ hw) hd (k ok H locs ls hP hD hS hl)
theorem jr_ldcw {idx : Nat} {v : Int32} (hd : pm_DC mi.1 pc pc' 3 (.ldc_w idx)) (hw : Cond.constant mi.2.1 idx v ∈ pm_tb) (k : pm_J X V mi ht ws pc' L (.int v :: st)) : pm_J X V mi ht ws pc L st := by
  obtain ⟨p, l, e, R, s, m, args, below, meth, c, Q, ⟨cells, slots⟩, A⟩ := X
  intro ok H locs ls hP hD hS hl
  obtain ⟨hd, rfl⟩ := hd
  exact lv_ldcw ok.1 ok.2.1 ok.2.2.2.1 (ok.2.2.2.2.1 _ hw) hd (k ok H locs ls hP hD hS hl)
theorem jr_ldc2 {idx : Nat} {v : Int64} (hd : pm_DC mi.1 pc pc' 3 (.ldc2_w idx)) (hw : Cond.constantLong mi.2.1 idx v ∈ pm_tb) (k : pm_J X V mi ht ws pc' L (.long v :: st)) : pm_J X V mi ht ws pc L st := by
  obtain ⟨p, l, e, R, s, m, args, below, meth, c, Q, ⟨cells, slots⟩, A⟩ := X
  intro ok H locs ls hP hD hS hl
  obtain ⟨hd, rfl⟩ := hd
  exact lv_ldc2 ok.1 ok.2.1 ok.2.2.2.1 (ok.2.2.2.2.1 _ hw) hd (k ok H locs ls hP hD hS hl)
theorem jr_iload {i j : Nat} {x : Int32} (hd : pm_DC mi.1 pc pc' 2 (.iload i)) (hl : L[j]? = some (i, .int x)) (k : pm_J X V mi ht ws pc' L (.int x :: st)) : pm_J X V mi ht ws pc L st := by
  obtain ⟨p, l, e, R, s, m, args, below, meth, c, Q, ⟨cells, slots⟩, A⟩ := X
  intro ok H locs ls hP hD hS hl0
  obtain ⟨hd, rfl⟩ := hd
  exact lv_iload ok.1 ok.2.1 hd (lv_at hl0 j hl) (k ok H locs ls hP hD hS hl0)
theorem jr_iloadn {i : Fin 4} {j : Nat} {x : Int32} (hd : pm_DC mi.1 pc pc' 1 (.iload_n i)) (hl : L[j]? = some (i.val, .int x)) (k : pm_J X V mi ht ws pc' L (.int x :: st)) : pm_J X V mi ht ws pc L st := by
  obtain ⟨p, l, e, R, s, m, args, below, meth, c, Q, ⟨cells, slots⟩, A⟩ := X
  intro ok H locs ls hP hD hS hl0
  obtain ⟨hd, rfl⟩ := hd
  exact lv_iload_n ok.1 ok.2.1 hd rfl (lv_at hl0 j hl) (k ok H locs ls hP hD hS hl0)
theorem jr_lload {i j : Nat} {x : Int64} (hd : pm_DC mi.1 pc pc' 2 (.lload i)) (hl : L[j]? = some (i, .long x)) (k : pm_J X V mi ht ws pc' L (.long x :: st)) : pm_J X V mi ht ws pc L st := by
  obtain ⟨p, l, e, R, s, m, args, below, meth, c, Q, ⟨cells, slots⟩, A⟩ := X
  intro ok H locs ls hP hD hS hl0
  obtain ⟨hd, rfl⟩ := hd
  exact lv_lload ok.1 ok.2.1 hd (lv_at hl0 j hl) (k ok H locs ls hP hD hS hl0)
theorem jr_lloadn {i : Fin 4} {j : Nat} {x : Int64} (hd : pm_DC mi.1 pc pc' 1 (.lload_n i)) (hl : L[j]? = some (i.val, .long x)) (k : pm_J X V mi ht ws pc' L (.long x :: st)) : pm_J X V mi ht ws pc L st := by
  obtain ⟨p, l, e, R, s, m, args, below, meth, c, Q, ⟨cells, slots⟩, A⟩ := X
  intro ok H locs ls hP hD hS hl0
  obtain ⟨hd, rfl⟩ := hd
  exact lv_lload_n ok.1 ok.2.1 hd rfl (lv_at hl0 j hl) (k ok H locs ls hP hD hS hl0)
theorem jr_aload {i j : Nat} {x : Nat} (hd : pm_DC mi.1 pc pc' 2 (.aload i)) (hl : L[j]? = some (i, .ref x)) (k : pm_J X V mi ht ws pc' L (.ref x :: st)) : pm_J X V mi ht ws pc L st := by
  obtain ⟨p, l, e, R, s, m, args, below, meth, c, Q, ⟨cells, slots⟩, A⟩ := X
  intro ok H locs ls hP hD hS hl0
  obtain ⟨hd, rfl⟩ := hd
  exact lv_aload ok.1 ok.2.1 hd (lv_at hl0 j hl) (k ok H locs ls hP hD hS hl0)
theorem jr_aloadn {i : Fin 4} {j : Nat} {x : Nat} (hd : pm_DC mi.1 pc pc' 1 (.aload_n i)) (hl : L[j]? = some (i.val, .ref x)) (k : pm_J X V mi ht ws pc' L (.ref x :: st)) : pm_J X V mi ht ws pc L st := by
  obtain ⟨p, l, e, R, s, m, args, below, meth, c, Q, ⟨cells, slots⟩, A⟩ := X
  intro ok H locs ls hP hD hS hl0
  obtain ⟨hd, rfl⟩ := hd
  exact lv_aload_n ok.1 ok.2.1 hd rfl (lv_at hl0 j hl) (k ok H locs ls hP hD hS hl0)
theorem jr_istore {i : Nat} {x : Int32} (hd : pm_DC mi.1 pc pc' 2 (.istore i)) (hn : i < mi.2.2.1) (hl : (i, Value.int x) :: L.filter (fun q => !(q.1 == i) && !(q.1 + 1 == i && q.2.category == 2)) = L') (k : pm_J X V mi ht ws pc' L' st) : pm_J X V mi ht ws pc L (.int x :: st) := by
  obtain ⟨p, l, e, R, s, m, args, below, meth, c, Q, ⟨cells, slots⟩, A⟩ := X
  intro ok H locs ls hP hD hS hl0
  obtain ⟨hd, rfl⟩ := hd
  exact lv_istore ok.1 ok.2.1 hd hl0 hn hl (fun ls' hl' => k ok H locs ls' hP hD hS hl')
theorem jr_istoren {i : Fin 4} {x : Int32} (hd : pm_DC mi.1 pc pc' 1 (.istore_n i)) (hn : i.val < mi.2.2.1) (hl : (i.val, Value.int x) :: L.filter (fun q => !(q.1 == i.val) && !(q.1 + 1 == i.val && q.2.category == 2)) = L') (k : pm_J X V mi ht ws pc' L' st) : pm_J X V mi ht ws pc L (.int x :: st) := by
  obtain ⟨p, l, e, R, s, m, args, below, meth, c, Q, ⟨cells, slots⟩, A⟩ := X
  intro ok H locs ls hP hD hS hl0
  obtain ⟨hd, rfl⟩ := hd
  exact lv_istore_n ok.1 ok.2.1 hd rfl hl0 hn hl (fun ls' hl' => k ok H locs ls' hP hD hS hl')
theorem jr_astore {i : Nat} {x : Nat} (hd : pm_DC mi.1 pc pc' 2 (.astore i)) (hn : i < mi.2.2.1) (hl : (i, Value.ref x) :: L.filter (fun q => !(q.1 == i) && !(q.1 + 1 == i && q.2.category == 2)) = L') (k : pm_J X V mi ht ws pc' L' st) : pm_J X V mi ht ws pc L (.ref x :: st) := by
  obtain ⟨p, l, e, R, s, m, args, below, meth, c, Q, ⟨cells, slots⟩, A⟩ := X
  intro ok H locs ls hP hD hS hl0
  obtain ⟨hd, rfl⟩ := hd
  exact lv_astore ok.1 ok.2.1 hd hl0 hn hl (fun ls' hl' => k ok H locs ls' hP hD hS hl')
theorem jr_astoren {i : Fin 4} {x : Nat} (hd : pm_DC mi.1 pc pc' 1 (.astore_n i)) (hn : i.val < mi.2.2.1) (hl : (i.val, Value.ref x) :: L.filter (fun q => !(q.1 == i.val) && !(q.1 + 1 == i.val && q.2.category == 2)) = L') (k : pm_J X V mi ht ws pc' L' st) : pm_J X V mi ht ws pc L (.ref x :: st) := by
  obtain ⟨p, l, e, R, s, m, args, below, meth, c, Q, ⟨cells, slots⟩, A⟩ := X
  intro ok H locs ls hP hD hS hl0
  obtain ⟨hd, rfl⟩ := hd
  exact lv_astore_n ok.1 ok.2.1 hd rfl hl0 hn hl (fun ls' hl' => k ok H locs ls' hP hD hS hl')
theorem jr_iinc {i j : Nat} {n : Int} {x v : Int32} (hd : pm_DC mi.1 pc pc' 3 (.iinc i n)) (hk : L[j]? = some (i, .int x)) (hv : x + Int32.ofInt n = v) (hn : i < mi.2.2.1) (hl : (i, Value.int v) :: L.filter (fun q => !(q.1 == i) && !(q.1 + 1 == i && q.2.category == 2)) = L') (k : pm_J X V mi ht ws pc' L' st) : pm_J X V mi ht ws pc L st := by
  obtain ⟨p, l, e, R, s, m, args, below, meth, c, Q, ⟨cells, slots⟩, A⟩ := X
  intro ok H locs ls hP hD hS hl0
  obtain ⟨hd, rfl⟩ := hd
  exact lv_iinc ok.1 ok.2.1 hd hl0 hk hv hn hl (fun ls' hl' => k ok H locs ls' hP hD hS hl')
theorem jr_goto {off : Int} {tgt n : Nat} (hd : pm_DC mi.1 pc n 3 (.goto off)) (h9 : (pc : Int) + off = (tgt : Int)) (k : pm_J X V mi ht ws tgt L st) : pm_J X V mi ht ws pc L st := by
  obtain ⟨p, l, e, R, s, m, args, below, meth, c, Q, ⟨cells, slots⟩, A⟩ := X
  intro ok H locs ls hP hD hS hl
  exact lv_goto ok.1 ok.2.1 hd.1 h9 (k ok H locs ls hP hD hS hl)
theorem jr_dup {v : Value} (hd : pm_DC mi.1 pc pc' 1 .dup) (hv : v.category = 1) (k : pm_J X V mi ht ws pc' L (v :: v :: st)) : pm_J X V mi ht ws pc L (v :: st) := by
  obtain ⟨p, l, e, R, s, m, args, below, meth, c, Q, ⟨cells, slots⟩, A⟩ := X
  intro ok H locs ls hP hD hS hl
  obtain ⟨hd, rfl⟩ := hd
  exact lv_dup ok.1 ok.2.1 hd hv (k ok H locs ls hP hD hS hl)
theorem jr_pop {v : Value} (hd : pm_DC mi.1 pc pc' 1 .pop) (hv : v.category = 1) (k : pm_J X V mi ht ws pc' L st) : pm_J X V mi ht ws pc L (v :: st) := by
  obtain ⟨p, l, e, R, s, m, args, below, meth, c, Q, ⟨cells, slots⟩, A⟩ := X
  intro ok H locs ls hP hD hS hl
  obtain ⟨hd, rfl⟩ := hd
  exact lv_pop ok.1 ok.2.1 hd hv (k ok H locs ls hP hD hS hl)
theorem jr_dupx1 {v w : Value} (hd : pm_DC mi.1 pc pc' 1 .dup_x1) (hv : v.category = 1) (hw : w.category = 1) (k : pm_J X V mi ht ws pc' L (v :: w :: v :: st)) : pm_J X V mi ht ws pc L (v :: w :: st) := by
  obtain ⟨p, l, e, R, s, m, args, below, meth, c, Q, ⟨cells, slots⟩, A⟩ := X
  intro ok H locs ls hP hD hS hl
  obtain ⟨hd, rfl⟩ := hd
  exact lv_dup_x1 ok.1 ok.2.1 hd hv hw (k ok H locs ls hP hD hS hl)
theorem jr_dup2 {v w : Value} (hd : pm_DC mi.1 pc pc' 1 .dup2) (hv : v.category = 1) (hw : w.category = 1) (k : pm_J X V mi ht ws pc' L (v :: w :: v :: w :: st)) : pm_J X V mi ht ws pc L (v :: w :: st) := by
  obtain ⟨p, l, e, R, s, m, args, below, meth, c, Q, ⟨cells, slots⟩, A⟩ := X
  intro ok H locs ls hP hD hS hl
  obtain ⟨hd, rfl⟩ := hd
  exact lv_dup2_11 ok.1 ok.2.1 hd hv hw (k ok H locs ls hP hD hS hl)
theorem jr_iadd {x y : Int32} (hd : pm_DC mi.1 pc pc' 1 .iadd) (k : pm_J X V mi ht ws pc' L (.int (x + y) :: st)) : pm_J X V mi ht ws pc L (.int y :: .int x :: st) := by
  obtain ⟨p, l, e, R, s, m, args, below, meth, c, Q, ⟨cells, slots⟩, A⟩ := X
  intro ok H locs ls hP hD hS hl
  obtain ⟨hd, rfl⟩ := hd
  exact lv_iadd ok.1 ok.2.1 hd (k ok H locs ls hP hD hS hl)
theorem jr_isub {x y : Int32} (hd : pm_DC mi.1 pc pc' 1 .isub) (k : pm_J X V mi ht ws pc' L (.int (x - y) :: st)) : pm_J X V mi ht ws pc L (.int y :: .int x :: st) := by
  obtain ⟨p, l, e, R, s, m, args, below, meth, c, Q, ⟨cells, slots⟩, A⟩ := X
  intro ok H locs ls hP hD hS hl
  obtain ⟨hd, rfl⟩ := hd
  exact lv_isub ok.1 ok.2.1 hd (k ok H locs ls hP hD hS hl)
theorem jr_imul {x y : Int32} (hd : pm_DC mi.1 pc pc' 1 .imul) (k : pm_J X V mi ht ws pc' L (.int (x * y) :: st)) : pm_J X V mi ht ws pc L (.int y :: .int x :: st) := by
  obtain ⟨p, l, e, R, s, m, args, below, meth, c, Q, ⟨cells, slots⟩, A⟩ := X
  intro ok H locs ls hP hD hS hl
  obtain ⟨hd, rfl⟩ := hd
  exact lv_imul ok.1 ok.2.1 hd (k ok H locs ls hP hD hS hl)
theorem jr_iand {x y : Int32} (hd : pm_DC mi.1 pc pc' 1 .iand) (k : pm_J X V mi ht ws pc' L (.int (x &&& y) :: st)) : pm_J X V mi ht ws pc L (.int y :: .int x :: st) := by
  obtain ⟨p, l, e, R, s, m, args, below, meth, c, Q, ⟨cells, slots⟩, A⟩ := X
  intro ok H locs ls hP hD hS hl
  obtain ⟨hd, rfl⟩ := hd
  exact lv_iand ok.1 ok.2.1 hd (k ok H locs ls hP hD hS hl)
theorem jr_ior {x y : Int32} (hd : pm_DC mi.1 pc pc' 1 .ior) (k : pm_J X V mi ht ws pc' L (.int (x ||| y) :: st)) : pm_J X V mi ht ws pc L (.int y :: .int x :: st) := by
  obtain ⟨p, l, e, R, s, m, args, below, meth, c, Q, ⟨cells, slots⟩, A⟩ := X
  intro ok H locs ls hP hD hS hl
  obtain ⟨hd, rfl⟩ := hd
  exact lv_ior ok.1 ok.2.1 hd (k ok H locs ls hP hD hS hl)
theorem jr_ixor {x y : Int32} (hd : pm_DC mi.1 pc pc' 1 .ixor) (k : pm_J X V mi ht ws pc' L (.int (x ^^^ y) :: st)) : pm_J X V mi ht ws pc L (.int y :: .int x :: st) := by
  obtain ⟨p, l, e, R, s, m, args, below, meth, c, Q, ⟨cells, slots⟩, A⟩ := X
  intro ok H locs ls hP hD hS hl
  obtain ⟨hd, rfl⟩ := hd
  exact lv_ixor ok.1 ok.2.1 hd (k ok H locs ls hP hD hS hl)
theorem jr_idiv {x y : Int32} (hd : pm_DC mi.1 pc pc' 1 .idiv) (hne : ¬ y = 0) (k : pm_J X V mi ht ws pc' L (.int (x / y) :: st)) : pm_J X V mi ht ws pc L (.int y :: .int x :: st) := by
  obtain ⟨p, l, e, R, s, m, args, below, meth, c, Q, ⟨cells, slots⟩, A⟩ := X
  intro ok H locs ls hP hD hS hl
  obtain ⟨hd, rfl⟩ := hd
  exact lv_idiv ok.1 ok.2.1 hd hne (k ok H locs ls hP hD hS hl)
theorem jr_irem {x y : Int32} (hd : pm_DC mi.1 pc pc' 1 .irem) (hne : ¬ y = 0) (k : pm_J X V mi ht ws pc' L (.int (x - x / y * y) :: st)) : pm_J X V mi ht ws pc L (.int y :: .int x :: st) := by
  obtain ⟨p, l, e, R, s, m, args, below, meth, c, Q, ⟨cells, slots⟩, A⟩ := X
  intro ok H locs ls hP hD hS hl
  obtain ⟨hd, rfl⟩ := hd
  exact lv_irem ok.1 ok.2.1 hd hne (k ok H locs ls hP hD hS hl)
theorem jr_ineg {x : Int32} (hd : pm_DC mi.1 pc pc' 1 .ineg) (k : pm_J X V mi ht ws pc' L (.int (-x) :: st)) : pm_J X V mi ht ws pc L (.int x :: st) := by
  obtain ⟨p, l, e, R, s, m, args, below, meth, c, Q, ⟨cells, slots⟩, A⟩ := X
  intro ok H locs ls hP hD hS hl
  obtain ⟨hd, rfl⟩ := hd
  exact lv_ineg ok.1 ok.2.1 hd (k ok H locs ls hP hD hS hl)
theorem jr_ishl {x y : Int32} (hd : pm_DC mi.1 pc pc' 1 .ishl) (k : pm_J X V mi ht ws pc' L (.int (x <<< (y &&& 31)) :: st)) : pm_J X V mi ht ws pc L (.int y :: .int x :: st) := by
  obtain ⟨p, l, e, R, s, m, args, below, meth, c, Q, ⟨cells, slots⟩, A⟩ := X
  intro ok H locs ls hP hD hS hl
  obtain ⟨hd, rfl⟩ := hd
  exact lv_ishl ok.1 ok.2.1 hd (k ok H locs ls hP hD hS hl)
theorem jr_ishr {x y : Int32} (hd : pm_DC mi.1 pc pc' 1 .ishr) (k : pm_J X V mi ht ws pc' L (.int (x >>> (y &&& 31)) :: st)) : pm_J X V mi ht ws pc L (.int y :: .int x :: st) := by
  obtain ⟨p, l, e, R, s, m, args, below, meth, c, Q, ⟨cells, slots⟩, A⟩ := X
  intro ok H locs ls hP hD hS hl
  obtain ⟨hd, rfl⟩ := hd
  exact lv_ishr ok.1 ok.2.1 hd (k ok H locs ls hP hD hS hl)
theorem jr_iushr {x y : Int32} (hd : pm_DC mi.1 pc pc' 1 .iushr) (k : pm_J X V mi ht ws pc' L (.int ((x.toUInt32 >>> (y.toUInt32 &&& Int32.toUInt32 31)).toInt32) :: st)) : pm_J X V mi ht ws pc L (.int y :: .int x :: st) := by
  obtain ⟨p, l, e, R, s, m, args, below, meth, c, Q, ⟨cells, slots⟩, A⟩ := X
  intro ok H locs ls hP hD hS hl
  obtain ⟨hd, rfl⟩ := hd
  exact lv_iushr ok.1 ok.2.1 hd rfl (k ok H locs ls hP hD hS hl)
theorem jr_i2l {x : Int32} (hd : pm_DC mi.1 pc pc' 1 .i2l) (k : pm_J X V mi ht ws pc' L (.long x.toInt64 :: st)) : pm_J X V mi ht ws pc L (.int x :: st) := by
  obtain ⟨p, l, e, R, s, m, args, below, meth, c, Q, ⟨cells, slots⟩, A⟩ := X
  intro ok H locs ls hP hD hS hl
  obtain ⟨hd, rfl⟩ := hd
  exact lv_i2l ok.1 ok.2.1 hd rfl (k ok H locs ls hP hD hS hl)
theorem jr_l2i {x : Int64} (hd : pm_DC mi.1 pc pc' 1 .l2i) (k : pm_J X V mi ht ws pc' L (.int x.toInt32 :: st)) : pm_J X V mi ht ws pc L (.long x :: st) := by
  obtain ⟨p, l, e, R, s, m, args, below, meth, c, Q, ⟨cells, slots⟩, A⟩ := X
  intro ok H locs ls hP hD hS hl
  obtain ⟨hd, rfl⟩ := hd
  exact lv_l2i ok.1 ok.2.1 hd rfl (k ok H locs ls hP hD hS hl)
theorem jr_i2b {x : Int32} (hd : pm_DC mi.1 pc pc' 1 .i2b) (k : pm_J X V mi ht ws pc' L (.int x.toInt8.toInt32 :: st)) : pm_J X V mi ht ws pc L (.int x :: st) := by
  obtain ⟨p, l, e, R, s, m, args, below, meth, c, Q, ⟨cells, slots⟩, A⟩ := X
  intro ok H locs ls hP hD hS hl
  obtain ⟨hd, rfl⟩ := hd
  exact lv_i2b ok.1 ok.2.1 hd rfl (k ok H locs ls hP hD hS hl)
theorem jr_i2s {x : Int32} (hd : pm_DC mi.1 pc pc' 1 .i2s) (k : pm_J X V mi ht ws pc' L (.int x.toInt16.toInt32 :: st)) : pm_J X V mi ht ws pc L (.int x :: st) := by
  obtain ⟨p, l, e, R, s, m, args, below, meth, c, Q, ⟨cells, slots⟩, A⟩ := X
  intro ok H locs ls hP hD hS hl
  obtain ⟨hd, rfl⟩ := hd
  exact lv_i2s ok.1 ok.2.1 hd rfl (k ok H locs ls hP hD hS hl)
theorem jr_land {x y : Int64} (hd : pm_DC mi.1 pc pc' 1 .land) (k : pm_J X V mi ht ws pc' L (.long (x &&& y) :: st)) : pm_J X V mi ht ws pc L (.long y :: .long x :: st) := by
  obtain ⟨p, l, e, R, s, m, args, below, meth, c, Q, ⟨cells, slots⟩, A⟩ := X
  intro ok H locs ls hP hD hS hl
  obtain ⟨hd, rfl⟩ := hd
  exact lv_land ok.1 ok.2.1 hd (k ok H locs ls hP hD hS hl)
theorem jr_lor {x y : Int64} (hd : pm_DC mi.1 pc pc' 1 .lor) (k : pm_J X V mi ht ws pc' L (.long (x ||| y) :: st)) : pm_J X V mi ht ws pc L (.long y :: .long x :: st) := by
  obtain ⟨p, l, e, R, s, m, args, below, meth, c, Q, ⟨cells, slots⟩, A⟩ := X
  intro ok H locs ls hP hD hS hl
  obtain ⟨hd, rfl⟩ := hd
  exact lv_lor ok.1 ok.2.1 hd (k ok H locs ls hP hD hS hl)
theorem jr_lshl {x : Int64} {y : Int32} (hd : pm_DC mi.1 pc pc' 1 .lshl) (k : pm_J X V mi ht ws pc' L (.long (x <<< (y.toInt64 &&& 63)) :: st)) : pm_J X V mi ht ws pc L (.int y :: .long x :: st) := by
  obtain ⟨p, l, e, R, s, m, args, below, meth, c, Q, ⟨cells, slots⟩, A⟩ := X
  intro ok H locs ls hP hD hS hl
  obtain ⟨hd, rfl⟩ := hd
  exact lv_lshl ok.1 ok.2.1 hd rfl (k ok H locs ls hP hD hS hl)
theorem jr_lshr {x : Int64} {y : Int32} (hd : pm_DC mi.1 pc pc' 1 .lshr) (k : pm_J X V mi ht ws pc' L (.long (x >>> (y.toInt64 &&& 63)) :: st)) : pm_J X V mi ht ws pc L (.int y :: .long x :: st) := by
  obtain ⟨p, l, e, R, s, m, args, below, meth, c, Q, ⟨cells, slots⟩, A⟩ := X
  intro ok H locs ls hP hD hS hl
  obtain ⟨hd, rfl⟩ := hd
  exact lv_lshr ok.1 ok.2.1 hd rfl (k ok H locs ls hP hD hS hl)
theorem jr_lushr {x : Int64} {y : Int32} (hd : pm_DC mi.1 pc pc' 1 .lushr) (k : pm_J X V mi ht ws pc' L (.long ((x.toUInt64 >>> (y.toInt64.toUInt64 &&& Int64.toUInt64 63)).toInt64) :: st)) : pm_J X V mi ht ws pc L (.int y :: .long x :: st) := by
  obtain ⟨p, l, e, R, s, m, args, below, meth, c, Q, ⟨cells, slots⟩, A⟩ := X
  intro ok H locs ls hP hD hS hl
  obtain ⟨hd, rfl⟩ := hd
  exact lv_lushr ok.1 ok.2.1 hd rfl (k ok H locs ls hP hD hS hl)
theorem jr_lcmp {x y : Int64} (hd : pm_DC mi.1 pc pc' 1 .lcmp) (k : pm_J X V mi ht ws pc' L (.int (lg_cmp x y) :: st)) : pm_J X V mi ht ws pc L (.long y :: .long x :: st) := by
  obtain ⟨p, l, e, R, s, m, args, below, meth, c, Q, ⟨cells, slots⟩, A⟩ := X
  intro ok H locs ls hP hD hS hl
  obtain ⟨hd, rfl⟩ := hd
  exact W.lcmp ok.1 ok.2.1 hd (k ok H locs ls hP hD hS hl)
theorem jr_if_eq {x : Int32} {off : Int} {tgt : Nat} (hd : pm_DC mi.1 pc pc' 3 (.ifCond .eq off)) (h9 : (pc : Int) + off = (tgt : Int)) (kt : x = 0 → pm_J X V mi ht ws tgt L st) (kf : ¬ x = 0 → pm_J X V mi ht ws pc' L st) : pm_J X V mi ht ws pc L (.int x :: st) := by
  obtain ⟨p, l, e, R, s, m, args, below, meth, c, Q, ⟨cells, slots⟩, A⟩ := X
  intro ok H locs ls hP hD hS hl
  obtain ⟨hd, rfl⟩ := hd
  exact lv_if_eq ok.1 ok.2.1 hd h9 (fun h => kt h ok H locs ls hP hD hS hl) (fun h => kf h ok H locs ls hP hD hS hl)
theorem jr_ic_eq {x y : Int32} {off : Int} {tgt : Nat} (hd : pm_DC mi.1 pc pc' 3 (.if_icmp .eq off)) (h9 : (pc : Int) + off = (tgt : Int)) (kt : x = y → pm_J X V mi ht ws tgt L st) (kf : ¬ x = y → pm_J X V mi ht ws pc' L st) : pm_J X V mi ht ws pc L (.int y :: .int x :: st) := by
  obtain ⟨p, l, e, R, s, m, args, below, meth, c, Q, ⟨cells, slots⟩, A⟩ := X
  intro ok H locs ls hP hD hS hl
  obtain ⟨hd, rfl⟩ := hd
  exact lv_icmp_eq ok.1 ok.2.1 hd h9 (fun h => kt h ok H locs ls hP hD hS hl) (fun h => kf h ok H locs ls hP hD hS hl)
theorem jr_if_ne {x : Int32} {off : Int} {tgt : Nat} (hd : pm_DC mi.1 pc pc' 3 (.ifCond .ne off)) (h9 : (pc : Int) + off = (tgt : Int)) (kf : x = 0 → pm_J X V mi ht ws pc' L st) (kt : ¬ x = 0 → pm_J X V mi ht ws tgt L st) : pm_J X V mi ht ws pc L (.int x :: st) := by
  obtain ⟨p, l, e, R, s, m, args, below, meth, c, Q, ⟨cells, slots⟩, A⟩ := X
  intro ok H locs ls hP hD hS hl
  obtain ⟨hd, rfl⟩ := hd
  exact lv_if_ne ok.1 ok.2.1 hd h9 (fun h => kt h ok H locs ls hP hD hS hl) (fun h => kf h ok H locs ls hP hD hS hl)
theorem jr_ic_ne {x y : Int32} {off : Int} {tgt : Nat} (hd : pm_DC mi.1 pc pc' 3 (.if_icmp .ne off)) (h9 : (pc : Int) + off = (tgt : Int)) (kf : x = y → pm_J X V mi ht ws pc' L st) (kt : ¬ x = y → pm_J X V mi ht ws tgt L st) : pm_J X V mi ht ws pc L (.int y :: .int x :: st) := by
  obtain ⟨p, l, e, R, s, m, args, below, meth, c, Q, ⟨cells, slots⟩, A⟩ := X
  intro ok H locs ls hP hD hS hl
  obtain ⟨hd, rfl⟩ := hd
  exact lv_icmp_ne ok.1 ok.2.1 hd h9 (fun h => kt h ok H locs ls hP hD hS hl) (fun h => kf h ok H locs ls hP hD hS hl)
theorem jr_if_lt {x : Int32} {off : Int} {tgt : Nat} (hd : pm_DC mi.1 pc pc' 3 (.ifCond .lt off)) (h9 : (pc : Int) + off = (tgt : Int)) (kt : x < 0 → pm_J X V mi ht ws tgt L st) (kf : ¬ x < 0 → pm_J X V mi ht ws pc' L st) : pm_J X V mi ht ws pc L (.int x :: st) := by
  obtain ⟨p, l, e, R, s, m, args, below, meth, c, Q, ⟨cells, slots⟩, A⟩ := X
  intro ok H locs ls hP hD hS hl
  obtain ⟨hd, rfl⟩ := hd
  exact lv_if_lt ok.1 ok.2.1 hd h9 (fun h => kt h ok H locs ls hP hD hS hl) (fun h => kf h ok H locs ls hP hD hS hl)
theorem jr_ic_lt {x y : Int32} {off : Int} {tgt : Nat} (hd : pm_DC mi.1 pc pc' 3 (.if_icmp .lt off)) (h9 : (pc : Int) + off = (tgt : Int)) (kt : x < y → pm_J X V mi ht ws tgt L st) (kf : ¬ x < y → pm_J X V mi ht ws pc' L st) : pm_J X V mi ht ws pc L (.int y :: .int x :: st) := by
  obtain ⟨p, l, e, R, s, m, args, below, meth, c, Q, ⟨cells, slots⟩, A⟩ := X
  intro ok H locs ls hP hD hS hl
  obtain ⟨hd, rfl⟩ := hd
  exact lv_icmp_lt ok.1 ok.2.1 hd h9 (fun h => kt h ok H locs ls hP hD hS hl) (fun h => kf h ok H locs ls hP hD hS hl)
theorem jr_if_ge {x : Int32} {off : Int} {tgt : Nat} (hd : pm_DC mi.1 pc pc' 3 (.ifCond .ge off)) (h9 : (pc : Int) + off = (tgt : Int)) (kt : 0 ≤ x → pm_J X V mi ht ws tgt L st) (kf : ¬ 0 ≤ x → pm_J X V mi ht ws pc' L st) : pm_J X V mi ht ws pc L (.int x :: st) := by
  obtain ⟨p, l, e, R, s, m, args, below, meth, c, Q, ⟨cells, slots⟩, A⟩ := X
  intro ok H locs ls hP hD hS hl
  obtain ⟨hd, rfl⟩ := hd
  exact lv_if_ge ok.1 ok.2.1 hd h9 (fun h => kt h ok H locs ls hP hD hS hl) (fun h => kf h ok H locs ls hP hD hS hl)
theorem jr_ic_ge {x y : Int32} {off : Int} {tgt : Nat} (hd : pm_DC mi.1 pc pc' 3 (.if_icmp .ge off)) (h9 : (pc : Int) + off = (tgt : Int)) (kt : y ≤ x → pm_J X V mi ht ws tgt L st) (kf : ¬ y ≤ x → pm_J X V mi ht ws pc' L st) : pm_J X V mi ht ws pc L (.int y :: .int x :: st) := by
  obtain ⟨p, l, e, R, s, m, args, below, meth, c, Q, ⟨cells, slots⟩, A⟩ := X
  intro ok H locs ls hP hD hS hl
  obtain ⟨hd, rfl⟩ := hd
  exact lv_icmp_ge ok.1 ok.2.1 hd h9 (fun h => kt h ok H locs ls hP hD hS hl) (fun h => kf h ok H locs ls hP hD hS hl)
theorem jr_if_gt {x : Int32} {off : Int} {tgt : Nat} (hd : pm_DC mi.1 pc pc' 3 (.ifCond .gt off)) (h9 : (pc : Int) + off = (tgt : Int)) (kt : 0 < x → pm_J X V mi ht ws tgt L st) (kf : ¬ 0 < x → pm_J X V mi ht ws pc' L st) : pm_J X V mi ht ws pc L (.int x :: st) := by
  obtain ⟨p, l, e, R, s, m, args, below, meth, c, Q, ⟨cells, slots⟩, A⟩ := X
  intro ok H locs ls hP hD hS hl
  obtain ⟨hd, rfl⟩ := hd
  exact lv_if_gt ok.1 ok.2.1 hd h9 (fun h => kt h ok H locs ls hP hD hS hl) (fun h => kf h ok H locs ls hP hD hS hl)
theorem jr_ic_gt {x y : Int32} {off : Int} {tgt : Nat} (hd : pm_DC mi.1 pc pc' 3 (.if_icmp .gt off)) (h9 : (pc : Int) + off = (tgt : Int)) (kt : y < x → pm_J X V mi ht ws tgt L st) (kf : ¬ y < x → pm_J X V mi ht ws pc' L st) : pm_J X V mi ht ws pc L (.int y :: .int x :: st) := by
  obtain ⟨p, l, e, R, s, m, args, below, meth, c, Q, ⟨cells, slots⟩, A⟩ := X
  intro ok H locs ls hP hD hS hl
  obtain ⟨hd, rfl⟩ := hd
  exact lv_icmp_gt ok.1 ok.2.1 hd h9 (fun h => kt h ok H locs ls hP hD hS hl) (fun h => kf h ok H locs ls hP hD hS hl)
theorem jr_if_le {x : Int32} {off : Int} {tgt : Nat} (hd : pm_DC mi.1 pc pc' 3 (.ifCond .le off)) (h9 : (pc : Int) + off = (tgt : Int)) (kt : x ≤ 0 → pm_J X V mi ht ws tgt L st) (kf : ¬ x ≤ 0 → pm_J X V mi ht ws pc' L st) : pm_J X V mi ht ws pc L (.int x :: st) := by
  obtain ⟨p, l, e, R, s, m, args, below, meth, c, Q, ⟨cells, slots⟩, A⟩ := X
  intro ok H locs ls hP hD hS hl
  obtain ⟨hd, rfl⟩ := hd
  exact lv_if_le ok.1 ok.2.1 hd h9 (fun h => kt h ok H locs ls hP hD hS hl) (fun h => kf h ok H locs ls hP hD hS hl)
theorem jr_ic_le {x y : Int32} {off : Int} {tgt : Nat} (hd : pm_DC mi.1 pc pc' 3 (.if_icmp .le off)) (h9 : (pc : Int) + off = (tgt : Int)) (kt : x ≤ y → pm_J X V mi ht ws tgt L st) (kf : ¬ x ≤ y → pm_J X V mi ht ws pc' L st) : pm_J X V mi ht ws pc L (.int y :: .int x :: st) := by
  obtain ⟨p, l, e, R, s, m, args, below, meth, c, Q, ⟨cells, slots⟩, A⟩ := X
  intro ok H locs ls hP hD hS hl
  obtain ⟨hd, rfl⟩ := hd
  exact lv_icmp_le ok.1 ok.2.1 hd h9 (fun h => kt h ok H locs ls hP hD hS hl) (fun h => kf h ok H locs ls hP hD hS hl)
theorem jr_tin {dflt lo hi off : Int} {offs : Array Int} {len tgt n : Nat} {x v : Int32} (hd : pm_DC mi.1 pc n len (.tableswitch dflt lo hi offs)) (hx : x = v) (h1 : ¬ v.toInt < lo) (h2 : ¬ hi < v.toInt) (ho : offs[(v.toInt - lo).toNat]? = some off) (h9 : (pc : Int) + off = (tgt : Int)) (k : pm_J X V mi ht ws tgt L st) : pm_J X V mi ht ws pc L (.int x :: st) := by
  subst hx
  obtain ⟨p, l, e, R, s, m, args, below, meth, c, Q, ⟨cells, slots⟩, A⟩ := X
  intro ok H locs ls hP hD hS hl
  exact lv_tableIn ok.1 ok.2.1 hd.1 h1 h2 ho h9 (k ok H locs ls hP hD hS hl)
theorem jr_tout {dflt lo hi : Int} {offs : Array Int} {len tgt n : Nat} {x : Int32} (hd : pm_DC mi.1 pc n len (.tableswitch dflt lo hi offs)) (h : x.toInt < lo ∨ hi < x.toInt) (h9 : (pc : Int) + dflt = (tgt : Int)) (k : pm_J X V mi ht ws tgt L st) : pm_J X V mi ht ws pc L (.int x :: st) := by
  obtain ⟨p, l, e, R, s, m, args, below, meth, c, Q, ⟨cells, slots⟩, A⟩ := X
  intro ok H locs ls hP hD hS hl
  exact lv_tableOut ok.1 ok.2.1 hd.1 h h9 (k ok H locs ls hP hD hS hl)
theorem jr_lin {dflt off : Int} {ps : Array (Int × Int)} {len tgt n : Nat} {x v : Int32} (hd : pm_DC mi.1 pc n len (.lookupswitch dflt ps)) (hx : x = v) (hp : (ps.toList.zip (ps.toList.drop 1)).all (fun (a, next) => a.1 < next.1) = true) (ho : Op.lookupswitch.offset ps.toList dflt v.toInt = off) (h9 : (pc : Int) + off = (tgt : Int)) (k : pm_J X V mi ht ws tgt L st) : pm_J X V mi ht ws pc L (.int x :: st) := by
  subst hx
  obtain ⟨p, l, e, R, s, m, args, below, meth, c, Q, ⟨cells, slots⟩, A⟩ := X
  intro ok H locs ls hP hD hS hl
  exact lv_lookup ok.1 ok.2.1 hd.1 hp ho h9 (k ok H locs ls hP hD hS hl)
theorem pm_lkd : ∀ (ps : List (Int × Int)) (d : Int) (x : Int), (∀ q ∈ ps, ¬ q.1 = x) → Op.lookupswitch.offset ps d x = d := by
  intro ps d x
  induction ps with
  | nil => intro _; rfl
  | cons q l ih =>
    intro h
    obtain ⟨a, o⟩ := q
    rw [Op.lookupswitch.offset_cons, if_neg (h (a, o) List.mem_cons_self)]
    exact ih (fun q hq => h q (List.mem_cons_of_mem _ hq))
theorem jr_lout {dflt : Int} {ps : Array (Int × Int)} {len tgt n : Nat} {x : Int32} (hd : pm_DC mi.1 pc n len (.lookupswitch dflt ps)) (hx : ∀ q ∈ ps.toList, ¬ q.1 = x.toInt) (hp : (ps.toList.zip (ps.toList.drop 1)).all (fun (a, next) => a.1 < next.1) = true) (h9 : (pc : Int) + dflt = (tgt : Int)) (k : pm_J X V mi ht ws tgt L st) : pm_J X V mi ht ws pc L (.int x :: st) := by
  obtain ⟨p, l, e, R, s, m, args, below, meth, c, Q, ⟨cells, slots⟩, A⟩ := X
  intro ok H locs ls hP hD hS hl
  exact lv_lookup ok.1 ok.2.1 hd.1 hp (pm_lkd _ _ _ hx) h9 (k ok H locs ls hP hD hS hl)
end PMR
end
section
def pm_ws (y : MethodName) (mi : pm_I) : List Cond := Cond.code y mi.1 mi.2.2.1 mi.2.2.2 :: pm_tb
def pm_R (ht : Nat) : Room := { frames := ht + 1, cells := 0, slots := 0, locals := 64 * (ht + 1) }
def pm_AQ (V : pm_V) (sk : List pm_Sh) : Nat → Prop := fun a => ∃ k, k < sk.length ∧ a = V.1 k
def pm_B (V : pm_V) (sk : List pm_Sh) (M : pm_M) (U : State) : Prop := va_P V.2.2 pm_cls (pm_wld V sk M) U.heap ∧ va_K V.2.2 pm_cls (pm_tys V) U ∧ va_D (pm_AQ V sk) (pm_wld V sk M) ∧ pm_stat V (pm_AQ V sk) U U.heap ∧ pm_nst U
/-- the contract of a method: from the world with M, the answer r, and the world with M' -/
def pm_Ci (l : Launch) (V : pm_V) (sk : List pm_Sh) (y : MethodName) (mi : pm_I) (ht : Nat) (As : List Value) (M : pm_M) (r : Int32) (M' : pm_M) : Prop :=
  Met l y (pm_ws y mi) (pm_R ht) (va_Pc As (pm_B V sk M)) (va_Qi (fun (x : Int32) (_ : Unit) => x = r) (fun _ t => pm_B V sk M' t) (pm_AQ V sk)) 0 0 (pm_AQ V sk)
def pm_Cv (l : Launch) (V : pm_V) (sk : List pm_Sh) (y : MethodName) (mi : pm_I) (ht : Nat) (As : List Value) (M : pm_M) (M' : pm_M) : Prop :=
  Met l y (pm_ws y mi) (pm_R ht) (va_Pc As (pm_B V sk M)) (va_Qv (fun (_ : Unit) => True) (fun _ t => pm_B V sk M' t) (pm_AQ V sk)) 0 0 (pm_AQ V sk)
theorem pm_B_moved {V : pm_V} {sk : List pm_Sh} {M : pm_M} {u U : State} (h : pm_B V sk M u) (hh : U.heap = u.heap) (hvm : u.vm = U.vm) : pm_B V sk M U := by
  obtain ⟨h1, h2, h3, h4, h5⟩ := h
  have ha : u.vm.Alike U.vm := by rw [hvm]; exact Vm.Alike.refl _
  refine ⟨by rw [hh]; exact h1, h2.moved ha, h3, pm_stat_kept h4 ha (fun a _ _ => by rw [hh]) (fun _ h => h), pm_nst_vm hvm h5⟩
theorem pm_blind {V : pm_V} {sk : List pm_Sh} {M : pm_M} {As : List Value} : FrameBlind (va_Pc As (pm_B V sk M)) := by
  intro a U g mk q
  exact ⟨q.1, pm_B_moved q.2 rfl rfl⟩
theorem pm_AQ_of {V : pm_V} {sk : List pm_Sh} {M : pm_M} {A : Nat → Prop} (h : va_D A (pm_wld V sk M)) : ∀ q, pm_AQ V sk q → A q := by
  rintro q ⟨k, hk, rfl⟩
  exact h.2 k _ (pm_wld_at (List.getElem?_eq_getElem hk))
theorem pm_D_self {V : pm_V} {sk : List pm_Sh} {M : pm_M} {A : Nat → Prop} (h : va_D A (pm_wld V sk M)) : va_D (pm_AQ V sk) (pm_wld V sk M) := by
  refine h.weaken (fun k q hk _ => ?_)
  have hl : k < sk.length := by
    have := (List.getElem?_eq_some_iff.mp hk).1
    unfold pm_wld at this
    rwa [List.length_mapIdx] at this
  rw [pm_wld_at (List.getElem?_eq_getElem hl)] at hk
  cases hk
  exact ⟨k, hl, rfl⟩
/-- what a call needs of the tables -/
def pm_cv (y : MethodName) (mi : pm_I) : Prop := Cond.instanceMethod y ∈ pm_tb ∧ Cond.selects y.cls y y ∈ pm_tb ∧ Cond.initialized y.cls ∈ pm_tb ∧ Cond.code y mi.1 mi.2.2.1 mi.2.2.2 ∈ pm_tb ∧ y.cls ≠ "java/lang/invoke/MethodHandle" ∧ y.cls ≠ "java/lang/invoke/VarHandle" ∧ mi.2.2.1 ≤ 40
def pm_cs (y : MethodName) (mi : pm_I) : Prop := Cond.static y ∈ pm_tb ∧ Cond.initialized y.cls ∈ pm_tb ∧ Cond.code y mi.1 mi.2.2.1 mi.2.2.2 ∈ pm_tb ∧ y.cls ≠ "java/lang/invoke/MethodHandle" ∧ y.cls ≠ "java/lang/invoke/VarHandle" ∧ mi.2.2.1 ≤ 40
def pm_np (y : MethodName) (n : Nat) : Prop := (parseMethodDescriptor y.desc).map (fun d => d.parameters.length) = some n
/-- a field: of class ci its slot j, named by the entry idx of own -/
def pm_fl (own : String) (idx ci j : Nat) : Prop := ∃ (C : String) (T : u_T) (N : Nat), pm_cls[ci]? = some (C, T, N) ∧ (∀ w ∈ u_ws C T N, w ∈ pm_tb) ∧ j < N ∧ Cond.fieldLink own idx (T j).1 (T j).2.1 (T j).2.2.1 ∈ pm_tb
def pm_fp (own : String) (idx ci j : Nat) (ty : FieldType) : Prop := ∃ (C : String) (T : u_T) (N : Nat) (ty0 : Nat → FieldType), pm_cls[ci]? = some (C, T, N) ∧ (∀ w ∈ u_ws C T N, w ∈ pm_tb) ∧ j < N ∧ Cond.fieldLink own idx (T j).1 (T j).2.1 (T j).2.2.1 ∈ pm_tb ∧
  (∀ k, k < N → parseFieldDescriptor (T k).2.2.1 = some (ty0 k)) ∧ (∀ a, a < N → ∀ b, b < N → a ≠ b → (T a).2.1 ≠ (T b).2.1) ∧ (T j).2.2.2 = false ∧ parseFieldDescriptor (T j).2.2.1 = some ty
section PMH
variable {X : pm_X} {V : pm_V} {mi : pm_I} {ht : Nat} {sk : List pm_Sh} {M M' : pm_M} {pc pc' : Nat} {L L' : List (Nat × Value)} {st stk : List Value}
theorem hr_getI {ci j idx k : Nat} {fs : List (Option Nat)} (hd : pm_DC mi.1 pc pc' 3 (.getfield idx)) (hf : pm_fl mi.2.1 idx ci j) (hs : sk[k]? = some (.inr (.inr (ci, fs)))) (hj : fs[j]? = some none)
    (kk : pm_J X V mi ht (pm_wld V sk M) pc' L (.int (M k j) :: st)) : pm_J X V mi ht (pm_wld V sk M) pc L (.ref (V.1 k) :: st) := by
  obtain ⟨p, l, e, R, s, m, args, below, meth, c, Q, ⟨cells, slots⟩, A⟩ := X
  intro ok H locs ls hP hD hS hl
  obtain ⟨hd, rfl⟩ := hd
  obtain ⟨C, T, N, f1, f2, f3, f4⟩ := hf
  exact va_get (v := .int (M k j)) ok.1 ok.2.1 ok.2.2.2.2.1 f2 ok.2.2.2.1 ok.2.2.2.2.2.1 hP k (pm_wld_at hs) f1 j f3 (ok.2.2.2.2.1 _ f4) (fun _ h => h) (by rw [List.getElem?_mapIdx, hj]; rfl) hd (kk ok H locs ls hP hD hS hl)
theorem hr_getR {ci j idx k q : Nat} {fs : List (Option Nat)} (hd : pm_DC mi.1 pc pc' 3 (.getfield idx)) (hf : pm_fl mi.2.1 idx ci j) (hs : sk[k]? = some (.inr (.inr (ci, fs)))) (hj : fs[j]? = some (some q))
    (kk : pm_J X V mi ht (pm_wld V sk M) pc' L (.ref (V.1 q) :: st)) : pm_J X V mi ht (pm_wld V sk M) pc L (.ref (V.1 k) :: st) := by
  obtain ⟨p, l, e, R, s, m, args, below, meth, c, Q, ⟨cells, slots⟩, A⟩ := X
  intro ok H locs ls hP hD hS hl
  obtain ⟨hd, rfl⟩ := hd
  obtain ⟨C, T, N, f1, f2, f3, f4⟩ := hf
  exact va_get (v := .ref (V.1 q)) ok.1 ok.2.1 ok.2.2.2.2.1 f2 ok.2.2.2.1 ok.2.2.2.2.2.1 hP k (pm_wld_at hs) f1 j f3 (ok.2.2.2.2.1 _ f4) (fun _ h => h) (by rw [List.getElem?_mapIdx, hj]; rfl) hd (kk ok H locs ls hP hD hS hl)
theorem hr_put {ci j idx k : Nat} {fs : List (Option Nat)} {x : Int32} {ty : FieldType} (hd : pm_DC mi.1 pc pc' 3 (.putfield idx)) (hf : pm_fp mi.2.1 idx ci j ty) (hs : sk[k]? = some (.inr (.inr (ci, fs)))) (hj : fs[j]? = some none) (hn : narrow ty (.int x) = .int x) (hfit : fits ty (.int x) = true)
    (kk : pm_J X V mi ht (pm_wld V sk (pm_up M k j x)) pc' L st) : pm_J X V mi ht (pm_wld V sk M) pc L (.int x :: .ref (V.1 k) :: st) := by
  obtain ⟨p, l, e, R, s, m, args, below, meth, c, Q, ⟨cells, slots⟩, A⟩ := X
  intro ok H locs ls hP hD hS hl
  obtain ⟨hd, rfl⟩ := hd
  obtain ⟨C, T, N, ty0, f1, f2, f3, f4, f5, f6, f7, f8⟩ := hf
  refine va_put (v := .int x) ok.1 ok.2.1 ok.2.2.2.2.1 f2 ty0 f5 f6 ok.2.2.2.1 ok.2.2.2.2.2.1 hP hD hS k (pm_wld_at hs) f1 j f3 (ok.2.2.2.2.1 _ f4) (fun _ h => h) f7 f8 hn hfit (by rw [List.length_mapIdx]; exact (List.getElem?_eq_some_iff.mp hj).1) hd (fun H1 locs1 hP1 hD1 hS1 => ?_)
  rw [pm_wld_put hs hj] at hP1 hD1
  exact kk ok H1 locs1 ls hP1 hD1 hS1 hl
theorem hr_iald {k n : Nat} {i : Int32} (hd : pm_DC mi.1 pc pc' 1 .iaload) (hs : sk[k]? = some (.inl (0, n))) (hin : pm_in i n = true)
    (kk : pm_J X V mi ht (pm_wld V sk M) pc' L (.int (M k i.toNatClampNeg) :: st)) : pm_J X V mi ht (pm_wld V sk M) pc L (.int i :: .ref (V.1 k) :: st) := by
  obtain ⟨p, l, e, R, s, m, args, below, meth, c, Q, ⟨cells, slots⟩, A⟩ := X
  intro ok H locs ls hP hD hS hl
  obtain ⟨hd, rfl⟩ := hd
  exact va_iald (tys := pm_tys V) (f := M k) ok.1 ok.2.1 ok.2.2.2.2.2.1 hP k 0 (pm_wld_at hs) rfl (pm_in_iff.mp hin) hd (kk ok H locs ls hP hD hS hl)
theorem hr_iast {k n : Nat} {i x : Int32} (hd : pm_DC mi.1 pc pc' 1 .iastore) (hs : sk[k]? = some (.inl (0, n))) (hin : pm_in i n = true)
    (kk : pm_J X V mi ht (pm_wld V sk (pm_up M k i.toNatClampNeg x)) pc' L st) : pm_J X V mi ht (pm_wld V sk M) pc L (.int x :: .int i :: .ref (V.1 k) :: st) := by
  obtain ⟨p, l, e, R, s, m, args, below, meth, c, Q, ⟨cells, slots⟩, A⟩ := X
  intro ok H locs ls hP hD hS hl
  obtain ⟨hd, rfl⟩ := hd
  refine va_iast (tys := pm_tys V) (f := M k) ok.1 ok.2.1 ok.2.2.2.2.2.1 hP hD hS k 0 (pm_wld_at hs) rfl (pm_in_iff.mp hin) hd (fun H1 locs1 hP1 hD1 hS1 => ?_)
  rw [pm_wld_ast hs] at hP1 hD1
  exact kk ok H1 locs1 ls hP1 hD1 hS1 hl
theorem hr_aald {k t q : Nat} {ps : List Nat} {i : Int32} {ty : FieldType} (hd : pm_DC mi.1 pc pc' 1 .aaload) (hs : sk[k]? = some (.inr (.inl (t, ps)))) (htt : ∀ V : pm_V, (pm_tys V)[t]? = some (V.2.1 t, ty)) (hr : ty.isReference = true) (hin : pm_in i ps.length = true) (hq : ps[i.toNatClampNeg]? = some q)
    (kk : pm_J X V mi ht (pm_wld V sk M) pc' L (.ref (V.1 q) :: st)) : pm_J X V mi ht (pm_wld V sk M) pc L (.int i :: .ref (V.1 k) :: st) := by
  obtain ⟨p, l, e, R, s, m, args, below, meth, c, Q, ⟨cells, slots⟩, A⟩ := X
  intro ok H locs ls hP hD hS hl
  obtain ⟨hd, rfl⟩ := hd
  have hin' := pm_in_iff.mp hin
  have hlt : i.toNatClampNeg < ps.length := Nat.not_le.mp fun q => hin' (Or.inr q)
  have hK := ok.2.2.2.2.2.1
  have e1 : va_rf ((ps[i.toNatClampNeg]?).map V.1) = .ref (V.1 q) := by rw [hq]; rfl
  exact W.aald (v := .ref (V.1 q)) (ty := ty) ok.1 ok.2.1 (hP k _ (pm_wld_at hs)) ((hK.2 t _ (htt V)).1 ps.length (fun j => va_rf ((ps[j]?).map V.1))) hr (fun q => by cases q) (by show ¬ (i < 0 ∨ (arrV _ _ _).slots.size ≤ _); rw [arrV_size]; exact hin') (by show (arrV _ _ (fun j => va_rf ((ps[j]?).map V.1))).slots[_]? = _; rw [arrV_read _ _ hlt, e1]) rfl rfl hd (kk ok H locs ls hP hD hS hl)
theorem hr_getsB {idx : Nat} {ws : va_W} (hd : pm_DC mi.1 pc pc' 3 (.getstatic idx)) (hw : Cond.fieldLink mi.2.1 idx "RainShares$Voices" "BODIES" "[I" ∈ pm_tb) (kk : pm_J X V mi ht ws pc' L (.ref (V.1 902) :: st)) : pm_J X V mi ht ws pc L st := by
  obtain ⟨p, l, e, R, s, m, args, below, meth, c, Q, ⟨cells, slots⟩, A⟩ := X
  intro ok H locs ls hP hD hS hl
  obtain ⟨hd, rfl⟩ := hd
  exact va_gets ok.1 ok.2.1 ok.2.2.2.2.2.2.1.1.2.2.1 hS ok.2.2.2.1 (ok.2.2.2.2.1 _ hw) (fun _ h => h) hd (kk ok H locs ls hP hD hS hl)
theorem hr_getsN {own : String} {idx q : Nat} {ws : va_W} (hq : (own = "RainShares$Clouds" ∧ idx = 38 ∧ q = 900) ∨ (own = "RainShares$Reader" ∧ idx = 74 ∧ q = 901) ∨ (own = "RainShares$Voices" ∧ idx = 35 ∧ q = 900)) (ho : mi.2.1 = own) (hd : pm_DC mi.1 pc pc' 3 (.getstatic idx)) (kk : pm_J X V mi ht ws pc' L (.ref (V.1 q) :: st)) : pm_J X V mi ht ws pc L st := by
  obtain ⟨p, l, e, R, s, m, args, below, meth, c, Q, ⟨cells, slots⟩, A⟩ := X
  intro ok H locs ls hP hD hS hl
  obtain ⟨hd, rfl⟩ := hd
  have hst := ok.2.2.2.2.2.2.1.1
  have hn := ok.2.2.2.2.2.2.1.2
  have how : s.vm.findClass own = some m.cls := by rw [← ho]; exact ok.2.2.2.1
  rcases hq with ⟨rfl, rfl, rfl⟩ | ⟨rfl, rfl, rfl⟩ | ⟨rfl, rfl, rfl⟩
  · exact va_getsN ok.1 ok.2.1 hst.1.1 hS how (va_Nw.use (A := args) rfl hn.1) (fun _ h => h) hd (kk ok H locs ls hP hD hS hl)
  · exact va_getsN ok.1 ok.2.1 hst.2.1.1 hS how (va_Nw.use (A := args) rfl hn.2.1) (fun _ h => h) hd (kk ok H locs ls hP hD hS hl)
  · exact va_getsN ok.1 ok.2.1 hst.1.1 hS how (va_Nw.use (A := args) rfl hn.2.2) (fun _ h => h) hd (kk ok H locs ls hP hD hS hl)
theorem hr_tA {i : Int32} {ws : va_W} (hd : pm_DC mi.1 pc pc' 1 .iaload) (hin : pm_in i 7 = true) (kk : pm_J X V mi ht ws pc' L (.int (pm_ABOVE i.toNatClampNeg) :: st)) : pm_J X V mi ht ws pc L (.int i :: .ref (V.1 900) :: st) := by
  obtain ⟨p, l, e, R, s, m, args, below, meth, c, Q, ⟨cells, slots⟩, A⟩ := X
  intro ok H locs ls hP hD hS hl
  obtain ⟨hd, rfl⟩ := hd
  exact va_ti ok.1 ok.2.1 ok.2.2.2.2.2.2.1.1.1.2 hS (pm_in_iff.mp hin) rfl hd (kk ok H locs ls hP hD hS hl)
theorem hr_tN {i : Int32} {ws : va_W} (hd : pm_DC mi.1 pc pc' 1 .caload) (hin : pm_in i 6 = true) (kk : pm_J X V mi ht ws pc' L (.int (pm_NAMES i.toNatClampNeg) :: st)) : pm_J X V mi ht ws pc L (.int i :: .ref (V.1 901) :: st) := by
  obtain ⟨p, l, e, R, s, m, args, below, meth, c, Q, ⟨cells, slots⟩, A⟩ := X
  intro ok H locs ls hP hD hS hl
  obtain ⟨hd, rfl⟩ := hd
  exact va_tc ok.1 ok.2.1 ok.2.2.2.2.2.2.1.1.2.1.2 hS (pm_in_iff.mp hin) rfl hd (kk ok H locs ls hP hD hS hl)
theorem hr_tB {i : Int32} {ws : va_W} (hd : pm_DC mi.1 pc pc' 1 .iaload) (hin : pm_in i 28 = true) (kk : pm_J X V mi ht ws pc' L (.int (pm_BODIES i.toNatClampNeg) :: st)) : pm_J X V mi ht ws pc L (.int i :: .ref (V.1 902) :: st) := by
  obtain ⟨p, l, e, R, s, m, args, below, meth, c, Q, ⟨cells, slots⟩, A⟩ := X
  intro ok H locs ls hP hD hS hl
  obtain ⟨hd, rfl⟩ := hd
  exact va_ti ok.1 ok.2.1 ok.2.2.2.2.2.2.1.1.2.2.2 hS (pm_in_iff.mp hin) rfl hd (kk ok H locs ls hP hD hS hl)
theorem pm_cat (v : List Value) (h : (v.map fun v => v.category).sum ≤ 8) (ht : Nat) {R : Room} (hR : 64 * (ht + 1) ≤ R.locals) : (v.map fun v => v.category).sum + 13 ≤ R.locals := by omega
theorem hr_max {idx : Nat} {x y : Int32} {ws : va_W} (hd : pm_DC mi.1 pc pc' 3 (.invokestatic idx)) (h1 : Cond.methodLink mi.2.1 idx Lib.Math.max.name ∈ pm_tb) (h2 : Cond.static Lib.Math.max.name ∈ pm_tb) (h3 : Cond.initialized "java/lang/Math" ∈ pm_tb) (h4 : Cond.code Lib.Math.max.name Lib.Math.max.code 2 (some .int) ∈ pm_tb) (hrest : (st.map fun v => v.category).sum ≤ 8)
    (kk : pm_J X V mi ht ws pc' L (.int (if x < y then y else x) :: st)) : pm_J X V mi ht ws pc L (.int y :: .int x :: st) := by
  obtain ⟨p, l, e, R, s, m, args, below, meth, c, Q, ⟨cells, slots⟩, A⟩ := X
  intro ok H locs ls hP hD hS hl
  obtain ⟨hd, rfl⟩ := hd
  have hts := ok.2.2.2.2.1
  obtain ⟨hc, hR1, hR2⟩ := ok.2.2.2.2.2.2.2
  exact va_mmax ok.1 ok.2.1 (ok.2.2.1.trans hl.1.symm) ok.2.2.2.1 (hts _ h1) (hts _ h2) (hts _ h3) (hts _ h4) (by omega) (pm_cat _ hrest ht hR2) hc.1 hc.2 hd (kk ok H locs ls hP hD hS hl)
theorem hr_min {idx : Nat} {x y : Int32} {ws : va_W} (hd : pm_DC mi.1 pc pc' 3 (.invokestatic idx)) (h1 : Cond.methodLink mi.2.1 idx Lib.Math.min.name ∈ pm_tb) (h2 : Cond.static Lib.Math.min.name ∈ pm_tb) (h3 : Cond.initialized "java/lang/Math" ∈ pm_tb) (h4 : Cond.code Lib.Math.min.name Lib.Math.min.code 2 (some .int) ∈ pm_tb) (hrest : (st.map fun v => v.category).sum ≤ 8)
    (kk : pm_J X V mi ht ws pc' L (.int (if y < x then y else x) :: st)) : pm_J X V mi ht ws pc L (.int y :: .int x :: st) := by
  obtain ⟨p, l, e, R, s, m, args, below, meth, c, Q, ⟨cells, slots⟩, A⟩ := X
  intro ok H locs ls hP hD hS hl
  obtain ⟨hd, rfl⟩ := hd
  have hts := ok.2.2.2.2.1
  obtain ⟨hc, hR1, hR2⟩ := ok.2.2.2.2.2.2.2
  exact va_mmin ok.1 ok.2.1 (ok.2.2.1.trans hl.1.symm) ok.2.2.2.1 (hts _ h1) (hts _ h2) (hts _ h3) (hts _ h4) (by omega) (pm_cat _ hrest ht hR2) hc.1 hc.2 hd (kk ok H locs ls hP hD hS hl)
theorem pm_nw : nativeFrameWords "java/lang/System" "arraycopy" 5 + 11 ≤ 56 := by decide +kernel
theorem hr_copy {idx k0 k1 n0 n1 : Nat} {sp dp n : Int32} (hd : pm_DC mi.1 pc pc' 3 (.invokestatic idx)) (h1 : Cond.methodLink mi.2.1 idx arraycopyName ∈ pm_tb) (h2 : Cond.native arraycopyName ∈ pm_tb) (h3 : Cond.static arraycopyName ∈ pm_tb) (h4 : Cond.initialized "java/lang/System" ∈ pm_tb) (hrest : (st.map fun v => v.category).sum ≤ 8)
    (hs0 : sk[k0]? = some (.inl (0, n0))) (hs1 : sk[k1]? = some (.inl (0, n1))) (hin : pm_cin sp dp n n0 n1 = true)
    (kk : pm_J X V mi ht (pm_wld V sk (pm_cpy M k0 sp.toNatClampNeg k1 dp.toNatClampNeg n.toNatClampNeg)) pc' L st) : pm_J X V mi ht (pm_wld V sk M) pc L (.int n :: .int dp :: .ref (V.1 k1) :: .int sp :: .ref (V.1 k0) :: st) := by
  obtain ⟨p, l, e, R, s, m, args, below, meth, c, Q, ⟨cells, slots⟩, A⟩ := X
  intro ok H locs ls hP hD hS hl
  obtain ⟨hd, rfl⟩ := hd
  have hts := ok.2.2.2.2.1
  obtain ⟨hc, hR1, hR2⟩ := ok.2.2.2.2.2.2.2
  simp only [pm_cin, Bool.and_eq_true, decide_eq_true_eq] at hin
  obtain ⟨g1, g2, g3, g4, g5⟩ := hin
  have z : ∀ x : Int32, 0 ≤ x.toInt → ¬ x < 0 := fun x h q => by
    have := Int32.lt_iff_toInt_lt.mp q
    simp at this
    omega
  refine va_copyi (tys := pm_tys V) (f := M k0) (g := M k1) ok.1 ok.2.1 (ok.2.2.1.trans hl.1.symm) ok.2.2.2.1 (hts _ h1) (hts _ h2) (hts _ h3) (hts _ h4) ok.2.2.2.2.2.1 hP hD hS k0 k1 0 0 (pm_wld_at hs0) (pm_wld_at hs1) rfl rfl rfl (z _ g1) (z _ g2) (z _ g3) g4 g5 (fun _ _ => rfl) (by omega) (by have := pm_nw; omega) hd (fun H1 locs1 hP1 hD1 hS1 => ?_)
  rw [pm_wld_cpy hs1] at hP1 hD1
  exact kk ok H1 locs1 ls hP1 hD1 hS1 hl
/-! calls -/
theorem hr_callI {y : MethodName} {mi' : pm_I} {ht' idx b ci : Nat} {fs : List (Option Nat)} {q : vw_C} {As : List Value} {r : Int32} (hd : pm_DC mi.1 pc pc' 3 (.invokevirtual idx)) (hl : Cond.methodLink mi.2.1 idx y ∈ pm_tb) (hy : pm_cv y mi') (hn : pm_np y As.length) (hh : ht' + 1 ≤ ht) (hrest : (st.map fun v => v.category).sum ≤ 8) (hb : sk[b]? = some (.inr (.inr (ci, fs)))) (hc : pm_cls[ci]? = some q) (hq : q.1 = y.cls) (hst : stk = As.reverse ++ .ref (V.1 b) :: st)
    (hM : ∀ l : Launch, pm_Ci l V sk y mi' ht' (.ref (V.1 b) :: As) M r M') (kk : pm_J X V mi ht (pm_wld V sk M') pc' L (.int r :: st)) : pm_J X V mi ht (pm_wld V sk M) pc L stk := by
  obtain ⟨p, l, e, R, s, m, args, below, meth, c, Q, ⟨cells, slots⟩, A⟩ := X
  intro ok H locs ls hP hD hS hl0
  obtain ⟨hd, rfl⟩ := hd
  have hts := ok.2.2.2.2.1
  have hK := ok.2.2.2.2.2.1
  obtain ⟨hc0, hR1, hR2⟩ := ok.2.2.2.2.2.2.2
  have hAQ := pm_AQ_of hD
  obtain ⟨y1, y2, y3, y4, y5, y6, y7⟩ := hy
  have hg : GoodIn pm_tb (wsV mi.2.1 idx y.cls y (pm_ws y mi')) := by
    intro w hw
    simp only [wsV, pm_ws, List.cons_append, List.nil_append, List.mem_cons] at hw
    rcases hw with rfl | rfl | rfl | rfl | rfl | hw
    · exact pm_goodw hl
    · exact pm_goodw y1
    · exact pm_goodw y2
    · exact pm_goodw y3
    · exact pm_goodw y4
    · exact pm_goodw hw
  refine va_calli (va_runV (C := y.cls) (As := As) (rest := st) ⟨ok.1, ok.2.1, ok.2.2.1, ok.2.2.2.1, hts⟩ (hM l) (cwV As.length hts hg rfl rfl rfl ⟨rfl, y5, y6, hn⟩ ⟨by show ht' + 1 + 1 ≤ _; omega, by show 8 + (mi'.2.2.1 + 11) + 64 * (ht' + 1) ≤ _; omega⟩) ⟨pm_blind, ?_, fun U hU hW => ⟨rfl, ?_⟩⟩ rfl rfl hl0.1 hst (lv_room hrest) hd ⟨hc0.1, hc0.2⟩) hS (fun q _ h => hAQ q h) hAQ (fun r' u t H1 locs1 h1 hvm hw hB hz1 hk1 hS1 => ?_)
  · have := va_recv hK hP hc (pm_wld_at hb)
    rw [hq] at this
    exact this
  · exact ⟨by rw [hU]; exact hP, va_K.moved hW.alike hK, pm_D_self hD, pm_stat_kept ok.2.2.2.2.2.2.1.1 hW.alike (fun a h1 h2 => by rw [hU]; exact hS.2.1 a h1 h2) hAQ, pm_nst_warm hW ok.2.2.2.2.2.2.1.2⟩
  · subst hw
    obtain ⟨b1, b2, b3, b4, b5⟩ := hB
    rw [h1] at b1
    exact kk ok H1 locs1 ls b1 (b3.weaken (fun _ q _ h => hAQ q.1 h)) hS1 hl0
theorem hr_callV {y : MethodName} {mi' : pm_I} {ht' idx b ci : Nat} {fs : List (Option Nat)} {q : vw_C} {As : List Value} (hd : pm_DC mi.1 pc pc' 3 (.invokevirtual idx)) (hl : Cond.methodLink mi.2.1 idx y ∈ pm_tb) (hy : pm_cv y mi') (hn : pm_np y As.length) (hh : ht' + 1 ≤ ht) (hrest : (st.map fun v => v.category).sum ≤ 8) (hb : sk[b]? = some (.inr (.inr (ci, fs)))) (hc : pm_cls[ci]? = some q) (hq : q.1 = y.cls) (hst : stk = As.reverse ++ .ref (V.1 b) :: st)
    (hM : ∀ l : Launch, pm_Cv l V sk y mi' ht' (.ref (V.1 b) :: As) M M') (kk : pm_J X V mi ht (pm_wld V sk M') pc' L st) : pm_J X V mi ht (pm_wld V sk M) pc L stk := by
  obtain ⟨p, l, e, R, s, m, args, below, meth, c, Q, ⟨cells, slots⟩, A⟩ := X
  intro ok H locs ls hP hD hS hl0
  obtain ⟨hd, rfl⟩ := hd
  have hts := ok.2.2.2.2.1
  have hK := ok.2.2.2.2.2.1
  obtain ⟨hc0, hR1, hR2⟩ := ok.2.2.2.2.2.2.2
  have hAQ := pm_AQ_of hD
  obtain ⟨y1, y2, y3, y4, y5, y6, y7⟩ := hy
  have hg : GoodIn pm_tb (wsV mi.2.1 idx y.cls y (pm_ws y mi')) := by
    intro w hw
    simp only [wsV, pm_ws, List.cons_append, List.nil_append, List.mem_cons] at hw
    rcases hw with rfl | rfl | rfl | rfl | rfl | hw
    · exact pm_goodw hl
    · exact pm_goodw y1
    · exact pm_goodw y2
    · exact pm_goodw y3
    · exact pm_goodw y4
    · exact pm_goodw hw
  refine va_callv (va_runV (C := y.cls) (As := As) (rest := st) ⟨ok.1, ok.2.1, ok.2.2.1, ok.2.2.2.1, hts⟩ (hM l) (cwV As.length hts hg rfl rfl rfl ⟨rfl, y5, y6, hn⟩ ⟨by show ht' + 1 + 1 ≤ _; omega, by show 8 + (mi'.2.2.1 + 11) + 64 * (ht' + 1) ≤ _; omega⟩) ⟨pm_blind, ?_, fun U hU hW => ⟨rfl, ?_⟩⟩ rfl rfl hl0.1 hst (lv_room hrest) hd ⟨hc0.1, hc0.2⟩) hS (fun q _ h => hAQ q h) hAQ (fun u t H1 locs1 h1 hvm hw hB hz1 hk1 hS1 => ?_)
  · have := va_recv hK hP hc (pm_wld_at hb)
    rw [hq] at this
    exact this
  · exact ⟨by rw [hU]; exact hP, va_K.moved hW.alike hK, pm_D_self hD, pm_stat_kept ok.2.2.2.2.2.2.1.1 hW.alike (fun a h1 h2 => by rw [hU]; exact hS.2.1 a h1 h2) hAQ, pm_nst_warm hW ok.2.2.2.2.2.2.1.2⟩
  · obtain ⟨b1, b2, b3, b4, b5⟩ := hB
    rw [h1] at b1
    exact kk ok H1 locs1 ls b1 (b3.weaken (fun _ q _ h => hAQ q.1 h)) hS1 hl0
theorem hr_callS {y : MethodName} {mi' : pm_I} {ht' idx : Nat} {As : List Value} {r : Int32} (hd : pm_DC mi.1 pc pc' 3 (.invokestatic idx)) (hl : Cond.methodLink mi.2.1 idx y ∈ pm_tb) (hy : pm_cs y mi') (hn : pm_np y As.length) (hh : ht' + 1 ≤ ht) (hrest : (st.map fun v => v.category).sum ≤ 8) (hst : stk = As.reverse ++ st)
    (hM : ∀ l : Launch, pm_Ci l V sk y mi' ht' As M r M') (kk : pm_J X V mi ht (pm_wld V sk M') pc' L (.int r :: st)) : pm_J X V mi ht (pm_wld V sk M) pc L stk := by
  obtain ⟨p, l, e, R, s, m, args, below, meth, c, Q, ⟨cells, slots⟩, A⟩ := X
  intro ok H locs ls hP hD hS hl0
  obtain ⟨hd, rfl⟩ := hd
  have hts := ok.2.2.2.2.1
  have hK := ok.2.2.2.2.2.1
  obtain ⟨hc0, hR1, hR2⟩ := ok.2.2.2.2.2.2.2
  have hAQ := pm_AQ_of hD
  obtain ⟨y1, y3, y4, y5, y6, y7⟩ := hy
  have hg : GoodIn pm_tb (va_wsS mi.2.1 idx y (pm_ws y mi')) := by
    intro w hw
    simp only [va_wsS, pm_ws, List.cons_append, List.nil_append, List.mem_cons] at hw
    rcases hw with rfl | rfl | rfl | rfl | hw
    · exact pm_goodw hl
    · exact pm_goodw y1
    · exact pm_goodw y3
    · exact pm_goodw y4
    · exact pm_goodw hw
  refine va_calli (va_runS (As := As) (rest := st) ⟨ok.1, ok.2.1, ok.2.2.1, ok.2.2.2.1, hts⟩ (hM l) (va_cwS As.length hts hg rfl rfl rfl ⟨y5, y6, hn⟩ ⟨by show ht' + 1 + 1 ≤ _; omega, by show 8 + (mi'.2.2.1 + 11) + 64 * (ht' + 1) ≤ _; omega⟩) ⟨pm_blind, fun U hU hW => ⟨rfl, ?_⟩⟩ rfl rfl hl0.1 hst (lv_room hrest) hd ⟨hc0.1, hc0.2⟩) hS (fun q _ h => hAQ q h) hAQ (fun r' u t H1 locs1 h1 hvm hw hB hz1 hk1 hS1 => ?_)
  · exact ⟨by rw [hU]; exact hP, va_K.moved hW.alike hK, pm_D_self hD, pm_stat_kept ok.2.2.2.2.2.2.1.1 hW.alike (fun a h1 h2 => by rw [hU]; exact hS.2.1 a h1 h2) hAQ, pm_nst_warm hW ok.2.2.2.2.2.2.1.2⟩
  · subst hw
    obtain ⟨b1, b2, b3, b4, b5⟩ := hB
    rw [h1] at b1
    exact kk ok H1 locs1 ls b1 (b3.weaken (fun _ q _ h => hAQ q.1 h)) hS1 hl0
end PMH
/-! the walk beside the pure function: E is what is still to be worked out -/
def pm_VF {α : Type} (E : Option α) (Kt : α → Prop) (G : Prop) : Prop := ∀ a, E = some a → Kt a → G
section PMV
variable {α β : Type} {E E1 E2 : Option α} {Kt : α → Prop} {G G' G1 G2 : Prop}
theorem vf_j (row : G' → G) (k : pm_VF E Kt G') : pm_VF E Kt G := fun a h q => row (k a h q)
theorem vf_end {a : α} (h : Kt a → G) : pm_VF (some a) Kt G := fun b e q => h (by cases e; exact q)
theorem vf_none : pm_VF (none : Option α) Kt G := fun b e _ => by cases e
theorem vf_chk {b : Bool} (k : b = true → pm_VF E Kt G) : pm_VF (pm_chk b E) Kt G := by
  intro a h q
  cases b with
  | true => exact k rfl a h q
  | false => cases h
theorem vf_br {c : Prop} [Decidable c] (row : (c → G1) → (¬ c → G2) → G) (k1 : c → pm_VF E1 Kt G1) (k2 : ¬ c → pm_VF E2 Kt G2) : pm_VF (if c then E1 else E2) Kt G := by
  intro a h q
  refine row (fun hc => ?_) (fun hc => ?_)
  · rw [if_pos hc] at h; exact k1 hc a h q
  · rw [if_neg hc] at h; exact k2 hc a h q
theorem vf_case {c : Prop} [Decidable c] (k1 : c → pm_VF E1 Kt G) (k2 : ¬ c → pm_VF E2 Kt G) : pm_VF (if c then E1 else E2) Kt G := vf_br (fun a b => if h : c then a h else b h) k1 k2
/-- a call, or an inner loop: what it gives, then the rest -/
theorem vf_bind {x : Option β} {f : β → Option α} {P : β → Prop} (row : ∀ b, x = some b → P b → G) (k : ∀ b, pm_VF (f b) Kt (P b)) : pm_VF (x.bind f) Kt G := by
  intro a h q
  cases x with
  | none => cases h
  | some b => exact row b rfl (k b a h q)
/-- behind an inner loop: its walk, then the rest -/
theorem vf_loop {x : Option β} {f : β → Option α} {P : β → Prop} (w : pm_VF x P G) (k : ∀ b, pm_VF (f b) Kt (P b)) : pm_VF (x.bind f) Kt G := vf_bind (fun b hb hP => w b hb hP) k
end PMV
theorem pm_it_ind {A : Type} {bot : A} {g : A → A} {P : A → Prop} (h0 : P bot) (h1 : ∀ f, P f → P (g f)) : ∀ n, P (pm_it bot g n)
  | 0 => h0
  | n + 1 => h1 _ (pm_it_ind h0 h1 n)
/-! the ends of a method -/
def pm_K (X : pm_X) (V : pm_V) (mi : pm_I) (ht : Nat) (sk : List pm_Sh) : Int32 × pm_M → Prop := fun a =>
  ∀ (pc pc' : Nat) (L : List (Nat × Value)), pm_DC mi.1 pc pc' 1 .ireturn → (mi.2.2.2 = some .int ∨ (mi.2.2.2 = some .boolean ∧ (a.1 = 0 ∨ a.1 = 1))) → pm_J X V mi ht (pm_wld V sk a.2) pc L [.int a.1]
def pm_Kv (X : pm_X) (V : pm_V) (mi : pm_I) (ht : Nat) (sk : List pm_Sh) : pm_M → Prop := fun a =>
  ∀ (pc pc' : Nat) (L : List (Nat × Value)), pm_DC mi.1 pc pc' 1 .return_ → pm_J X V mi ht (pm_wld V sk a) pc L []
theorem vf_ret {X : pm_X} {V : pm_V} {mi : pm_I} {ht : Nat} {sk : List pm_Sh} {pc pc' : Nat} {L : List (Nat × Value)} {r : Int32} {M : pm_M} (hd : pm_DC mi.1 pc pc' 1 .ireturn) (hr : mi.2.2.2 = some .int) : pm_VF (some (r, M)) (pm_K X V mi ht sk) (pm_J X V mi ht (pm_wld V sk M) pc L [.int r]) :=
  vf_end (fun h => h pc pc' L hd (Or.inl hr))
theorem vf_zret {X : pm_X} {V : pm_V} {mi : pm_I} {ht : Nat} {sk : List pm_Sh} {pc pc' : Nat} {L : List (Nat × Value)} {r : Int32} {M : pm_M} (hd : pm_DC mi.1 pc pc' 1 .ireturn) (hr : mi.2.2.2 = some .boolean) (hz : pm_zo r = true) : pm_VF (some (r, M)) (pm_K X V mi ht sk) (pm_J X V mi ht (pm_wld V sk M) pc L [.int r]) :=
  vf_end (fun h => h pc pc' L hd (Or.inr ⟨hr, by simpa [pm_zo] using hz⟩))
theorem vf_vret {X : pm_X} {V : pm_V} {mi : pm_I} {ht : Nat} {sk : List pm_Sh} {pc pc' : Nat} {L : List (Nat × Value)} {M : pm_M} (hd : pm_DC mi.1 pc pc' 1 .return_) : pm_VF (some M) (pm_Kv X V mi ht sk) (pm_J X V mi ht (pm_wld V sk M) pc L []) :=
  vf_end (fun h => h pc pc' L hd)
theorem pm_metI {l : Launch} {V : pm_V} {sk : List pm_Sh} {y : MethodName} {mi : pm_I} {ht : Nat} {As : List Value} {M : pm_M} {E : Option (Int32 × pm_M)} {r : Int32} {M' : pm_M} (hy : plainName y.cls = true) (hcl : mi.2.1 = y.cls) (hent : (lg_sl As).length ≤ mi.2.2.1) (hE : E = some (r, M'))
    (h : ∀ X, pm_VF E (pm_K X V mi ht sk) (pm_J X V mi ht (pm_wld V sk M) 0 (lv_args 0 As) [])) : pm_Ci l V sk y mi ht As M r M' := by
  refine Met.ofW (cc := mi.1) (maxL := mi.2.2.1) (ret := mi.2.2.2) hy rfl ?_
  intro p e s m args below meth c s₁ B hml hv
  obtain ⟨rfl, hB⟩ := hv
  have hx := B.exec
  have hb := B.bytes
  have hr := B.returns
  have hts0 := atoms_spec (ws := pm_ws y mi) B.pre
  have hts : ∀ w ∈ pm_tb, w.before As.toArray s = true := fun w hw => hts0 w (List.mem_cons_of_mem _ hw)
  have hown : s.vm.findClass mi.2.1 = some m.cls := by rw [hcl]; exact findClass_of_methodNamed B.named
  have hlocks := B.notSynchronized
  obtain ⟨hP, hK, hD, hst, hnst⟩ := hB
  have hl := lv_entry As (n := mi.2.2.1) hent
  rw [lg_entry_eq]
  generalize (lg_sl As ++ List.replicate (mi.2.2.1 - (lg_sl As).length) Slot.unset).toArray = ls at hl ⊢
  refine h (p, l, e, (headSpec (pm_ws y mi) (pm_R ht)).room, s, m, As.toArray, below, meth, c, MQ below (va_Qi (fun (x : Int32) (_ : Unit) => x = r) (fun _ t => pm_B V sk M' t) (pm_AQ V sk)) As.toArray s 0 0 (pm_AQ V sk), (0, 0), pm_AQ V sk) (r, M') hE ?_ ⟨hx, hb, hml, hown, hts, hK, ⟨hst, hnst⟩, ⟨Nat.zero_le _, Nat.zero_le _⟩, Nat.le_refl _, Nat.le_refl _⟩ s.heap [] ls hP hD va_S.rf hl
  intro pc pc' L hd hret ok H locs ls hP hD hS hl
  rcases hret with hret | ⟨hret, hz⟩
  · exact W.iret (v := r) hx hb (hr.trans hret) (fun t ht hW => ⟨⟨r, (), rfl, rfl, by rw [ht]; exact hP, va_K.moved hW.alike hK, hD, pm_stat_kept hst hW.alike (fun a h1 h2 => by rw [ht]; exact hS.2.1 a h1 h2) (fun _ h => h), pm_nst_warm hW hnst⟩, hS.F ht⟩) hS.2.2 hd.1 hlocks
  · exact W.zret (v := r) (ty := .boolean) hx hb (hr.trans hret) (by rcases hz with hz | hz <;> (simp only at hz; subst hz; rfl)) (fun t ht hW => ⟨⟨r, (), rfl, rfl, by rw [ht]; exact hP, va_K.moved hW.alike hK, hD, pm_stat_kept hst hW.alike (fun a h1 h2 => by rw [ht]; exact hS.2.1 a h1 h2) (fun _ h => h), pm_nst_warm hW hnst⟩, hS.F ht⟩) hS.2.2 hd.1 hlocks
theorem pm_metV {l : Launch} {V : pm_V} {sk : List pm_Sh} {y : MethodName} {mi : pm_I} {ht : Nat} {As : List Value} {M : pm_M} {E : Option pm_M} {M' : pm_M} (hy : plainName y.cls = true) (hcl : mi.2.1 = y.cls) (hent : (lg_sl As).length ≤ mi.2.2.1) (hret : mi.2.2.2 = none) (hE : E = some M')
    (h : ∀ X, pm_VF E (pm_Kv X V mi ht sk) (pm_J X V mi ht (pm_wld V sk M) 0 (lv_args 0 As) [])) : pm_Cv l V sk y mi ht As M M' := by
  refine Met.ofW (cc := mi.1) (maxL := mi.2.2.1) (ret := mi.2.2.2) hy rfl ?_
  intro p e s m args below meth c s₁ B hml hv
  obtain ⟨rfl, hB⟩ := hv
  have hx := B.exec
  have hb := B.bytes
  have hr := B.returns
  have hts0 := atoms_spec (ws := pm_ws y mi) B.pre
  have hts : ∀ w ∈ pm_tb, w.before As.toArray s = true := fun w hw => hts0 w (List.mem_cons_of_mem _ hw)
  have hown : s.vm.findClass mi.2.1 = some m.cls := by rw [hcl]; exact findClass_of_methodNamed B.named
  have hlocks := B.notSynchronized
  obtain ⟨hP, hK, hD, hst, hnst⟩ := hB
  have hl := lv_entry As (n := mi.2.2.1) hent
  rw [lg_entry_eq]
  generalize (lg_sl As ++ List.replicate (mi.2.2.1 - (lg_sl As).length) Slot.unset).toArray = ls at hl ⊢
  refine h (p, l, e, (headSpec (pm_ws y mi) (pm_R ht)).room, s, m, As.toArray, below, meth, c, MQ below (va_Qv (fun (_ : Unit) => True) (fun _ t => pm_B V sk M' t) (pm_AQ V sk)) As.toArray s 0 0 (pm_AQ V sk), (0, 0), pm_AQ V sk) M' hE ?_ ⟨hx, hb, hml, hown, hts, hK, ⟨hst, hnst⟩, ⟨Nat.zero_le _, Nat.zero_le _⟩, Nat.le_refl _, Nat.le_refl _⟩ s.heap [] ls hP hD va_S.rf hl
  intro pc pc' L hd ok H locs ls hP hD hS hl
  exact W.vret hx hb (hr.trans hret) (fun t ht hW => ⟨⟨(), rfl, trivial, by rw [ht]; exact hP, va_K.moved hW.alike hK, hD, pm_stat_kept hst hW.alike (fun a h1 h2 => by rw [ht]; exact hS.2.1 a h1 h2) (fun _ h => h), pm_nst_warm hW hnst⟩, hS.F ht⟩) hS.2.2 hd.1 hlocks
end
section
def pm_let {α β : Type} (v : α) (f : α → β) : β := f v
def pm_b1 {a1 β : Type} (x : Option a1) (f : a1 → Option β) : Option β := match x with
  | some b => f b
  | none => none
def pm_b2 {a1 a2 β : Type} (x : Option (a1 × a2)) (f : a1 → a2 → Option β) : Option β := match x with
  | some b => f b.1 b.2
  | none => none
def pm_b3 {a1 a2 a3 β : Type} (x : Option (a1 × a2 × a3)) (f : a1 → a2 → a3 → Option β) : Option β := match x with
  | some b => f b.1 b.2.1 b.2.2
  | none => none
def pm_b4 {a1 a2 a3 a4 β : Type} (x : Option (a1 × a2 × a3 × a4)) (f : a1 → a2 → a3 → a4 → Option β) : Option β := match x with
  | some b => f b.1 b.2.1 b.2.2.1 b.2.2.2
  | none => none
def pm_b5 {a1 a2 a3 a4 a5 β : Type} (x : Option (a1 × a2 × a3 × a4 × a5)) (f : a1 → a2 → a3 → a4 → a5 → Option β) : Option β := match x with
  | some b => f b.1 b.2.1 b.2.2.1 b.2.2.2.1 b.2.2.2.2
  | none => none
/-- behind a loop that may return: the first kind goes on, the second is the method's answer -/
def pm_s1 {a1 β : Type} (x : Option (a1 ⊕ β)) (f : a1 → Option β) : Option β := match x with
  | some (.inl b) => f b
  | some (.inr r) => some r
  | none => none
def pm_s2 {a1 a2 β : Type} (x : Option ((a1 × a2) ⊕ β)) (f : a1 → a2 → Option β) : Option β := match x with
  | some (.inl b) => f b.1 b.2
  | some (.inr r) => some r
  | none => none
def pm_s3 {a1 a2 a3 β : Type} (x : Option ((a1 × a2 × a3) ⊕ β)) (f : a1 → a2 → a3 → Option β) : Option β := match x with
  | some (.inl b) => f b.1 b.2.1 b.2.2
  | some (.inr r) => some r
  | none => none
def pm_max (x y : Int32) : Int32 := if x < y then y else x
def pm_min (x y : Int32) : Int32 := if y < x then y else x
def pm_rem (x y : Int32) : Int32 := x - x / y * y
def pm_ushr (x y : Int32) : Int32 := (x.toUInt32 >>> (y.toUInt32 &&& Int32.toUInt32 31)).toInt32
def pm_shl (x y : Int32) : Int32 := x <<< (y &&& 31)
def pm_shr (x y : Int32) : Int32 := x >>> (y &&& 31)
def pm_F : Nat := 100000
def pm_D : Nat := 100
section PMW
variable {α β : Type} {E E1 E2 : Option α} {Kt : α → Prop} {X : pm_X} {V : pm_V} {mi : pm_I} {ht : Nat} {ws : va_W} {sk : List pm_Sh} {M M' : pm_M} {pc pc' : Nat} {L L' : List (Nat × Value)} {st stk : List Value}
theorem vf_letM {v : pm_M} {f : pm_M → Option α} (k : ∀ M1, pm_VF (f M1) Kt (pm_J X V mi ht (pm_wld V sk M1) pc L st)) : pm_VF (pm_let v f) Kt (pm_J X V mi ht (pm_wld V sk v) pc L st) := k v
theorem vf_letS {v : Int32} {f : Int32 → Option α} (k : ∀ x, pm_VF (f x) Kt (pm_J X V mi ht ws pc L (.int x :: st))) : pm_VF (pm_let v f) Kt (pm_J X V mi ht ws pc L (.int v :: st)) := k v
theorem vf_letL {v : Int64} {f : Int64 → Option α} (k : ∀ x, pm_VF (f x) Kt (pm_J X V mi ht ws pc L (.long x :: st))) : pm_VF (pm_let v f) Kt (pm_J X V mi ht ws pc L (.long v :: st)) := k v
theorem jv_sub (ks : List Nat) (hl : lv_pick L ks = L') (kz : pm_VF E Kt (pm_J X V mi ht ws pc L' st)) : pm_VF E Kt (pm_J X V mi ht ws pc L st) := vf_j (fun g => jr_sub ks hl g) kz
theorem jv_iconst {n : Int} {v : Int32} (hd : pm_DC mi.1 pc pc' 1 (.iconst n)) (hv : Int32.ofInt n = v) (kz : pm_VF E Kt (pm_J X V mi ht ws pc' L (.int v :: st))) : pm_VF E Kt (pm_J X V mi ht ws pc L st) := vf_j (fun g => jr_iconst hd hv g) kz
theorem jv_bipush {n : Int} {v : Int32} (hd : pm_DC mi.1 pc pc' 2 (.bipush n)) (hv : (Int8.ofInt n).toInt32 = v) (kz : pm_VF E Kt (pm_J X V mi ht ws pc' L (.int v :: st))) : pm_VF E Kt (pm_J X V mi ht ws pc L st) := vf_j (fun g => jr_bipush hd hv g) kz
theorem jv_sipush {n : Int} {v : Int32} (hd : pm_DC mi.1 pc pc' 3 (.sipush n)) (hv : (Int16.ofInt n).toInt32 = v) (kz : pm_VF E Kt (pm_J X V mi ht ws pc' L (.int v :: st))) : pm_VF E Kt (pm_J X V mi ht ws pc L st) := vf_j (fun g => jr_sipush hd hv g) kz
theorem jv_lconst {n : Fin 2} {v : Int64} (hd : pm_DC mi.1 pc pc' 1 (.lconst n)) (hv : Int64.ofNat (n : Nat) = v) (kz : pm_VF E Kt (pm_J X V mi ht ws pc' L (.long v :: st))) : pm_VF E Kt (pm_J X V mi ht ws pc L st) := vf_j (fun g => jr_lconst hd hv g) kz
theorem jv_ldc {idx : Nat} {v : Int32} (hd : pm_DC mi.1 pc pc' 2 (.ldc idx)) (hw : Cond.constant mi.2.1 idx v ∈ pm_tb) (kz : pm_VF E Kt (pm_J X V mi ht ws pc' L (.int v :: st))) : pm_VF E Kt (pm_J X V mi ht ws pc L st) := vf_j (fun g => jr_ldc hd hw g) kz
theorem jv_ldcw {idx : Nat} {v : Int32} (hd : pm_DC mi.1 pc pc' 3 (.ldc_w idx)) (hw : Cond.constant mi.2.1 idx v ∈ pm_tb) (kz : pm_VF E Kt (pm_J X V mi ht ws pc' L (.int v :: st))) : pm_VF E Kt (pm_J X V mi ht ws pc L st) := vf_j (fun g => jr_ldcw hd hw g) kz
theorem jv_ldc2 {idx : Nat} {v : Int64} (hd : pm_DC mi.1 pc pc' 3 (.ldc2_w idx)) (hw : Cond.constantLong mi.2.1 idx v ∈ pm_tb) (kz : pm_VF E Kt (pm_J X V mi ht ws pc' L (.long v :: st))) : pm_VF E Kt (pm_J X V mi ht ws pc L st) := vf_j (fun g => jr_ldc2 hd hw g) kz
theorem jv_iload {i j : Nat} {x : Int32} (hd : pm_DC mi.1 pc pc' 2 (.iload i)) (hl : L[j]? = some (i, .int x)) (kz : pm_VF E Kt (pm_J X V mi ht ws pc' L (.int x :: st))) : pm_VF E Kt (pm_J X V mi ht ws pc L st) := vf_j (fun g => jr_iload hd hl g) kz
theorem jv_iloadn {i : Fin 4} {j : Nat} {x : Int32} (hd : pm_DC mi.1 pc pc' 1 (.iload_n i)) (hl : L[j]? = some (i.val, .int x)) (kz : pm_VF E Kt (pm_J X V mi ht ws pc' L (.int x :: st))) : pm_VF E Kt (pm_J X V mi ht ws pc L st) := vf_j (fun g => jr_iloadn hd hl g) kz
theorem jv_lload {i j : Nat} {x : Int64} (hd : pm_DC mi.1 pc pc' 2 (.lload i)) (hl : L[j]? = some (i, .long x)) (kz : pm_VF E Kt (pm_J X V mi ht ws pc' L (.long x :: st))) : pm_VF E Kt (pm_J X V mi ht ws pc L st) := vf_j (fun g => jr_lload hd hl g) kz
theorem jv_lloadn {i : Fin 4} {j : Nat} {x : Int64} (hd : pm_DC mi.1 pc pc' 1 (.lload_n i)) (hl : L[j]? = some (i.val, .long x)) (kz : pm_VF E Kt (pm_J X V mi ht ws pc' L (.long x :: st))) : pm_VF E Kt (pm_J X V mi ht ws pc L st) := vf_j (fun g => jr_lloadn hd hl g) kz
theorem jv_aload {i j : Nat} {x : Nat} (hd : pm_DC mi.1 pc pc' 2 (.aload i)) (hl : L[j]? = some (i, .ref x)) (kz : pm_VF E Kt (pm_J X V mi ht ws pc' L (.ref x :: st))) : pm_VF E Kt (pm_J X V mi ht ws pc L st) := vf_j (fun g => jr_aload hd hl g) kz
theorem jv_aloadn {i : Fin 4} {j : Nat} {x : Nat} (hd : pm_DC mi.1 pc pc' 1 (.aload_n i)) (hl : L[j]? = some (i.val, .ref x)) (kz : pm_VF E Kt (pm_J X V mi ht ws pc' L (.ref x :: st))) : pm_VF E Kt (pm_J X V mi ht ws pc L st) := vf_j (fun g => jr_aloadn hd hl g) kz
theorem jv_istore {i : Nat} {x : Int32} (hd : pm_DC mi.1 pc pc' 2 (.istore i)) (hn : i < mi.2.2.1) (hl : (i, Value.int x) :: L.filter (fun q => !(q.1 == i) && !(q.1 + 1 == i && q.2.category == 2)) = L') (kz : pm_VF E Kt (pm_J X V mi ht ws pc' L' st)) : pm_VF E Kt (pm_J X V mi ht ws pc L (.int x :: st)) := vf_j (fun g => jr_istore hd hn hl g) kz
theorem jv_istoren {i : Fin 4} {x : Int32} (hd : pm_DC mi.1 pc pc' 1 (.istore_n i)) (hn : i.val < mi.2.2.1) (hl : (i.val, Value.int x) :: L.filter (fun q => !(q.1 == i.val) && !(q.1 + 1 == i.val && q.2.category == 2)) = L') (kz : pm_VF E Kt (pm_J X V mi ht ws pc' L' st)) : pm_VF E Kt (pm_J X V mi ht ws pc L (.int x :: st)) := vf_j (fun g => jr_istoren hd hn hl g) kz
theorem jv_astore {i : Nat} {x : Nat} (hd : pm_DC mi.1 pc pc' 2 (.astore i)) (hn : i < mi.2.2.1) (hl : (i, Value.ref x) :: L.filter (fun q => !(q.1 == i) && !(q.1 + 1 == i && q.2.category == 2)) = L') (kz : pm_VF E Kt (pm_J X V mi ht ws pc' L' st)) : pm_VF E Kt (pm_J X V mi ht ws pc L (.ref x :: st)) := vf_j (fun g => jr_astore hd hn hl g) kz
theorem jv_astoren {i : Fin 4} {x : Nat} (hd : pm_DC mi.1 pc pc' 1 (.astore_n i)) (hn : i.val < mi.2.2.1) (hl : (i.val, Value.ref x) :: L.filter (fun q => !(q.1 == i.val) && !(q.1 + 1 == i.val && q.2.category == 2)) = L') (kz : pm_VF E Kt (pm_J X V mi ht ws pc' L' st)) : pm_VF E Kt (pm_J X V mi ht ws pc L (.ref x :: st)) := vf_j (fun g => jr_astoren hd hn hl g) kz
theorem jv_iinc {i j : Nat} {n : Int} {x v : Int32} (hd : pm_DC mi.1 pc pc' 3 (.iinc i n)) (hk : L[j]? = some (i, .int x)) (hv : x + Int32.ofInt n = v) (hn : i < mi.2.2.1) (hl : (i, Value.int v) :: L.filter (fun q => !(q.1 == i) && !(q.1 + 1 == i && q.2.category == 2)) = L') (kz : pm_VF E Kt (pm_J X V mi ht ws pc' L' st)) : pm_VF E Kt (pm_J X V mi ht ws pc L st) := vf_j (fun g => jr_iinc hd hk hv hn hl g) kz
theorem jv_goto {off : Int} {tgt n : Nat} (hd : pm_DC mi.1 pc n 3 (.goto off)) (h9 : (pc : Int) + off = (tgt : Int)) (kz : pm_VF E Kt (pm_J X V mi ht ws tgt L st)) : pm_VF E Kt (pm_J X V mi ht ws pc L st) := vf_j (fun g => jr_goto hd h9 g) kz
theorem jv_dup {v : Value} (hd : pm_DC mi.1 pc pc' 1 .dup) (hv : v.category = 1) (kz : pm_VF E Kt (pm_J X V mi ht ws pc' L (v :: v :: st))) : pm_VF E Kt (pm_J X V mi ht ws pc L (v :: st)) := vf_j (fun g => jr_dup hd hv g) kz
theorem jv_pop {v : Value} (hd : pm_DC mi.1 pc pc' 1 .pop) (hv : v.category = 1) (kz : pm_VF E Kt (pm_J X V mi ht ws pc' L st)) : pm_VF E Kt (pm_J X V mi ht ws pc L (v :: st)) := vf_j (fun g => jr_pop hd hv g) kz
theorem jv_dupx1 {v w : Value} (hd : pm_DC mi.1 pc pc' 1 .dup_x1) (hv : v.category = 1) (hw : w.category = 1) (kz : pm_VF E Kt (pm_J X V mi ht ws pc' L (v :: w :: v :: st))) : pm_VF E Kt (pm_J X V mi ht ws pc L (v :: w :: st)) := vf_j (fun g => jr_dupx1 hd hv hw g) kz
theorem jv_dup2 {v w : Value} (hd : pm_DC mi.1 pc pc' 1 .dup2) (hv : v.category = 1) (hw : w.category = 1) (kz : pm_VF E Kt (pm_J X V mi ht ws pc' L (v :: w :: v :: w :: st))) : pm_VF E Kt (pm_J X V mi ht ws pc L (v :: w :: st)) := vf_j (fun g => jr_dup2 hd hv hw g) kz
theorem jv_iadd {x y : Int32} (hd : pm_DC mi.1 pc pc' 1 .iadd) (kz : pm_VF E Kt (pm_J X V mi ht ws pc' L (.int (x + y) :: st))) : pm_VF E Kt (pm_J X V mi ht ws pc L (.int y :: .int x :: st)) := vf_j (fun g => jr_iadd hd g) kz
theorem jv_isub {x y : Int32} (hd : pm_DC mi.1 pc pc' 1 .isub) (kz : pm_VF E Kt (pm_J X V mi ht ws pc' L (.int (x - y) :: st))) : pm_VF E Kt (pm_J X V mi ht ws pc L (.int y :: .int x :: st)) := vf_j (fun g => jr_isub hd g) kz
theorem jv_imul {x y : Int32} (hd : pm_DC mi.1 pc pc' 1 .imul) (kz : pm_VF E Kt (pm_J X V mi ht ws pc' L (.int (x * y) :: st))) : pm_VF E Kt (pm_J X V mi ht ws pc L (.int y :: .int x :: st)) := vf_j (fun g => jr_imul hd g) kz
theorem jv_iand {x y : Int32} (hd : pm_DC mi.1 pc pc' 1 .iand) (kz : pm_VF E Kt (pm_J X V mi ht ws pc' L (.int (x &&& y) :: st))) : pm_VF E Kt (pm_J X V mi ht ws pc L (.int y :: .int x :: st)) := vf_j (fun g => jr_iand hd g) kz
theorem jv_ior {x y : Int32} (hd : pm_DC mi.1 pc pc' 1 .ior) (kz : pm_VF E Kt (pm_J X V mi ht ws pc' L (.int (x ||| y) :: st))) : pm_VF E Kt (pm_J X V mi ht ws pc L (.int y :: .int x :: st)) := vf_j (fun g => jr_ior hd g) kz
theorem jv_ixor {x y : Int32} (hd : pm_DC mi.1 pc pc' 1 .ixor) (kz : pm_VF E Kt (pm_J X V mi ht ws pc' L (.int (x ^^^ y) :: st))) : pm_VF E Kt (pm_J X V mi ht ws pc L (.int y :: .int x :: st)) := vf_j (fun g => jr_ixor hd g) kz
theorem jv_idiv {x y : Int32} (hd : pm_DC mi.1 pc pc' 1 .idiv) (hne : ¬ y = 0) (kz : pm_VF E Kt (pm_J X V mi ht ws pc' L (.int (x / y) :: st))) : pm_VF E Kt (pm_J X V mi ht ws pc L (.int y :: .int x :: st)) := vf_j (fun g => jr_idiv hd hne g) kz
theorem jv_idivC {x y : Int32} (hd : pm_DC mi.1 pc pc' 1 .idiv)  (kz : pm_VF E Kt (pm_J X V mi ht ws pc' L (.int (x / y) :: st))) : pm_VF (pm_chk (pm_nz y) E) Kt (pm_J X V mi ht ws pc L (.int y :: .int x :: st)) := vf_chk (fun h => vf_j (fun g => jr_idiv hd (by simpa [pm_nz] using h) g) kz)
theorem jv_irem {x y : Int32} (hd : pm_DC mi.1 pc pc' 1 .irem) (hne : ¬ y = 0) (kz : pm_VF E Kt (pm_J X V mi ht ws pc' L (.int (pm_rem x y) :: st))) : pm_VF E Kt (pm_J X V mi ht ws pc L (.int y :: .int x :: st)) := vf_j (fun g => jr_irem hd hne g) kz
theorem jv_iremC {x y : Int32} (hd : pm_DC mi.1 pc pc' 1 .irem)  (kz : pm_VF E Kt (pm_J X V mi ht ws pc' L (.int (pm_rem x y) :: st))) : pm_VF (pm_chk (pm_nz y) E) Kt (pm_J X V mi ht ws pc L (.int y :: .int x :: st)) := vf_chk (fun h => vf_j (fun g => jr_irem hd (by simpa [pm_nz] using h) g) kz)
theorem jv_ineg {x : Int32} (hd : pm_DC mi.1 pc pc' 1 .ineg) (kz : pm_VF E Kt (pm_J X V mi ht ws pc' L (.int (-x) :: st))) : pm_VF E Kt (pm_J X V mi ht ws pc L (.int x :: st)) := vf_j (fun g => jr_ineg hd g) kz
theorem jv_ishl {x y : Int32} (hd : pm_DC mi.1 pc pc' 1 .ishl) (kz : pm_VF E Kt (pm_J X V mi ht ws pc' L (.int (pm_shl x y) :: st))) : pm_VF E Kt (pm_J X V mi ht ws pc L (.int y :: .int x :: st)) := vf_j (fun g => jr_ishl hd g) kz
theorem jv_ishr {x y : Int32} (hd : pm_DC mi.1 pc pc' 1 .ishr) (kz : pm_VF E Kt (pm_J X V mi ht ws pc' L (.int (pm_shr x y) :: st))) : pm_VF E Kt (pm_J X V mi ht ws pc L (.int y :: .int x :: st)) := vf_j (fun g => jr_ishr hd g) kz
theorem jv_iushr {x y : Int32} (hd : pm_DC mi.1 pc pc' 1 .iushr) (kz : pm_VF E Kt (pm_J X V mi ht ws pc' L (.int (pm_ushr x y) :: st))) : pm_VF E Kt (pm_J X V mi ht ws pc L (.int y :: .int x :: st)) := vf_j (fun g => jr_iushr hd g) kz
theorem jv_i2l {x : Int32} (hd : pm_DC mi.1 pc pc' 1 .i2l) (kz : pm_VF E Kt (pm_J X V mi ht ws pc' L (.long x.toInt64 :: st))) : pm_VF E Kt (pm_J X V mi ht ws pc L (.int x :: st)) := vf_j (fun g => jr_i2l hd g) kz
theorem jv_l2i {x : Int64} (hd : pm_DC mi.1 pc pc' 1 .l2i) (kz : pm_VF E Kt (pm_J X V mi ht ws pc' L (.int x.toInt32 :: st))) : pm_VF E Kt (pm_J X V mi ht ws pc L (.long x :: st)) := vf_j (fun g => jr_l2i hd g) kz
theorem jv_i2b {x : Int32} (hd : pm_DC mi.1 pc pc' 1 .i2b) (kz : pm_VF E Kt (pm_J X V mi ht ws pc' L (.int x.toInt8.toInt32 :: st))) : pm_VF E Kt (pm_J X V mi ht ws pc L (.int x :: st)) := vf_j (fun g => jr_i2b hd g) kz
theorem jv_i2s {x : Int32} (hd : pm_DC mi.1 pc pc' 1 .i2s) (kz : pm_VF E Kt (pm_J X V mi ht ws pc' L (.int x.toInt16.toInt32 :: st))) : pm_VF E Kt (pm_J X V mi ht ws pc L (.int x :: st)) := vf_j (fun g => jr_i2s hd g) kz
theorem jv_land {x y : Int64} (hd : pm_DC mi.1 pc pc' 1 .land) (kz : pm_VF E Kt (pm_J X V mi ht ws pc' L (.long (x &&& y) :: st))) : pm_VF E Kt (pm_J X V mi ht ws pc L (.long y :: .long x :: st)) := vf_j (fun g => jr_land hd g) kz
theorem jv_lor {x y : Int64} (hd : pm_DC mi.1 pc pc' 1 .lor) (kz : pm_VF E Kt (pm_J X V mi ht ws pc' L (.long (x ||| y) :: st))) : pm_VF E Kt (pm_J X V mi ht ws pc L (.long y :: .long x :: st)) := vf_j (fun g => jr_lor hd g) kz
theorem jv_lshl {x : Int64} {y : Int32} (hd : pm_DC mi.1 pc pc' 1 .lshl) (kz : pm_VF E Kt (pm_J X V mi ht ws pc' L (.long (x <<< (y.toInt64 &&& 63)) :: st))) : pm_VF E Kt (pm_J X V mi ht ws pc L (.int y :: .long x :: st)) := vf_j (fun g => jr_lshl hd g) kz
theorem jv_lshr {x : Int64} {y : Int32} (hd : pm_DC mi.1 pc pc' 1 .lshr) (kz : pm_VF E Kt (pm_J X V mi ht ws pc' L (.long (x >>> (y.toInt64 &&& 63)) :: st))) : pm_VF E Kt (pm_J X V mi ht ws pc L (.int y :: .long x :: st)) := vf_j (fun g => jr_lshr hd g) kz
theorem jv_lushr {x : Int64} {y : Int32} (hd : pm_DC mi.1 pc pc' 1 .lushr) (kz : pm_VF E Kt (pm_J X V mi ht ws pc' L (.long ((x.toUInt64 >>> (y.toInt64.toUInt64 &&& Int64.toUInt64 63)).toInt64) :: st))) : pm_VF E Kt (pm_J X V mi ht ws pc L (.int y :: .long x :: st)) := vf_j (fun g => jr_lushr hd g) kz
theorem jv_lcmp {x y : Int64} (hd : pm_DC mi.1 pc pc' 1 .lcmp) (kz : pm_VF E Kt (pm_J X V mi ht ws pc' L (.int (lg_cmp x y) :: st))) : pm_VF E Kt (pm_J X V mi ht ws pc L (.long y :: .long x :: st)) := vf_j (fun g => jr_lcmp hd g) kz
theorem jv_if_eq {x : Int32} {off : Int} {tgt : Nat} (hd : pm_DC mi.1 pc pc' 3 (.ifCond .eq off)) (h9 : (pc : Int) + off = (tgt : Int)) {dc : Decidable (x = 0)} (k1 : x = 0 → pm_VF E1 Kt (pm_J X V mi ht ws tgt L st)) (k2 : ¬ x = 0 → pm_VF E2 Kt (pm_J X V mi ht ws pc' L st)) : pm_VF (@ite _ (x = 0) dc E1 E2) Kt (pm_J X V mi ht ws pc L (.int x :: st)) := vf_br (fun a b => jr_if_eq hd h9 a b) k1 k2
theorem jv_ic_eq {x y : Int32} {off : Int} {tgt : Nat} (hd : pm_DC mi.1 pc pc' 3 (.if_icmp .eq off)) (h9 : (pc : Int) + off = (tgt : Int)) {dc : Decidable (x = y)} (k1 : x = y → pm_VF E1 Kt (pm_J X V mi ht ws tgt L st)) (k2 : ¬ x = y → pm_VF E2 Kt (pm_J X V mi ht ws pc' L st)) : pm_VF (@ite _ (x = y) dc E1 E2) Kt (pm_J X V mi ht ws pc L (.int y :: .int x :: st)) := vf_br (fun a b => jr_ic_eq hd h9 a b) k1 k2
theorem jv_if_ne {x : Int32} {off : Int} {tgt : Nat} (hd : pm_DC mi.1 pc pc' 3 (.ifCond .ne off)) (h9 : (pc : Int) + off = (tgt : Int)) {dc : Decidable (x = 0)} (k1 : x = 0 → pm_VF E1 Kt (pm_J X V mi ht ws pc' L st)) (k2 : ¬ x = 0 → pm_VF E2 Kt (pm_J X V mi ht ws tgt L st)) : pm_VF (@ite _ (x = 0) dc E1 E2) Kt (pm_J X V mi ht ws pc L (.int x :: st)) := vf_br (fun a b => jr_if_ne hd h9 a b) k1 k2
theorem jv_ic_ne {x y : Int32} {off : Int} {tgt : Nat} (hd : pm_DC mi.1 pc pc' 3 (.if_icmp .ne off)) (h9 : (pc : Int) + off = (tgt : Int)) {dc : Decidable (x = y)} (k1 : x = y → pm_VF E1 Kt (pm_J X V mi ht ws pc' L st)) (k2 : ¬ x = y → pm_VF E2 Kt (pm_J X V mi ht ws tgt L st)) : pm_VF (@ite _ (x = y) dc E1 E2) Kt (pm_J X V mi ht ws pc L (.int y :: .int x :: st)) := vf_br (fun a b => jr_ic_ne hd h9 a b) k1 k2
theorem jv_if_lt {x : Int32} {off : Int} {tgt : Nat} (hd : pm_DC mi.1 pc pc' 3 (.ifCond .lt off)) (h9 : (pc : Int) + off = (tgt : Int)) {dc : Decidable (x < 0)} (k1 : x < 0 → pm_VF E1 Kt (pm_J X V mi ht ws tgt L st)) (k2 : ¬ x < 0 → pm_VF E2 Kt (pm_J X V mi ht ws pc' L st)) : pm_VF (@ite _ (x < 0) dc E1 E2) Kt (pm_J X V mi ht ws pc L (.int x :: st)) := vf_br (fun a b => jr_if_lt hd h9 a b) k1 k2
theorem jv_ic_lt {x y : Int32} {off : Int} {tgt : Nat} (hd : pm_DC mi.1 pc pc' 3 (.if_icmp .lt off)) (h9 : (pc : Int) + off = (tgt : Int)) {dc : Decidable (x < y)} (k1 : x < y → pm_VF E1 Kt (pm_J X V mi ht ws tgt L st)) (k2 : ¬ x < y → pm_VF E2 Kt (pm_J X V mi ht ws pc' L st)) : pm_VF (@ite _ (x < y) dc E1 E2) Kt (pm_J X V mi ht ws pc L (.int y :: .int x :: st)) := vf_br (fun a b => jr_ic_lt hd h9 a b) k1 k2
theorem jv_if_ge {x : Int32} {off : Int} {tgt : Nat} (hd : pm_DC mi.1 pc pc' 3 (.ifCond .ge off)) (h9 : (pc : Int) + off = (tgt : Int)) {dc : Decidable (0 ≤ x)} (k1 : 0 ≤ x → pm_VF E1 Kt (pm_J X V mi ht ws tgt L st)) (k2 : ¬ 0 ≤ x → pm_VF E2 Kt (pm_J X V mi ht ws pc' L st)) : pm_VF (@ite _ (0 ≤ x) dc E1 E2) Kt (pm_J X V mi ht ws pc L (.int x :: st)) := vf_br (fun a b => jr_if_ge hd h9 a b) k1 k2
theorem jv_ic_ge {x y : Int32} {off : Int} {tgt : Nat} (hd : pm_DC mi.1 pc pc' 3 (.if_icmp .ge off)) (h9 : (pc : Int) + off = (tgt : Int)) {dc : Decidable (y ≤ x)} (k1 : y ≤ x → pm_VF E1 Kt (pm_J X V mi ht ws tgt L st)) (k2 : ¬ y ≤ x → pm_VF E2 Kt (pm_J X V mi ht ws pc' L st)) : pm_VF (@ite _ (y ≤ x) dc E1 E2) Kt (pm_J X V mi ht ws pc L (.int y :: .int x :: st)) := vf_br (fun a b => jr_ic_ge hd h9 a b) k1 k2
theorem jv_if_gt {x : Int32} {off : Int} {tgt : Nat} (hd : pm_DC mi.1 pc pc' 3 (.ifCond .gt off)) (h9 : (pc : Int) + off = (tgt : Int)) {dc : Decidable (0 < x)} (k1 : 0 < x → pm_VF E1 Kt (pm_J X V mi ht ws tgt L st)) (k2 : ¬ 0 < x → pm_VF E2 Kt (pm_J X V mi ht ws pc' L st)) : pm_VF (@ite _ (0 < x) dc E1 E2) Kt (pm_J X V mi ht ws pc L (.int x :: st)) := vf_br (fun a b => jr_if_gt hd h9 a b) k1 k2
theorem jv_ic_gt {x y : Int32} {off : Int} {tgt : Nat} (hd : pm_DC mi.1 pc pc' 3 (.if_icmp .gt off)) (h9 : (pc : Int) + off = (tgt : Int)) {dc : Decidable (y < x)} (k1 : y < x → pm_VF E1 Kt (pm_J X V mi ht ws tgt L st)) (k2 : ¬ y < x → pm_VF E2 Kt (pm_J X V mi ht ws pc' L st)) : pm_VF (@ite _ (y < x) dc E1 E2) Kt (pm_J X V mi ht ws pc L (.int y :: .int x :: st)) := vf_br (fun a b => jr_ic_gt hd h9 a b) k1 k2
theorem jv_if_le {x : Int32} {off : Int} {tgt : Nat} (hd : pm_DC mi.1 pc pc' 3 (.ifCond .le off)) (h9 : (pc : Int) + off = (tgt : Int)) {dc : Decidable (x ≤ 0)} (k1 : x ≤ 0 → pm_VF E1 Kt (pm_J X V mi ht ws tgt L st)) (k2 : ¬ x ≤ 0 → pm_VF E2 Kt (pm_J X V mi ht ws pc' L st)) : pm_VF (@ite _ (x ≤ 0) dc E1 E2) Kt (pm_J X V mi ht ws pc L (.int x :: st)) := vf_br (fun a b => jr_if_le hd h9 a b) k1 k2
theorem jv_ic_le {x y : Int32} {off : Int} {tgt : Nat} (hd : pm_DC mi.1 pc pc' 3 (.if_icmp .le off)) (h9 : (pc : Int) + off = (tgt : Int)) {dc : Decidable (x ≤ y)} (k1 : x ≤ y → pm_VF E1 Kt (pm_J X V mi ht ws tgt L st)) (k2 : ¬ x ≤ y → pm_VF E2 Kt (pm_J X V mi ht ws pc' L st)) : pm_VF (@ite _ (x ≤ y) dc E1 E2) Kt (pm_J X V mi ht ws pc L (.int y :: .int x :: st)) := vf_br (fun a b => jr_ic_le hd h9 a b) k1 k2
theorem jv_tin {dflt lo hi off : Int} {offs : Array Int} {len tgt n : Nat} {x v : Int32} (hd : pm_DC mi.1 pc n len (.tableswitch dflt lo hi offs)) (hx : x = v) (h1 : ¬ v.toInt < lo) (h2 : ¬ hi < v.toInt) (ho : offs[(v.toInt - lo).toNat]? = some off) (h9 : (pc : Int) + off = (tgt : Int)) (kz : pm_VF E Kt (pm_J X V mi ht ws tgt L st)) : pm_VF E Kt (pm_J X V mi ht ws pc L (.int x :: st)) := vf_j (fun g => jr_tin hd hx h1 h2 ho h9 g) kz
theorem jv_tout {dflt lo hi : Int} {offs : Array Int} {len tgt n : Nat} {x : Int32} (hd : pm_DC mi.1 pc n len (.tableswitch dflt lo hi offs)) (h : x.toInt < lo ∨ hi < x.toInt) (h9 : (pc : Int) + dflt = (tgt : Int)) (kz : pm_VF E Kt (pm_J X V mi ht ws tgt L st)) : pm_VF E Kt (pm_J X V mi ht ws pc L (.int x :: st)) := vf_j (fun g => jr_tout hd h h9 g) kz
theorem jv_lin {dflt off : Int} {ps : Array (Int × Int)} {len tgt n : Nat} {x v : Int32} (hd : pm_DC mi.1 pc n len (.lookupswitch dflt ps)) (hx : x = v) (hp : (ps.toList.zip (ps.toList.drop 1)).all (fun (a, next) => a.1 < next.1) = true) (ho : Op.lookupswitch.offset ps.toList dflt v.toInt = off) (h9 : (pc : Int) + off = (tgt : Int)) (kz : pm_VF E Kt (pm_J X V mi ht ws tgt L st)) : pm_VF E Kt (pm_J X V mi ht ws pc L (.int x :: st)) := vf_j (fun g => jr_lin hd hx hp ho h9 g) kz
theorem jv_lout {dflt : Int} {ps : Array (Int × Int)} {len tgt n : Nat} {x : Int32} (hd : pm_DC mi.1 pc n len (.lookupswitch dflt ps)) (hx : ∀ q ∈ ps.toList, ¬ q.1 = x.toInt) (hp : (ps.toList.zip (ps.toList.drop 1)).all (fun (a, next) => a.1 < next.1) = true) (h9 : (pc : Int) + dflt = (tgt : Int)) (kz : pm_VF E Kt (pm_J X V mi ht ws tgt L st)) : pm_VF E Kt (pm_J X V mi ht ws pc L (.int x :: st)) := vf_j (fun g => jr_lout hd hx hp h9 g) kz
theorem hv_getI {ci j idx k : Nat} {fs : List (Option Nat)} (hd : pm_DC mi.1 pc pc' 3 (.getfield idx)) (hf : pm_fl mi.2.1 idx ci j) (hs : sk[k]? = some (.inr (.inr (ci, fs)))) (hj : fs[j]? = some none) (kz : pm_VF E Kt (pm_J X V mi ht (pm_wld V sk M) pc' L (.int (M k j) :: st))) : pm_VF E Kt (pm_J X V mi ht (pm_wld V sk M) pc L (.ref (V.1 k) :: st)) := vf_j (fun g => hr_getI hd hf hs hj g) kz
theorem hv_getR {ci j idx k q : Nat} {fs : List (Option Nat)} (hd : pm_DC mi.1 pc pc' 3 (.getfield idx)) (hf : pm_fl mi.2.1 idx ci j) (hs : sk[k]? = some (.inr (.inr (ci, fs)))) (hj : fs[j]? = some (some q)) (kz : pm_VF E Kt (pm_J X V mi ht (pm_wld V sk M) pc' L (.ref (V.1 q) :: st))) : pm_VF E Kt (pm_J X V mi ht (pm_wld V sk M) pc L (.ref (V.1 k) :: st)) := vf_j (fun g => hr_getR hd hf hs hj g) kz
theorem hv_put {ci j idx k : Nat} {fs : List (Option Nat)} {x : Int32} {ty : FieldType} (hd : pm_DC mi.1 pc pc' 3 (.putfield idx)) (hf : pm_fp mi.2.1 idx ci j ty) (hs : sk[k]? = some (.inr (.inr (ci, fs)))) (hj : fs[j]? = some none) (hn : narrow ty (.int x) = .int x) (hfit : fits ty (.int x) = true) (kz : pm_VF E Kt (pm_J X V mi ht (pm_wld V sk (pm_up M k j x)) pc' L st)) : pm_VF E Kt (pm_J X V mi ht (pm_wld V sk M) pc L (.int x :: .ref (V.1 k) :: st)) := vf_j (fun g => hr_put hd hf hs hj hn hfit g) kz
theorem hv_iald {k n : Nat} {i : Int32} (hd : pm_DC mi.1 pc pc' 1 .iaload) (hs : sk[k]? = some (.inl (0, n))) (hin : pm_in i n = true) (kz : pm_VF E Kt (pm_J X V mi ht (pm_wld V sk M) pc' L (.int (M k i.toNatClampNeg) :: st))) : pm_VF E Kt (pm_J X V mi ht (pm_wld V sk M) pc L (.int i :: .ref (V.1 k) :: st)) := vf_j (fun g => hr_iald hd hs hin g) kz
theorem hv_ialdC {k n : Nat} {i : Int32} (hd : pm_DC mi.1 pc pc' 1 .iaload) (hs : sk[k]? = some (.inl (0, n)))  (kz : pm_in i n = true → pm_VF E Kt (pm_J X V mi ht (pm_wld V sk M) pc' L (.int (M k i.toNatClampNeg) :: st))) : pm_VF (pm_chk (pm_in i n) E) Kt (pm_J X V mi ht (pm_wld V sk M) pc L (.int i :: .ref (V.1 k) :: st)) := vf_chk (fun hin => vf_j (fun g => hr_iald hd hs hin g) (kz hin))
theorem hv_iast {k n : Nat} {i x : Int32} (hd : pm_DC mi.1 pc pc' 1 .iastore) (hs : sk[k]? = some (.inl (0, n))) (hin : pm_in i n = true) (kz : pm_VF E Kt (pm_J X V mi ht (pm_wld V sk (pm_up M k i.toNatClampNeg x)) pc' L st)) : pm_VF E Kt (pm_J X V mi ht (pm_wld V sk M) pc L (.int x :: .int i :: .ref (V.1 k) :: st)) := vf_j (fun g => hr_iast hd hs hin g) kz
theorem hv_iastC {k n : Nat} {i x : Int32} (hd : pm_DC mi.1 pc pc' 1 .iastore) (hs : sk[k]? = some (.inl (0, n)))  (kz : pm_in i n = true → pm_VF E Kt (pm_J X V mi ht (pm_wld V sk (pm_up M k i.toNatClampNeg x)) pc' L st)) : pm_VF (pm_chk (pm_in i n) E) Kt (pm_J X V mi ht (pm_wld V sk M) pc L (.int x :: .int i :: .ref (V.1 k) :: st)) := vf_chk (fun hin => vf_j (fun g => hr_iast hd hs hin g) (kz hin))
theorem hv_aald {k t q : Nat} {ps : List Nat} {i : Int32} {ty : FieldType} (hd : pm_DC mi.1 pc pc' 1 .aaload) (hs : sk[k]? = some (.inr (.inl (t, ps)))) (htt : ∀ V : pm_V, (pm_tys V)[t]? = some (V.2.1 t, ty)) (hr : ty.isReference = true) (hin : pm_in i ps.length = true) (hq : ps[i.toNatClampNeg]? = some q) (kz : pm_VF E Kt (pm_J X V mi ht (pm_wld V sk M) pc' L (.ref (V.1 q) :: st))) : pm_VF E Kt (pm_J X V mi ht (pm_wld V sk M) pc L (.int i :: .ref (V.1 k) :: st)) := vf_j (fun g => hr_aald hd hs htt hr hin hq g) kz
theorem hv_getsB {idx : Nat} {ws : va_W} (hd : pm_DC mi.1 pc pc' 3 (.getstatic idx)) (hw : Cond.fieldLink mi.2.1 idx "RainShares$Voices" "BODIES" "[I" ∈ pm_tb) (kz : pm_VF E Kt (pm_J X V mi ht ws pc' L (.ref (V.1 902) :: st))) : pm_VF E Kt (pm_J X V mi ht ws pc L st) := vf_j (fun g => hr_getsB hd hw g) kz
theorem hv_getsN {own : String} {idx q : Nat} {ws : va_W} (hq : (own = "RainShares$Clouds" ∧ idx = 38 ∧ q = 900) ∨ (own = "RainShares$Reader" ∧ idx = 74 ∧ q = 901) ∨ (own = "RainShares$Voices" ∧ idx = 35 ∧ q = 900)) (ho : mi.2.1 = own) (hd : pm_DC mi.1 pc pc' 3 (.getstatic idx)) (kz : pm_VF E Kt (pm_J X V mi ht ws pc' L (.ref (V.1 q) :: st))) : pm_VF E Kt (pm_J X V mi ht ws pc L st) := vf_j (fun g => hr_getsN hq ho hd g) kz
theorem hv_tA {i : Int32} {ws : va_W} (hd : pm_DC mi.1 pc pc' 1 .iaload) (hin : pm_in i 7 = true) (kz : pm_VF E Kt (pm_J X V mi ht ws pc' L (.int (pm_ABOVE i.toNatClampNeg) :: st))) : pm_VF E Kt (pm_J X V mi ht ws pc L (.int i :: .ref (V.1 900) :: st)) := vf_j (fun g => hr_tA hd hin g) kz
theorem hv_tAC {i : Int32} {ws : va_W} (hd : pm_DC mi.1 pc pc' 1 .iaload)  (kz : pm_in i 7 = true → pm_VF E Kt (pm_J X V mi ht ws pc' L (.int (pm_ABOVE i.toNatClampNeg) :: st))) : pm_VF (pm_chk (pm_in i 7) E) Kt (pm_J X V mi ht ws pc L (.int i :: .ref (V.1 900) :: st)) := vf_chk (fun hin => vf_j (fun g => hr_tA hd hin g) (kz hin))
theorem hv_tN {i : Int32} {ws : va_W} (hd : pm_DC mi.1 pc pc' 1 .caload) (hin : pm_in i 6 = true) (kz : pm_VF E Kt (pm_J X V mi ht ws pc' L (.int (pm_NAMES i.toNatClampNeg) :: st))) : pm_VF E Kt (pm_J X V mi ht ws pc L (.int i :: .ref (V.1 901) :: st)) := vf_j (fun g => hr_tN hd hin g) kz
theorem hv_tNC {i : Int32} {ws : va_W} (hd : pm_DC mi.1 pc pc' 1 .caload)  (kz : pm_in i 6 = true → pm_VF E Kt (pm_J X V mi ht ws pc' L (.int (pm_NAMES i.toNatClampNeg) :: st))) : pm_VF (pm_chk (pm_in i 6) E) Kt (pm_J X V mi ht ws pc L (.int i :: .ref (V.1 901) :: st)) := vf_chk (fun hin => vf_j (fun g => hr_tN hd hin g) (kz hin))
theorem hv_tB {i : Int32} {ws : va_W} (hd : pm_DC mi.1 pc pc' 1 .iaload) (hin : pm_in i 28 = true) (kz : pm_VF E Kt (pm_J X V mi ht ws pc' L (.int (pm_BODIES i.toNatClampNeg) :: st))) : pm_VF E Kt (pm_J X V mi ht ws pc L (.int i :: .ref (V.1 902) :: st)) := vf_j (fun g => hr_tB hd hin g) kz
theorem hv_tBC {i : Int32} {ws : va_W} (hd : pm_DC mi.1 pc pc' 1 .iaload)  (kz : pm_in i 28 = true → pm_VF E Kt (pm_J X V mi ht ws pc' L (.int (pm_BODIES i.toNatClampNeg) :: st))) : pm_VF (pm_chk (pm_in i 28) E) Kt (pm_J X V mi ht ws pc L (.int i :: .ref (V.1 902) :: st)) := vf_chk (fun hin => vf_j (fun g => hr_tB hd hin g) (kz hin))
theorem hv_max {idx : Nat} {x y : Int32} {ws : va_W} (hd : pm_DC mi.1 pc pc' 3 (.invokestatic idx)) (h1 : Cond.methodLink mi.2.1 idx Lib.Math.max.name ∈ pm_tb) (h2 : Cond.static Lib.Math.max.name ∈ pm_tb) (h3 : Cond.initialized "java/lang/Math" ∈ pm_tb) (h4 : Cond.code Lib.Math.max.name Lib.Math.max.code 2 (some .int) ∈ pm_tb) (hrest : (st.map fun v => v.category).sum ≤ 8) (kz : pm_VF E Kt (pm_J X V mi ht ws pc' L (.int (pm_max x y) :: st))) : pm_VF E Kt (pm_J X V mi ht ws pc L (.int y :: .int x :: st)) := vf_j (fun g => hr_max hd h1 h2 h3 h4 hrest g) kz
theorem hv_min {idx : Nat} {x y : Int32} {ws : va_W} (hd : pm_DC mi.1 pc pc' 3 (.invokestatic idx)) (h1 : Cond.methodLink mi.2.1 idx Lib.Math.min.name ∈ pm_tb) (h2 : Cond.static Lib.Math.min.name ∈ pm_tb) (h3 : Cond.initialized "java/lang/Math" ∈ pm_tb) (h4 : Cond.code Lib.Math.min.name Lib.Math.min.code 2 (some .int) ∈ pm_tb) (hrest : (st.map fun v => v.category).sum ≤ 8) (kz : pm_VF E Kt (pm_J X V mi ht ws pc' L (.int (pm_min x y) :: st))) : pm_VF E Kt (pm_J X V mi ht ws pc L (.int y :: .int x :: st)) := vf_j (fun g => hr_min hd h1 h2 h3 h4 hrest g) kz
theorem hv_copy {idx k0 k1 n0 n1 : Nat} {sp dp n : Int32} (hd : pm_DC mi.1 pc pc' 3 (.invokestatic idx)) (h1 : Cond.methodLink mi.2.1 idx arraycopyName ∈ pm_tb) (h2 : Cond.native arraycopyName ∈ pm_tb) (h3 : Cond.static arraycopyName ∈ pm_tb) (h4 : Cond.initialized "java/lang/System" ∈ pm_tb) (hrest : (st.map fun v => v.category).sum ≤ 8) (hs0 : sk[k0]? = some (.inl (0, n0))) (hs1 : sk[k1]? = some (.inl (0, n1))) (hin : pm_cin sp dp n n0 n1 = true) (kz : pm_VF E Kt (pm_J X V mi ht (pm_wld V sk (pm_cpy M k0 sp.toNatClampNeg k1 dp.toNatClampNeg n.toNatClampNeg)) pc' L st)) : pm_VF E Kt (pm_J X V mi ht (pm_wld V sk M) pc L (.int n :: .int dp :: .ref (V.1 k1) :: .int sp :: .ref (V.1 k0) :: st)) := vf_j (fun g => hr_copy hd h1 h2 h3 h4 hrest hs0 hs1 hin g) kz
theorem hv_copyC {idx k0 k1 n0 n1 : Nat} {sp dp n : Int32} (hd : pm_DC mi.1 pc pc' 3 (.invokestatic idx)) (h1 : Cond.methodLink mi.2.1 idx arraycopyName ∈ pm_tb) (h2 : Cond.native arraycopyName ∈ pm_tb) (h3 : Cond.static arraycopyName ∈ pm_tb) (h4 : Cond.initialized "java/lang/System" ∈ pm_tb) (hrest : (st.map fun v => v.category).sum ≤ 8) (hs0 : sk[k0]? = some (.inl (0, n0))) (hs1 : sk[k1]? = some (.inl (0, n1)))  (kz : pm_cin sp dp n n0 n1 = true → pm_VF E Kt (pm_J X V mi ht (pm_wld V sk (pm_cpy M k0 sp.toNatClampNeg k1 dp.toNatClampNeg n.toNatClampNeg)) pc' L st)) : pm_VF (pm_chk (pm_cin sp dp n n0 n1) E) Kt (pm_J X V mi ht (pm_wld V sk M) pc L (.int n :: .int dp :: .ref (V.1 k1) :: .int sp :: .ref (V.1 k0) :: st)) := vf_chk (fun hin => vf_j (fun g => hr_copy hd h1 h2 h3 h4 hrest hs0 hs1 hin g) (kz hin))
theorem hv_callI {y : MethodName} {mi' : pm_I} {ht' idx b ci : Nat} {fs : List (Option Nat)} {q : vw_C} {As : List Value} {x : Option (Int32 × pm_M)} {f : Int32 → pm_M → Option α} (hd : pm_DC mi.1 pc pc' 3 (.invokevirtual idx)) (hl : Cond.methodLink mi.2.1 idx y ∈ pm_tb) (hy : pm_cv y mi') (hn : pm_np y As.length) (hh : ht' + 1 ≤ ht) (hrest : (st.map fun v => v.category).sum ≤ 8) (hb : sk[b]? = some (.inr (.inr (ci, fs)))) (hc : pm_cls[ci]? = some q) (hq : q.1 = y.cls) (hst : stk = As.reverse ++ .ref (V.1 b) :: st) (hM : ∀ (r : Int32) (M' : pm_M), x = some (r, M') → ∀ l : Launch, pm_Ci l V sk y mi' ht' (.ref (V.1 b) :: As) M r M') (kz : ∀ (r : Int32) (M' : pm_M), pm_VF (f r M') Kt (pm_J X V mi ht (pm_wld V sk M') pc' L (.int r :: st))) : pm_VF (pm_b2 x f) Kt (pm_J X V mi ht (pm_wld V sk M) pc L stk) := by
  intro a h q
  cases x with
  | none => cases h
  | some b => exact hr_callI hd hl hy hn hh hrest hb hc hq hst (hM b.1 b.2 rfl) (kz b.1 b.2 a h q)
theorem hv_callV {x : Option pm_M} {f : pm_M → Option α} {y : MethodName} {mi' : pm_I} {ht' idx b ci : Nat} {fs : List (Option Nat)} {q : vw_C} {As : List Value} (hd : pm_DC mi.1 pc pc' 3 (.invokevirtual idx)) (hl : Cond.methodLink mi.2.1 idx y ∈ pm_tb) (hy : pm_cv y mi') (hn : pm_np y As.length) (hh : ht' + 1 ≤ ht) (hrest : (st.map fun v => v.category).sum ≤ 8) (hb : sk[b]? = some (.inr (.inr (ci, fs)))) (hc : pm_cls[ci]? = some q) (hq : q.1 = y.cls) (hst : stk = As.reverse ++ .ref (V.1 b) :: st) (hM : ∀ (M' : pm_M), x = some M' → ∀ l : Launch, pm_Cv l V sk y mi' ht' (.ref (V.1 b) :: As) M M') (kz : ∀ (M' : pm_M), pm_VF (f M') Kt (pm_J X V mi ht (pm_wld V sk M') pc' L st)) : pm_VF (pm_b1 x f) Kt (pm_J X V mi ht (pm_wld V sk M) pc L stk) := by
  intro a h q
  cases x with
  | none => cases h
  | some b => exact hr_callV hd hl hy hn hh hrest hb hc hq hst (hM b rfl) (kz b a h q)
theorem hv_callS {y : MethodName} {mi' : pm_I} {ht' idx : Nat} {As : List Value} {x : Option (Int32 × pm_M)} {f : Int32 → pm_M → Option α} (hd : pm_DC mi.1 pc pc' 3 (.invokestatic idx)) (hl : Cond.methodLink mi.2.1 idx y ∈ pm_tb) (hy : pm_cs y mi') (hn : pm_np y As.length) (hh : ht' + 1 ≤ ht) (hrest : (st.map fun v => v.category).sum ≤ 8) (hst : stk = As.reverse ++ st) (hM : ∀ (r : Int32) (M' : pm_M), x = some (r, M') → ∀ l : Launch, pm_Ci l V sk y mi' ht' As M r M') (kz : ∀ (r : Int32) (M' : pm_M), pm_VF (f r M') Kt (pm_J X V mi ht (pm_wld V sk M') pc' L (.int r :: st))) : pm_VF (pm_b2 x f) Kt (pm_J X V mi ht (pm_wld V sk M) pc L stk) := by
  intro a h q
  cases x with
  | none => cases h
  | some b => exact hr_callS hd hl hy hn hh hrest hst (hM b.1 b.2 rfl) (kz b.1 b.2 a h q)
theorem vl_b1 {a1 : Type} {x : Option (a1)} {f : a1 → Option α} {P : a1 → Prop} {G : Prop} (w : pm_VF x P G) (k : ∀ (x1 : a1), pm_VF (f x1) Kt (P x1)) : pm_VF (pm_b1 x f) Kt G := by
  intro a h q
  cases x with
  | none => cases h
  | some b => exact w b rfl (k b a h q)
theorem vl_s1 {a1 : Type} {x : Option ((a1) ⊕ α)} {f : a1 → Option α} {P : a1 → Prop} {G : Prop} (w : pm_VF x (Sum.elim P Kt) G) (k : ∀ (x1 : a1), pm_VF (f x1) Kt (P x1)) : pm_VF (pm_s1 x f) Kt G := by
  intro a h q
  cases x with
  | none => cases h
  | some b =>
    cases b with
    | inl b => exact w (Sum.inl b) rfl (k b a h q)
    | inr r => exact w (Sum.inr r) rfl (by cases h; exact q)
theorem vl_b2 {a1 a2 : Type} {x : Option (a1 × a2)} {f : a1 → a2 → Option α} {P : a1 × a2 → Prop} {G : Prop} (w : pm_VF x P G) (k : ∀ (x1 : a1) (x2 : a2), pm_VF (f x1 x2) Kt (P (x1, x2))) : pm_VF (pm_b2 x f) Kt G := by
  intro a h q
  cases x with
  | none => cases h
  | some b => exact w b rfl (k b.1 b.2 a h q)
theorem vl_s2 {a1 a2 : Type} {x : Option ((a1 × a2) ⊕ α)} {f : a1 → a2 → Option α} {P : a1 × a2 → Prop} {G : Prop} (w : pm_VF x (Sum.elim P Kt) G) (k : ∀ (x1 : a1) (x2 : a2), pm_VF (f x1 x2) Kt (P (x1, x2))) : pm_VF (pm_s2 x f) Kt G := by
  intro a h q
  cases x with
  | none => cases h
  | some b =>
    cases b with
    | inl b => exact w (Sum.inl b) rfl (k b.1 b.2 a h q)
    | inr r => exact w (Sum.inr r) rfl (by cases h; exact q)
theorem vl_b3 {a1 a2 a3 : Type} {x : Option (a1 × a2 × a3)} {f : a1 → a2 → a3 → Option α} {P : a1 × a2 × a3 → Prop} {G : Prop} (w : pm_VF x P G) (k : ∀ (x1 : a1) (x2 : a2) (x3 : a3), pm_VF (f x1 x2 x3) Kt (P (x1, x2, x3))) : pm_VF (pm_b3 x f) Kt G := by
  intro a h q
  cases x with
  | none => cases h
  | some b => exact w b rfl (k b.1 b.2.1 b.2.2 a h q)
theorem vl_s3 {a1 a2 a3 : Type} {x : Option ((a1 × a2 × a3) ⊕ α)} {f : a1 → a2 → a3 → Option α} {P : a1 × a2 × a3 → Prop} {G : Prop} (w : pm_VF x (Sum.elim P Kt) G) (k : ∀ (x1 : a1) (x2 : a2) (x3 : a3), pm_VF (f x1 x2 x3) Kt (P (x1, x2, x3))) : pm_VF (pm_s3 x f) Kt G := by
  intro a h q
  cases x with
  | none => cases h
  | some b =>
    cases b with
    | inl b => exact w (Sum.inl b) rfl (k b.1 b.2.1 b.2.2 a h q)
    | inr r => exact w (Sum.inr r) rfl (by cases h; exact q)
theorem vl_b4 {a1 a2 a3 a4 : Type} {x : Option (a1 × a2 × a3 × a4)} {f : a1 → a2 → a3 → a4 → Option α} {P : a1 × a2 × a3 × a4 → Prop} {G : Prop} (w : pm_VF x P G) (k : ∀ (x1 : a1) (x2 : a2) (x3 : a3) (x4 : a4), pm_VF (f x1 x2 x3 x4) Kt (P (x1, x2, x3, x4))) : pm_VF (pm_b4 x f) Kt G := by
  intro a h q
  cases x with
  | none => cases h
  | some b => exact w b rfl (k b.1 b.2.1 b.2.2.1 b.2.2.2 a h q)
theorem vl_b5 {a1 a2 a3 a4 a5 : Type} {x : Option (a1 × a2 × a3 × a4 × a5)} {f : a1 → a2 → a3 → a4 → a5 → Option α} {P : a1 × a2 × a3 × a4 × a5 → Prop} {G : Prop} (w : pm_VF x P G) (k : ∀ (x1 : a1) (x2 : a2) (x3 : a3) (x4 : a4) (x5 : a5), pm_VF (f x1 x2 x3 x4 x5) Kt (P (x1, x2, x3, x4, x5))) : pm_VF (pm_b5 x f) Kt G := by
  intro a h q
  cases x with
  | none => cases h
  | some b => exact w b rfl (k b.1 b.2.1 b.2.2.1 b.2.2.2.1 b.2.2.2.2 a h q)
theorem vf_inl {γ : Type} {a : α} {P : α → Prop} {Q : γ → Prop} {G : Prop} (h : P a → G) : pm_VF (some (Sum.inl a : α ⊕ γ)) (Sum.elim P Q) G := vf_end h
theorem vf_inr {γ : Type} {a : γ} {P : α → Prop} {Q : γ → Prop} {G : Prop} (h : pm_VF (some a) Q G) : pm_VF (some (Sum.inr a : α ⊕ γ)) (Sum.elim P Q) G := vf_end (fun q => h a rfl q)
theorem vf_chkz {b : Bool} {G : Prop} (k : b = true → pm_VF E Kt G) : pm_VF (pm_chk b E) Kt G := vf_chk k
end PMW
end
section
set_option maxRecDepth 20000
theorem pm_w1 {w : Cond} (i : Nat) (h : tables_1_1[i]? = some w) (hg : goodWord w = true) : w ∈ pm_tb := List.mem_filter.mpr ⟨List.mem_append_right _ (List.mem_append_left _ (List.mem_of_getElem? h)), hg⟩
theorem pm_w2 {w : Cond} (i : Nat) (h : tables_1_2[i]? = some w) (hg : goodWord w = true) : w ∈ pm_tb := List.mem_filter.mpr ⟨List.mem_append_right _ (List.mem_append_right _ (List.mem_append_left _ (List.mem_of_getElem? h))), hg⟩
theorem pm_w3 {w : Cond} (i : Nat) (h : tables_1_3[i]? = some w) (hg : goodWord w = true) : w ∈ pm_tb := List.mem_filter.mpr ⟨List.mem_append_right _ (List.mem_append_right _ (List.mem_append_right _ (List.mem_append_left _ (List.mem_of_getElem? h)))), hg⟩
theorem pm_w4 {w : Cond} (i : Nat) (h : tables_1_4[i]? = some w) (hg : goodWord w = true) : w ∈ pm_tb := List.mem_filter.mpr ⟨List.mem_append_right _ (List.mem_append_right _ (List.mem_append_right _ (List.mem_append_right _ (List.mem_append_left _ (List.mem_of_getElem? h))))), hg⟩
theorem pm_w5 {w : Cond} (i : Nat) (h : tables_1_5[i]? = some w) (hg : goodWord w = true) : w ∈ pm_tb := List.mem_filter.mpr ⟨List.mem_append_right _ (List.mem_append_right _ (List.mem_append_right _ (List.mem_append_right _ (List.mem_append_right _ (List.mem_of_getElem? h))))), hg⟩
theorem iX0 : ∀ w ∈ u_ws RX0 TX0 5, w ∈ pm_tb := fun w hw => List.mem_filter.mpr ⟨(by decide +kernel : ∀ w ∈ u_ws RX0 TX0 5, w ∈ lw_tbl) w hw, (by decide +kernel : ∀ w ∈ u_ws RX0 TX0 5, goodWord w = true) w hw⟩
theorem iX1 : ∀ w ∈ u_ws RX1 TX1 5, w ∈ pm_tb := fun w hw => List.mem_filter.mpr ⟨(by decide +kernel : ∀ w ∈ u_ws RX1 TX1 5, w ∈ lw_tbl) w hw, (by decide +kernel : ∀ w ∈ u_ws RX1 TX1 5, goodWord w = true) w hw⟩
theorem iX2 : ∀ w ∈ u_ws RX2 TX2 7, w ∈ pm_tb := fun w hw => List.mem_filter.mpr ⟨(by decide +kernel : ∀ w ∈ u_ws RX2 TX2 7, w ∈ lw_tbl) w hw, (by decide +kernel : ∀ w ∈ u_ws RX2 TX2 7, goodWord w = true) w hw⟩
theorem iX3 : ∀ w ∈ u_ws RX3 TX3 6, w ∈ pm_tb := fun w hw => List.mem_filter.mpr ⟨(by decide +kernel : ∀ w ∈ u_ws RX3 TX3 6, w ∈ lw_tbl) w hw, (by decide +kernel : ∀ w ∈ u_ws RX3 TX3 6, goodWord w = true) w hw⟩
theorem iX4 : ∀ w ∈ u_ws RX4 TX4 3, w ∈ pm_tb := fun w hw => List.mem_filter.mpr ⟨(by decide +kernel : ∀ w ∈ u_ws RX4 TX4 3, w ∈ lw_tbl) w hw, (by decide +kernel : ∀ w ∈ u_ws RX4 TX4 3, goodWord w = true) w hw⟩
theorem iX5 : ∀ w ∈ u_ws RX5 TX5 12, w ∈ pm_tb := fun w hw => List.mem_filter.mpr ⟨(by decide +kernel : ∀ w ∈ u_ws RX5 TX5 12, w ∈ lw_tbl) w hw, (by decide +kernel : ∀ w ∈ u_ws RX5 TX5 12, goodWord w = true) w hw⟩
theorem iX6 : ∀ w ∈ u_ws RX6 TX6 5, w ∈ pm_tb := fun w hw => List.mem_filter.mpr ⟨(by decide +kernel : ∀ w ∈ u_ws RX6 TX6 5, w ∈ lw_tbl) w hw, (by decide +kernel : ∀ w ∈ u_ws RX6 TX6 5, goodWord w = true) w hw⟩
theorem iX7 : ∀ w ∈ u_ws RX7 TX7 8, w ∈ pm_tb := fun w hw => List.mem_filter.mpr ⟨(by decide +kernel : ∀ w ∈ u_ws RX7 TX7 8, w ∈ lw_tbl) w hw, (by decide +kernel : ∀ w ∈ u_ws RX7 TX7 8, goodWord w = true) w hw⟩
theorem iX8 : ∀ w ∈ u_ws RX8 TX8 20, w ∈ pm_tb := fun w hw => List.mem_filter.mpr ⟨(by decide +kernel : ∀ w ∈ u_ws RX8 TX8 20, w ∈ lw_tbl) w hw, (by decide +kernel : ∀ w ∈ u_ws RX8 TX8 20, goodWord w = true) w hw⟩
def yJ_bitCount : MethodName := ⟨"java/lang/Integer", "bitCount", "(I)I"⟩
abbrev cJ_bitCount : ByteArray := prog_11_method_49_code
abbrev mX0_init : pm_I := (cX0_init, RX0, 1, none)
abbrev mX0_copyFrom : pm_I := (cX0_copyFrom, RX0, 2, none)
abbrev mX0_add : pm_I := (cX0_add, RX0, 3, (some .int))
abbrev mX0_setKind : pm_I := (cX0_setKind, RX0, 3, none)
abbrev mX0_has : pm_I := (cX0_has, RX0, 2, (some .boolean))
abbrev mX0_isOf : pm_I := (cX0_isOf, RX0, 5, (some .boolean))
abbrev mX0_lasting : pm_I := (cX0_lasting, RX0, 2, (some .int))
abbrev mX0_isSpent : pm_I := (cX0_isSpent, RX0, 2, (some .boolean))
abbrev mX0_spentMany : pm_I := (cX0_spentMany, RX0, 3, (some .int))
abbrev mX0_setOver : pm_I := (cX0_setOver, RX0, 4, (some .int))
abbrev mX0_daysLeft : pm_I := (cX0_daysLeft, RX0, 2, (some .int))
abbrev mX0_weakest : pm_I := (cX0_weakest, RX0, 3, (some .int))
abbrev mX1_init : pm_I := (cX1_init, RX1, 3, none)
abbrev mX1_take : pm_I := (cX1_take, RX1, 3, none)
abbrev mX1_given : pm_I := (cX1_given, RX1, 7, (some .int))
abbrev mX1_join : pm_I := (cX1_join, RX1, 3, (some .int))
abbrev mX2_init : pm_I := (cX2_init, RX2, 1, none)
abbrev mX2_read : pm_I := (cX2_read, RX2, 4, (some .int))
abbrev mX2_readJoined : pm_I := (cX2_readJoined, RX2, 5, none)
abbrev mX2_readSingle : pm_I := (cX2_readSingle, RX2, 4, none)
abbrev mX2_readClosing : pm_I := (cX2_readClosing, RX2, 1, none)
abbrev mX2_readNumber : pm_I := (cX2_readNumber, RX2, 3, none)
abbrev mX2_next : pm_I := (cX2_next, RX2, 1, (some .int))
abbrev mX2_write : pm_I := (cX2_write, RX2, 2, none)
abbrev mX2_isDigit : pm_I := (cX2_isDigit, RX2, 1, (some .boolean))
abbrev mX2_nameOf : pm_I := (cX2_nameOf, RX2, 3, (some .int))
abbrev mX2_joins : pm_I := (cX2_joins, RX2, 2, (some .boolean))
abbrev mX3_init : pm_I := (cX3_init, RX3, 1, none)
abbrev mX3_copyFrom : pm_I := (cX3_copyFrom, RX3, 3, none)
abbrev mX3_add : pm_I := (cX3_add, RX3, 2, (some .int))
abbrev mX3_has : pm_I := (cX3_has, RX3, 2, (some .boolean))
abbrev mX3_areTwo : pm_I := (cX3_areTwo, RX3, 3, (some .boolean))
abbrev mX3_sum : pm_I := (cX3_sum, RX3, 4, (some .int))
abbrev mX3_sumOver : pm_I := (cX3_sumOver, RX3, 5, (some .int))
abbrev mX3_owedToAll : pm_I := (cX3_owedToAll, RX3, 2, (some .int))
abbrev mX3_mostInArrears : pm_I := (cX3_mostInArrears, RX3, 3, (some .int))
abbrev mX3_bestSellers : pm_I := (cX3_bestSellers, RX3, 4, (some .int))
abbrev mX3_sellsRather : pm_I := (cX3_sellsRather, RX3, 4, (some .boolean))
abbrev mX3_tradingPairs : pm_I := (cX3_tradingPairs, RX3, 4, (some .int))
abbrev mX3_clearDebts : pm_I := (cX3_clearDebts, RX3, 5, (some .int))
abbrev mX3_clearPair : pm_I := (cX3_clearPair, RX3, 4, (some .int))
abbrev mX3_clearRing : pm_I := (cX3_clearRing, RX3, 5, (some .int))
abbrev mX4_init : pm_I := (cX4_init, RX4, 1, none)
abbrev mX4_isMissing : pm_I := (cX4_isMissing, RX4, 1, (some .boolean))
abbrev mX4_lay : pm_I := (cX4_lay, RX4, 4, none)
abbrev mX4_cutToBits : pm_I := (cX4_cutToBits, RX4, 2, (some .int))
abbrev mX4_holds : pm_I := (cX4_holds, RX4, 3, (some .boolean))
abbrev mX5_init : pm_I := (cX5_init, RX5, 1, none)
abbrev mX5_copyFrom : pm_I := (cX5_copyFrom, RX5, 3, none)
abbrev mX5_dropsOn : pm_I := (cX5_dropsOn, RX5, 6, (some .int))
abbrev mX5_nextOver : pm_I := (cX5_nextOver, RX5, 3, (some .int))
abbrev mX5_passDays : pm_I := (cX5_passDays, RX5, 3, none)
abbrev mX5_aim : pm_I := (cX5_aim, RX5, 3, none)
abbrev mX5_rain : pm_I := (cX5_rain, RX5, 3, none)
abbrev mX5_charge : pm_I := (cX5_charge, RX5, 4, none)
abbrev mX5_drift : pm_I := (cX5_drift, RX5, 2, none)
abbrev mX5_wouldGive : pm_I := (cX5_wouldGive, RX5, 6, (some .boolean))
abbrev mX5_scatter : pm_I := (cX5_scatter, RX5, 2, none)
abbrev mX5_draw : pm_I := (cX5_draw, RX5, 1, (some .int))
abbrev mX5_rest : pm_I := (cX5_rest, RX5, 2, (some .int))
abbrev mX6_init : pm_I := (cX6_init, RX6, 1, none)
abbrev mX6_answer : pm_I := (cX6_answer, RX6, 6, (some .int))
abbrev mX6_say : pm_I := (cX6_say, RX6, 7, (some .int))
abbrev mX6_sayBody : pm_I := (cX6_sayBody, RX6, 5, (some .int))
abbrev mX6_note : pm_I := (cX6_note, RX6, 2, none)
abbrev mX7_init : pm_I := (cX7_init, RX7, 2, none)
abbrev mX7_roof : pm_I := (cX7_roof, RX7, 2, (some .int))
abbrev mX7_ofRoof : pm_I := (cX7_ofRoof, RX7, 3, (some .int))
abbrev mX7_change : pm_I := (cX7_change, RX7, 4, (some .int))
abbrev mX7_owe : pm_I := (cX7_owe, RX7, 4, (some .int))
abbrev mX7_owed : pm_I := (cX7_owed, RX7, 3, (some .int))
abbrev mX7_pay : pm_I := (cX7_pay, RX7, 3, (some .int))
abbrev mX7_sell : pm_I := (cX7_sell, RX7, 5, (some .int))
abbrev mX7_cloud : pm_I := (cX7_cloud, RX7, 3, (some .int))
abbrev mX7_ofCloud : pm_I := (cX7_ofCloud, RX7, 3, (some .int))
abbrev mX7_become : pm_I := (cX7_become, RX7, 4, (some .int))
abbrev mX7_as : pm_I := (cX7_as, RX7, 3, (some .int))
abbrev mX7_lead : pm_I := (cX7_lead, RX7, 4, (some .int))
abbrev mX7_feed : pm_I := (cX7_feed, RX7, 5, (some .int))
abbrev mX7_text : pm_I := (cX7_text, RX7, 3, (some .int))
abbrev mX7_law : pm_I := (cX7_law, RX7, 5, (some .int))
abbrev mX7_days : pm_I := (cX7_days, RX7, 2, (some .int))
abbrev mX7_loose : pm_I := (cX7_loose, RX7, 3, (some .int))
abbrev mX7_clear : pm_I := (cX7_clear, RX7, 1, (some .int))
abbrev mX7_then : pm_I := (cX7_then, RX7, 4, (some .int))
abbrev mX7_drought : pm_I := (cX7_drought, RX7, 6, (some .int))
abbrev mX7_when : pm_I := (cX7_when, RX7, 4, (some .int))
abbrev mX7_sellers : pm_I := (cX7_sellers, RX7, 4, (some .int))
abbrev mX7_clears : pm_I := (cX7_clears, RX7, 1, (some .int))
abbrev mX7_patches : pm_I := (cX7_patches, RX7, 5, (some .int))
abbrev mX7_trades : pm_I := (cX7_trades, RX7, 1, (some .int))
abbrev mX7_fell : pm_I := (cX7_fell, RX7, 7, (some .int))
abbrev mX7_gains : pm_I := (cX7_gains, RX7, 4, (some .int))
abbrev mX7_seed : pm_I := (cX7_seed, RX7, 3, (some .int))
abbrev mX7_voice : pm_I := (cX7_voice, RX7, 4, (some .int))
abbrev mX7_trace : pm_I := (cX7_trace, RX7, 2, (some .int))
abbrev mX7_sheet : pm_I := (cX7_sheet, RX7, 4, (some .int))
abbrev mX7_put : pm_I := (cX7_put, RX7, 5, (some .int))
abbrev mX7_move : pm_I := (cX7_move, RX7, 8, (some .int))
abbrev mX7_shares : pm_I := (cX7_shares, RX7, 4, (some .int))
abbrev mX7_judge : pm_I := (cX7_judge, RX7, 5, (some .int))
abbrev mX7_image : pm_I := (cX7_image, RX7, 1, (some .int))
abbrev mX7_restore : pm_I := (cX7_restore, RX7, 1, (some .int))
abbrev mX7_tell : pm_I := (cX7_tell, RX7, 2, (some .int))
abbrev mX7_check : pm_I := (cX7_check, RX7, 3, (some .int))
abbrev mX7_count : pm_I := (cX7_count, RX7, 2, (some .int))
abbrev mX7_told : pm_I := (cX7_told, RX7, 2, (some .int))
abbrev mX7_within : pm_I := (cX7_within, RX7, 3, (some .boolean))
abbrev mX7_isKindAndM : pm_I := (cX7_isKindAndM, RX7, 1, (some .boolean))
abbrev mX7_isSheet : pm_I := (cX7_isSheet, RX7, 1, (some .boolean))
abbrev mX7_error : pm_I := (cX7_error, RX7, 2, (some .int))
abbrev mX7_replace : pm_I := (cX7_replace, RX7, 6, (some .int))
abbrev mX7_arrearsBehind : pm_I := (cX7_arrearsBehind, RX7, 5, (some .int))
abbrev mX8_init : pm_I := (cX8_init, RX8, 1, none)
abbrev mX8_finds : pm_I := (cX8_finds, RX8, 2, (some .int))
abbrev mX8_in : pm_I := (cX8_in, RX8, 6, (some .boolean))
abbrev mX8_held : pm_I := (cX8_held, RX8, 3, (some .int))
abbrev mX8_isRoof : pm_I := (cX8_isRoof, RX8, 2, (some .boolean))
abbrev mX8_isCloud : pm_I := (cX8_isCloud, RX8, 2, (some .boolean))
abbrev mX8_its : pm_I := (cX8_its, RX8, 3, (some .int))
abbrev mX8_of : pm_I := (cX8_of, RX8, 3, (some .int))
abbrev mX8_keepAside : pm_I := (cX8_keepAside, RX8, 2, none)
abbrev mX8_putBack : pm_I := (cX8_putBack, RX8, 2, none)
abbrev mX8_here : pm_I := (cX8_here, RX8, 1, (some .int))
abbrev mX8_wrong : pm_I := (cX8_wrong, RX8, 1, (some .int))
abbrev mX8_takes : pm_I := (cX8_takes, RX8, 2, (some .boolean))
abbrev mX8_nameOf : pm_I := (cX8_nameOf, RX8, 2, (some .int))
abbrev mX8_either : pm_I := (cX8_either, RX8, 3, (some .int))
abbrev mX8_both : pm_I := (cX8_both, RX8, 3, (some .int))
abbrev mX8_compared : pm_I := (cX8_compared, RX8, 4, (some .int))
abbrev mX8_sum : pm_I := (cX8_sum, RX8, 4, (some .int))
abbrev mX8_product : pm_I := (cX8_product, RX8, 4, (some .int))
abbrev mX8_unit : pm_I := (cX8_unit, RX8, 5, (some .int))
abbrev mX8_worked : pm_I := (cX8_worked, RX8, 5, (some .int))
abbrev mX8_feed : pm_I := (cX8_feed, RX8, 5, (some .int))
abbrev mX8_text : pm_I := (cX8_text, RX8, 5, (some .int))
abbrev mX8_textGives : pm_I := (cX8_textGives, RX8, 6, (some .int))
abbrev mX8_law : pm_I := (cX8_law, RX8, 5, (some .int))
abbrev mX8_roof : pm_I := (cX8_roof, RX8, 3, (some .int))
abbrev mX8_ofRoof : pm_I := (cX8_ofRoof, RX8, 6, (some .int))
abbrev mX8_change : pm_I := (cX8_change, RX8, 6, (some .int))
abbrev mX8_areTwo : pm_I := (cX8_areTwo, RX8, 3, (some .boolean))
abbrev mX8_owe : pm_I := (cX8_owe, RX8, 5, (some .int))
abbrev mX8_owed : pm_I := (cX8_owed, RX8, 3, (some .int))
abbrev mX8_pay : pm_I := (cX8_pay, RX8, 3, (some .int))
abbrev mX8_sell : pm_I := (cX8_sell, RX8, 4, (some .int))
abbrev mX8_cloud : pm_I := (cX8_cloud, RX8, 4, (some .int))
abbrev mX8_fallsOn : pm_I := (cX8_fallsOn, RX8, 6, (some .int))
abbrev mX8_lasts : pm_I := (cX8_lasts, RX8, 2, (some .int))
abbrev mX8_isSpent : pm_I := (cX8_isSpent, RX8, 2, (some .boolean))
abbrev mX8_driftsTo : pm_I := (cX8_driftsTo, RX8, 4, (some .int))
abbrev mX8_ofCloud : pm_I := (cX8_ofCloud, RX8, 3, (some .int))
abbrev mX8_become : pm_I := (cX8_become, RX8, 4, (some .int))
abbrev mX8_above : pm_I := (cX8_above, RX8, 1, (some .int))
abbrev mX8_as : pm_I := (cX8_as, RX8, 4, (some .int))
abbrev mX8_lead : pm_I := (cX8_lead, RX8, 5, (some .int))
abbrev mX8_mostInArrears : pm_I := (cX8_mostInArrears, RX8, 3, (some .int))
abbrev mX8_fallsWhere : pm_I := (cX8_fallsWhere, RX8, 3, (some .int))
abbrev mX8_dayGoes : pm_I := (cX8_dayGoes, RX8, 5, none)
abbrev mX8_daysGo : pm_I := (cX8_daysGo, RX8, 3, none)
abbrev mX8_all : pm_I := (cX8_all, RX8, 4, (some .int))
abbrev mX8_days : pm_I := (cX8_days, RX8, 2, (some .int))
abbrev mX8_drawn : pm_I := (cX8_drawn, RX8, 1, (some .int))
abbrev mX8_loose : pm_I := (cX8_loose, RX8, 4, (some .int))
abbrev mX8_lessens : pm_I := (cX8_lessens, RX8, 4, none)
abbrev mX8_clearsAll : pm_I := (cX8_clearsAll, RX8, 7, (some .int))
abbrev mX8_clear : pm_I := (cX8_clear, RX8, 1, (some .int))
abbrev mX8_then : pm_I := (cX8_then, RX8, 5, (some .int))
abbrev mX8_drought : pm_I := (cX8_drought, RX8, 6, (some .int))
abbrev mX8_when : pm_I := (cX8_when, RX8, 4, (some .int))
abbrev mX8_sellers : pm_I := (cX8_sellers, RX8, 13, (some .int))
abbrev mX8_clears : pm_I := (cX8_clears, RX8, 2, (some .int))
abbrev mX8_daysLeft : pm_I := (cX8_daysLeft, RX8, 2, (some .int))
abbrev mX8_fewestLeft : pm_I := (cX8_fewestLeft, RX8, 3, (some .int))
abbrev mX8_patches : pm_I := (cX8_patches, RX8, 4, (some .int))
abbrev mX8_trades : pm_I := (cX8_trades, RX8, 4, (some .int))
abbrev mX8_fell : pm_I := (cX8_fell, RX8, 10, (some .int))
abbrev mX8_gains : pm_I := (cX8_gains, RX8, 6, (some .int))
abbrev mX8_seed : pm_I := (cX8_seed, RX8, 3, (some .int))
abbrev mX8_ran : pm_I := (cX8_ran, RX8, 2, none)
abbrev mX8_rainsBy : pm_I := (cX8_rainsBy, RX8, 3, (some .int))
abbrev mX8_driftsBy : pm_I := (cX8_driftsBy, RX8, 4, (some .int))
abbrev mX8_wearsBy : pm_I := (cX8_wearsBy, RX8, 3, (some .int))
abbrev mX8_tellsBy : pm_I := (cX8_tellsBy, RX8, 4, (some .int))
abbrev mX8_voice : pm_I := (cX8_voice, RX8, 5, (some .int))
abbrev mX8_trace : pm_I := (cX8_trace, RX8, 2, (some .int))
abbrev mX8_isSheet : pm_I := (cX8_isSheet, RX8, 1, (some .boolean))
abbrev mX8_sheet : pm_I := (cX8_sheet, RX8, 5, (some .int))
abbrev mX8_put : pm_I := (cX8_put, RX8, 4, (some .int))
abbrev mX8_move : pm_I := (cX8_move, RX8, 7, (some .int))
abbrev mX8_shares : pm_I := (cX8_shares, RX8, 3, (some .int))
abbrev mX8_judge : pm_I := (cX8_judge, RX8, 3, (some .int))
abbrev mX8_image : pm_I := (cX8_image, RX8, 2, (some .int))
abbrev mX8_restore : pm_I := (cX8_restore, RX8, 2, (some .int))
abbrev mX8_tell : pm_I := (cX8_tell, RX8, 2, (some .int))
abbrev mX8_check : pm_I := (cX8_check, RX8, 4, (some .int))
abbrev mX8_count : pm_I := (cX8_count, RX8, 4, (some .int))
abbrev mX8_told : pm_I := (cX8_told, RX8, 2, (some .int))
abbrev mJ_bitCount : pm_I := (cJ_bitCount, "java/lang/Integer", 1, (some .int))
theorem kX0_copyFrom : pm_cv yX0_copyFrom mX0_copyFrom := ⟨(pm_w 608 (by decide +kernel) rfl), (pm_w 609 (by decide +kernel) rfl), (pm_w 63 (by decide +kernel) rfl), (pm_w3 71 rfl rfl), by decide +kernel, by decide +kernel, by decide⟩
theorem nX0_copyFrom : pm_np yX0_copyFrom 1 := by unfold pm_np; decide +kernel
theorem kX0_add : pm_cv yX0_add mX0_add := ⟨(pm_w 401 (by decide +kernel) rfl), (pm_w 402 (by decide +kernel) rfl), (pm_w 63 (by decide +kernel) rfl), (pm_w2 104 rfl rfl), by decide +kernel, by decide +kernel, by decide⟩
theorem nX0_add : pm_np yX0_add 2 := by unfold pm_np; decide +kernel
theorem kX0_setKind : pm_cv yX0_setKind mX0_setKind := ⟨(pm_w 405 (by decide +kernel) rfl), (pm_w 406 (by decide +kernel) rfl), (pm_w 63 (by decide +kernel) rfl), (pm_w2 108 rfl rfl), by decide +kernel, by decide +kernel, by decide⟩
theorem nX0_setKind : pm_np yX0_setKind 2 := by unfold pm_np; decide +kernel
theorem kX0_has : pm_cv yX0_has mX0_has := ⟨(pm_w 413 (by decide +kernel) rfl), (pm_w 414 (by decide +kernel) rfl), (pm_w 63 (by decide +kernel) rfl), (pm_w2 116 rfl rfl), by decide +kernel, by decide +kernel, by decide⟩
theorem nX0_has : pm_np yX0_has 1 := by unfold pm_np; decide +kernel
theorem kX0_isOf : pm_cv yX0_isOf mX0_isOf := ⟨(pm_w 461 (by decide +kernel) rfl), (pm_w 462 (by decide +kernel) rfl), (pm_w 63 (by decide +kernel) rfl), (pm_w2 164 rfl rfl), by decide +kernel, by decide +kernel, by decide⟩
theorem nX0_isOf : pm_np yX0_isOf 2 := by unfold pm_np; decide +kernel
theorem kX0_lasting : pm_cv yX0_lasting mX0_lasting := ⟨(pm_w 417 (by decide +kernel) rfl), (pm_w 418 (by decide +kernel) rfl), (pm_w 63 (by decide +kernel) rfl), (pm_w2 120 rfl rfl), by decide +kernel, by decide +kernel, by decide⟩
theorem nX0_lasting : pm_np yX0_lasting 1 := by unfold pm_np; decide +kernel
theorem kX0_isSpent : pm_cv yX0_isSpent mX0_isSpent := ⟨(pm_w 421 (by decide +kernel) rfl), (pm_w 422 (by decide +kernel) rfl), (pm_w 63 (by decide +kernel) rfl), (pm_w2 124 rfl rfl), by decide +kernel, by decide +kernel, by decide⟩
theorem nX0_isSpent : pm_np yX0_isSpent 1 := by unfold pm_np; decide +kernel
theorem kX0_spentMany : pm_cv yX0_spentMany mX0_spentMany := ⟨(pm_w 784 (by decide +kernel) rfl), (pm_w 785 (by decide +kernel) rfl), (pm_w 63 (by decide +kernel) rfl), (pm_w4 7 rfl rfl), by decide +kernel, by decide +kernel, by decide⟩
theorem nX0_spentMany : pm_np yX0_spentMany 0 := by unfold pm_np; decide +kernel
theorem kX0_setOver : pm_cv yX0_setOver mX0_setOver := ⟨(pm_w 353 (by decide +kernel) rfl), (pm_w 354 (by decide +kernel) rfl), (pm_w 63 (by decide +kernel) rfl), (pm_w2 56 rfl rfl), by decide +kernel, by decide +kernel, by decide⟩
theorem nX0_setOver : pm_np yX0_setOver 1 := by unfold pm_np; decide +kernel
theorem kX0_daysLeft : pm_cv yX0_daysLeft mX0_daysLeft := ⟨(pm_w 661 (by decide +kernel) rfl), (pm_w 662 (by decide +kernel) rfl), (pm_w 63 (by decide +kernel) rfl), (pm_w3 124 rfl rfl), by decide +kernel, by decide +kernel, by decide⟩
theorem nX0_daysLeft : pm_np yX0_daysLeft 1 := by unfold pm_np; decide +kernel
theorem kX0_weakest : pm_cv yX0_weakest mX0_weakest := ⟨(pm_w 657 (by decide +kernel) rfl), (pm_w 658 (by decide +kernel) rfl), (pm_w 63 (by decide +kernel) rfl), (pm_w3 120 rfl rfl), by decide +kernel, by decide +kernel, by decide⟩
theorem nX0_weakest : pm_np yX0_weakest 0 := by unfold pm_np; decide +kernel
theorem kX1_take : pm_cv yX1_take mX1_take := ⟨(pm_w 522 (by decide +kernel) rfl), (pm_w 523 (by decide +kernel) rfl), (pm_w 64 (by decide +kernel) rfl), (pm_w2 225 rfl rfl), by decide +kernel, by decide +kernel, by decide⟩
theorem nX1_take : pm_np yX1_take 2 := by unfold pm_np; decide +kernel
theorem kX1_given : pm_cv yX1_given mX1_given := ⟨(pm_w 430 (by decide +kernel) rfl), (pm_w 431 (by decide +kernel) rfl), (pm_w 64 (by decide +kernel) rfl), (pm_w2 133 rfl rfl), by decide +kernel, by decide +kernel, by decide⟩
theorem nX1_given : pm_np yX1_given 3 := by unfold pm_np; decide +kernel
theorem kX1_join : pm_cs yX1_join mX1_join := ⟨(pm_w 434 (by decide +kernel) rfl), (pm_w 64 (by decide +kernel) rfl), (pm_w2 136 rfl rfl), by decide +kernel, by decide +kernel, by decide⟩
theorem nX1_join : pm_np yX1_join 3 := by unfold pm_np; decide +kernel
theorem kX2_read : pm_cv yX2_read mX2_read := ⟨(pm_w 479 (by decide +kernel) rfl), (pm_w 480 (by decide +kernel) rfl), (pm_w 65 (by decide +kernel) rfl), (pm_w2 182 rfl rfl), by decide +kernel, by decide +kernel, by decide⟩
theorem nX2_read : pm_np yX2_read 3 := by unfold pm_np; decide +kernel
theorem kX2_readJoined : pm_cv yX2_readJoined mX2_readJoined := ⟨(pm_w 487 (by decide +kernel) rfl), (pm_w 2 (by decide +kernel) rfl), (pm_w 65 (by decide +kernel) rfl), (pm_w2 189 rfl rfl), by decide +kernel, by decide +kernel, by decide⟩
theorem nX2_readJoined : pm_np yX2_readJoined 2 := by unfold pm_np; decide +kernel
theorem kX2_readSingle : pm_cv yX2_readSingle mX2_readSingle := ⟨(pm_w 491 (by decide +kernel) rfl), (pm_w 3 (by decide +kernel) rfl), (pm_w 65 (by decide +kernel) rfl), (pm_w2 193 rfl rfl), by decide +kernel, by decide +kernel, by decide⟩
theorem nX2_readSingle : pm_np yX2_readSingle 1 := by unfold pm_np; decide +kernel
theorem kX2_readClosing : pm_cv yX2_readClosing mX2_readClosing := ⟨(pm_w 516 (by decide +kernel) rfl), (pm_w 8 (by decide +kernel) rfl), (pm_w 65 (by decide +kernel) rfl), (pm_w2 218 rfl rfl), by decide +kernel, by decide +kernel, by decide⟩
theorem nX2_readClosing : pm_np yX2_readClosing 0 := by unfold pm_np; decide +kernel
theorem kX2_readNumber : pm_cv yX2_readNumber mX2_readNumber := ⟨(pm_w 508 (by decide +kernel) rfl), (pm_w 6 (by decide +kernel) rfl), (pm_w 65 (by decide +kernel) rfl), (pm_w2 210 rfl rfl), by decide +kernel, by decide +kernel, by decide⟩
theorem nX2_readNumber : pm_np yX2_readNumber 0 := by unfold pm_np; decide +kernel
theorem kX2_next : pm_cv yX2_next mX2_next := ⟨(pm_w 495 (by decide +kernel) rfl), (pm_w 4 (by decide +kernel) rfl), (pm_w 65 (by decide +kernel) rfl), (pm_w2 197 rfl rfl), by decide +kernel, by decide +kernel, by decide⟩
theorem nX2_next : pm_np yX2_next 0 := by unfold pm_np; decide +kernel
theorem kX2_write : pm_cv yX2_write mX2_write := ⟨(pm_w 512 (by decide +kernel) rfl), (pm_w 7 (by decide +kernel) rfl), (pm_w 65 (by decide +kernel) rfl), (pm_w2 214 rfl rfl), by decide +kernel, by decide +kernel, by decide⟩
theorem nX2_write : pm_np yX2_write 1 := by unfold pm_np; decide +kernel
theorem kX2_isDigit : pm_cs yX2_isDigit mX2_isDigit := ⟨(pm_w 504 (by decide +kernel) rfl), (pm_w 65 (by decide +kernel) rfl), (pm_w2 206 rfl rfl), by decide +kernel, by decide +kernel, by decide⟩
theorem nX2_isDigit : pm_np yX2_isDigit 1 := by unfold pm_np; decide +kernel
theorem kX2_nameOf : pm_cv yX2_nameOf mX2_nameOf := ⟨(pm_w 499 (by decide +kernel) rfl), (pm_w 5 (by decide +kernel) rfl), (pm_w 65 (by decide +kernel) rfl), (pm_w2 201 rfl rfl), by decide +kernel, by decide +kernel, by decide⟩
theorem nX2_nameOf : pm_np yX2_nameOf 1 := by unfold pm_np; decide +kernel
theorem kX2_joins : pm_cs yX2_joins mX2_joins := ⟨(pm_w 519 (by decide +kernel) rfl), (pm_w 65 (by decide +kernel) rfl), (pm_w2 221 rfl rfl), by decide +kernel, by decide +kernel, by decide⟩
theorem nX2_joins : pm_np yX2_joins 2 := by unfold pm_np; decide +kernel
theorem kX3_copyFrom : pm_cv yX3_copyFrom mX3_copyFrom := ⟨(pm_w 603 (by decide +kernel) rfl), (pm_w 604 (by decide +kernel) rfl), (pm_w 62 (by decide +kernel) rfl), (pm_w3 66 rfl rfl), by decide +kernel, by decide +kernel, by decide⟩
theorem nX3_copyFrom : pm_np yX3_copyFrom 1 := by unfold pm_np; decide +kernel
theorem kX3_add : pm_cv yX3_add mX3_add := ⟨(pm_w 341 (by decide +kernel) rfl), (pm_w 342 (by decide +kernel) rfl), (pm_w 62 (by decide +kernel) rfl), (pm_w2 44 rfl rfl), by decide +kernel, by decide +kernel, by decide⟩
theorem nX3_add : pm_np yX3_add 1 := by unfold pm_np; decide +kernel
theorem kX3_has : pm_cv yX3_has mX3_has := ⟨(pm_w 349 (by decide +kernel) rfl), (pm_w 350 (by decide +kernel) rfl), (pm_w 62 (by decide +kernel) rfl), (pm_w2 52 rfl rfl), by decide +kernel, by decide +kernel, by decide⟩
theorem nX3_has : pm_np yX3_has 1 := by unfold pm_np; decide +kernel
theorem kX3_areTwo : pm_cv yX3_areTwo mX3_areTwo := ⟨(pm_w 377 (by decide +kernel) rfl), (pm_w 378 (by decide +kernel) rfl), (pm_w 62 (by decide +kernel) rfl), (pm_w2 80 rfl rfl), by decide +kernel, by decide +kernel, by decide⟩
theorem nX3_areTwo : pm_np yX3_areTwo 2 := by unfold pm_np; decide +kernel
theorem kX3_sum : pm_cv yX3_sum mX3_sum := ⟨(pm_w 361 (by decide +kernel) rfl), (pm_w 362 (by decide +kernel) rfl), (pm_w 62 (by decide +kernel) rfl), (pm_w2 64 rfl rfl), by decide +kernel, by decide +kernel, by decide⟩
theorem nX3_sum : pm_np yX3_sum 1 := by unfold pm_np; decide +kernel
theorem kX3_sumOver : pm_cv yX3_sumOver mX3_sumOver := ⟨(pm_w 632 (by decide +kernel) rfl), (pm_w 633 (by decide +kernel) rfl), (pm_w 62 (by decide +kernel) rfl), (pm_w3 95 rfl rfl), by decide +kernel, by decide +kernel, by decide⟩
theorem nX3_sumOver : pm_np yX3_sumOver 2 := by unfold pm_np; decide +kernel
theorem kX3_owedToAll : pm_cv yX3_owedToAll mX3_owedToAll := ⟨(pm_w 357 (by decide +kernel) rfl), (pm_w 358 (by decide +kernel) rfl), (pm_w 62 (by decide +kernel) rfl), (pm_w2 60 rfl rfl), by decide +kernel, by decide +kernel, by decide⟩
theorem nX3_owedToAll : pm_np yX3_owedToAll 1 := by unfold pm_np; decide +kernel
theorem kX3_mostInArrears : pm_cv yX3_mostInArrears mX3_mostInArrears := ⟨(pm_w 544 (by decide +kernel) rfl), (pm_w 545 (by decide +kernel) rfl), (pm_w 62 (by decide +kernel) rfl), (pm_w3 7 rfl rfl), by decide +kernel, by decide +kernel, by decide⟩
theorem nX3_mostInArrears : pm_np yX3_mostInArrears 0 := by unfold pm_np; decide +kernel
theorem kX3_bestSellers : pm_cv yX3_bestSellers mX3_bestSellers := ⟨(pm_w 628 (by decide +kernel) rfl), (pm_w 629 (by decide +kernel) rfl), (pm_w 62 (by decide +kernel) rfl), (pm_w3 91 rfl rfl), by decide +kernel, by decide +kernel, by decide⟩
theorem nX3_bestSellers : pm_np yX3_bestSellers 1 := by unfold pm_np; decide +kernel
theorem kX3_sellsRather : pm_cv yX3_sellsRather mX3_sellsRather := ⟨(pm_w 637 (by decide +kernel) rfl), (pm_w 15 (by decide +kernel) rfl), (pm_w 62 (by decide +kernel) rfl), (pm_w3 99 rfl rfl), by decide +kernel, by decide +kernel, by decide⟩
theorem nX3_sellsRather : pm_np yX3_sellsRather 2 := by unfold pm_np; decide +kernel
theorem kX3_tradingPairs : pm_cv yX3_tradingPairs mX3_tradingPairs := ⟨(pm_w 671 (by decide +kernel) rfl), (pm_w 672 (by decide +kernel) rfl), (pm_w 62 (by decide +kernel) rfl), (pm_w3 134 rfl rfl), by decide +kernel, by decide +kernel, by decide⟩
theorem nX3_tradingPairs : pm_np yX3_tradingPairs 0 := by unfold pm_np; decide +kernel
theorem kX3_clearDebts : pm_cv yX3_clearDebts mX3_clearDebts := ⟨(pm_w 582 (by decide +kernel) rfl), (pm_w 583 (by decide +kernel) rfl), (pm_w 62 (by decide +kernel) rfl), (pm_w3 45 rfl rfl), by decide +kernel, by decide +kernel, by decide⟩
theorem nX3_clearDebts : pm_np yX3_clearDebts 0 := by unfold pm_np; decide +kernel
theorem kX3_clearPair : pm_cv yX3_clearPair mX3_clearPair := ⟨(pm_w 587 (by decide +kernel) rfl), (pm_w 13 (by decide +kernel) rfl), (pm_w 62 (by decide +kernel) rfl), (pm_w3 49 rfl rfl), by decide +kernel, by decide +kernel, by decide⟩
theorem nX3_clearPair : pm_np yX3_clearPair 2 := by unfold pm_np; decide +kernel
theorem kX3_clearRing : pm_cv yX3_clearRing mX3_clearRing := ⟨(pm_w 592 (by decide +kernel) rfl), (pm_w 14 (by decide +kernel) rfl), (pm_w 62 (by decide +kernel) rfl), (pm_w3 54 rfl rfl), by decide +kernel, by decide +kernel, by decide⟩
theorem nX3_clearRing : pm_np yX3_clearRing 3 := by unfold pm_np; decide +kernel
theorem kX4_isMissing : pm_cv yX4_isMissing mX4_isMissing := ⟨(pm_w 682 (by decide +kernel) rfl), (pm_w 683 (by decide +kernel) rfl), (pm_w 67 (by decide +kernel) rfl), (pm_w3 145 rfl rfl), by decide +kernel, by decide +kernel, by decide⟩
theorem nX4_isMissing : pm_np yX4_isMissing 0 := by unfold pm_np; decide +kernel
theorem kX4_lay : pm_cv yX4_lay mX4_lay := ⟨(pm_w 735 (by decide +kernel) rfl), (pm_w 736 (by decide +kernel) rfl), (pm_w 67 (by decide +kernel) rfl), (pm_w3 198 rfl rfl), by decide +kernel, by decide +kernel, by decide⟩
theorem nX4_lay : pm_np yX4_lay 2 := by unfold pm_np; decide +kernel
theorem kX4_cutToBits : pm_cv yX4_cutToBits mX4_cutToBits := ⟨(pm_w 743 (by decide +kernel) rfl), (pm_w 744 (by decide +kernel) rfl), (pm_w 67 (by decide +kernel) rfl), (pm_w3 206 rfl rfl), by decide +kernel, by decide +kernel, by decide⟩
theorem nX4_cutToBits : pm_np yX4_cutToBits 1 := by unfold pm_np; decide +kernel
theorem kX4_holds : pm_cv yX4_holds mX4_holds := ⟨(pm_w 751 (by decide +kernel) rfl), (pm_w 752 (by decide +kernel) rfl), (pm_w 67 (by decide +kernel) rfl), (pm_w3 214 rfl rfl), by decide +kernel, by decide +kernel, by decide⟩
theorem nX4_holds : pm_np yX4_holds 2 := by unfold pm_np; decide +kernel
theorem kX5_copyFrom : pm_cv yX5_copyFrom mX5_copyFrom := ⟨(pm_w 599 (by decide +kernel) rfl), (pm_w 600 (by decide +kernel) rfl), (pm_w 61 (by decide +kernel) rfl), (pm_w3 62 rfl rfl), by decide +kernel, by decide +kernel, by decide⟩
theorem nX5_copyFrom : pm_np yX5_copyFrom 1 := by unfold pm_np; decide +kernel
theorem kX5_dropsOn : pm_cv yX5_dropsOn mX5_dropsOn := ⟨(pm_w 426 (by decide +kernel) rfl), (pm_w 427 (by decide +kernel) rfl), (pm_w 61 (by decide +kernel) rfl), (pm_w2 129 rfl rfl), by decide +kernel, by decide +kernel, by decide⟩
theorem nX5_dropsOn : pm_np yX5_dropsOn 2 := by unfold pm_np; decide +kernel
theorem kX5_nextOver : pm_cv yX5_nextOver mX5_nextOver := ⟨(pm_w 445 (by decide +kernel) rfl), (pm_w 446 (by decide +kernel) rfl), (pm_w 61 (by decide +kernel) rfl), (pm_w2 148 rfl rfl), by decide +kernel, by decide +kernel, by decide⟩
theorem nX5_nextOver : pm_np yX5_nextOver 1 := by unfold pm_np; decide +kernel
theorem kX5_passDays : pm_cv yX5_passDays mX5_passDays := ⟨(pm_w 536 (by decide +kernel) rfl), (pm_w 537 (by decide +kernel) rfl), (pm_w 61 (by decide +kernel) rfl), (pm_w2 239 rfl rfl), by decide +kernel, by decide +kernel, by decide⟩
theorem nX5_passDays : pm_np yX5_passDays 1 := by unfold pm_np; decide +kernel
theorem kX5_aim : pm_cv yX5_aim mX5_aim := ⟨(pm_w 540 (by decide +kernel) rfl), (pm_w 541 (by decide +kernel) rfl), (pm_w 61 (by decide +kernel) rfl), (pm_w3 3 rfl rfl), by decide +kernel, by decide +kernel, by decide⟩
theorem nX5_aim : pm_np yX5_aim 0 := by unfold pm_np; decide +kernel
theorem kX5_rain : pm_cv yX5_rain mX5_rain := ⟨(pm_w 551 (by decide +kernel) rfl), (pm_w 9 (by decide +kernel) rfl), (pm_w 61 (by decide +kernel) rfl), (pm_w3 13 rfl rfl), by decide +kernel, by decide +kernel, by decide⟩
theorem nX5_rain : pm_np yX5_rain 0 := by unfold pm_np; decide +kernel
theorem kX5_charge : pm_cv yX5_charge mX5_charge := ⟨(pm_w 556 (by decide +kernel) rfl), (pm_w 10 (by decide +kernel) rfl), (pm_w 61 (by decide +kernel) rfl), (pm_w3 18 rfl rfl), by decide +kernel, by decide +kernel, by decide⟩
theorem nX5_charge : pm_np yX5_charge 0 := by unfold pm_np; decide +kernel
theorem kX5_drift : pm_cv yX5_drift mX5_drift := ⟨(pm_w 560 (by decide +kernel) rfl), (pm_w 11 (by decide +kernel) rfl), (pm_w 61 (by decide +kernel) rfl), (pm_w3 22 rfl rfl), by decide +kernel, by decide +kernel, by decide⟩
theorem nX5_drift : pm_np yX5_drift 0 := by unfold pm_np; decide +kernel
theorem kX5_wouldGive : pm_cv yX5_wouldGive mX5_wouldGive := ⟨(pm_w 687 (by decide +kernel) rfl), (pm_w 688 (by decide +kernel) rfl), (pm_w 61 (by decide +kernel) rfl), (pm_w3 150 rfl rfl), by decide +kernel, by decide +kernel, by decide⟩
theorem nX5_wouldGive : pm_np yX5_wouldGive 2 := by unfold pm_np; decide +kernel
theorem kX5_scatter : pm_cv yX5_scatter mX5_scatter := ⟨(pm_w 569 (by decide +kernel) rfl), (pm_w 570 (by decide +kernel) rfl), (pm_w 61 (by decide +kernel) rfl), (pm_w3 32 rfl rfl), by decide +kernel, by decide +kernel, by decide⟩
theorem nX5_scatter : pm_np yX5_scatter 0 := by unfold pm_np; decide +kernel
theorem kX5_draw : pm_cv yX5_draw mX5_draw := ⟨(pm_w 574 (by decide +kernel) rfl), (pm_w 12 (by decide +kernel) rfl), (pm_w 61 (by decide +kernel) rfl), (pm_w3 36 rfl rfl), by decide +kernel, by decide +kernel, by decide⟩
theorem nX5_draw : pm_np yX5_draw 0 := by unfold pm_np; decide +kernel
theorem kX5_rest : pm_cs yX5_rest mX5_rest := ⟨(pm_w 449 (by decide +kernel) rfl), (pm_w 61 (by decide +kernel) rfl), (pm_w2 151 rfl rfl), by decide +kernel, by decide +kernel, by decide⟩
theorem nX5_rest : pm_np yX5_rest 2 := by unfold pm_np; decide +kernel
theorem kX6_answer : pm_cv yX6_answer mX6_answer := ⟨(pm_w 708 (by decide +kernel) rfl), (pm_w 709 (by decide +kernel) rfl), (pm_w 66 (by decide +kernel) rfl), (pm_w3 171 rfl rfl), by decide +kernel, by decide +kernel, by decide⟩
theorem nX6_answer : pm_np yX6_answer 5 := by unfold pm_np; decide +kernel
theorem kX6_say : pm_cv yX6_say mX6_say := ⟨(pm_w 713 (by decide +kernel) rfl), (pm_w 17 (by decide +kernel) rfl), (pm_w 66 (by decide +kernel) rfl), (pm_w3 175 rfl rfl), by decide +kernel, by decide +kernel, by decide⟩
theorem nX6_say : pm_np yX6_say 4 := by unfold pm_np; decide +kernel
theorem kX6_sayBody : pm_cv yX6_sayBody mX6_sayBody := ⟨(pm_w 724 (by decide +kernel) rfl), (pm_w 19 (by decide +kernel) rfl), (pm_w 66 (by decide +kernel) rfl), (pm_w3 186 rfl rfl), by decide +kernel, by decide +kernel, by decide⟩
theorem nX6_sayBody : pm_np yX6_sayBody 4 := by unfold pm_np; decide +kernel
theorem kX6_note : pm_cv yX6_note mX6_note := ⟨(pm_w 720 (by decide +kernel) rfl), (pm_w 18 (by decide +kernel) rfl), (pm_w 66 (by decide +kernel) rfl), (pm_w3 182 rfl rfl), by decide +kernel, by decide +kernel, by decide⟩
theorem nX6_note : pm_np yX6_note 1 := by unfold pm_np; decide +kernel
theorem kX7_roof : pm_cv yX7_roof mX7_roof := ⟨(pm_w 329 (by decide +kernel) rfl), (pm_w 330 (by decide +kernel) rfl), (pm_w 60 (by decide +kernel) rfl), (pm_w2 32 rfl rfl), by decide +kernel, by decide +kernel, by decide⟩
theorem nX7_roof : pm_np yX7_roof 1 := by unfold pm_np; decide +kernel
theorem kX7_ofRoof : pm_cv yX7_ofRoof mX7_ofRoof := ⟨(pm_w 345 (by decide +kernel) rfl), (pm_w 346 (by decide +kernel) rfl), (pm_w 60 (by decide +kernel) rfl), (pm_w2 48 rfl rfl), by decide +kernel, by decide +kernel, by decide⟩
theorem nX7_ofRoof : pm_np yX7_ofRoof 2 := by unfold pm_np; decide +kernel
theorem kX7_change : pm_cv yX7_change mX7_change := ⟨(pm_w 365 (by decide +kernel) rfl), (pm_w 366 (by decide +kernel) rfl), (pm_w 60 (by decide +kernel) rfl), (pm_w2 68 rfl rfl), by decide +kernel, by decide +kernel, by decide⟩
theorem nX7_change : pm_np yX7_change 3 := by unfold pm_np; decide +kernel
theorem kX7_owe : pm_cv yX7_owe mX7_owe := ⟨(pm_w 373 (by decide +kernel) rfl), (pm_w 374 (by decide +kernel) rfl), (pm_w 60 (by decide +kernel) rfl), (pm_w2 76 rfl rfl), by decide +kernel, by decide +kernel, by decide⟩
theorem nX7_owe : pm_np yX7_owe 3 := by unfold pm_np; decide +kernel
theorem kX7_owed : pm_cv yX7_owed mX7_owed := ⟨(pm_w 382 (by decide +kernel) rfl), (pm_w 383 (by decide +kernel) rfl), (pm_w 60 (by decide +kernel) rfl), (pm_w2 85 rfl rfl), by decide +kernel, by decide +kernel, by decide⟩
theorem nX7_owed : pm_np yX7_owed 2 := by unfold pm_np; decide +kernel
theorem kX7_pay : pm_cv yX7_pay mX7_pay := ⟨(pm_w 386 (by decide +kernel) rfl), (pm_w 387 (by decide +kernel) rfl), (pm_w 60 (by decide +kernel) rfl), (pm_w2 89 rfl rfl), by decide +kernel, by decide +kernel, by decide⟩
theorem nX7_pay : pm_np yX7_pay 2 := by unfold pm_np; decide +kernel
theorem kX7_sell : pm_cv yX7_sell mX7_sell := ⟨(pm_w 390 (by decide +kernel) rfl), (pm_w 391 (by decide +kernel) rfl), (pm_w 60 (by decide +kernel) rfl), (pm_w2 93 rfl rfl), by decide +kernel, by decide +kernel, by decide⟩
theorem nX7_sell : pm_np yX7_sell 3 := by unfold pm_np; decide +kernel
theorem kX7_cloud : pm_cv yX7_cloud mX7_cloud := ⟨(pm_w 394 (by decide +kernel) rfl), (pm_w 395 (by decide +kernel) rfl), (pm_w 60 (by decide +kernel) rfl), (pm_w2 97 rfl rfl), by decide +kernel, by decide +kernel, by decide⟩
theorem nX7_cloud : pm_np yX7_cloud 2 := by unfold pm_np; decide +kernel
theorem kX7_ofCloud : pm_cv yX7_ofCloud mX7_ofCloud := ⟨(pm_w 409 (by decide +kernel) rfl), (pm_w 410 (by decide +kernel) rfl), (pm_w 60 (by decide +kernel) rfl), (pm_w2 112 rfl rfl), by decide +kernel, by decide +kernel, by decide⟩
theorem nX7_ofCloud : pm_np yX7_ofCloud 2 := by unfold pm_np; decide +kernel
theorem kX7_become : pm_cv yX7_become mX7_become := ⟨(pm_w 452 (by decide +kernel) rfl), (pm_w 453 (by decide +kernel) rfl), (pm_w 60 (by decide +kernel) rfl), (pm_w2 155 rfl rfl), by decide +kernel, by decide +kernel, by decide⟩
theorem nX7_become : pm_np yX7_become 2 := by unfold pm_np; decide +kernel
theorem kX7_as : pm_cv yX7_as mX7_as := ⟨(pm_w 457 (by decide +kernel) rfl), (pm_w 458 (by decide +kernel) rfl), (pm_w 60 (by decide +kernel) rfl), (pm_w2 160 rfl rfl), by decide +kernel, by decide +kernel, by decide⟩
theorem nX7_as : pm_np yX7_as 2 := by unfold pm_np; decide +kernel
theorem kX7_lead : pm_cv yX7_lead mX7_lead := ⟨(pm_w 467 (by decide +kernel) rfl), (pm_w 468 (by decide +kernel) rfl), (pm_w 60 (by decide +kernel) rfl), (pm_w2 170 rfl rfl), by decide +kernel, by decide +kernel, by decide⟩
theorem nX7_lead : pm_np yX7_lead 3 := by unfold pm_np; decide +kernel
theorem kX7_feed : pm_cv yX7_feed mX7_feed := ⟨(pm_w 471 (by decide +kernel) rfl), (pm_w 472 (by decide +kernel) rfl), (pm_w 60 (by decide +kernel) rfl), (pm_w2 174 rfl rfl), by decide +kernel, by decide +kernel, by decide⟩
theorem nX7_feed : pm_np yX7_feed 2 := by unfold pm_np; decide +kernel
theorem kX7_text : pm_cv yX7_text mX7_text := ⟨(pm_w 475 (by decide +kernel) rfl), (pm_w 476 (by decide +kernel) rfl), (pm_w 60 (by decide +kernel) rfl), (pm_w2 178 rfl rfl), by decide +kernel, by decide +kernel, by decide⟩
theorem nX7_text : pm_np yX7_text 1 := by unfold pm_np; decide +kernel
theorem kX7_law : pm_cv yX7_law mX7_law := ⟨(pm_w 527 (by decide +kernel) rfl), (pm_w 528 (by decide +kernel) rfl), (pm_w 60 (by decide +kernel) rfl), (pm_w2 230 rfl rfl), by decide +kernel, by decide +kernel, by decide⟩
theorem nX7_law : pm_np yX7_law 4 := by unfold pm_np; decide +kernel
theorem kX7_days : pm_cv yX7_days mX7_days := ⟨(pm_w 532 (by decide +kernel) rfl), (pm_w 533 (by decide +kernel) rfl), (pm_w 60 (by decide +kernel) rfl), (pm_w2 235 rfl rfl), by decide +kernel, by decide +kernel, by decide⟩
theorem nX7_days : pm_np yX7_days 1 := by unfold pm_np; decide +kernel
theorem kX7_loose : pm_cv yX7_loose mX7_loose := ⟨(pm_w 565 (by decide +kernel) rfl), (pm_w 566 (by decide +kernel) rfl), (pm_w 60 (by decide +kernel) rfl), (pm_w3 28 rfl rfl), by decide +kernel, by decide +kernel, by decide⟩
theorem nX7_loose : pm_np yX7_loose 1 := by unfold pm_np; decide +kernel
theorem kX7_clear : pm_cv yX7_clear mX7_clear := ⟨(pm_w 578 (by decide +kernel) rfl), (pm_w 579 (by decide +kernel) rfl), (pm_w 60 (by decide +kernel) rfl), (pm_w3 41 rfl rfl), by decide +kernel, by decide +kernel, by decide⟩
theorem nX7_clear : pm_np yX7_clear 0 := by unfold pm_np; decide +kernel
theorem kX7_then : pm_cv yX7_then mX7_then := ⟨(pm_w 595 (by decide +kernel) rfl), (pm_w 596 (by decide +kernel) rfl), (pm_w 60 (by decide +kernel) rfl), (pm_w3 58 rfl rfl), by decide +kernel, by decide +kernel, by decide⟩
theorem nX7_then : pm_np yX7_then 3 := by unfold pm_np; decide +kernel
theorem kX7_drought : pm_cv yX7_drought mX7_drought := ⟨(pm_w 615 (by decide +kernel) rfl), (pm_w 616 (by decide +kernel) rfl), (pm_w 60 (by decide +kernel) rfl), (pm_w3 78 rfl rfl), by decide +kernel, by decide +kernel, by decide⟩
theorem nX7_drought : pm_np yX7_drought 2 := by unfold pm_np; decide +kernel
theorem kX7_when : pm_cv yX7_when mX7_when := ⟨(pm_w 620 (by decide +kernel) rfl), (pm_w 621 (by decide +kernel) rfl), (pm_w 60 (by decide +kernel) rfl), (pm_w3 83 rfl rfl), by decide +kernel, by decide +kernel, by decide⟩
theorem nX7_when : pm_np yX7_when 2 := by unfold pm_np; decide +kernel
theorem kX7_sellers : pm_cv yX7_sellers mX7_sellers := ⟨(pm_w 624 (by decide +kernel) rfl), (pm_w 625 (by decide +kernel) rfl), (pm_w 60 (by decide +kernel) rfl), (pm_w3 87 rfl rfl), by decide +kernel, by decide +kernel, by decide⟩
theorem nX7_sellers : pm_np yX7_sellers 2 := by unfold pm_np; decide +kernel
theorem kX7_clears : pm_cv yX7_clears mX7_clears := ⟨(pm_w 647 (by decide +kernel) rfl), (pm_w 648 (by decide +kernel) rfl), (pm_w 60 (by decide +kernel) rfl), (pm_w3 110 rfl rfl), by decide +kernel, by decide +kernel, by decide⟩
theorem nX7_clears : pm_np yX7_clears 0 := by unfold pm_np; decide +kernel
theorem kX7_patches : pm_cv yX7_patches mX7_patches := ⟨(pm_w 652 (by decide +kernel) rfl), (pm_w 653 (by decide +kernel) rfl), (pm_w 60 (by decide +kernel) rfl), (pm_w3 115 rfl rfl), by decide +kernel, by decide +kernel, by decide⟩
theorem nX7_patches : pm_np yX7_patches 1 := by unfold pm_np; decide +kernel
theorem kX7_trades : pm_cv yX7_trades mX7_trades := ⟨(pm_w 667 (by decide +kernel) rfl), (pm_w 668 (by decide +kernel) rfl), (pm_w 60 (by decide +kernel) rfl), (pm_w3 130 rfl rfl), by decide +kernel, by decide +kernel, by decide⟩
theorem nX7_trades : pm_np yX7_trades 0 := by unfold pm_np; decide +kernel
theorem kX7_fell : pm_cv yX7_fell mX7_fell := ⟨(pm_w 675 (by decide +kernel) rfl), (pm_w 676 (by decide +kernel) rfl), (pm_w 60 (by decide +kernel) rfl), (pm_w3 138 rfl rfl), by decide +kernel, by decide +kernel, by decide⟩
theorem nX7_fell : pm_np yX7_fell 2 := by unfold pm_np; decide +kernel
theorem kX7_gains : pm_cv yX7_gains mX7_gains := ⟨(pm_w 691 (by decide +kernel) rfl), (pm_w 692 (by decide +kernel) rfl), (pm_w 60 (by decide +kernel) rfl), (pm_w3 154 rfl rfl), by decide +kernel, by decide +kernel, by decide⟩
theorem nX7_gains : pm_np yX7_gains 3 := by unfold pm_np; decide +kernel
theorem kX7_seed : pm_cv yX7_seed mX7_seed := ⟨(pm_w 700 (by decide +kernel) rfl), (pm_w 701 (by decide +kernel) rfl), (pm_w 60 (by decide +kernel) rfl), (pm_w3 163 rfl rfl), by decide +kernel, by decide +kernel, by decide⟩
theorem nX7_seed : pm_np yX7_seed 1 := by unfold pm_np; decide +kernel
theorem kX7_voice : pm_cv yX7_voice mX7_voice := ⟨(pm_w 704 (by decide +kernel) rfl), (pm_w 705 (by decide +kernel) rfl), (pm_w 60 (by decide +kernel) rfl), (pm_w3 167 rfl rfl), by decide +kernel, by decide +kernel, by decide⟩
theorem nX7_voice : pm_np yX7_voice 3 := by unfold pm_np; decide +kernel
theorem kX7_trace : pm_cv yX7_trace mX7_trace := ⟨(pm_w 727 (by decide +kernel) rfl), (pm_w 728 (by decide +kernel) rfl), (pm_w 60 (by decide +kernel) rfl), (pm_w3 190 rfl rfl), by decide +kernel, by decide +kernel, by decide⟩
theorem nX7_trace : pm_np yX7_trace 1 := by unfold pm_np; decide +kernel
theorem kX7_sheet : pm_cv yX7_sheet mX7_sheet := ⟨(pm_w 731 (by decide +kernel) rfl), (pm_w 732 (by decide +kernel) rfl), (pm_w 60 (by decide +kernel) rfl), (pm_w3 194 rfl rfl), by decide +kernel, by decide +kernel, by decide⟩
theorem nX7_sheet : pm_np yX7_sheet 3 := by unfold pm_np; decide +kernel
theorem kX7_put : pm_cv yX7_put mX7_put := ⟨(pm_w 739 (by decide +kernel) rfl), (pm_w 740 (by decide +kernel) rfl), (pm_w 60 (by decide +kernel) rfl), (pm_w3 202 rfl rfl), by decide +kernel, by decide +kernel, by decide⟩
theorem nX7_put : pm_np yX7_put 3 := by unfold pm_np; decide +kernel
theorem kX7_move : pm_cv yX7_move mX7_move := ⟨(pm_w 747 (by decide +kernel) rfl), (pm_w 748 (by decide +kernel) rfl), (pm_w 60 (by decide +kernel) rfl), (pm_w3 210 rfl rfl), by decide +kernel, by decide +kernel, by decide⟩
theorem nX7_move : pm_np yX7_move 5 := by unfold pm_np; decide +kernel
theorem kX7_shares : pm_cv yX7_shares mX7_shares := ⟨(pm_w 756 (by decide +kernel) rfl), (pm_w 757 (by decide +kernel) rfl), (pm_w 60 (by decide +kernel) rfl), (pm_w3 219 rfl rfl), by decide +kernel, by decide +kernel, by decide⟩
theorem nX7_shares : pm_np yX7_shares 1 := by unfold pm_np; decide +kernel
theorem kX7_judge : pm_cv yX7_judge mX7_judge := ⟨(pm_w 760 (by decide +kernel) rfl), (pm_w 761 (by decide +kernel) rfl), (pm_w 60 (by decide +kernel) rfl), (pm_w3 223 rfl rfl), by decide +kernel, by decide +kernel, by decide⟩
theorem nX7_judge : pm_np yX7_judge 1 := by unfold pm_np; decide +kernel
theorem kX7_image : pm_cv yX7_image mX7_image := ⟨(pm_w 764 (by decide +kernel) rfl), (pm_w 765 (by decide +kernel) rfl), (pm_w 60 (by decide +kernel) rfl), (pm_w3 227 rfl rfl), by decide +kernel, by decide +kernel, by decide⟩
theorem nX7_image : pm_np yX7_image 0 := by unfold pm_np; decide +kernel
theorem kX7_restore : pm_cv yX7_restore mX7_restore := ⟨(pm_w 768 (by decide +kernel) rfl), (pm_w 769 (by decide +kernel) rfl), (pm_w 60 (by decide +kernel) rfl), (pm_w3 231 rfl rfl), by decide +kernel, by decide +kernel, by decide⟩
theorem nX7_restore : pm_np yX7_restore 0 := by unfold pm_np; decide +kernel
theorem kX7_tell : pm_cv yX7_tell mX7_tell := ⟨(pm_w 772 (by decide +kernel) rfl), (pm_w 773 (by decide +kernel) rfl), (pm_w 60 (by decide +kernel) rfl), (pm_w3 235 rfl rfl), by decide +kernel, by decide +kernel, by decide⟩
theorem nX7_tell : pm_np yX7_tell 1 := by unfold pm_np; decide +kernel
theorem kX7_check : pm_cv yX7_check mX7_check := ⟨(pm_w 776 (by decide +kernel) rfl), (pm_w 777 (by decide +kernel) rfl), (pm_w 60 (by decide +kernel) rfl), (pm_w3 239 rfl rfl), by decide +kernel, by decide +kernel, by decide⟩
theorem nX7_check : pm_np yX7_check 0 := by unfold pm_np; decide +kernel
theorem kX7_count : pm_cv yX7_count mX7_count := ⟨(pm_w 780 (by decide +kernel) rfl), (pm_w 781 (by decide +kernel) rfl), (pm_w 60 (by decide +kernel) rfl), (pm_w4 3 rfl rfl), by decide +kernel, by decide +kernel, by decide⟩
theorem nX7_count : pm_np yX7_count 1 := by unfold pm_np; decide +kernel
theorem kX7_told : pm_cv yX7_told mX7_told := ⟨(pm_w 790 (by decide +kernel) rfl), (pm_w 791 (by decide +kernel) rfl), (pm_w 60 (by decide +kernel) rfl), (pm_w4 13 rfl rfl), by decide +kernel, by decide +kernel, by decide⟩
theorem nX7_told : pm_np yX7_told 1 := by unfold pm_np; decide +kernel
theorem kX7_within : pm_cs yX7_within mX7_within := ⟨(pm_w 333 (by decide +kernel) rfl), (pm_w 60 (by decide +kernel) rfl), (pm_w2 35 rfl rfl), by decide +kernel, by decide +kernel, by decide⟩
theorem nX7_within : pm_np yX7_within 3 := by unfold pm_np; decide +kernel
theorem kX7_isKindAndM : pm_cs yX7_isKindAndM mX7_isKindAndM := ⟨(pm_w 398 (by decide +kernel) rfl), (pm_w 60 (by decide +kernel) rfl), (pm_w2 100 rfl rfl), by decide +kernel, by decide +kernel, by decide⟩
theorem nX7_isKindAndM : pm_np yX7_isKindAndM 1 := by unfold pm_np; decide +kernel
theorem kX7_isSheet : pm_cs yX7_isSheet mX7_isSheet := ⟨(pm_w 679 (by decide +kernel) rfl), (pm_w 60 (by decide +kernel) rfl), (pm_w3 141 rfl rfl), by decide +kernel, by decide +kernel, by decide⟩
theorem nX7_isSheet : pm_np yX7_isSheet 1 := by unfold pm_np; decide +kernel
theorem kX7_error : pm_cv yX7_error mX7_error := ⟨(pm_w 337 (by decide +kernel) rfl), (pm_w 0 (by decide +kernel) rfl), (pm_w 60 (by decide +kernel) rfl), (pm_w2 39 rfl rfl), by decide +kernel, by decide +kernel, by decide⟩
theorem nX7_error : pm_np yX7_error 1 := by unfold pm_np; decide +kernel
theorem kX7_replace : pm_cv yX7_replace mX7_replace := ⟨(pm_w 370 (by decide +kernel) rfl), (pm_w 1 (by decide +kernel) rfl), (pm_w 60 (by decide +kernel) rfl), (pm_w2 72 rfl rfl), by decide +kernel, by decide +kernel, by decide⟩
theorem nX7_replace : pm_np yX7_replace 4 := by unfold pm_np; decide +kernel
theorem kX7_arrearsBehind : pm_cv yX7_arrearsBehind mX7_arrearsBehind := ⟨(pm_w 696 (by decide +kernel) rfl), (pm_w 16 (by decide +kernel) rfl), (pm_w 60 (by decide +kernel) rfl), (pm_w3 158 rfl rfl), by decide +kernel, by decide +kernel, by decide⟩
theorem nX7_arrearsBehind : pm_np yX7_arrearsBehind 3 := by unfold pm_np; decide +kernel
theorem kX8_finds : pm_cv yX8_finds mX8_finds := ⟨(pm_w 870 (by decide +kernel) rfl), (pm_w 20 (by decide +kernel) rfl), (pm_w 68 (by decide +kernel) rfl), (pm_w4 92 rfl rfl), by decide +kernel, by decide +kernel, by decide⟩
theorem nX8_finds : pm_np yX8_finds 1 := by unfold pm_np; decide +kernel
theorem kX8_in : pm_cs yX8_in mX8_in := ⟨(pm_w 866 (by decide +kernel) rfl), (pm_w 68 (by decide +kernel) rfl), (pm_w4 88 rfl rfl), by decide +kernel, by decide +kernel, by decide⟩
theorem nX8_in : pm_np yX8_in 3 := by unfold pm_np; decide +kernel
theorem kX8_held : pm_cs yX8_held mX8_held := ⟨(pm_w 933 (by decide +kernel) rfl), (pm_w 68 (by decide +kernel) rfl), (pm_w4 155 rfl rfl), by decide +kernel, by decide +kernel, by decide⟩
theorem nX8_held : pm_np yX8_held 3 := by unfold pm_np; decide +kernel
theorem kX8_isRoof : pm_cv yX8_isRoof mX8_isRoof := ⟨(pm_w 946 (by decide +kernel) rfl), (pm_w 33 (by decide +kernel) rfl), (pm_w 68 (by decide +kernel) rfl), (pm_w4 168 rfl rfl), by decide +kernel, by decide +kernel, by decide⟩
theorem nX8_isRoof : pm_np yX8_isRoof 1 := by unfold pm_np; decide +kernel
theorem kX8_isCloud : pm_cv yX8_isCloud mX8_isCloud := ⟨(pm_w 995 (by decide +kernel) rfl), (pm_w 37 (by decide +kernel) rfl), (pm_w 68 (by decide +kernel) rfl), (pm_w4 217 rfl rfl), by decide +kernel, by decide +kernel, by decide⟩
theorem nX8_isCloud : pm_np yX8_isCloud 1 := by unfold pm_np; decide +kernel
theorem kX8_its : pm_cv yX8_its mX8_its := ⟨(pm_w 955 (by decide +kernel) rfl), (pm_w 35 (by decide +kernel) rfl), (pm_w 68 (by decide +kernel) rfl), (pm_w4 177 rfl rfl), by decide +kernel, by decide +kernel, by decide⟩
theorem nX8_its : pm_np yX8_its 2 := by unfold pm_np; decide +kernel
theorem kX8_of : pm_cv yX8_of mX8_of := ⟨(pm_w 951 (by decide +kernel) rfl), (pm_w 34 (by decide +kernel) rfl), (pm_w 68 (by decide +kernel) rfl), (pm_w4 173 rfl rfl), by decide +kernel, by decide +kernel, by decide⟩
theorem nX8_of : pm_np yX8_of 2 := by unfold pm_np; decide +kernel
theorem kX8_keepAside : pm_cv yX8_keepAside mX8_keepAside := ⟨(pm_w 1084 (by decide +kernel) rfl), (pm_w 50 (by decide +kernel) rfl), (pm_w 68 (by decide +kernel) rfl), (pm_w5 66 rfl rfl), by decide +kernel, by decide +kernel, by decide⟩
theorem nX8_keepAside : pm_np yX8_keepAside 0 := by unfold pm_np; decide +kernel
theorem kX8_putBack : pm_cv yX8_putBack mX8_putBack := ⟨(pm_w 1088 (by decide +kernel) rfl), (pm_w 51 (by decide +kernel) rfl), (pm_w 68 (by decide +kernel) rfl), (pm_w5 70 rfl rfl), by decide +kernel, by decide +kernel, by decide⟩
theorem nX8_putBack : pm_np yX8_putBack 0 := by unfold pm_np; decide +kernel
theorem kX8_here : pm_cv yX8_here mX8_here := ⟨(pm_w 908 (by decide +kernel) rfl), (pm_w 28 (by decide +kernel) rfl), (pm_w 68 (by decide +kernel) rfl), (pm_w4 130 rfl rfl), by decide +kernel, by decide +kernel, by decide⟩
theorem nX8_here : pm_np yX8_here 0 := by unfold pm_np; decide +kernel
theorem kX8_wrong : pm_cv yX8_wrong mX8_wrong := ⟨(pm_w 912 (by decide +kernel) rfl), (pm_w 29 (by decide +kernel) rfl), (pm_w 68 (by decide +kernel) rfl), (pm_w4 134 rfl rfl), by decide +kernel, by decide +kernel, by decide⟩
theorem nX8_wrong : pm_np yX8_wrong 0 := by unfold pm_np; decide +kernel
theorem kX8_takes : pm_cv yX8_takes mX8_takes := ⟨(pm_w 916 (by decide +kernel) rfl), (pm_w 30 (by decide +kernel) rfl), (pm_w 68 (by decide +kernel) rfl), (pm_w4 138 rfl rfl), by decide +kernel, by decide +kernel, by decide⟩
theorem nX8_takes : pm_np yX8_takes 1 := by unfold pm_np; decide +kernel
theorem kX8_nameOf : pm_cv yX8_nameOf mX8_nameOf := ⟨(pm_w 920 (by decide +kernel) rfl), (pm_w 31 (by decide +kernel) rfl), (pm_w 68 (by decide +kernel) rfl), (pm_w4 142 rfl rfl), by decide +kernel, by decide +kernel, by decide⟩
theorem nX8_nameOf : pm_np yX8_nameOf 1 := by unfold pm_np; decide +kernel
theorem kX8_either : pm_cv yX8_either mX8_either := ⟨(pm_w 884 (by decide +kernel) rfl), (pm_w 22 (by decide +kernel) rfl), (pm_w 68 (by decide +kernel) rfl), (pm_w4 106 rfl rfl), by decide +kernel, by decide +kernel, by decide⟩
theorem nX8_either : pm_np yX8_either 0 := by unfold pm_np; decide +kernel
theorem kX8_both : pm_cv yX8_both mX8_both := ⟨(pm_w 888 (by decide +kernel) rfl), (pm_w 23 (by decide +kernel) rfl), (pm_w 68 (by decide +kernel) rfl), (pm_w4 110 rfl rfl), by decide +kernel, by decide +kernel, by decide⟩
theorem nX8_both : pm_np yX8_both 0 := by unfold pm_np; decide +kernel
theorem kX8_compared : pm_cv yX8_compared mX8_compared := ⟨(pm_w 892 (by decide +kernel) rfl), (pm_w 24 (by decide +kernel) rfl), (pm_w 68 (by decide +kernel) rfl), (pm_w4 114 rfl rfl), by decide +kernel, by decide +kernel, by decide⟩
theorem nX8_compared : pm_np yX8_compared 0 := by unfold pm_np; decide +kernel
theorem kX8_sum : pm_cv yX8_sum mX8_sum := ⟨(pm_w 896 (by decide +kernel) rfl), (pm_w 25 (by decide +kernel) rfl), (pm_w 68 (by decide +kernel) rfl), (pm_w4 118 rfl rfl), by decide +kernel, by decide +kernel, by decide⟩
theorem nX8_sum : pm_np yX8_sum 0 := by unfold pm_np; decide +kernel
theorem kX8_product : pm_cv yX8_product mX8_product := ⟨(pm_w 900 (by decide +kernel) rfl), (pm_w 26 (by decide +kernel) rfl), (pm_w 68 (by decide +kernel) rfl), (pm_w4 122 rfl rfl), by decide +kernel, by decide +kernel, by decide⟩
theorem nX8_product : pm_np yX8_product 0 := by unfold pm_np; decide +kernel
theorem kX8_unit : pm_cv yX8_unit mX8_unit := ⟨(pm_w 904 (by decide +kernel) rfl), (pm_w 27 (by decide +kernel) rfl), (pm_w 68 (by decide +kernel) rfl), (pm_w4 126 rfl rfl), by decide +kernel, by decide +kernel, by decide⟩
theorem nX8_unit : pm_np yX8_unit 0 := by unfold pm_np; decide +kernel
theorem kX8_worked : pm_cv yX8_worked mX8_worked := ⟨(pm_w 880 (by decide +kernel) rfl), (pm_w 21 (by decide +kernel) rfl), (pm_w 68 (by decide +kernel) rfl), (pm_w4 102 rfl rfl), by decide +kernel, by decide +kernel, by decide⟩
theorem nX8_worked : pm_np yX8_worked 3 := by unfold pm_np; decide +kernel
theorem kX8_feed : pm_cv yX8_feed mX8_feed := ⟨(pm_w 861 (by decide +kernel) rfl), (pm_w 862 (by decide +kernel) rfl), (pm_w 68 (by decide +kernel) rfl), (pm_w4 84 rfl rfl), by decide +kernel, by decide +kernel, by decide⟩
theorem nX8_feed : pm_np yX8_feed 2 := by unfold pm_np; decide +kernel
theorem kX8_text : pm_cv yX8_text mX8_text := ⟨(pm_w 875 (by decide +kernel) rfl), (pm_w 876 (by decide +kernel) rfl), (pm_w 68 (by decide +kernel) rfl), (pm_w4 98 rfl rfl), by decide +kernel, by decide +kernel, by decide⟩
theorem nX8_text : pm_np yX8_text 1 := by unfold pm_np; decide +kernel
theorem kX8_textGives : pm_cv yX8_textGives mX8_textGives := ⟨(pm_w 930 (by decide +kernel) rfl), (pm_w 32 (by decide +kernel) rfl), (pm_w 68 (by decide +kernel) rfl), (pm_w4 152 rfl rfl), by decide +kernel, by decide +kernel, by decide⟩
theorem nX8_textGives : pm_np yX8_textGives 4 := by unfold pm_np; decide +kernel
theorem kX8_law : pm_cv yX8_law mX8_law := ⟨(pm_w 925 (by decide +kernel) rfl), (pm_w 926 (by decide +kernel) rfl), (pm_w 68 (by decide +kernel) rfl), (pm_w4 148 rfl rfl), by decide +kernel, by decide +kernel, by decide⟩
theorem nX8_law : pm_np yX8_law 4 := by unfold pm_np; decide +kernel
theorem kX8_roof : pm_cv yX8_roof mX8_roof := ⟨(pm_w 936 (by decide +kernel) rfl), (pm_w 937 (by decide +kernel) rfl), (pm_w 68 (by decide +kernel) rfl), (pm_w4 159 rfl rfl), by decide +kernel, by decide +kernel, by decide⟩
theorem nX8_roof : pm_np yX8_roof 1 := by unfold pm_np; decide +kernel
theorem kX8_ofRoof : pm_cv yX8_ofRoof mX8_ofRoof := ⟨(pm_w 941 (by decide +kernel) rfl), (pm_w 942 (by decide +kernel) rfl), (pm_w 68 (by decide +kernel) rfl), (pm_w4 164 rfl rfl), by decide +kernel, by decide +kernel, by decide⟩
theorem nX8_ofRoof : pm_np yX8_ofRoof 2 := by unfold pm_np; decide +kernel
theorem kX8_change : pm_cv yX8_change mX8_change := ⟨(pm_w 958 (by decide +kernel) rfl), (pm_w 959 (by decide +kernel) rfl), (pm_w 68 (by decide +kernel) rfl), (pm_w4 181 rfl rfl), by decide +kernel, by decide +kernel, by decide⟩
theorem nX8_change : pm_np yX8_change 3 := by unfold pm_np; decide +kernel
theorem kX8_areTwo : pm_cv yX8_areTwo mX8_areTwo := ⟨(pm_w 969 (by decide +kernel) rfl), (pm_w 36 (by decide +kernel) rfl), (pm_w 68 (by decide +kernel) rfl), (pm_w4 191 rfl rfl), by decide +kernel, by decide +kernel, by decide⟩
theorem nX8_areTwo : pm_np yX8_areTwo 2 := by unfold pm_np; decide +kernel
theorem kX8_owe : pm_cv yX8_owe mX8_owe := ⟨(pm_w 964 (by decide +kernel) rfl), (pm_w 965 (by decide +kernel) rfl), (pm_w 68 (by decide +kernel) rfl), (pm_w4 187 rfl rfl), by decide +kernel, by decide +kernel, by decide⟩
theorem nX8_owe : pm_np yX8_owe 3 := by unfold pm_np; decide +kernel
theorem kX8_owed : pm_cv yX8_owed mX8_owed := ⟨(pm_w 973 (by decide +kernel) rfl), (pm_w 974 (by decide +kernel) rfl), (pm_w 68 (by decide +kernel) rfl), (pm_w4 196 rfl rfl), by decide +kernel, by decide +kernel, by decide⟩
theorem nX8_owed : pm_np yX8_owed 2 := by unfold pm_np; decide +kernel
theorem kX8_pay : pm_cv yX8_pay mX8_pay := ⟨(pm_w 977 (by decide +kernel) rfl), (pm_w 978 (by decide +kernel) rfl), (pm_w 68 (by decide +kernel) rfl), (pm_w4 200 rfl rfl), by decide +kernel, by decide +kernel, by decide⟩
theorem nX8_pay : pm_np yX8_pay 2 := by unfold pm_np; decide +kernel
theorem kX8_sell : pm_cv yX8_sell mX8_sell := ⟨(pm_w 981 (by decide +kernel) rfl), (pm_w 982 (by decide +kernel) rfl), (pm_w 68 (by decide +kernel) rfl), (pm_w4 204 rfl rfl), by decide +kernel, by decide +kernel, by decide⟩
theorem nX8_sell : pm_np yX8_sell 3 := by unfold pm_np; decide +kernel
theorem kX8_cloud : pm_cv yX8_cloud mX8_cloud := ⟨(pm_w 985 (by decide +kernel) rfl), (pm_w 986 (by decide +kernel) rfl), (pm_w 68 (by decide +kernel) rfl), (pm_w4 208 rfl rfl), by decide +kernel, by decide +kernel, by decide⟩
theorem nX8_cloud : pm_np yX8_cloud 2 := by unfold pm_np; decide +kernel
theorem kX8_fallsOn : pm_cv yX8_fallsOn mX8_fallsOn := ⟨(pm_w 1008 (by decide +kernel) rfl), (pm_w 40 (by decide +kernel) rfl), (pm_w 68 (by decide +kernel) rfl), (pm_w4 230 rfl rfl), by decide +kernel, by decide +kernel, by decide⟩
theorem nX8_fallsOn : pm_np yX8_fallsOn 2 := by unfold pm_np; decide +kernel
theorem kX8_lasts : pm_cv yX8_lasts mX8_lasts := ⟨(pm_w 1000 (by decide +kernel) rfl), (pm_w 38 (by decide +kernel) rfl), (pm_w 68 (by decide +kernel) rfl), (pm_w4 222 rfl rfl), by decide +kernel, by decide +kernel, by decide⟩
theorem nX8_lasts : pm_np yX8_lasts 1 := by unfold pm_np; decide +kernel
theorem kX8_isSpent : pm_cv yX8_isSpent mX8_isSpent := ⟨(pm_w 1004 (by decide +kernel) rfl), (pm_w 39 (by decide +kernel) rfl), (pm_w 68 (by decide +kernel) rfl), (pm_w4 226 rfl rfl), by decide +kernel, by decide +kernel, by decide⟩
theorem nX8_isSpent : pm_np yX8_isSpent 1 := by unfold pm_np; decide +kernel
theorem kX8_driftsTo : pm_cv yX8_driftsTo mX8_driftsTo := ⟨(pm_w 1012 (by decide +kernel) rfl), (pm_w 41 (by decide +kernel) rfl), (pm_w 68 (by decide +kernel) rfl), (pm_w4 234 rfl rfl), by decide +kernel, by decide +kernel, by decide⟩
theorem nX8_driftsTo : pm_np yX8_driftsTo 1 := by unfold pm_np; decide +kernel
theorem kX8_ofCloud : pm_cv yX8_ofCloud mX8_ofCloud := ⟨(pm_w 990 (by decide +kernel) rfl), (pm_w 991 (by decide +kernel) rfl), (pm_w 68 (by decide +kernel) rfl), (pm_w4 213 rfl rfl), by decide +kernel, by decide +kernel, by decide⟩
theorem nX8_ofCloud : pm_np yX8_ofCloud 2 := by unfold pm_np; decide +kernel
theorem kX8_become : pm_cv yX8_become mX8_become := ⟨(pm_w 1015 (by decide +kernel) rfl), (pm_w 1016 (by decide +kernel) rfl), (pm_w 68 (by decide +kernel) rfl), (pm_w4 238 rfl rfl), by decide +kernel, by decide +kernel, by decide⟩
theorem nX8_become : pm_np yX8_become 2 := by unfold pm_np; decide +kernel
theorem kX8_above : pm_cs yX8_above mX8_above := ⟨(pm_w 1024 (by decide +kernel) rfl), (pm_w 68 (by decide +kernel) rfl), (pm_w5 6 rfl rfl), by decide +kernel, by decide +kernel, by decide⟩
theorem nX8_above : pm_np yX8_above 1 := by unfold pm_np; decide +kernel
theorem kX8_as : pm_cv yX8_as mX8_as := ⟨(pm_w 1019 (by decide +kernel) rfl), (pm_w 1020 (by decide +kernel) rfl), (pm_w 68 (by decide +kernel) rfl), (pm_w5 2 rfl rfl), by decide +kernel, by decide +kernel, by decide⟩
theorem nX8_as : pm_np yX8_as 2 := by unfold pm_np; decide +kernel
theorem kX8_lead : pm_cv yX8_lead mX8_lead := ⟨(pm_w 1027 (by decide +kernel) rfl), (pm_w 1028 (by decide +kernel) rfl), (pm_w 68 (by decide +kernel) rfl), (pm_w5 10 rfl rfl), by decide +kernel, by decide +kernel, by decide⟩
theorem nX8_lead : pm_np yX8_lead 3 := by unfold pm_np; decide +kernel
theorem kX8_mostInArrears : pm_cv yX8_mostInArrears mX8_mostInArrears := ⟨(pm_w 1045 (by decide +kernel) rfl), (pm_w 44 (by decide +kernel) rfl), (pm_w 68 (by decide +kernel) rfl), (pm_w5 27 rfl rfl), by decide +kernel, by decide +kernel, by decide⟩
theorem nX8_mostInArrears : pm_np yX8_mostInArrears 0 := by unfold pm_np; decide +kernel
theorem kX8_fallsWhere : pm_cv yX8_fallsWhere mX8_fallsWhere := ⟨(pm_w 1049 (by decide +kernel) rfl), (pm_w 45 (by decide +kernel) rfl), (pm_w 68 (by decide +kernel) rfl), (pm_w5 31 rfl rfl), by decide +kernel, by decide +kernel, by decide⟩
theorem nX8_fallsWhere : pm_np yX8_fallsWhere 2 := by unfold pm_np; decide +kernel
theorem kX8_dayGoes : pm_cv yX8_dayGoes mX8_dayGoes := ⟨(pm_w 1041 (by decide +kernel) rfl), (pm_w 43 (by decide +kernel) rfl), (pm_w 68 (by decide +kernel) rfl), (pm_w5 23 rfl rfl), by decide +kernel, by decide +kernel, by decide⟩
theorem nX8_dayGoes : pm_np yX8_dayGoes 0 := by unfold pm_np; decide +kernel
theorem kX8_daysGo : pm_cv yX8_daysGo mX8_daysGo := ⟨(pm_w 1037 (by decide +kernel) rfl), (pm_w 42 (by decide +kernel) rfl), (pm_w 68 (by decide +kernel) rfl), (pm_w5 19 rfl rfl), by decide +kernel, by decide +kernel, by decide⟩
theorem nX8_daysGo : pm_np yX8_daysGo 1 := by unfold pm_np; decide +kernel
theorem kX8_all : pm_cv yX8_all mX8_all := ⟨(pm_w 1054 (by decide +kernel) rfl), (pm_w 46 (by decide +kernel) rfl), (pm_w 68 (by decide +kernel) rfl), (pm_w5 36 rfl rfl), by decide +kernel, by decide +kernel, by decide⟩
theorem nX8_all : pm_np yX8_all 1 := by unfold pm_np; decide +kernel
theorem kX8_days : pm_cv yX8_days mX8_days := ⟨(pm_w 1031 (by decide +kernel) rfl), (pm_w 1032 (by decide +kernel) rfl), (pm_w 68 (by decide +kernel) rfl), (pm_w5 14 rfl rfl), by decide +kernel, by decide +kernel, by decide⟩
theorem nX8_days : pm_np yX8_days 1 := by unfold pm_np; decide +kernel
theorem kX8_drawn : pm_cv yX8_drawn mX8_drawn := ⟨(pm_w 1063 (by decide +kernel) rfl), (pm_w 47 (by decide +kernel) rfl), (pm_w 68 (by decide +kernel) rfl), (pm_w5 45 rfl rfl), by decide +kernel, by decide +kernel, by decide⟩
theorem nX8_drawn : pm_np yX8_drawn 0 := by unfold pm_np; decide +kernel
theorem kX8_loose : pm_cv yX8_loose mX8_loose := ⟨(pm_w 1057 (by decide +kernel) rfl), (pm_w 1058 (by decide +kernel) rfl), (pm_w 68 (by decide +kernel) rfl), (pm_w5 40 rfl rfl), by decide +kernel, by decide +kernel, by decide⟩
theorem nX8_loose : pm_np yX8_loose 1 := by unfold pm_np; decide +kernel
theorem kX8_lessens : pm_cv yX8_lessens mX8_lessens := ⟨(pm_w 1076 (by decide +kernel) rfl), (pm_w 49 (by decide +kernel) rfl), (pm_w 68 (by decide +kernel) rfl), (pm_w5 58 rfl rfl), by decide +kernel, by decide +kernel, by decide⟩
theorem nX8_lessens : pm_np yX8_lessens 3 := by unfold pm_np; decide +kernel
theorem kX8_clearsAll : pm_cv yX8_clearsAll mX8_clearsAll := ⟨(pm_w 1072 (by decide +kernel) rfl), (pm_w 48 (by decide +kernel) rfl), (pm_w 68 (by decide +kernel) rfl), (pm_w5 54 rfl rfl), by decide +kernel, by decide +kernel, by decide⟩
theorem nX8_clearsAll : pm_np yX8_clearsAll 0 := by unfold pm_np; decide +kernel
theorem kX8_clear : pm_cv yX8_clear mX8_clear := ⟨(pm_w 1067 (by decide +kernel) rfl), (pm_w 1068 (by decide +kernel) rfl), (pm_w 68 (by decide +kernel) rfl), (pm_w5 50 rfl rfl), by decide +kernel, by decide +kernel, by decide⟩
theorem nX8_clear : pm_np yX8_clear 0 := by unfold pm_np; decide +kernel
theorem kX8_then : pm_cv yX8_then mX8_then := ⟨(pm_w 1079 (by decide +kernel) rfl), (pm_w 1080 (by decide +kernel) rfl), (pm_w 68 (by decide +kernel) rfl), (pm_w5 62 rfl rfl), by decide +kernel, by decide +kernel, by decide⟩
theorem nX8_then : pm_np yX8_then 3 := by unfold pm_np; decide +kernel
theorem kX8_drought : pm_cv yX8_drought mX8_drought := ⟨(pm_w 1091 (by decide +kernel) rfl), (pm_w 1092 (by decide +kernel) rfl), (pm_w 68 (by decide +kernel) rfl), (pm_w5 74 rfl rfl), by decide +kernel, by decide +kernel, by decide⟩
theorem nX8_drought : pm_np yX8_drought 2 := by unfold pm_np; decide +kernel
theorem kX8_when : pm_cv yX8_when mX8_when := ⟨(pm_w 1095 (by decide +kernel) rfl), (pm_w 1096 (by decide +kernel) rfl), (pm_w 68 (by decide +kernel) rfl), (pm_w5 78 rfl rfl), by decide +kernel, by decide +kernel, by decide⟩
theorem nX8_when : pm_np yX8_when 2 := by unfold pm_np; decide +kernel
theorem kX8_sellers : pm_cv yX8_sellers mX8_sellers := ⟨(pm_w 1099 (by decide +kernel) rfl), (pm_w 1100 (by decide +kernel) rfl), (pm_w 68 (by decide +kernel) rfl), (pm_w5 82 rfl rfl), by decide +kernel, by decide +kernel, by decide⟩
theorem nX8_sellers : pm_np yX8_sellers 2 := by unfold pm_np; decide +kernel
theorem kX8_clears : pm_cv yX8_clears mX8_clears := ⟨(pm_w 1103 (by decide +kernel) rfl), (pm_w 1104 (by decide +kernel) rfl), (pm_w 68 (by decide +kernel) rfl), (pm_w5 86 rfl rfl), by decide +kernel, by decide +kernel, by decide⟩
theorem nX8_clears : pm_np yX8_clears 0 := by unfold pm_np; decide +kernel
theorem kX8_daysLeft : pm_cv yX8_daysLeft mX8_daysLeft := ⟨(pm_w 1117 (by decide +kernel) rfl), (pm_w 53 (by decide +kernel) rfl), (pm_w 68 (by decide +kernel) rfl), (pm_w5 99 rfl rfl), by decide +kernel, by decide +kernel, by decide⟩
theorem nX8_daysLeft : pm_np yX8_daysLeft 1 := by unfold pm_np; decide +kernel
theorem kX8_fewestLeft : pm_cv yX8_fewestLeft mX8_fewestLeft := ⟨(pm_w 1113 (by decide +kernel) rfl), (pm_w 52 (by decide +kernel) rfl), (pm_w 68 (by decide +kernel) rfl), (pm_w5 95 rfl rfl), by decide +kernel, by decide +kernel, by decide⟩
theorem nX8_fewestLeft : pm_np yX8_fewestLeft 0 := by unfold pm_np; decide +kernel
theorem kX8_patches : pm_cv yX8_patches mX8_patches := ⟨(pm_w 1107 (by decide +kernel) rfl), (pm_w 1108 (by decide +kernel) rfl), (pm_w 68 (by decide +kernel) rfl), (pm_w5 90 rfl rfl), by decide +kernel, by decide +kernel, by decide⟩
theorem nX8_patches : pm_np yX8_patches 1 := by unfold pm_np; decide +kernel
theorem kX8_trades : pm_cv yX8_trades mX8_trades := ⟨(pm_w 1120 (by decide +kernel) rfl), (pm_w 1121 (by decide +kernel) rfl), (pm_w 68 (by decide +kernel) rfl), (pm_w5 103 rfl rfl), by decide +kernel, by decide +kernel, by decide⟩
theorem nX8_trades : pm_np yX8_trades 0 := by unfold pm_np; decide +kernel
theorem kX8_fell : pm_cv yX8_fell mX8_fell := ⟨(pm_w 1124 (by decide +kernel) rfl), (pm_w 1125 (by decide +kernel) rfl), (pm_w 68 (by decide +kernel) rfl), (pm_w5 107 rfl rfl), by decide +kernel, by decide +kernel, by decide⟩
theorem nX8_fell : pm_np yX8_fell 2 := by unfold pm_np; decide +kernel
theorem kX8_gains : pm_cv yX8_gains mX8_gains := ⟨(pm_w 1132 (by decide +kernel) rfl), (pm_w 1133 (by decide +kernel) rfl), (pm_w 68 (by decide +kernel) rfl), (pm_w5 115 rfl rfl), by decide +kernel, by decide +kernel, by decide⟩
theorem nX8_gains : pm_np yX8_gains 3 := by unfold pm_np; decide +kernel
theorem kX8_seed : pm_cv yX8_seed mX8_seed := ⟨(pm_w 1136 (by decide +kernel) rfl), (pm_w 1137 (by decide +kernel) rfl), (pm_w 68 (by decide +kernel) rfl), (pm_w5 119 rfl rfl), by decide +kernel, by decide +kernel, by decide⟩
theorem nX8_seed : pm_np yX8_seed 1 := by unfold pm_np; decide +kernel
theorem kX8_ran : pm_cv yX8_ran mX8_ran := ⟨(pm_w 1149 (by decide +kernel) rfl), (pm_w 55 (by decide +kernel) rfl), (pm_w 68 (by decide +kernel) rfl), (pm_w5 131 rfl rfl), by decide +kernel, by decide +kernel, by decide⟩
theorem nX8_ran : pm_np yX8_ran 1 := by unfold pm_np; decide +kernel
theorem kX8_rainsBy : pm_cv yX8_rainsBy mX8_rainsBy := ⟨(pm_w 1145 (by decide +kernel) rfl), (pm_w 54 (by decide +kernel) rfl), (pm_w 68 (by decide +kernel) rfl), (pm_w5 127 rfl rfl), by decide +kernel, by decide +kernel, by decide⟩
theorem nX8_rainsBy : pm_np yX8_rainsBy 2 := by unfold pm_np; decide +kernel
theorem kX8_driftsBy : pm_cv yX8_driftsBy mX8_driftsBy := ⟨(pm_w 1153 (by decide +kernel) rfl), (pm_w 56 (by decide +kernel) rfl), (pm_w 68 (by decide +kernel) rfl), (pm_w5 135 rfl rfl), by decide +kernel, by decide +kernel, by decide⟩
theorem nX8_driftsBy : pm_np yX8_driftsBy 2 := by unfold pm_np; decide +kernel
theorem kX8_wearsBy : pm_cv yX8_wearsBy mX8_wearsBy := ⟨(pm_w 1157 (by decide +kernel) rfl), (pm_w 57 (by decide +kernel) rfl), (pm_w 68 (by decide +kernel) rfl), (pm_w5 139 rfl rfl), by decide +kernel, by decide +kernel, by decide⟩
theorem nX8_wearsBy : pm_np yX8_wearsBy 2 := by unfold pm_np; decide +kernel
theorem kX8_tellsBy : pm_cv yX8_tellsBy mX8_tellsBy := ⟨(pm_w 1161 (by decide +kernel) rfl), (pm_w 58 (by decide +kernel) rfl), (pm_w 68 (by decide +kernel) rfl), (pm_w5 143 rfl rfl), by decide +kernel, by decide +kernel, by decide⟩
theorem nX8_tellsBy : pm_np yX8_tellsBy 2 := by unfold pm_np; decide +kernel
theorem kX8_voice : pm_cv yX8_voice mX8_voice := ⟨(pm_w 1140 (by decide +kernel) rfl), (pm_w 1141 (by decide +kernel) rfl), (pm_w 68 (by decide +kernel) rfl), (pm_w5 123 rfl rfl), by decide +kernel, by decide +kernel, by decide⟩
theorem nX8_voice : pm_np yX8_voice 3 := by unfold pm_np; decide +kernel
theorem kX8_trace : pm_cv yX8_trace mX8_trace := ⟨(pm_w 1164 (by decide +kernel) rfl), (pm_w 1165 (by decide +kernel) rfl), (pm_w 68 (by decide +kernel) rfl), (pm_w5 147 rfl rfl), by decide +kernel, by decide +kernel, by decide⟩
theorem nX8_trace : pm_np yX8_trace 1 := by unfold pm_np; decide +kernel
theorem kX8_isSheet : pm_cs yX8_isSheet mX8_isSheet := ⟨(pm_w 1128 (by decide +kernel) rfl), (pm_w 68 (by decide +kernel) rfl), (pm_w5 110 rfl rfl), by decide +kernel, by decide +kernel, by decide⟩
theorem nX8_isSheet : pm_np yX8_isSheet 1 := by unfold pm_np; decide +kernel
theorem kX8_sheet : pm_cv yX8_sheet mX8_sheet := ⟨(pm_w 1168 (by decide +kernel) rfl), (pm_w 1169 (by decide +kernel) rfl), (pm_w 68 (by decide +kernel) rfl), (pm_w5 151 rfl rfl), by decide +kernel, by decide +kernel, by decide⟩
theorem nX8_sheet : pm_np yX8_sheet 3 := by unfold pm_np; decide +kernel
theorem kX8_put : pm_cv yX8_put mX8_put := ⟨(pm_w 1172 (by decide +kernel) rfl), (pm_w 1173 (by decide +kernel) rfl), (pm_w 68 (by decide +kernel) rfl), (pm_w5 155 rfl rfl), by decide +kernel, by decide +kernel, by decide⟩
theorem nX8_put : pm_np yX8_put 3 := by unfold pm_np; decide +kernel
theorem kX8_move : pm_cv yX8_move mX8_move := ⟨(pm_w 1176 (by decide +kernel) rfl), (pm_w 1177 (by decide +kernel) rfl), (pm_w 68 (by decide +kernel) rfl), (pm_w5 159 rfl rfl), by decide +kernel, by decide +kernel, by decide⟩
theorem nX8_move : pm_np yX8_move 5 := by unfold pm_np; decide +kernel
theorem kX8_shares : pm_cv yX8_shares mX8_shares := ⟨(pm_w 1180 (by decide +kernel) rfl), (pm_w 1181 (by decide +kernel) rfl), (pm_w 68 (by decide +kernel) rfl), (pm_w5 163 rfl rfl), by decide +kernel, by decide +kernel, by decide⟩
theorem nX8_shares : pm_np yX8_shares 1 := by unfold pm_np; decide +kernel
theorem kX8_judge : pm_cv yX8_judge mX8_judge := ⟨(pm_w 1184 (by decide +kernel) rfl), (pm_w 1185 (by decide +kernel) rfl), (pm_w 68 (by decide +kernel) rfl), (pm_w5 167 rfl rfl), by decide +kernel, by decide +kernel, by decide⟩
theorem nX8_judge : pm_np yX8_judge 1 := by unfold pm_np; decide +kernel
theorem kX8_image : pm_cv yX8_image mX8_image := ⟨(pm_w 1188 (by decide +kernel) rfl), (pm_w 1189 (by decide +kernel) rfl), (pm_w 68 (by decide +kernel) rfl), (pm_w5 171 rfl rfl), by decide +kernel, by decide +kernel, by decide⟩
theorem nX8_image : pm_np yX8_image 0 := by unfold pm_np; decide +kernel
theorem kX8_restore : pm_cv yX8_restore mX8_restore := ⟨(pm_w 1192 (by decide +kernel) rfl), (pm_w 1193 (by decide +kernel) rfl), (pm_w 68 (by decide +kernel) rfl), (pm_w5 175 rfl rfl), by decide +kernel, by decide +kernel, by decide⟩
theorem nX8_restore : pm_np yX8_restore 0 := by unfold pm_np; decide +kernel
theorem kX8_tell : pm_cv yX8_tell mX8_tell := ⟨(pm_w 1196 (by decide +kernel) rfl), (pm_w 1197 (by decide +kernel) rfl), (pm_w 68 (by decide +kernel) rfl), (pm_w5 179 rfl rfl), by decide +kernel, by decide +kernel, by decide⟩
theorem nX8_tell : pm_np yX8_tell 1 := by unfold pm_np; decide +kernel
theorem kX8_check : pm_cv yX8_check mX8_check := ⟨(pm_w 1200 (by decide +kernel) rfl), (pm_w 1201 (by decide +kernel) rfl), (pm_w 68 (by decide +kernel) rfl), (pm_w5 183 rfl rfl), by decide +kernel, by decide +kernel, by decide⟩
theorem nX8_check : pm_np yX8_check 0 := by unfold pm_np; decide +kernel
theorem kX8_count : pm_cv yX8_count mX8_count := ⟨(pm_w 1204 (by decide +kernel) rfl), (pm_w 1205 (by decide +kernel) rfl), (pm_w 68 (by decide +kernel) rfl), (pm_w5 187 rfl rfl), by decide +kernel, by decide +kernel, by decide⟩
theorem nX8_count : pm_np yX8_count 1 := by unfold pm_np; decide +kernel
theorem kX8_told : pm_cv yX8_told mX8_told := ⟨(pm_w 1208 (by decide +kernel) rfl), (pm_w 1209 (by decide +kernel) rfl), (pm_w 68 (by decide +kernel) rfl), (pm_w5 191 rfl rfl), by decide +kernel, by decide +kernel, by decide⟩
theorem nX8_told : pm_np yX8_told 1 := by unfold pm_np; decide +kernel
theorem kJ_bitCount : pm_cs yJ_bitCount mJ_bitCount := ⟨(pm_w 640 (by decide +kernel) rfl), (pm_w 71 (by decide +kernel) rfl), (pm_w3 102 rfl rfl), by decide +kernel, by decide +kernel, by decide⟩
theorem nJ_bitCount : pm_np yJ_bitCount 1 := by unfold pm_np; decide +kernel
theorem lk7_51 : Cond.methodLink RX7 51 yX7_within ∈ pm_tb := pm_w 332 (by decide +kernel) rfl
theorem lk7_55 : Cond.methodLink RX7 55 yX7_error ∈ pm_tb := pm_w 335 (by decide +kernel) rfl
theorem lk7_68 : Cond.methodLink RX7 68 yX3_add ∈ pm_tb := pm_w 340 (by decide +kernel) rfl
theorem lk7_71 : Cond.methodLink RX7 71 yX3_has ∈ pm_tb := pm_w 348 (by decide +kernel) rfl
theorem lk7_91 : Cond.methodLink RX7 91 yX0_setOver ∈ pm_tb := pm_w 352 (by decide +kernel) rfl
theorem lk7_96 : Cond.methodLink RX7 96 yX3_owedToAll ∈ pm_tb := pm_w 356 (by decide +kernel) rfl
theorem lk7_99 : Cond.methodLink RX7 99 yX7_replace ∈ pm_tb := pm_w 368 (by decide +kernel) rfl
theorem lk7_103 : Cond.methodLink RX7 103 yX3_areTwo ∈ pm_tb := pm_w 376 (by decide +kernel) rfl
theorem lk7_111 : Cond.methodLink RX7 111 yX7_isKindAndM ∈ pm_tb := pm_w 397 (by decide +kernel) rfl
theorem lk7_115 : Cond.methodLink RX7 115 yX0_add ∈ pm_tb := pm_w 400 (by decide +kernel) rfl
theorem lk7_118 : Cond.methodLink RX7 118 yX0_has ∈ pm_tb := pm_w 412 (by decide +kernel) rfl
theorem lk7_131 : Cond.methodLink RX7 131 yX0_lasting ∈ pm_tb := pm_w 416 (by decide +kernel) rfl
theorem lk7_134 : Cond.methodLink RX7 134 yX0_isSpent ∈ pm_tb := pm_w 420 (by decide +kernel) rfl
theorem lk7_137 : Cond.methodLink RX7 137 yX5_dropsOn ∈ pm_tb := pm_w 425 (by decide +kernel) rfl
theorem lk7_140 : Cond.methodLink RX7 140 yX5_nextOver ∈ pm_tb := pm_w 444 (by decide +kernel) rfl
theorem lk7_143 : Cond.methodLink RX7 143 yX0_setKind ∈ pm_tb := pm_w 455 (by decide +kernel) rfl
theorem lk7_147 : Cond.methodLink RX7 147 yX0_isOf ∈ pm_tb := pm_w 460 (by decide +kernel) rfl
theorem lk7_156 : Cond.methodLink RX7 156 yX2_read ∈ pm_tb := pm_w 478 (by decide +kernel) rfl
theorem lk7_170 : Cond.methodLink RX7 170 yX1_take ∈ pm_tb := pm_w 521 (by decide +kernel) rfl
theorem lk7_176 : Cond.methodLink RX7 176 yX1_given ∈ pm_tb := pm_w 530 (by decide +kernel) rfl
theorem lk7_183 : Cond.methodLink RX7 183 yX5_passDays ∈ pm_tb := pm_w 535 (by decide +kernel) rfl
theorem lk7_187 : Cond.methodLink RX7 187 yX3_sum ∈ pm_tb := pm_w 563 (by decide +kernel) rfl
theorem lk7_191 : Cond.methodLink RX7 191 yX5_scatter ∈ pm_tb := pm_w 568 (by decide +kernel) rfl
theorem lk7_194 : Cond.methodLink RX7 194 yX3_clearDebts ∈ pm_tb := pm_w 581 (by decide +kernel) rfl
theorem lk7_198 : Cond.methodLink RX7 198 yX5_copyFrom ∈ pm_tb := pm_w 598 (by decide +kernel) rfl
theorem lk7_205 : Cond.methodLink RX7 205 Lib.Math.max.name ∈ pm_tb := pm_w 618 (by decide +kernel) rfl
theorem lk7_210 : Cond.methodLink RX7 210 yX3_bestSellers ∈ pm_tb := pm_w 627 (by decide +kernel) rfl
theorem lk7_213 : Cond.methodLink RX7 213 yX3_sumOver ∈ pm_tb := pm_w 645 (by decide +kernel) rfl
theorem lk7_217 : Cond.methodLink RX7 217 yX3_copyFrom ∈ pm_tb := pm_w 650 (by decide +kernel) rfl
theorem lk7_220 : Cond.methodLink RX7 220 yX0_copyFrom ∈ pm_tb := pm_w 655 (by decide +kernel) rfl
theorem lk7_223 : Cond.methodLink RX7 223 yX0_weakest ∈ pm_tb := pm_w 656 (by decide +kernel) rfl
theorem lk7_226 : Cond.methodLink RX7 226 yX0_daysLeft ∈ pm_tb := pm_w 665 (by decide +kernel) rfl
theorem lk7_229 : Cond.methodLink RX7 229 yX3_tradingPairs ∈ pm_tb := pm_w 670 (by decide +kernel) rfl
theorem lk7_232 : Cond.methodLink RX7 232 yX7_isSheet ∈ pm_tb := pm_w 678 (by decide +kernel) rfl
theorem lk7_235 : Cond.methodLink RX7 235 yX4_isMissing ∈ pm_tb := pm_w 681 (by decide +kernel) rfl
theorem lk7_240 : Cond.methodLink RX7 240 yX5_aim ∈ pm_tb := pm_w 685 (by decide +kernel) rfl
theorem lk7_246 : Cond.methodLink RX7 246 yX5_wouldGive ∈ pm_tb := pm_w 686 (by decide +kernel) rfl
theorem lk7_250 : Cond.methodLink RX7 250 yX7_arrearsBehind ∈ pm_tb := pm_w 694 (by decide +kernel) rfl
theorem lk7_256 : Cond.methodLink RX7 256 yX6_answer ∈ pm_tb := pm_w 707 (by decide +kernel) rfl
theorem lk7_266 : Cond.methodLink RX7 266 yX4_lay ∈ pm_tb := pm_w 734 (by decide +kernel) rfl
theorem lk7_269 : Cond.methodLink RX7 269 yX4_cutToBits ∈ pm_tb := pm_w 742 (by decide +kernel) rfl
theorem lk7_275 : Cond.methodLink RX7 275 yX4_holds ∈ pm_tb := pm_w 750 (by decide +kernel) rfl
theorem lk7_278 : Cond.methodLink RX7 278 arraycopyName ∈ pm_tb := pm_w 754 (by decide +kernel) rfl
theorem lk7_284 : Cond.methodLink RX7 284 Lib.Math.min.name ∈ pm_tb := pm_w 698 (by decide +kernel) rfl
theorem lk7_293 : Cond.methodLink RX7 293 yX0_spentMany ∈ pm_tb := pm_w 783 (by decide +kernel) rfl
theorem lk7_296 : Cond.methodLink RX7 296 yX3_mostInArrears ∈ pm_tb := pm_w 788 (by decide +kernel) rfl
theorem lk0_28 : Cond.methodLink RX0 28 arraycopyName ∈ pm_tb := pm_w 611 (by decide +kernel) rfl
theorem lk0_34 : Cond.methodLink RX0 34 yX0_setKind ∈ pm_tb := pm_w 404 (by decide +kernel) rfl
theorem lk0_41 : Cond.methodLink RX0 41 yX0_lasting ∈ pm_tb := pm_w 424 (by decide +kernel) rfl
theorem lk0_45 : Cond.methodLink RX0 45 yX0_isSpent ∈ pm_tb := pm_w 787 (by decide +kernel) rfl
theorem lk0_49 : Cond.methodLink RX0 49 Lib.Math.max.name ∈ pm_tb := pm_w 664 (by decide +kernel) rfl
theorem lk0_55 : Cond.methodLink RX0 55 yX0_daysLeft ∈ pm_tb := pm_w 660 (by decide +kernel) rfl
theorem lk1_28 : Cond.methodLink RX1 28 arraycopyName ∈ pm_tb := pm_w 525 (by decide +kernel) rfl
theorem lk1_36 : Cond.methodLink RX1 36 yX1_join ∈ pm_tb := pm_w 433 (by decide +kernel) rfl
theorem lk1_40 : Cond.methodLink RX1 40 Lib.Math.min.name ∈ pm_tb := pm_w 436 (by decide +kernel) rfl
theorem lk1_46 : Cond.methodLink RX1 46 Lib.Math.max.name ∈ pm_tb := pm_w 439 (by decide +kernel) rfl
theorem lk2_35 : Cond.methodLink RX2 35 arraycopyName ∈ pm_tb := pm_w 482 (by decide +kernel) rfl
theorem lk2_41 : Cond.methodLink RX2 41 yX2_readJoined ∈ pm_tb := pm_w 485 (by decide +kernel) rfl
theorem lk2_45 : Cond.methodLink RX2 45 yX2_readSingle ∈ pm_tb := pm_w 489 (by decide +kernel) rfl
theorem lk2_49 : Cond.methodLink RX2 49 yX2_next ∈ pm_tb := pm_w 493 (by decide +kernel) rfl
theorem lk2_53 : Cond.methodLink RX2 53 yX2_joins ∈ pm_tb := pm_w 518 (by decide +kernel) rfl
theorem lk2_57 : Cond.methodLink RX2 57 yX2_write ∈ pm_tb := pm_w 510 (by decide +kernel) rfl
theorem lk2_60 : Cond.methodLink RX2 60 yX2_nameOf ∈ pm_tb := pm_w 497 (by decide +kernel) rfl
theorem lk2_64 : Cond.methodLink RX2 64 yX2_isDigit ∈ pm_tb := pm_w 503 (by decide +kernel) rfl
theorem lk2_68 : Cond.methodLink RX2 68 yX2_readNumber ∈ pm_tb := pm_w 506 (by decide +kernel) rfl
theorem lk2_71 : Cond.methodLink RX2 71 yX2_readClosing ∈ pm_tb := pm_w 514 (by decide +kernel) rfl
theorem lk3_33 : Cond.methodLink RX3 33 arraycopyName ∈ pm_tb := pm_w 606 (by decide +kernel) rfl
theorem lk3_39 : Cond.methodLink RX3 39 yX3_has ∈ pm_tb := pm_w 380 (by decide +kernel) rfl
theorem lk3_43 : Cond.methodLink RX3 43 yX3_sum ∈ pm_tb := pm_w 360 (by decide +kernel) rfl
theorem lk3_47 : Cond.methodLink RX3 47 yX3_sumOver ∈ pm_tb := pm_w 631 (by decide +kernel) rfl
theorem lk3_51 : Cond.methodLink RX3 51 yX3_sellsRather ∈ pm_tb := pm_w 635 (by decide +kernel) rfl
theorem lk3_55 : Cond.methodLink RX3 55 yJ_bitCount ∈ pm_tb := pm_w 639 (by decide +kernel) rfl
theorem lk3_61 : Cond.methodLink RX3 61 yX3_clearPair ∈ pm_tb := pm_w 585 (by decide +kernel) rfl
theorem lk3_65 : Cond.methodLink RX3 65 yX3_clearRing ∈ pm_tb := pm_w 590 (by decide +kernel) rfl
theorem lk3_69 : Cond.methodLink RX3 69 Lib.Math.min.name ∈ pm_tb := pm_w 589 (by decide +kernel) rfl
theorem lk5_27 : Cond.methodLink RX5 27 yX1_init ∈ pm_tb := pm_w 160 (by decide +kernel) rfl
theorem lk5_63 : Cond.methodLink RX5 63 yX3_copyFrom ∈ pm_tb := pm_w 602 (by decide +kernel) rfl
theorem lk5_67 : Cond.methodLink RX5 67 yX0_copyFrom ∈ pm_tb := pm_w 607 (by decide +kernel) rfl
theorem lk5_76 : Cond.methodLink RX5 76 yX1_take ∈ pm_tb := pm_w 612 (by decide +kernel) rfl
theorem lk5_80 : Cond.methodLink RX5 80 arraycopyName ∈ pm_tb := pm_w 613 (by decide +kernel) rfl
theorem lk5_92 : Cond.methodLink RX5 92 yX1_given ∈ pm_tb := pm_w 429 (by decide +kernel) rfl
theorem lk5_99 : Cond.methodLink RX5 99 Lib.Math.max.name ∈ pm_tb := pm_w 442 (by decide +kernel) rfl
theorem lk5_108 : Cond.methodLink RX5 108 Lib.Math.min.name ∈ pm_tb := pm_w 443 (by decide +kernel) rfl
theorem lk5_117 : Cond.methodLink RX5 117 yX5_rest ∈ pm_tb := pm_w 448 (by decide +kernel) rfl
theorem lk5_120 : Cond.methodLink RX5 120 yX5_aim ∈ pm_tb := pm_w 539 (by decide +kernel) rfl
theorem lk5_123 : Cond.methodLink RX5 123 yX5_rain ∈ pm_tb := pm_w 549 (by decide +kernel) rfl
theorem lk5_126 : Cond.methodLink RX5 126 yX5_charge ∈ pm_tb := pm_w 554 (by decide +kernel) rfl
theorem lk5_129 : Cond.methodLink RX5 129 yX5_drift ∈ pm_tb := pm_w 558 (by decide +kernel) rfl
theorem lk5_132 : Cond.methodLink RX5 132 yX3_mostInArrears ∈ pm_tb := pm_w 543 (by decide +kernel) rfl
theorem lk5_137 : Cond.methodLink RX5 137 yX0_isSpent ∈ pm_tb := pm_w 547 (by decide +kernel) rfl
theorem lk5_141 : Cond.methodLink RX5 141 yX5_dropsOn ∈ pm_tb := pm_w 548 (by decide +kernel) rfl
theorem lk5_154 : Cond.methodLink RX5 154 yX5_nextOver ∈ pm_tb := pm_w 562 (by decide +kernel) rfl
theorem lk5_158 : Cond.methodLink RX5 158 yX5_draw ∈ pm_tb := pm_w 572 (by decide +kernel) rfl
theorem lk6_28 : Cond.methodLink RX6 28 yX6_say ∈ pm_tb := pm_w 711 (by decide +kernel) rfl
theorem lk6_38 : Cond.methodLink RX6 38 yX6_note ∈ pm_tb := pm_w 718 (by decide +kernel) rfl
theorem lk6_42 : Cond.methodLink RX6 42 yX6_sayBody ∈ pm_tb := pm_w 722 (by decide +kernel) rfl
theorem lkL_9 : Cond.methodLink "RainSharesLaw" 9 yX7_init ∈ pm_tb := pm_w 74 (by decide +kernel) rfl
theorem lkL_12 : Cond.methodLink "RainSharesLaw" 12 yX8_init ∈ pm_tb := pm_w 795 (by decide +kernel) rfl
theorem lkL_13 : Cond.methodLink "RainSharesLaw" 13 yX7_roof ∈ pm_tb := pm_w 328 (by decide +kernel) rfl
theorem lkL_17 : Cond.methodLink "RainSharesLaw" 17 yX8_roof ∈ pm_tb := pm_w 935 (by decide +kernel) rfl
theorem lkL_18 : Cond.methodLink "RainSharesLaw" 18 yX7_ofRoof ∈ pm_tb := pm_w 344 (by decide +kernel) rfl
theorem lkL_22 : Cond.methodLink "RainSharesLaw" 22 yX8_ofRoof ∈ pm_tb := pm_w 940 (by decide +kernel) rfl
theorem lkL_23 : Cond.methodLink "RainSharesLaw" 23 yX7_change ∈ pm_tb := pm_w 364 (by decide +kernel) rfl
theorem lkL_27 : Cond.methodLink "RainSharesLaw" 27 yX8_change ∈ pm_tb := pm_w 957 (by decide +kernel) rfl
theorem lkL_28 : Cond.methodLink "RainSharesLaw" 28 yX7_owe ∈ pm_tb := pm_w 372 (by decide +kernel) rfl
theorem lkL_31 : Cond.methodLink "RainSharesLaw" 31 yX8_owe ∈ pm_tb := pm_w 963 (by decide +kernel) rfl
theorem lkL_32 : Cond.methodLink "RainSharesLaw" 32 yX7_owed ∈ pm_tb := pm_w 381 (by decide +kernel) rfl
theorem lkL_35 : Cond.methodLink "RainSharesLaw" 35 yX8_owed ∈ pm_tb := pm_w 972 (by decide +kernel) rfl
theorem lkL_36 : Cond.methodLink "RainSharesLaw" 36 yX7_pay ∈ pm_tb := pm_w 385 (by decide +kernel) rfl
theorem lkL_39 : Cond.methodLink "RainSharesLaw" 39 yX8_pay ∈ pm_tb := pm_w 976 (by decide +kernel) rfl
theorem lkL_40 : Cond.methodLink "RainSharesLaw" 40 yX7_sell ∈ pm_tb := pm_w 389 (by decide +kernel) rfl
theorem lkL_43 : Cond.methodLink "RainSharesLaw" 43 yX8_sell ∈ pm_tb := pm_w 980 (by decide +kernel) rfl
theorem lkL_44 : Cond.methodLink "RainSharesLaw" 44 yX7_cloud ∈ pm_tb := pm_w 393 (by decide +kernel) rfl
theorem lkL_47 : Cond.methodLink "RainSharesLaw" 47 yX8_cloud ∈ pm_tb := pm_w 984 (by decide +kernel) rfl
theorem lkL_48 : Cond.methodLink "RainSharesLaw" 48 yX7_ofCloud ∈ pm_tb := pm_w 408 (by decide +kernel) rfl
theorem lkL_51 : Cond.methodLink "RainSharesLaw" 51 yX8_ofCloud ∈ pm_tb := pm_w 989 (by decide +kernel) rfl
theorem lkL_52 : Cond.methodLink "RainSharesLaw" 52 yX7_become ∈ pm_tb := pm_w 451 (by decide +kernel) rfl
theorem lkL_55 : Cond.methodLink "RainSharesLaw" 55 yX8_become ∈ pm_tb := pm_w 1014 (by decide +kernel) rfl
theorem lkL_56 : Cond.methodLink "RainSharesLaw" 56 yX7_as ∈ pm_tb := pm_w 456 (by decide +kernel) rfl
theorem lkL_59 : Cond.methodLink "RainSharesLaw" 59 yX8_as ∈ pm_tb := pm_w 1018 (by decide +kernel) rfl
theorem lkL_60 : Cond.methodLink "RainSharesLaw" 60 yX7_lead ∈ pm_tb := pm_w 466 (by decide +kernel) rfl
theorem lkL_63 : Cond.methodLink "RainSharesLaw" 63 yX8_lead ∈ pm_tb := pm_w 1026 (by decide +kernel) rfl
theorem lkL_66 : Cond.methodLink "RainSharesLaw" 66 yX7_feed ∈ pm_tb := pm_w 470 (by decide +kernel) rfl
theorem lkL_70 : Cond.methodLink "RainSharesLaw" 70 yX8_feed ∈ pm_tb := pm_w 860 (by decide +kernel) rfl
theorem lkL_71 : Cond.methodLink "RainSharesLaw" 71 yX7_text ∈ pm_tb := pm_w 474 (by decide +kernel) rfl
theorem lkL_74 : Cond.methodLink "RainSharesLaw" 74 yX8_text ∈ pm_tb := pm_w 874 (by decide +kernel) rfl
theorem lkL_75 : Cond.methodLink "RainSharesLaw" 75 yX7_law ∈ pm_tb := pm_w 526 (by decide +kernel) rfl
theorem lkL_79 : Cond.methodLink "RainSharesLaw" 79 yX8_law ∈ pm_tb := pm_w 924 (by decide +kernel) rfl
theorem lkL_80 : Cond.methodLink "RainSharesLaw" 80 yX7_days ∈ pm_tb := pm_w 531 (by decide +kernel) rfl
theorem lkL_83 : Cond.methodLink "RainSharesLaw" 83 yX8_days ∈ pm_tb := pm_w 1030 (by decide +kernel) rfl
theorem lkL_84 : Cond.methodLink "RainSharesLaw" 84 yX7_loose ∈ pm_tb := pm_w 564 (by decide +kernel) rfl
theorem lkL_87 : Cond.methodLink "RainSharesLaw" 87 yX8_loose ∈ pm_tb := pm_w 1056 (by decide +kernel) rfl
theorem lkL_88 : Cond.methodLink "RainSharesLaw" 88 yX7_clear ∈ pm_tb := pm_w 577 (by decide +kernel) rfl
theorem lkL_92 : Cond.methodLink "RainSharesLaw" 92 yX8_clear ∈ pm_tb := pm_w 1066 (by decide +kernel) rfl
theorem lkL_93 : Cond.methodLink "RainSharesLaw" 93 yX7_then ∈ pm_tb := pm_w 594 (by decide +kernel) rfl
theorem lkL_96 : Cond.methodLink "RainSharesLaw" 96 yX8_then ∈ pm_tb := pm_w 1078 (by decide +kernel) rfl
theorem lkL_97 : Cond.methodLink "RainSharesLaw" 97 yX7_drought ∈ pm_tb := pm_w 614 (by decide +kernel) rfl
theorem lkL_100 : Cond.methodLink "RainSharesLaw" 100 yX8_drought ∈ pm_tb := pm_w 1090 (by decide +kernel) rfl
theorem lkL_101 : Cond.methodLink "RainSharesLaw" 101 yX7_when ∈ pm_tb := pm_w 619 (by decide +kernel) rfl
theorem lkL_104 : Cond.methodLink "RainSharesLaw" 104 yX8_when ∈ pm_tb := pm_w 1094 (by decide +kernel) rfl
theorem lkL_105 : Cond.methodLink "RainSharesLaw" 105 yX7_sellers ∈ pm_tb := pm_w 623 (by decide +kernel) rfl
theorem lkL_108 : Cond.methodLink "RainSharesLaw" 108 yX8_sellers ∈ pm_tb := pm_w 1098 (by decide +kernel) rfl
theorem lkL_109 : Cond.methodLink "RainSharesLaw" 109 yX7_clears ∈ pm_tb := pm_w 646 (by decide +kernel) rfl
theorem lkL_112 : Cond.methodLink "RainSharesLaw" 112 yX8_clears ∈ pm_tb := pm_w 1102 (by decide +kernel) rfl
theorem lkL_113 : Cond.methodLink "RainSharesLaw" 113 yX7_patches ∈ pm_tb := pm_w 651 (by decide +kernel) rfl
theorem lkL_116 : Cond.methodLink "RainSharesLaw" 116 yX8_patches ∈ pm_tb := pm_w 1106 (by decide +kernel) rfl
theorem lkL_117 : Cond.methodLink "RainSharesLaw" 117 yX7_trades ∈ pm_tb := pm_w 666 (by decide +kernel) rfl
theorem lkL_120 : Cond.methodLink "RainSharesLaw" 120 yX8_trades ∈ pm_tb := pm_w 1119 (by decide +kernel) rfl
theorem lkL_121 : Cond.methodLink "RainSharesLaw" 121 yX7_fell ∈ pm_tb := pm_w 674 (by decide +kernel) rfl
theorem lkL_124 : Cond.methodLink "RainSharesLaw" 124 yX8_fell ∈ pm_tb := pm_w 1123 (by decide +kernel) rfl
theorem lkL_125 : Cond.methodLink "RainSharesLaw" 125 yX7_gains ∈ pm_tb := pm_w 690 (by decide +kernel) rfl
theorem lkL_128 : Cond.methodLink "RainSharesLaw" 128 yX8_gains ∈ pm_tb := pm_w 1131 (by decide +kernel) rfl
theorem lkL_129 : Cond.methodLink "RainSharesLaw" 129 yX7_seed ∈ pm_tb := pm_w 699 (by decide +kernel) rfl
theorem lkL_132 : Cond.methodLink "RainSharesLaw" 132 yX8_seed ∈ pm_tb := pm_w 1135 (by decide +kernel) rfl
theorem lkL_133 : Cond.methodLink "RainSharesLaw" 133 yX7_voice ∈ pm_tb := pm_w 703 (by decide +kernel) rfl
theorem lkL_136 : Cond.methodLink "RainSharesLaw" 136 yX8_voice ∈ pm_tb := pm_w 1139 (by decide +kernel) rfl
theorem lkL_137 : Cond.methodLink "RainSharesLaw" 137 yX7_trace ∈ pm_tb := pm_w 726 (by decide +kernel) rfl
theorem lkL_140 : Cond.methodLink "RainSharesLaw" 140 yX8_trace ∈ pm_tb := pm_w 1163 (by decide +kernel) rfl
theorem lkL_141 : Cond.methodLink "RainSharesLaw" 141 yX7_sheet ∈ pm_tb := pm_w 730 (by decide +kernel) rfl
theorem lkL_144 : Cond.methodLink "RainSharesLaw" 144 yX8_sheet ∈ pm_tb := pm_w 1167 (by decide +kernel) rfl
theorem lkL_145 : Cond.methodLink "RainSharesLaw" 145 yX7_put ∈ pm_tb := pm_w 738 (by decide +kernel) rfl
theorem lkL_148 : Cond.methodLink "RainSharesLaw" 148 yX8_put ∈ pm_tb := pm_w 1171 (by decide +kernel) rfl
theorem lkL_149 : Cond.methodLink "RainSharesLaw" 149 yX7_move ∈ pm_tb := pm_w 746 (by decide +kernel) rfl
theorem lkL_153 : Cond.methodLink "RainSharesLaw" 153 yX8_move ∈ pm_tb := pm_w 1175 (by decide +kernel) rfl
theorem lkL_154 : Cond.methodLink "RainSharesLaw" 154 yX7_shares ∈ pm_tb := pm_w 755 (by decide +kernel) rfl
theorem lkL_157 : Cond.methodLink "RainSharesLaw" 157 yX8_shares ∈ pm_tb := pm_w 1179 (by decide +kernel) rfl
theorem lkL_158 : Cond.methodLink "RainSharesLaw" 158 yX7_judge ∈ pm_tb := pm_w 759 (by decide +kernel) rfl
theorem lkL_161 : Cond.methodLink "RainSharesLaw" 161 yX8_judge ∈ pm_tb := pm_w 1183 (by decide +kernel) rfl
theorem lkL_162 : Cond.methodLink "RainSharesLaw" 162 yX7_image ∈ pm_tb := pm_w 763 (by decide +kernel) rfl
theorem lkL_165 : Cond.methodLink "RainSharesLaw" 165 yX8_image ∈ pm_tb := pm_w 1187 (by decide +kernel) rfl
theorem lkL_166 : Cond.methodLink "RainSharesLaw" 166 yX7_restore ∈ pm_tb := pm_w 767 (by decide +kernel) rfl
theorem lkL_169 : Cond.methodLink "RainSharesLaw" 169 yX8_restore ∈ pm_tb := pm_w 1191 (by decide +kernel) rfl
theorem lkL_170 : Cond.methodLink "RainSharesLaw" 170 yX7_tell ∈ pm_tb := pm_w 771 (by decide +kernel) rfl
theorem lkL_173 : Cond.methodLink "RainSharesLaw" 173 yX8_tell ∈ pm_tb := pm_w 1195 (by decide +kernel) rfl
theorem lkL_174 : Cond.methodLink "RainSharesLaw" 174 yX7_check ∈ pm_tb := pm_w 775 (by decide +kernel) rfl
theorem lkL_177 : Cond.methodLink "RainSharesLaw" 177 yX8_check ∈ pm_tb := pm_w 1199 (by decide +kernel) rfl
theorem lkL_178 : Cond.methodLink "RainSharesLaw" 178 yX7_count ∈ pm_tb := pm_w 779 (by decide +kernel) rfl
theorem lkL_181 : Cond.methodLink "RainSharesLaw" 181 yX8_count ∈ pm_tb := pm_w 1203 (by decide +kernel) rfl
theorem lkL_182 : Cond.methodLink "RainSharesLaw" 182 yX7_told ∈ pm_tb := pm_w 789 (by decide +kernel) rfl
theorem lkL_185 : Cond.methodLink "RainSharesLaw" 185 yX8_told ∈ pm_tb := pm_w 1207 (by decide +kernel) rfl
theorem lk8_44 : Cond.methodLink RX8 44 yX8_in ∈ pm_tb := pm_w 865 (by decide +kernel) rfl
theorem lk8_61 : Cond.methodLink RX8 61 yX8_here ∈ pm_tb := pm_w 906 (by decide +kernel) rfl
theorem lk8_69 : Cond.methodLink RX8 69 yX8_both ∈ pm_tb := pm_w 886 (by decide +kernel) rfl
theorem lk8_72 : Cond.methodLink RX8 72 yX8_takes ∈ pm_tb := pm_w 914 (by decide +kernel) rfl
theorem lk8_76 : Cond.methodLink RX8 76 yX8_compared ∈ pm_tb := pm_w 890 (by decide +kernel) rfl
theorem lk8_79 : Cond.methodLink RX8 79 yX8_sum ∈ pm_tb := pm_w 894 (by decide +kernel) rfl
theorem lk8_82 : Cond.methodLink RX8 82 yX8_product ∈ pm_tb := pm_w 898 (by decide +kernel) rfl
theorem lk8_85 : Cond.methodLink RX8 85 yX8_unit ∈ pm_tb := pm_w 902 (by decide +kernel) rfl
theorem lk8_91 : Cond.methodLink RX8 91 yX8_wrong ∈ pm_tb := pm_w 910 (by decide +kernel) rfl
theorem lk8_94 : Cond.methodLink RX8 94 yX8_either ∈ pm_tb := pm_w 882 (by decide +kernel) rfl
theorem lk8_97 : Cond.methodLink RX8 97 yX8_nameOf ∈ pm_tb := pm_w 918 (by decide +kernel) rfl
theorem lk8_107 : Cond.methodLink RX8 107 yX8_finds ∈ pm_tb := pm_w 868 (by decide +kernel) rfl
theorem lk8_112 : Cond.methodLink RX8 112 yX8_worked ∈ pm_tb := pm_w 878 (by decide +kernel) rfl
theorem lk8_116 : Cond.methodLink RX8 116 yX8_held ∈ pm_tb := pm_w 932 (by decide +kernel) rfl
theorem lk8_119 : Cond.methodLink RX8 119 yX8_textGives ∈ pm_tb := pm_w 928 (by decide +kernel) rfl
theorem lk8_125 : Cond.methodLink RX8 125 yX8_isRoof ∈ pm_tb := pm_w 944 (by decide +kernel) rfl
theorem lk8_130 : Cond.methodLink RX8 130 yX8_of ∈ pm_tb := pm_w 949 (by decide +kernel) rfl
theorem lk8_134 : Cond.methodLink RX8 134 yX8_its ∈ pm_tb := pm_w 953 (by decide +kernel) rfl
theorem lk8_141 : Cond.methodLink RX8 141 yX8_areTwo ∈ pm_tb := pm_w 967 (by decide +kernel) rfl
theorem lk8_149 : Cond.methodLink RX8 149 yX8_lasts ∈ pm_tb := pm_w 998 (by decide +kernel) rfl
theorem lk8_152 : Cond.methodLink RX8 152 yX8_isCloud ∈ pm_tb := pm_w 993 (by decide +kernel) rfl
theorem lk8_157 : Cond.methodLink RX8 157 yX8_isSpent ∈ pm_tb := pm_w 1002 (by decide +kernel) rfl
theorem lk8_160 : Cond.methodLink RX8 160 yX8_fallsOn ∈ pm_tb := pm_w 1006 (by decide +kernel) rfl
theorem lk8_163 : Cond.methodLink RX8 163 yX8_driftsTo ∈ pm_tb := pm_w 1010 (by decide +kernel) rfl
theorem lk8_168 : Cond.methodLink RX8 168 yX8_above ∈ pm_tb := pm_w 1023 (by decide +kernel) rfl
theorem lk8_171 : Cond.methodLink RX8 171 yX8_mostInArrears ∈ pm_tb := pm_w 1043 (by decide +kernel) rfl
theorem lk8_174 : Cond.methodLink RX8 174 yX8_fallsWhere ∈ pm_tb := pm_w 1047 (by decide +kernel) rfl
theorem lk8_178 : Cond.methodLink RX8 178 yX8_dayGoes ∈ pm_tb := pm_w 1039 (by decide +kernel) rfl
theorem lk8_183 : Cond.methodLink RX8 183 yX8_daysGo ∈ pm_tb := pm_w 1035 (by decide +kernel) rfl
theorem lk8_187 : Cond.methodLink RX8 187 yX8_all ∈ pm_tb := pm_w 1052 (by decide +kernel) rfl
theorem lk8_193 : Cond.methodLink RX8 193 yX8_drawn ∈ pm_tb := pm_w 1061 (by decide +kernel) rfl
theorem lk8_196 : Cond.methodLink RX8 196 yX8_lessens ∈ pm_tb := pm_w 1074 (by decide +kernel) rfl
theorem lk8_200 : Cond.methodLink RX8 200 yX8_clearsAll ∈ pm_tb := pm_w 1070 (by decide +kernel) rfl
theorem lk8_203 : Cond.methodLink RX8 203 yX8_keepAside ∈ pm_tb := pm_w 1082 (by decide +kernel) rfl
theorem lk8_206 : Cond.methodLink RX8 206 yX8_putBack ∈ pm_tb := pm_w 1086 (by decide +kernel) rfl
theorem lk8_209 : Cond.methodLink RX8 209 yX8_daysLeft ∈ pm_tb := pm_w 1115 (by decide +kernel) rfl
theorem lk8_214 : Cond.methodLink RX8 214 yX8_fewestLeft ∈ pm_tb := pm_w 1111 (by decide +kernel) rfl
theorem lk8_217 : Cond.methodLink RX8 217 yX8_isSheet ∈ pm_tb := pm_w 1127 (by decide +kernel) rfl
theorem lk8_223 : Cond.methodLink RX8 223 yX8_ran ∈ pm_tb := pm_w 1147 (by decide +kernel) rfl
theorem lk8_229 : Cond.methodLink RX8 229 yX8_rainsBy ∈ pm_tb := pm_w 1143 (by decide +kernel) rfl
theorem lk8_232 : Cond.methodLink RX8 232 yX8_driftsBy ∈ pm_tb := pm_w 1151 (by decide +kernel) rfl
theorem lk8_235 : Cond.methodLink RX8 235 yX8_wearsBy ∈ pm_tb := pm_w 1155 (by decide +kernel) rfl
theorem lk8_238 : Cond.methodLink RX8 238 yX8_tellsBy ∈ pm_tb := pm_w 1159 (by decide +kernel) rfl
theorem lk7_299 : Cond.constant RX7 299 (-1000000000) ∈ pm_tb := pm_w 339 (by decide +kernel) rfl
theorem lk5_147 : Cond.constant RX5 147 (99999) ∈ pm_tb := pm_w 553 (by decide +kernel) rfl
theorem lk5_161 : Cond.constant RX5 161 (1103515245) ∈ pm_tb := pm_w 576 (by decide +kernel) rfl
theorem lk8_43 : Cond.constant RX8 43 (-1000000000) ∈ pm_tb := pm_w 872 (by decide +kernel) rfl
theorem lk8_177 : Cond.constant RX8 177 (99999) ∈ pm_tb := pm_w 1051 (by decide +kernel) rfl
theorem lk8_190 : Cond.constant RX8 190 (1103515245) ∈ pm_tb := pm_w 1065 (by decide +kernel) rfl
theorem lkJ_265 : Cond.constant "java/lang/Integer" 265 (1431655765) ∈ pm_tb := pm_w 642 (by decide +kernel) rfl
theorem lkJ_266 : Cond.constant "java/lang/Integer" 266 (858993459) ∈ pm_tb := pm_w 643 (by decide +kernel) rfl
theorem lkJ_267 : Cond.constant "java/lang/Integer" 267 (252645135) ∈ pm_tb := pm_w 644 (by decide +kernel) rfl
theorem lkL_64 : Cond.constantLong "RainSharesLaw" 64 (4294967295) ∈ pm_tb := pm_w 1211 (by decide +kernel) rfl
theorem lk8_101 : Cond.constantLong RX8 101 (48) ∈ pm_tb := pm_w 922 (by decide +kernel) rfl
theorem lk8_103 : Cond.constantLong RX8 103 (57) ∈ pm_tb := pm_w 923 (by decide +kernel) rfl
theorem lk8_105 : Cond.constantLong RX8 105 (8) ∈ pm_tb := pm_w 864 (by decide +kernel) rfl
theorem lk8_110 : Cond.constantLong RX8 110 (255) ∈ pm_tb := pm_w 873 (by decide +kernel) rfl
theorem lk8_123 : Cond.constantLong RX8 123 (99) ∈ pm_tb := pm_w 939 (by decide +kernel) rfl
theorem lk8_128 : Cond.constantLong RX8 128 (5) ∈ pm_tb := pm_w 948 (by decide +kernel) rfl
theorem lk8_137 : Cond.constantLong RX8 137 (2) ∈ pm_tb := pm_w 961 (by decide +kernel) rfl
theorem lk8_139 : Cond.constantLong RX8 139 (9999) ∈ pm_tb := pm_w 962 (by decide +kernel) rfl
theorem lk8_145 : Cond.constantLong RX8 145 (999) ∈ pm_tb := pm_w 971 (by decide +kernel) rfl
theorem lk8_147 : Cond.constantLong RX8 147 (69) ∈ pm_tb := pm_w 988 (by decide +kernel) rfl
theorem lk8_155 : Cond.constantLong RX8 155 (7) ∈ pm_tb := pm_w 997 (by decide +kernel) rfl
theorem lk8_166 : Cond.constantLong RX8 166 (6) ∈ pm_tb := pm_w 1022 (by decide +kernel) rfl
theorem lk8_181 : Cond.constantLong RX8 181 (60) ∈ pm_tb := pm_w 1034 (by decide +kernel) rfl
theorem lk8_191 : Cond.constantLong RX8 191 (40) ∈ pm_tb := pm_w 1060 (by decide +kernel) rfl
theorem lk8_212 : Cond.constantLong RX8 212 (20) ∈ pm_tb := pm_w 1110 (by decide +kernel) rfl
theorem lk8_241 : Cond.constantLong RX8 241 (3) ∈ pm_tb := pm_w 1130 (by decide +kernel) rfl
theorem lkM_max : Cond.static Lib.Math.max.name ∈ pm_tb ∧ Cond.code Lib.Math.max.name Lib.Math.max.code 2 (some .int) ∈ pm_tb := ⟨pm_w 440 (by decide +kernel) rfl, pm_w 441 (by decide +kernel) rfl⟩
theorem lkM_min : Cond.static Lib.Math.min.name ∈ pm_tb ∧ Cond.code Lib.Math.min.name Lib.Math.min.code 2 (some .int) ∈ pm_tb := ⟨pm_w 437 (by decide +kernel) rfl, pm_w 438 (by decide +kernel) rfl⟩
theorem lkM_i : Cond.initialized "java/lang/Math" ∈ pm_tb := pm_w 69 (by decide +kernel) rfl
theorem lkS_n : Cond.native arraycopyName ∈ pm_tb := pm_w 484 (by decide +kernel) rfl
theorem lkS_s : Cond.static arraycopyName ∈ pm_tb := pm_w 483 (by decide +kernel) rfl
theorem lkS_i : Cond.initialized "java/lang/System" ∈ pm_tb := pm_w 70 (by decide +kernel) rfl
theorem fl7_10 : pm_fl RX7 10 7 0 := ⟨RX7, TX7, 8, rfl, iX7, by decide, pm_w 303 (by decide +kernel) rfl⟩
theorem fl7_16 : pm_fl RX7 16 7 1 := ⟨RX7, TX7, 8, rfl, iX7, by decide, pm_w 304 (by decide +kernel) rfl⟩
theorem fl7_19 : pm_fl RX7 19 7 2 := ⟨RX7, TX7, 8, rfl, iX7, by decide, pm_w 305 (by decide +kernel) rfl⟩
theorem fl7_22 : pm_fl RX7 22 7 3 := ⟨RX7, TX7, 8, rfl, iX7, by decide, pm_w 306 (by decide +kernel) rfl⟩
theorem fp7_22 : pm_fp RX7 22 7 3 .int := ⟨RX7, TX7, 8, tyX7, rfl, iX7, by decide, pm_w 306 (by decide +kernel) rfl, tyX7_ok, nmX7, rfl, by decide +kernel⟩
theorem fl7_29 : pm_fl RX7 29 7 4 := ⟨RX7, TX7, 8, rfl, iX7, by decide, pm_w 307 (by decide +kernel) rfl⟩
theorem fl7_36 : pm_fl RX7 36 7 5 := ⟨RX7, TX7, 8, rfl, iX7, by decide, pm_w 308 (by decide +kernel) rfl⟩
theorem fl7_42 : pm_fl RX7 42 7 6 := ⟨RX7, TX7, 8, rfl, iX7, by decide, pm_w 309 (by decide +kernel) rfl⟩
theorem fl7_46 : pm_fl RX7 46 7 7 := ⟨RX7, TX7, 8, rfl, iX7, by decide, pm_w 310 (by decide +kernel) rfl⟩
theorem fl7_59 : pm_fl RX7 59 5 0 := ⟨RX5, TX5, 12, rfl, iX5, by decide, pm_w 183 (by decide +kernel) rfl⟩
theorem fl7_63 : pm_fl RX7 63 3 0 := ⟨RX3, TX3, 6, rfl, iX3, by decide, pm_w 95 (by decide +kernel) rfl⟩
theorem fp7_63 : pm_fp RX7 63 3 0 .int := ⟨RX3, TX3, 6, tyX3, rfl, iX3, by decide, pm_w 95 (by decide +kernel) rfl, tyX3_ok, nmX3, rfl, by decide +kernel⟩
theorem fl7_75 : pm_fl RX7 75 3 1 := ⟨RX3, TX3, 6, rfl, iX3, by decide, pm_w 98 (by decide +kernel) rfl⟩
theorem fl7_78 : pm_fl RX7 78 3 2 := ⟨RX3, TX3, 6, rfl, iX3, by decide, pm_w 101 (by decide +kernel) rfl⟩
theorem fl7_81 : pm_fl RX7 81 3 3 := ⟨RX3, TX3, 6, rfl, iX3, by decide, pm_w 104 (by decide +kernel) rfl⟩
theorem fl7_84 : pm_fl RX7 84 3 4 := ⟨RX3, TX3, 6, rfl, iX3, by decide, pm_w 107 (by decide +kernel) rfl⟩
theorem fl7_87 : pm_fl RX7 87 5 1 := ⟨RX5, TX5, 12, rfl, iX5, by decide, pm_w 185 (by decide +kernel) rfl⟩
theorem fl7_107 : pm_fl RX7 107 3 5 := ⟨RX3, TX3, 6, rfl, iX3, by decide, pm_w 110 (by decide +kernel) rfl⟩
theorem fl7_114 : pm_fl RX7 114 0 0 := ⟨RX0, TX0, 5, rfl, iX0, by decide, pm_w 133 (by decide +kernel) rfl⟩
theorem fp7_114 : pm_fp RX7 114 0 0 .int := ⟨RX0, TX0, 5, tyX0, rfl, iX0, by decide, pm_w 133 (by decide +kernel) rfl, tyX0_ok, nmX0, rfl, by decide +kernel⟩
theorem fl7_119 : pm_fl RX7 119 0 1 := ⟨RX0, TX0, 5, rfl, iX0, by decide, pm_w 136 (by decide +kernel) rfl⟩
theorem fl7_122 : pm_fl RX7 122 0 2 := ⟨RX0, TX0, 5, rfl, iX0, by decide, pm_w 139 (by decide +kernel) rfl⟩
theorem fl7_125 : pm_fl RX7 125 0 3 := ⟨RX0, TX0, 5, rfl, iX0, by decide, pm_w 142 (by decide +kernel) rfl⟩
theorem fl7_128 : pm_fl RX7 128 0 4 := ⟨RX0, TX0, 5, rfl, iX0, by decide, pm_w 145 (by decide +kernel) rfl⟩
theorem fl7_150 : pm_fl RX7 150 5 6 := ⟨RX5, TX5, 12, rfl, iX5, by decide, pm_w 195 (by decide +kernel) rfl⟩
theorem fp7_150 : pm_fp RX7 150 5 6 .int := ⟨RX5, TX5, 12, tyX5, rfl, iX5, by decide, pm_w 195 (by decide +kernel) rfl, tyX5_ok, nmX5, rfl, by decide +kernel⟩
theorem fl7_153 : pm_fl RX7 153 5 5 := ⟨RX5, TX5, 12, rfl, iX5, by decide, pm_w 193 (by decide +kernel) rfl⟩
theorem fl7_160 : pm_fl RX7 160 5 2 := ⟨RX5, TX5, 12, rfl, iX5, by decide, pm_w 187 (by decide +kernel) rfl⟩
theorem fl7_164 : pm_fl RX7 164 2 0 := ⟨RX2, TX2, 7, rfl, iX2, by decide, pm_w 236 (by decide +kernel) rfl⟩
theorem fl7_167 : pm_fl RX7 167 2 1 := ⟨RX2, TX2, 7, rfl, iX2, by decide, pm_w 238 (by decide +kernel) rfl⟩
theorem fp7_167 : pm_fp RX7 167 2 1 .int := ⟨RX2, TX2, 7, tyX2, rfl, iX2, by decide, pm_w 238 (by decide +kernel) rfl, tyX2_ok, nmX2, rfl, by decide +kernel⟩
theorem fl7_180 : pm_fl RX7 180 5 3 := ⟨RX5, TX5, 12, rfl, iX5, by decide, pm_w 189 (by decide +kernel) rfl⟩
theorem fp7_180 : pm_fp RX7 180 5 3 .int := ⟨RX5, TX5, 12, tyX5, rfl, iX5, by decide, pm_w 189 (by decide +kernel) rfl, tyX5_ok, nmX5, rfl, by decide +kernel⟩
theorem fl7_202 : pm_fl RX7 202 5 9 := ⟨RX5, TX5, 12, rfl, iX5, by decide, pm_w 201 (by decide +kernel) rfl⟩
theorem fl7_239 : pm_fl RX7 239 4 1 := ⟨RX4, TX4, 3, rfl, iX4, by decide, pm_w 293 (by decide +kernel) rfl⟩
theorem fp7_239 : pm_fp RX7 239 4 1 .int := ⟨RX4, TX4, 3, tyX4, rfl, iX4, by decide, pm_w 293 (by decide +kernel) rfl, tyX4_ok, nmX4, rfl, by decide +kernel⟩
theorem fl7_243 : pm_fl RX7 243 4 2 := ⟨RX4, TX4, 3, rfl, iX4, by decide, pm_w 295 (by decide +kernel) rfl⟩
theorem fl7_253 : pm_fl RX7 253 5 4 := ⟨RX5, TX5, 12, rfl, iX5, by decide, pm_w 191 (by decide +kernel) rfl⟩
theorem fp7_253 : pm_fp RX7 253 5 4 .int := ⟨RX5, TX5, 12, tyX5, rfl, iX5, by decide, pm_w 191 (by decide +kernel) rfl, tyX5_ok, nmX5, rfl, by decide +kernel⟩
theorem fl7_260 : pm_fl RX7 260 6 1 := ⟨RX6, TX6, 5, rfl, iX6, by decide, pm_w 268 (by decide +kernel) rfl⟩
theorem fp7_260 : pm_fp RX7 260 6 1 .int := ⟨RX6, TX6, 5, tyX6, rfl, iX6, by decide, pm_w 268 (by decide +kernel) rfl, tyX6_ok, nmX6, rfl, by decide +kernel⟩
theorem fl7_263 : pm_fl RX7 263 6 0 := ⟨RX6, TX6, 5, rfl, iX6, by decide, pm_w 266 (by decide +kernel) rfl⟩
theorem fl7_272 : pm_fl RX7 272 4 0 := ⟨RX4, TX4, 3, rfl, iX4, by decide, pm_w 291 (by decide +kernel) rfl⟩
theorem fp7_272 : pm_fp RX7 272 4 0 .int := ⟨RX4, TX4, 3, tyX4, rfl, iX4, by decide, pm_w 291 (by decide +kernel) rfl, tyX4_ok, nmX4, rfl, by decide +kernel⟩
theorem fl7_287 : pm_fl RX7 287 5 8 := ⟨RX5, TX5, 12, rfl, iX5, by decide, pm_w 199 (by decide +kernel) rfl⟩
theorem fp7_287 : pm_fp RX7 287 5 8 .int := ⟨RX5, TX5, 12, tyX5, rfl, iX5, by decide, pm_w 199 (by decide +kernel) rfl, tyX5_ok, nmX5, rfl, by decide +kernel⟩
theorem fl7_290 : pm_fl RX7 290 5 7 := ⟨RX5, TX5, 12, rfl, iX5, by decide, pm_w 197 (by decide +kernel) rfl⟩
theorem fl0_9 : pm_fl RX0 9 0 0 := ⟨RX0, TX0, 5, rfl, iX0, by decide, pm_w 131 (by decide +kernel) rfl⟩
theorem fp0_9 : pm_fp RX0 9 0 0 .int := ⟨RX0, TX0, 5, tyX0, rfl, iX0, by decide, pm_w 131 (by decide +kernel) rfl, tyX0_ok, nmX0, rfl, by decide +kernel⟩
theorem fl0_15 : pm_fl RX0 15 0 1 := ⟨RX0, TX0, 5, rfl, iX0, by decide, pm_w 134 (by decide +kernel) rfl⟩
theorem fl0_19 : pm_fl RX0 19 0 2 := ⟨RX0, TX0, 5, rfl, iX0, by decide, pm_w 137 (by decide +kernel) rfl⟩
theorem fl0_22 : pm_fl RX0 22 0 3 := ⟨RX0, TX0, 5, rfl, iX0, by decide, pm_w 140 (by decide +kernel) rfl⟩
theorem fl0_25 : pm_fl RX0 25 0 4 := ⟨RX0, TX0, 5, rfl, iX0, by decide, pm_w 143 (by decide +kernel) rfl⟩
theorem fl1_9 : pm_fl RX1 9 1 2 := ⟨RX1, TX1, 5, rfl, iX1, by decide, pm_w 166 (by decide +kernel) rfl⟩
theorem fl1_15 : pm_fl RX1 15 1 3 := ⟨RX1, TX1, 5, rfl, iX1, by decide, pm_w 168 (by decide +kernel) rfl⟩
theorem fp1_15 : pm_fp RX1 15 1 3 .int := ⟨RX1, TX1, 5, tyX1, rfl, iX1, by decide, pm_w 168 (by decide +kernel) rfl, tyX1_ok, nmX1, rfl, by decide +kernel⟩
theorem fl1_19 : pm_fl RX1 19 1 4 := ⟨RX1, TX1, 5, rfl, iX1, by decide, pm_w 170 (by decide +kernel) rfl⟩
theorem fl1_22 : pm_fl RX1 22 1 0 := ⟨RX1, TX1, 5, rfl, iX1, by decide, pm_w 164 (by decide +kernel) rfl⟩
theorem fl1_25 : pm_fl RX1 25 1 1 := ⟨RX1, TX1, 5, rfl, iX1, by decide, pm_w 165 (by decide +kernel) rfl⟩
theorem fl2_9 : pm_fl RX2 9 2 0 := ⟨RX2, TX2, 7, rfl, iX2, by decide, pm_w 235 (by decide +kernel) rfl⟩
theorem fl2_15 : pm_fl RX2 15 2 1 := ⟨RX2, TX2, 7, rfl, iX2, by decide, pm_w 237 (by decide +kernel) rfl⟩
theorem fp2_15 : pm_fp RX2 15 2 1 .int := ⟨RX2, TX2, 7, tyX2, rfl, iX2, by decide, pm_w 237 (by decide +kernel) rfl, tyX2_ok, nmX2, rfl, by decide +kernel⟩
theorem fl2_19 : pm_fl RX2 19 2 2 := ⟨RX2, TX2, 7, rfl, iX2, by decide, pm_w 239 (by decide +kernel) rfl⟩
theorem fl2_22 : pm_fl RX2 22 2 3 := ⟨RX2, TX2, 7, rfl, iX2, by decide, pm_w 240 (by decide +kernel) rfl⟩
theorem fp2_22 : pm_fp RX2 22 2 3 .int := ⟨RX2, TX2, 7, tyX2, rfl, iX2, by decide, pm_w 240 (by decide +kernel) rfl, tyX2_ok, nmX2, rfl, by decide +kernel⟩
theorem fl2_25 : pm_fl RX2 25 2 4 := ⟨RX2, TX2, 7, rfl, iX2, by decide, pm_w 241 (by decide +kernel) rfl⟩
theorem fp2_25 : pm_fp RX2 25 2 4 .int := ⟨RX2, TX2, 7, tyX2, rfl, iX2, by decide, pm_w 241 (by decide +kernel) rfl, tyX2_ok, nmX2, rfl, by decide +kernel⟩
theorem fl2_28 : pm_fl RX2 28 2 5 := ⟨RX2, TX2, 7, rfl, iX2, by decide, pm_w 242 (by decide +kernel) rfl⟩
theorem fp2_28 : pm_fp RX2 28 2 5 .int := ⟨RX2, TX2, 7, tyX2, rfl, iX2, by decide, pm_w 242 (by decide +kernel) rfl, tyX2_ok, nmX2, rfl, by decide +kernel⟩
theorem fl2_31 : pm_fl RX2 31 2 6 := ⟨RX2, TX2, 7, rfl, iX2, by decide, pm_w 243 (by decide +kernel) rfl⟩
theorem fp2_31 : pm_fp RX2 31 2 6 .boolean := ⟨RX2, TX2, 7, tyX2, rfl, iX2, by decide, pm_w 243 (by decide +kernel) rfl, tyX2_ok, nmX2, rfl, by decide +kernel⟩
theorem fl3_9 : pm_fl RX3 9 3 0 := ⟨RX3, TX3, 6, rfl, iX3, by decide, pm_w 94 (by decide +kernel) rfl⟩
theorem fp3_9 : pm_fp RX3 9 3 0 .int := ⟨RX3, TX3, 6, tyX3, rfl, iX3, by decide, pm_w 94 (by decide +kernel) rfl, tyX3_ok, nmX3, rfl, by decide +kernel⟩
theorem fl3_15 : pm_fl RX3 15 3 1 := ⟨RX3, TX3, 6, rfl, iX3, by decide, pm_w 97 (by decide +kernel) rfl⟩
theorem fl3_19 : pm_fl RX3 19 3 2 := ⟨RX3, TX3, 6, rfl, iX3, by decide, pm_w 100 (by decide +kernel) rfl⟩
theorem fl3_22 : pm_fl RX3 22 3 3 := ⟨RX3, TX3, 6, rfl, iX3, by decide, pm_w 103 (by decide +kernel) rfl⟩
theorem fl3_25 : pm_fl RX3 25 3 4 := ⟨RX3, TX3, 6, rfl, iX3, by decide, pm_w 106 (by decide +kernel) rfl⟩
theorem fl3_30 : pm_fl RX3 30 3 5 := ⟨RX3, TX3, 6, rfl, iX3, by decide, pm_w 109 (by decide +kernel) rfl⟩
theorem fl4_9 : pm_fl RX4 9 4 0 := ⟨RX4, TX4, 3, rfl, iX4, by decide, pm_w 290 (by decide +kernel) rfl⟩
theorem fp4_9 : pm_fp RX4 9 4 0 .int := ⟨RX4, TX4, 3, tyX4, rfl, iX4, by decide, pm_w 290 (by decide +kernel) rfl, tyX4_ok, nmX4, rfl, by decide +kernel⟩
theorem fl4_15 : pm_fl RX4 15 4 1 := ⟨RX4, TX4, 3, rfl, iX4, by decide, pm_w 292 (by decide +kernel) rfl⟩
theorem fp4_15 : pm_fp RX4 15 4 1 .int := ⟨RX4, TX4, 3, tyX4, rfl, iX4, by decide, pm_w 292 (by decide +kernel) rfl, tyX4_ok, nmX4, rfl, by decide +kernel⟩
theorem fl4_18 : pm_fl RX4 18 4 2 := ⟨RX4, TX4, 3, rfl, iX4, by decide, pm_w 294 (by decide +kernel) rfl⟩
theorem fl5_12 : pm_fl RX5 12 5 0 := ⟨RX5, TX5, 12, rfl, iX5, by decide, pm_w 182 (by decide +kernel) rfl⟩
theorem fl5_21 : pm_fl RX5 21 5 1 := ⟨RX5, TX5, 12, rfl, iX5, by decide, pm_w 184 (by decide +kernel) rfl⟩
theorem fl5_30 : pm_fl RX5 30 5 2 := ⟨RX5, TX5, 12, rfl, iX5, by decide, pm_w 186 (by decide +kernel) rfl⟩
theorem fl5_34 : pm_fl RX5 34 5 3 := ⟨RX5, TX5, 12, rfl, iX5, by decide, pm_w 188 (by decide +kernel) rfl⟩
theorem fp5_34 : pm_fp RX5 34 5 3 .int := ⟨RX5, TX5, 12, tyX5, rfl, iX5, by decide, pm_w 188 (by decide +kernel) rfl, tyX5_ok, nmX5, rfl, by decide +kernel⟩
theorem fl5_38 : pm_fl RX5 38 5 4 := ⟨RX5, TX5, 12, rfl, iX5, by decide, pm_w 190 (by decide +kernel) rfl⟩
theorem fp5_38 : pm_fp RX5 38 5 4 .int := ⟨RX5, TX5, 12, tyX5, rfl, iX5, by decide, pm_w 190 (by decide +kernel) rfl, tyX5_ok, nmX5, rfl, by decide +kernel⟩
theorem fl5_41 : pm_fl RX5 41 5 5 := ⟨RX5, TX5, 12, rfl, iX5, by decide, pm_w 192 (by decide +kernel) rfl⟩
theorem fl5_45 : pm_fl RX5 45 5 6 := ⟨RX5, TX5, 12, rfl, iX5, by decide, pm_w 194 (by decide +kernel) rfl⟩
theorem fp5_45 : pm_fp RX5 45 5 6 .int := ⟨RX5, TX5, 12, tyX5, rfl, iX5, by decide, pm_w 194 (by decide +kernel) rfl, tyX5_ok, nmX5, rfl, by decide +kernel⟩
theorem fl5_48 : pm_fl RX5 48 5 7 := ⟨RX5, TX5, 12, rfl, iX5, by decide, pm_w 196 (by decide +kernel) rfl⟩
theorem fl5_51 : pm_fl RX5 51 5 8 := ⟨RX5, TX5, 12, rfl, iX5, by decide, pm_w 198 (by decide +kernel) rfl⟩
theorem fp5_51 : pm_fp RX5 51 5 8 .int := ⟨RX5, TX5, 12, tyX5, rfl, iX5, by decide, pm_w 198 (by decide +kernel) rfl, tyX5_ok, nmX5, rfl, by decide +kernel⟩
theorem fl5_54 : pm_fl RX5 54 5 9 := ⟨RX5, TX5, 12, rfl, iX5, by decide, pm_w 200 (by decide +kernel) rfl⟩
theorem fl5_57 : pm_fl RX5 57 5 10 := ⟨RX5, TX5, 12, rfl, iX5, by decide, pm_w 202 (by decide +kernel) rfl⟩
theorem fl5_60 : pm_fl RX5 60 5 11 := ⟨RX5, TX5, 12, rfl, iX5, by decide, pm_w 203 (by decide +kernel) rfl⟩
theorem fl5_70 : pm_fl RX5 70 1 2 := ⟨RX1, TX1, 5, rfl, iX1, by decide, pm_w 167 (by decide +kernel) rfl⟩
theorem fl5_73 : pm_fl RX5 73 1 3 := ⟨RX1, TX1, 5, rfl, iX1, by decide, pm_w 169 (by decide +kernel) rfl⟩
theorem fp5_73 : pm_fp RX5 73 1 3 .int := ⟨RX1, TX1, 5, tyX1, rfl, iX1, by decide, pm_w 169 (by decide +kernel) rfl, tyX1_ok, nmX1, rfl, by decide +kernel⟩
theorem fl5_86 : pm_fl RX5 86 0 2 := ⟨RX0, TX0, 5, rfl, iX0, by decide, pm_w 138 (by decide +kernel) rfl⟩
theorem fl5_89 : pm_fl RX5 89 0 4 := ⟨RX0, TX0, 5, rfl, iX0, by decide, pm_w 144 (by decide +kernel) rfl⟩
theorem fl5_96 : pm_fl RX5 96 0 1 := ⟨RX0, TX0, 5, rfl, iX0, by decide, pm_w 135 (by decide +kernel) rfl⟩
theorem fl5_105 : pm_fl RX5 105 3 1 := ⟨RX3, TX3, 6, rfl, iX3, by decide, pm_w 99 (by decide +kernel) rfl⟩
theorem fl5_111 : pm_fl RX5 111 0 3 := ⟨RX0, TX0, 5, rfl, iX0, by decide, pm_w 141 (by decide +kernel) rfl⟩
theorem fl5_114 : pm_fl RX5 114 3 0 := ⟨RX3, TX3, 6, rfl, iX3, by decide, pm_w 96 (by decide +kernel) rfl⟩
theorem fp5_114 : pm_fp RX5 114 3 0 .int := ⟨RX3, TX3, 6, tyX3, rfl, iX3, by decide, pm_w 96 (by decide +kernel) rfl, tyX3_ok, nmX3, rfl, by decide +kernel⟩
theorem fl5_136 : pm_fl RX5 136 0 0 := ⟨RX0, TX0, 5, rfl, iX0, by decide, pm_w 132 (by decide +kernel) rfl⟩
theorem fp5_136 : pm_fp RX5 136 0 0 .int := ⟨RX0, TX0, 5, tyX0, rfl, iX0, by decide, pm_w 132 (by decide +kernel) rfl, tyX0_ok, nmX0, rfl, by decide +kernel⟩
theorem fl5_144 : pm_fl RX5 144 3 3 := ⟨RX3, TX3, 6, rfl, iX3, by decide, pm_w 105 (by decide +kernel) rfl⟩
theorem fl5_148 : pm_fl RX5 148 3 4 := ⟨RX3, TX3, 6, rfl, iX3, by decide, pm_w 108 (by decide +kernel) rfl⟩
theorem fl5_151 : pm_fl RX5 151 3 2 := ⟨RX3, TX3, 6, rfl, iX3, by decide, pm_w 102 (by decide +kernel) rfl⟩
theorem fl6_9 : pm_fl RX6 9 6 0 := ⟨RX6, TX6, 5, rfl, iX6, by decide, pm_w 265 (by decide +kernel) rfl⟩
theorem fl6_15 : pm_fl RX6 15 6 1 := ⟨RX6, TX6, 5, rfl, iX6, by decide, pm_w 267 (by decide +kernel) rfl⟩
theorem fp6_15 : pm_fp RX6 15 6 1 .int := ⟨RX6, TX6, 5, tyX6, rfl, iX6, by decide, pm_w 267 (by decide +kernel) rfl, tyX6_ok, nmX6, rfl, by decide +kernel⟩
theorem fl6_19 : pm_fl RX6 19 6 2 := ⟨RX6, TX6, 5, rfl, iX6, by decide, pm_w 269 (by decide +kernel) rfl⟩
theorem fp6_19 : pm_fp RX6 19 6 2 .int := ⟨RX6, TX6, 5, tyX6, rfl, iX6, by decide, pm_w 269 (by decide +kernel) rfl, tyX6_ok, nmX6, rfl, by decide +kernel⟩
theorem fl6_22 : pm_fl RX6 22 6 3 := ⟨RX6, TX6, 5, rfl, iX6, by decide, pm_w 270 (by decide +kernel) rfl⟩
theorem fp6_22 : pm_fp RX6 22 6 3 .int := ⟨RX6, TX6, 5, tyX6, rfl, iX6, by decide, pm_w 270 (by decide +kernel) rfl, tyX6_ok, nmX6, rfl, by decide +kernel⟩
theorem fl6_25 : pm_fl RX6 25 6 4 := ⟨RX6, TX6, 5, rfl, iX6, by decide, pm_w 271 (by decide +kernel) rfl⟩
theorem fp6_25 : pm_fp RX6 25 6 4 .int := ⟨RX6, TX6, 5, tyX6, rfl, iX6, by decide, pm_w 271 (by decide +kernel) rfl, tyX6_ok, nmX6, rfl, by decide +kernel⟩
theorem lk6_32 : Cond.fieldLink RX6 32 "RainShares$Voices" "BODIES" "[I" ∈ pm_tb := pm_w 715 (by decide +kernel) rfl
theorem fl8_7 : pm_fl RX8 7 8 0 := ⟨RX8, TX8, 20, rfl, iX8, by decide, pm_w 799 (by decide +kernel) rfl⟩
theorem fl8_13 : pm_fl RX8 13 8 1 := ⟨RX8, TX8, 20, rfl, iX8, by decide, pm_w 800 (by decide +kernel) rfl⟩
theorem fl8_16 : pm_fl RX8 16 8 3 := ⟨RX8, TX8, 20, rfl, iX8, by decide, pm_w 802 (by decide +kernel) rfl⟩
theorem fl8_19 : pm_fl RX8 19 8 4 := ⟨RX8, TX8, 20, rfl, iX8, by decide, pm_w 803 (by decide +kernel) rfl⟩
theorem fl8_22 : pm_fl RX8 22 8 11 := ⟨RX8, TX8, 20, rfl, iX8, by decide, pm_w 810 (by decide +kernel) rfl⟩
theorem fl8_25 : pm_fl RX8 25 8 12 := ⟨RX8, TX8, 20, rfl, iX8, by decide, pm_w 811 (by decide +kernel) rfl⟩
theorem fl8_28 : pm_fl RX8 28 8 13 := ⟨RX8, TX8, 20, rfl, iX8, by decide, pm_w 812 (by decide +kernel) rfl⟩
theorem fl8_31 : pm_fl RX8 31 8 16 := ⟨RX8, TX8, 20, rfl, iX8, by decide, pm_w 815 (by decide +kernel) rfl⟩
theorem fl8_34 : pm_fl RX8 34 8 17 := ⟨RX8, TX8, 20, rfl, iX8, by decide, pm_w 816 (by decide +kernel) rfl⟩
theorem fl8_37 : pm_fl RX8 37 8 18 := ⟨RX8, TX8, 20, rfl, iX8, by decide, pm_w 817 (by decide +kernel) rfl⟩
theorem fl8_40 : pm_fl RX8 40 8 19 := ⟨RX8, TX8, 20, rfl, iX8, by decide, pm_w 818 (by decide +kernel) rfl⟩
theorem fl8_48 : pm_fl RX8 48 8 6 := ⟨RX8, TX8, 20, rfl, iX8, by decide, pm_w 805 (by decide +kernel) rfl⟩
theorem fp8_48 : pm_fp RX8 48 8 6 .int := ⟨RX8, TX8, 20, tyX8, rfl, iX8, by decide, pm_w 805 (by decide +kernel) rfl, tyX8_ok, nmX8, rfl, by decide +kernel⟩
theorem fl8_52 : pm_fl RX8 52 8 7 := ⟨RX8, TX8, 20, rfl, iX8, by decide, pm_w 806 (by decide +kernel) rfl⟩
theorem fp8_52 : pm_fp RX8 52 8 7 .int := ⟨RX8, TX8, 20, tyX8, rfl, iX8, by decide, pm_w 806 (by decide +kernel) rfl, tyX8_ok, nmX8, rfl, by decide +kernel⟩
theorem fl8_55 : pm_fl RX8 55 8 8 := ⟨RX8, TX8, 20, rfl, iX8, by decide, pm_w 807 (by decide +kernel) rfl⟩
theorem fp8_55 : pm_fp RX8 55 8 8 .int := ⟨RX8, TX8, 20, tyX8, rfl, iX8, by decide, pm_w 807 (by decide +kernel) rfl, tyX8_ok, nmX8, rfl, by decide +kernel⟩
theorem fl8_58 : pm_fl RX8 58 8 5 := ⟨RX8, TX8, 20, rfl, iX8, by decide, pm_w 804 (by decide +kernel) rfl⟩
theorem fp8_58 : pm_fp RX8 58 8 5 .int := ⟨RX8, TX8, 20, tyX8, rfl, iX8, by decide, pm_w 804 (by decide +kernel) rfl, tyX8_ok, nmX8, rfl, by decide +kernel⟩
theorem fl8_65 : pm_fl RX8 65 8 10 := ⟨RX8, TX8, 20, rfl, iX8, by decide, pm_w 809 (by decide +kernel) rfl⟩
theorem fp8_65 : pm_fp RX8 65 8 10 .boolean := ⟨RX8, TX8, 20, tyX8, rfl, iX8, by decide, pm_w 809 (by decide +kernel) rfl, tyX8_ok, nmX8, rfl, by decide +kernel⟩
theorem fl8_88 : pm_fl RX8 88 8 9 := ⟨RX8, TX8, 20, rfl, iX8, by decide, pm_w 808 (by decide +kernel) rfl⟩
theorem fp8_88 : pm_fp RX8 88 8 9 .int := ⟨RX8, TX8, 20, tyX8, rfl, iX8, by decide, pm_w 808 (by decide +kernel) rfl, tyX8_ok, nmX8, rfl, by decide +kernel⟩
theorem fl8_220 : pm_fl RX8 220 8 14 := ⟨RX8, TX8, 20, rfl, iX8, by decide, pm_w 813 (by decide +kernel) rfl⟩
theorem fp8_220 : pm_fp RX8 220 8 14 .int := ⟨RX8, TX8, 20, tyX8, rfl, iX8, by decide, pm_w 813 (by decide +kernel) rfl, tyX8_ok, nmX8, rfl, by decide +kernel⟩
theorem fl8_226 : pm_fl RX8 226 8 15 := ⟨RX8, TX8, 20, rfl, iX8, by decide, pm_w 814 (by decide +kernel) rfl⟩
theorem fp8_226 : pm_fp RX8 226 8 15 .int := ⟨RX8, TX8, 20, tyX8, rfl, iX8, by decide, pm_w 814 (by decide +kernel) rfl, tyX8_ok, nmX8, rfl, by decide +kernel⟩
theorem fl8_243 : pm_fl RX8 243 8 2 := ⟨RX8, TX8, 20, rfl, iX8, by decide, pm_w 801 (by decide +kernel) rfl⟩
theorem fp8_243 : pm_fp RX8 243 8 2 .int := ⟨RX8, TX8, 20, tyX8, rfl, iX8, by decide, pm_w 801 (by decide +kernel) rfl, tyX8_ok, nmX8, rfl, by decide +kernel⟩
def skC : List pm_Sh := [.inr (.inr (7, [some 1, some 31, some 61, none, some 91, some 94, some 96, some 105])), .inr (.inr (5, [some 2, some 14, some 19, none, none, some 26, none, some 27, none, some 28, some 29, some 30])), .inr (.inr (3, [none, some 3, some 4, some 5, some 6, some 7])), .inl (0, 6), .inl (0, 6), .inl (0, 6), .inl (0, 6), .inr (.inl (3, [8, 9, 10, 11, 12, 13])), .inl (0, 6), .inl (0, 6), .inl (0, 6), .inl (0, 6), .inl (0, 6), .inl (0, 6), .inr (.inr (0, [none, some 15, some 16, some 17, some 18])), .inl (0, 5), .inl (0, 5), .inl (0, 5), .inl (0, 5), .inr (.inl (1, [20, 23])), .inr (.inr (1, [none, none, some 21, none, some 22])), .inl (0, 50), .inl (0, 50), .inr (.inr (1, [none, none, some 24, none, some 25])), .inl (0, 50), .inl (0, 50), .inl (0, 50), .inl (0, 20), .inl (0, 6), .inl (0, 5), .inl (0, 5), .inr (.inr (5, [some 32, some 44, some 49, none, none, some 56, none, some 57, none, some 58, some 59, some 60])), .inr (.inr (3, [none, some 33, some 34, some 35, some 36, some 37])), .inl (0, 6), .inl (0, 6), .inl (0, 6), .inl (0, 6), .inr (.inl (3, [38, 39, 40, 41, 42, 43])), .inl (0, 6), .inl (0, 6), .inl (0, 6), .inl (0, 6), .inl (0, 6), .inl (0, 6), .inr (.inr (0, [none, some 45, some 46, some 47, some 48])), .inl (0, 5), .inl (0, 5), .inl (0, 5), .inl (0, 5), .inr (.inl (1, [50, 53])), .inr (.inr (1, [none, none, some 51, none, some 52])), .inl (0, 50), .inl (0, 50), .inr (.inr (1, [none, none, some 54, none, some 55])), .inl (0, 50), .inl (0, 50), .inl (0, 50), .inl (0, 20), .inl (0, 6), .inl (0, 5), .inl (0, 5), .inr (.inr (5, [some 62, some 74, some 79, none, none, some 86, none, some 87, none, some 88, some 89, some 90])), .inr (.inr (3, [none, some 63, some 64, some 65, some 66, some 67])), .inl (0, 6), .inl (0, 6), .inl (0, 6), .inl (0, 6), .inr (.inl (3, [68, 69, 70, 71, 72, 73])), .inl (0, 6), .inl (0, 6), .inl (0, 6), .inl (0, 6), .inl (0, 6), .inl (0, 6), .inr (.inr (0, [none, some 75, some 76, some 77, some 78])), .inl (0, 5), .inl (0, 5), .inl (0, 5), .inl (0, 5), .inr (.inl (1, [80, 83])), .inr (.inr (1, [none, none, some 81, none, some 82])), .inl (0, 50), .inl (0, 50), .inr (.inr (1, [none, none, some 84, none, some 85])), .inl (0, 50), .inl (0, 50), .inl (0, 50), .inl (0, 20), .inl (0, 6), .inl (0, 5), .inl (0, 5), .inr (.inr (2, [some 92, none, some 93, none, none, none, none])), .inl (0, 50), .inl (0, 50), .inr (.inr (6, [some 95, none, none, none, none])), .inl (0, 40), .inr (.inl (2, [97, 99, 101, 103])), .inr (.inr (4, [none, none, some 98])), .inl (0, 40), .inr (.inr (4, [none, none, some 100])), .inl (0, 40), .inr (.inr (4, [none, none, some 102])), .inl (0, 40), .inr (.inr (4, [none, none, some 104])), .inl (0, 40), .inl (0, 6)]
def skD : List pm_Sh := [.inr (.inr (8, [some 1, some 2, none, some 3, some 4, none, none, none, none, none, none, some 5, some 6, some 7, none, none, some 8, some 9, some 10, some 11])), .inl (0, 258), .inl (0, 258), .inl (0, 6), .inl (0, 86), .inl (0, 3), .inl (0, 6), .inl (0, 40), .inl (0, 4), .inl (0, 4), .inl (0, 160), .inl (0, 40)]
def at_RO (p : Nat) : Prop := skC[p]? = some (.inr (.inr (3, [none, some (p + 1), some (p + 2), some (p + 3), some (p + 4), some (p + 5)])) : pm_Sh) ∧ skC[p + 1]? = some (.inl (0, 6) : pm_Sh) ∧ skC[p + 2]? = some (.inl (0, 6) : pm_Sh) ∧ skC[p + 3]? = some (.inl (0, 6) : pm_Sh) ∧ skC[p + 4]? = some (.inl (0, 6) : pm_Sh) ∧ skC[p + 5]? = some (.inr (.inl (3, [p + 6, p + 7, p + 8, p + 9, p + 10, p + 11])) : pm_Sh) ∧ (∀ j, j < 6 → skC[p + 6 + j]? = some (.inl (0, 6) : pm_Sh))
theorem at_RO_0 {p : Nat} (h : at_RO p) : skC[p]? = some (.inr (.inr (3, [none, some (p + 1), some (p + 2), some (p + 3), some (p + 4), some (p + 5)])) : pm_Sh) := h.1
theorem at_RO_1 {p : Nat} (h : at_RO p) : skC[p + 1]? = some (.inl (0, 6) : pm_Sh) := h.2.1
theorem at_RO_2 {p : Nat} (h : at_RO p) : skC[p + 2]? = some (.inl (0, 6) : pm_Sh) := h.2.2.1
theorem at_RO_3 {p : Nat} (h : at_RO p) : skC[p + 3]? = some (.inl (0, 6) : pm_Sh) := h.2.2.2.1
theorem at_RO_4 {p : Nat} (h : at_RO p) : skC[p + 4]? = some (.inl (0, 6) : pm_Sh) := h.2.2.2.2.1
theorem at_RO_5 {p : Nat} (h : at_RO p) : skC[p + 5]? = some (.inr (.inl (3, [p + 6, p + 7, p + 8, p + 9, p + 10, p + 11])) : pm_Sh) := h.2.2.2.2.2.1
theorem at_RO_row {p : Nat} (h : at_RO p) : (∀ j, j < 6 → skC[p + 6 + j]? = some (.inl (0, 6) : pm_Sh)) := h.2.2.2.2.2.2
def at_CL (p : Nat) : Prop := skC[p]? = some (.inr (.inr (0, [none, some (p + 1), some (p + 2), some (p + 3), some (p + 4)])) : pm_Sh) ∧ skC[p + 1]? = some (.inl (0, 5) : pm_Sh) ∧ skC[p + 2]? = some (.inl (0, 5) : pm_Sh) ∧ skC[p + 3]? = some (.inl (0, 5) : pm_Sh) ∧ skC[p + 4]? = some (.inl (0, 5) : pm_Sh)
theorem at_CL_0 {p : Nat} (h : at_CL p) : skC[p]? = some (.inr (.inr (0, [none, some (p + 1), some (p + 2), some (p + 3), some (p + 4)])) : pm_Sh) := h.1
theorem at_CL_1 {p : Nat} (h : at_CL p) : skC[p + 1]? = some (.inl (0, 5) : pm_Sh) := h.2.1
theorem at_CL_2 {p : Nat} (h : at_CL p) : skC[p + 2]? = some (.inl (0, 5) : pm_Sh) := h.2.2.1
theorem at_CL_3 {p : Nat} (h : at_CL p) : skC[p + 3]? = some (.inl (0, 5) : pm_Sh) := h.2.2.2.1
theorem at_CL_4 {p : Nat} (h : at_CL p) : skC[p + 4]? = some (.inl (0, 5) : pm_Sh) := h.2.2.2.2
def at_LW (p : Nat) : Prop := skC[p]? = some (.inr (.inr (1, [none, none, some (p + 1), none, some (p + 2)])) : pm_Sh) ∧ skC[p + 1]? = some (.inl (0, 50) : pm_Sh) ∧ skC[p + 2]? = some (.inl (0, 50) : pm_Sh)
theorem at_LW_0 {p : Nat} (h : at_LW p) : skC[p]? = some (.inr (.inr (1, [none, none, some (p + 1), none, some (p + 2)])) : pm_Sh) := h.1
theorem at_LW_1 {p : Nat} (h : at_LW p) : skC[p + 1]? = some (.inl (0, 50) : pm_Sh) := h.2.1
theorem at_LW_2 {p : Nat} (h : at_LW p) : skC[p + 2]? = some (.inl (0, 50) : pm_Sh) := h.2.2
def at_RD (p : Nat) : Prop := skC[p]? = some (.inr (.inr (2, [some (p + 1), none, some (p + 2), none, none, none, none])) : pm_Sh) ∧ skC[p + 1]? = some (.inl (0, 50) : pm_Sh) ∧ skC[p + 2]? = some (.inl (0, 50) : pm_Sh)
theorem at_RD_0 {p : Nat} (h : at_RD p) : skC[p]? = some (.inr (.inr (2, [some (p + 1), none, some (p + 2), none, none, none, none])) : pm_Sh) := h.1
theorem at_RD_1 {p : Nat} (h : at_RD p) : skC[p + 1]? = some (.inl (0, 50) : pm_Sh) := h.2.1
theorem at_RD_2 {p : Nat} (h : at_RD p) : skC[p + 2]? = some (.inl (0, 50) : pm_Sh) := h.2.2
def at_VO (p : Nat) : Prop := skC[p]? = some (.inr (.inr (6, [some (p + 1), none, none, none, none])) : pm_Sh) ∧ skC[p + 1]? = some (.inl (0, 40) : pm_Sh)
theorem at_VO_0 {p : Nat} (h : at_VO p) : skC[p]? = some (.inr (.inr (6, [some (p + 1), none, none, none, none])) : pm_Sh) := h.1
theorem at_VO_1 {p : Nat} (h : at_VO p) : skC[p + 1]? = some (.inl (0, 40) : pm_Sh) := h.2
def at_SH (p : Nat) : Prop := skC[p]? = some (.inr (.inr (4, [none, none, some (p + 1)])) : pm_Sh) ∧ skC[p + 1]? = some (.inl (0, 40) : pm_Sh)
theorem at_SH_0 {p : Nat} (h : at_SH p) : skC[p]? = some (.inr (.inr (4, [none, none, some (p + 1)])) : pm_Sh) := h.1
theorem at_SH_1 {p : Nat} (h : at_SH p) : skC[p + 1]? = some (.inl (0, 40) : pm_Sh) := h.2
def at_VA (p : Nat) : Prop := skC[p]? = some (.inr (.inr (5, [some (p + 1), some (p + 13), some (p + 18), none, none, some (p + 25), none, some (p + 26), none, some (p + 27), some (p + 28), some (p + 29)])) : pm_Sh) ∧ skC[p + 25]? = some (.inl (0, 50) : pm_Sh) ∧ skC[p + 26]? = some (.inl (0, 20) : pm_Sh) ∧ skC[p + 27]? = some (.inl (0, 6) : pm_Sh) ∧ skC[p + 28]? = some (.inl (0, 5) : pm_Sh) ∧ skC[p + 29]? = some (.inl (0, 5) : pm_Sh) ∧ at_RO (p + 1) ∧ at_CL (p + 13) ∧ skC[p + 18]? = some (.inr (.inl (1, [p + 19, p + 22])) : pm_Sh) ∧ at_LW (p + 19) ∧ at_LW (p + 22)
theorem at_VA_0 {p : Nat} (h : at_VA p) : skC[p]? = some (.inr (.inr (5, [some (p + 1), some (p + 13), some (p + 18), none, none, some (p + 25), none, some (p + 26), none, some (p + 27), some (p + 28), some (p + 29)])) : pm_Sh) := h.1
theorem at_VA_25 {p : Nat} (h : at_VA p) : skC[p + 25]? = some (.inl (0, 50) : pm_Sh) := h.2.1
theorem at_VA_26 {p : Nat} (h : at_VA p) : skC[p + 26]? = some (.inl (0, 20) : pm_Sh) := h.2.2.1
theorem at_VA_27 {p : Nat} (h : at_VA p) : skC[p + 27]? = some (.inl (0, 6) : pm_Sh) := h.2.2.2.1
theorem at_VA_28 {p : Nat} (h : at_VA p) : skC[p + 28]? = some (.inl (0, 5) : pm_Sh) := h.2.2.2.2.1
theorem at_VA_29 {p : Nat} (h : at_VA p) : skC[p + 29]? = some (.inl (0, 5) : pm_Sh) := h.2.2.2.2.2.1
theorem at_VA_ro {p : Nat} (h : at_VA p) : at_RO (p + 1) := h.2.2.2.2.2.2.1
theorem at_VA_cl {p : Nat} (h : at_VA p) : at_CL (p + 13) := h.2.2.2.2.2.2.2.1
theorem at_VA_18 {p : Nat} (h : at_VA p) : skC[p + 18]? = some (.inr (.inl (1, [p + 19, p + 22])) : pm_Sh) := h.2.2.2.2.2.2.2.2.1
theorem at_VA_l0 {p : Nat} (h : at_VA p) : at_LW (p + 19) := h.2.2.2.2.2.2.2.2.2.1
theorem at_VA_l1 {p : Nat} (h : at_VA p) : at_LW (p + 22) := h.2.2.2.2.2.2.2.2.2.2
theorem at_RS_now : at_VA 1 := ⟨rfl, rfl, rfl, rfl, rfl, rfl, ⟨rfl, rfl, rfl, rfl, rfl, rfl, fun j hj => by rcases (show j = 0 ∨ j = 1 ∨ j = 2 ∨ j = 3 ∨ j = 4 ∨ j = 5 by omega) with rfl | rfl | rfl | rfl | rfl | rfl <;> rfl⟩, ⟨rfl, rfl, rfl, rfl, rfl⟩, rfl, ⟨rfl, rfl, rfl⟩, ⟨rfl, rfl, rfl⟩⟩
theorem at_RS_thought : at_VA 31 := ⟨rfl, rfl, rfl, rfl, rfl, rfl, ⟨rfl, rfl, rfl, rfl, rfl, rfl, fun j hj => by rcases (show j = 0 ∨ j = 1 ∨ j = 2 ∨ j = 3 ∨ j = 4 ∨ j = 5 by omega) with rfl | rfl | rfl | rfl | rfl | rfl <;> rfl⟩, ⟨rfl, rfl, rfl, rfl, rfl⟩, rfl, ⟨rfl, rfl, rfl⟩, ⟨rfl, rfl, rfl⟩⟩
theorem at_RS_kept : at_VA 61 := ⟨rfl, rfl, rfl, rfl, rfl, rfl, ⟨rfl, rfl, rfl, rfl, rfl, rfl, fun j hj => by rcases (show j = 0 ∨ j = 1 ∨ j = 2 ∨ j = 3 ∨ j = 4 ∨ j = 5 by omega) with rfl | rfl | rfl | rfl | rfl | rfl <;> rfl⟩, ⟨rfl, rfl, rfl, rfl, rfl⟩, rfl, ⟨rfl, rfl, rfl⟩, ⟨rfl, rfl, rfl⟩⟩
theorem at_RS_reader : at_RD 91 := ⟨rfl, rfl, rfl⟩
theorem at_RS_voices : at_VO 94 := ⟨rfl, rfl⟩
theorem at_RS_sheet {i : Int32} (h : pm_in i 4 = true) : at_SH (97 + 2 * i.toNatClampNeg) := by
  obtain ⟨j, hj, rfl⟩ := vp_in_of (pm_in_iff.mp h) (by decide)
  rw [nI_clamp (by omega)]
  rcases (show j = 0 ∨ j = 1 ∨ j = 2 ∨ j = 3 by omega) with rfl | rfl | rfl | rfl <;> exact ⟨rfl, rfl⟩
theorem pl_sheet {i : Int32} (h : pm_in i 4 = true) : ([97, 99, 101, 103] : List Nat)[i.toNatClampNeg]? = some (97 + 2 * i.toNatClampNeg) := by
  obtain ⟨j, hj, rfl⟩ := vp_in_of (pm_in_iff.mp h) (by decide)
  rw [nI_clamp (by omega)]
  rcases (show j = 0 ∨ j = 1 ∨ j = 2 ∨ j = 3 by omega) with rfl | rfl | rfl | rfl <;> rfl
theorem pl_row {p : Nat} {i : Int32} (h : pm_in i 6 = true) : ([p + 6, p + 7, p + 8, p + 9, p + 10, p + 11] : List Nat)[i.toNatClampNeg]? = some (p + 6 + i.toNatClampNeg) := by
  obtain ⟨j, hj, rfl⟩ := vp_in_of (pm_in_iff.mp h) (by decide)
  rw [nI_clamp (by omega)]
  rcases (show j = 0 ∨ j = 1 ∨ j = 2 ∨ j = 3 ∨ j = 4 ∨ j = 5 by omega) with rfl | rfl | rfl | rfl | rfl | rfl <;> rfl
theorem pm_inlt {i : Int32} {n : Nat} (h : pm_in i n = true) : i.toNatClampNeg < n := Nat.not_le.mp fun q => (pm_in_iff.mp h) (Or.inr q)
theorem at_RO_rowi {p : Nat} (h : at_RO p) {i : Int32} (hi : pm_in i 6 = true) : skC[p + 6 + i.toNatClampNeg]? = some (.inl (0, 6) : pm_Sh) := at_RO_row h _ (pm_inlt hi)
theorem pl_law {p : Nat} {i : Int32} (h : pm_in i 2 = true) : ([p + 19, p + 22] : List Nat)[i.toNatClampNeg]? = some (p + 19 + 3 * i.toNatClampNeg) := by
  obtain ⟨j, hj, rfl⟩ := vp_in_of (pm_in_iff.mp h) (by decide)
  rw [nI_clamp (by omega)]
  rcases (show j = 0 ∨ j = 1 by omega) with rfl | rfl <;> rfl
theorem at_VA_lawi {p : Nat} (h : at_VA p) {i : Int32} (hi : pm_in i 2 = true) : at_LW (p + 19 + 3 * i.toNatClampNeg) := by
  obtain ⟨j, hj, rfl⟩ := vp_in_of (pm_in_iff.mp hi) (by decide)
  rw [nI_clamp (by omega)]
  rcases (show j = 0 ∨ j = 1 by omega) with rfl | rfl
  · exact at_VA_l0 h
  · exact at_VA_l1 h
theorem at_MO_1 : skD[1]? = some (.inl (0, 258) : pm_Sh) := rfl
theorem at_MO_2 : skD[2]? = some (.inl (0, 258) : pm_Sh) := rfl
theorem at_MO_3 : skD[3]? = some (.inl (0, 6) : pm_Sh) := rfl
theorem at_MO_4 : skD[4]? = some (.inl (0, 86) : pm_Sh) := rfl
theorem at_MO_5 : skD[5]? = some (.inl (0, 3) : pm_Sh) := rfl
theorem at_MO_6 : skD[6]? = some (.inl (0, 6) : pm_Sh) := rfl
theorem at_MO_7 : skD[7]? = some (.inl (0, 40) : pm_Sh) := rfl
theorem at_MO_8 : skD[8]? = some (.inl (0, 4) : pm_Sh) := rfl
theorem at_MO_9 : skD[9]? = some (.inl (0, 4) : pm_Sh) := rfl
theorem at_MO_10 : skD[10]? = some (.inl (0, 160) : pm_Sh) := rfl
theorem at_MO_11 : skD[11]? = some (.inl (0, 40) : pm_Sh) := rfl
theorem at_MO_0 : skD[0]? = some (.inr (.inr (8, [some 1, some 2, none, some 3, some 4, none, none, none, none, none, none, some 5, some 6, some 7, none, none, some 8, some 9, some 10, some 11])) : pm_Sh) := rfl
theorem at_RS_0 : skC[0]? = some (.inr (.inr (7, [some 1, some 31, some 61, none, some 91, some 94, some 96, some 105])) : pm_Sh) := rfl
theorem at_RS_105 : skC[105]? = some (.inl (0, 6) : pm_Sh) := rfl
theorem at_RS_96 : skC[96]? = some (.inr (.inl (2, [97, 99, 101, 103])) : pm_Sh) := rfl
end
