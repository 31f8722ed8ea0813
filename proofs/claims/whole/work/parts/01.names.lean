-- ===== PART A: goes FIRST, ahead of the names: the tables' words, and 'selects' of the private methods out of them =====
/-- a private method of a class that the tables say can be made, by its rows of tables_1 -/
def lw_okq (q : MethodName × Nat) : Prop := (q.1.cls ≠ "java/lang/invoke/MethodHandle" ∧ q.1.cls ≠ "java/lang/invoke/VarHandle") ∧ Cond.instantiable q.1.cls q.2 ∈ tables_1 ∧ Cond.privateMethod q.1 ∈ tables_1 ∧ Cond.instanceMethod q.1 ∈ tables_1
theorem lw_p0 : lw_okq (⟨"PostUnion$Lands", "findCarriages", "()V"⟩, 9) := ⟨⟨by decide +kernel, by decide +kernel⟩, List.mem_of_getElem? (i := 32) (by decide +kernel), List.mem_of_getElem? (i := 40) (by decide +kernel), List.mem_of_getElem? (i := 41) (by decide +kernel)⟩
theorem lw_p1 : lw_okq (⟨"PostUnion", "refused", "(I)Z"⟩, 16) := ⟨⟨by decide +kernel, by decide +kernel⟩, List.mem_of_getElem? (i := 22) (by decide +kernel), List.mem_of_getElem? (i := 533) (by decide +kernel), List.mem_of_getElem? (i := 534) (by decide +kernel)⟩
theorem lw_p2 : lw_okq (⟨"PostUnion", "accepted", "()Z"⟩, 16) := ⟨⟨by decide +kernel, by decide +kernel⟩, List.mem_of_getElem? (i := 22) (by decide +kernel), List.mem_of_getElem? (i := 537) (by decide +kernel), List.mem_of_getElem? (i := 538) (by decide +kernel)⟩
theorem lw_p3 : lw_okq (⟨"PostUnion", "trayStatus", "(III)I"⟩, 16) := ⟨⟨by decide +kernel, by decide +kernel⟩, List.mem_of_getElem? (i := 22) (by decide +kernel), List.mem_of_getElem? (i := 545) (by decide +kernel), List.mem_of_getElem? (i := 546) (by decide +kernel)⟩
theorem lw_p4 : lw_okq (⟨"PostUnion", "refuse", "(I)I"⟩, 16) := ⟨⟨by decide +kernel, by decide +kernel⟩, List.mem_of_getElem? (i := 22) (by decide +kernel), List.mem_of_getElem? (i := 560) (by decide +kernel), List.mem_of_getElem? (i := 561) (by decide +kernel)⟩
theorem lw_p5 : lw_okq (⟨"PostUnion", "pourStatus", "(IIIII)I"⟩, 16) := ⟨⟨by decide +kernel, by decide +kernel⟩, List.mem_of_getElem? (i := 22) (by decide +kernel), List.mem_of_getElem? (i := 568) (by decide +kernel), List.mem_of_getElem? (i := 569) (by decide +kernel)⟩
theorem lw_p6 : lw_okq (⟨"PostUnion", "isLand", "(I)Z"⟩, 16) := ⟨⟨by decide +kernel, by decide +kernel⟩, List.mem_of_getElem? (i := 22) (by decide +kernel), List.mem_of_getElem? (i := 591) (by decide +kernel), List.mem_of_getElem? (i := 592) (by decide +kernel)⟩
theorem lw_p7 : lw_okq (⟨"PostUnion", "isPair", "(II)Z"⟩, 16) := ⟨⟨by decide +kernel, by decide +kernel⟩, List.mem_of_getElem? (i := 22) (by decide +kernel), List.mem_of_getElem? (i := 626) (by decide +kernel), List.mem_of_getElem? (i := 627) (by decide +kernel)⟩
theorem lw_p8 : lw_okq (⟨"PostUnion$Reader", "tellTokens", "()V"⟩, 19) := ⟨⟨by decide +kernel, by decide +kernel⟩, List.mem_of_getElem? (i := 78) (by decide +kernel), List.mem_of_getElem? (i := 673) (by decide +kernel), List.mem_of_getElem? (i := 674) (by decide +kernel)⟩
theorem lw_p9 : lw_okq (⟨"PostUnion$Reader", "tellToken", "(I)I"⟩, 19) := ⟨⟨by decide +kernel, by decide +kernel⟩, List.mem_of_getElem? (i := 78) (by decide +kernel), List.mem_of_getElem? (i := 677) (by decide +kernel), List.mem_of_getElem? (i := 678) (by decide +kernel)⟩
theorem lw_p10 : lw_okq (⟨"PostUnion$Reader", "tellWord", "(I)I"⟩, 19) := ⟨⟨by decide +kernel, by decide +kernel⟩, List.mem_of_getElem? (i := 78) (by decide +kernel), List.mem_of_getElem? (i := 684) (by decide +kernel), List.mem_of_getElem? (i := 685) (by decide +kernel)⟩
theorem lw_p11 : lw_okq (⟨"PostUnion$Reader", "wordKind", "(I)I"⟩, 19) := ⟨⟨by decide +kernel, by decide +kernel⟩, List.mem_of_getElem? (i := 78) (by decide +kernel), List.mem_of_getElem? (i := 689) (by decide +kernel), List.mem_of_getElem? (i := 690) (by decide +kernel)⟩
theorem lw_p12 : lw_okq (⟨"PostUnion$Reader", "tellNumber", "(I)I"⟩, 19) := ⟨⟨by decide +kernel, by decide +kernel⟩, List.mem_of_getElem? (i := 78) (by decide +kernel), List.mem_of_getElem? (i := 737) (by decide +kernel), List.mem_of_getElem? (i := 738) (by decide +kernel)⟩
theorem lw_p13 : lw_okq (⟨"PostUnion$Reader", "takeClause", "()V"⟩, 19) := ⟨⟨by decide +kernel, by decide +kernel⟩, List.mem_of_getElem? (i := 78) (by decide +kernel), List.mem_of_getElem? (i := 807) (by decide +kernel), List.mem_of_getElem? (i := 808) (by decide +kernel)⟩
theorem lw_p14 : lw_okq (⟨"PostUnion$Reader", "takeName", "()V"⟩, 19) := ⟨⟨by decide +kernel, by decide +kernel⟩, List.mem_of_getElem? (i := 78) (by decide +kernel), List.mem_of_getElem? (i := 811) (by decide +kernel), List.mem_of_getElem? (i := 812) (by decide +kernel)⟩
theorem lw_p15 : lw_okq (⟨"PostUnion$Reader", "blame", "(I)V"⟩, 19) := ⟨⟨by decide +kernel, by decide +kernel⟩, List.mem_of_getElem? (i := 78) (by decide +kernel), List.mem_of_getElem? (i := 819) (by decide +kernel), List.mem_of_getElem? (i := 820) (by decide +kernel)⟩
def lw_privs_1 : List (MethodName × Nat) := [(⟨"PostUnion$Lands", "findCarriages", "()V"⟩, 9), (⟨"PostUnion", "refused", "(I)Z"⟩, 16), (⟨"PostUnion", "accepted", "()Z"⟩, 16), (⟨"PostUnion", "trayStatus", "(III)I"⟩, 16), (⟨"PostUnion", "refuse", "(I)I"⟩, 16), (⟨"PostUnion", "pourStatus", "(IIIII)I"⟩, 16), (⟨"PostUnion", "isLand", "(I)Z"⟩, 16), (⟨"PostUnion", "isPair", "(II)Z"⟩, 16), (⟨"PostUnion$Reader", "tellTokens", "()V"⟩, 19), (⟨"PostUnion$Reader", "tellToken", "(I)I"⟩, 19), (⟨"PostUnion$Reader", "tellWord", "(I)I"⟩, 19), (⟨"PostUnion$Reader", "wordKind", "(I)I"⟩, 19), (⟨"PostUnion$Reader", "tellNumber", "(I)I"⟩, 19), (⟨"PostUnion$Reader", "takeClause", "()V"⟩, 19), (⟨"PostUnion$Reader", "takeName", "()V"⟩, 19), (⟨"PostUnion$Reader", "blame", "(I)V"⟩, 19)]
theorem lw_r1 : ∀ q ∈ lw_privs_1, lw_okq q := List.forall_mem_cons.mpr ⟨lw_p0, List.forall_mem_cons.mpr ⟨lw_p1, List.forall_mem_cons.mpr ⟨lw_p2, List.forall_mem_cons.mpr ⟨lw_p3, List.forall_mem_cons.mpr ⟨lw_p4, List.forall_mem_cons.mpr ⟨lw_p5, List.forall_mem_cons.mpr ⟨lw_p6, List.forall_mem_cons.mpr ⟨lw_p7, List.forall_mem_cons.mpr ⟨lw_p8, List.forall_mem_cons.mpr ⟨lw_p9, List.forall_mem_cons.mpr ⟨lw_p10, List.forall_mem_cons.mpr ⟨lw_p11, List.forall_mem_cons.mpr ⟨lw_p12, List.forall_mem_cons.mpr ⟨lw_p13, List.forall_mem_cons.mpr ⟨lw_p14, List.forall_mem_cons.mpr ⟨lw_p15, fun _ h => absurd h List.not_mem_nil⟩⟩⟩⟩⟩⟩⟩⟩⟩⟩⟩⟩⟩⟩⟩⟩
theorem lw_p16 : lw_okq (⟨"PostUnion$Reader", "isNamed", "(I)Z"⟩, 19) := ⟨⟨by decide +kernel, by decide +kernel⟩, List.mem_of_getElem? (i := 78) (by decide +kernel), List.mem_of_getElem? (i := 823) (by decide +kernel), List.mem_of_getElem? (i := 824) (by decide +kernel)⟩
theorem lw_p17 : lw_okq (⟨"PostUnion$Reader", "step", "()V"⟩, 19) := ⟨⟨by decide +kernel, by decide +kernel⟩, List.mem_of_getElem? (i := 78) (by decide +kernel), List.mem_of_getElem? (i := 827) (by decide +kernel), List.mem_of_getElem? (i := 828) (by decide +kernel)⟩
theorem lw_p18 : lw_okq (⟨"PostUnion$Reader", "need", "(I)V"⟩, 19) := ⟨⟨by decide +kernel, by decide +kernel⟩, List.mem_of_getElem? (i := 78) (by decide +kernel), List.mem_of_getElem? (i := 831) (by decide +kernel), List.mem_of_getElem? (i := 832) (by decide +kernel)⟩
theorem lw_p19 : lw_okq (⟨"PostUnion$Reader", "take", "(I)Z"⟩, 19) := ⟨⟨by decide +kernel, by decide +kernel⟩, List.mem_of_getElem? (i := 78) (by decide +kernel), List.mem_of_getElem? (i := 835) (by decide +kernel), List.mem_of_getElem? (i := 836) (by decide +kernel)⟩
theorem lw_p20 : lw_okq (⟨"PostUnion$Reader", "takeList", "()I"⟩, 19) := ⟨⟨by decide +kernel, by decide +kernel⟩, List.mem_of_getElem? (i := 78) (by decide +kernel), List.mem_of_getElem? (i := 839) (by decide +kernel), List.mem_of_getElem? (i := 840) (by decide +kernel)⟩
theorem lw_p21 : lw_okq (⟨"PostUnion$Reader", "takeFormula", "(I)V"⟩, 19) := ⟨⟨by decide +kernel, by decide +kernel⟩, List.mem_of_getElem? (i := 78) (by decide +kernel), List.mem_of_getElem? (i := 848) (by decide +kernel), List.mem_of_getElem? (i := 849) (by decide +kernel)⟩
theorem lw_p22 : lw_okq (⟨"PostUnion$Reader", "takeAtom", "()V"⟩, 19) := ⟨⟨by decide +kernel, by decide +kernel⟩, List.mem_of_getElem? (i := 78) (by decide +kernel), List.mem_of_getElem? (i := 852) (by decide +kernel), List.mem_of_getElem? (i := 853) (by decide +kernel)⟩
theorem lw_p23 : lw_okq (⟨"PostUnion$Reader", "openBracket", "(I)V"⟩, 19) := ⟨⟨by decide +kernel, by decide +kernel⟩, List.mem_of_getElem? (i := 78) (by decide +kernel), List.mem_of_getElem? (i := 863) (by decide +kernel), List.mem_of_getElem? (i := 864) (by decide +kernel)⟩
theorem lw_p24 : lw_okq (⟨"PostUnion$Reader", "hold", "(I)V"⟩, 19) := ⟨⟨by decide +kernel, by decide +kernel⟩, List.mem_of_getElem? (i := 78) (by decide +kernel), List.mem_of_getElem? (i := 867) (by decide +kernel), List.mem_of_getElem? (i := 868) (by decide +kernel)⟩
theorem lw_p25 : lw_okq (⟨"PostUnion$Reader", "takeJoint", "()V"⟩, 19) := ⟨⟨by decide +kernel, by decide +kernel⟩, List.mem_of_getElem? (i := 78) (by decide +kernel), List.mem_of_getElem? (i := 871) (by decide +kernel), List.mem_of_getElem? (i := 872) (by decide +kernel)⟩
theorem lw_p26 : lw_okq (⟨"PostUnion$Reader", "joinBy", "(II)V"⟩, 19) := ⟨⟨by decide +kernel, by decide +kernel⟩, List.mem_of_getElem? (i := 78) (by decide +kernel), List.mem_of_getElem? (i := 878) (by decide +kernel), List.mem_of_getElem? (i := 879) (by decide +kernel)⟩
theorem lw_p27 : lw_okq (⟨"PostUnion$Reader", "unwind", "(I)V"⟩, 19) := ⟨⟨by decide +kernel, by decide +kernel⟩, List.mem_of_getElem? (i := 78) (by decide +kernel), List.mem_of_getElem? (i := 882) (by decide +kernel), List.mem_of_getElem? (i := 883) (by decide +kernel)⟩
theorem lw_p28 : lw_okq (⟨"PostUnion$Reader", "takeInBracket", "()V"⟩, 19) := ⟨⟨by decide +kernel, by decide +kernel⟩, List.mem_of_getElem? (i := 78) (by decide +kernel), List.mem_of_getElem? (i := 886) (by decide +kernel), List.mem_of_getElem? (i := 887) (by decide +kernel)⟩
theorem lw_p29 : lw_okq (⟨"PostUnion", "answerOrNoneSuch", "(I)I"⟩, 16) := ⟨⟨by decide +kernel, by decide +kernel⟩, List.mem_of_getElem? (i := 22) (by decide +kernel), List.mem_of_getElem? (i := 932) (by decide +kernel), List.mem_of_getElem? (i := 933) (by decide +kernel)⟩
theorem lw_p30 : lw_okq (⟨"PostUnion", "isReserve", "(IIII)Z"⟩, 16) := ⟨⟨by decide +kernel, by decide +kernel⟩, List.mem_of_getElem? (i := 22) (by decide +kernel), List.mem_of_getElem? (i := 940) (by decide +kernel), List.mem_of_getElem? (i := 941) (by decide +kernel)⟩
theorem lw_p31 : lw_okq (⟨"PostUnion", "isMail", "(IIIIII)Z"⟩, 16) := ⟨⟨by decide +kernel, by decide +kernel⟩, List.mem_of_getElem? (i := 22) (by decide +kernel), List.mem_of_getElem? (i := 964) (by decide +kernel), List.mem_of_getElem? (i := 965) (by decide +kernel)⟩
def lw_privs_2 : List (MethodName × Nat) := [(⟨"PostUnion$Reader", "isNamed", "(I)Z"⟩, 19), (⟨"PostUnion$Reader", "step", "()V"⟩, 19), (⟨"PostUnion$Reader", "need", "(I)V"⟩, 19), (⟨"PostUnion$Reader", "take", "(I)Z"⟩, 19), (⟨"PostUnion$Reader", "takeList", "()I"⟩, 19), (⟨"PostUnion$Reader", "takeFormula", "(I)V"⟩, 19), (⟨"PostUnion$Reader", "takeAtom", "()V"⟩, 19), (⟨"PostUnion$Reader", "openBracket", "(I)V"⟩, 19), (⟨"PostUnion$Reader", "hold", "(I)V"⟩, 19), (⟨"PostUnion$Reader", "takeJoint", "()V"⟩, 19), (⟨"PostUnion$Reader", "joinBy", "(II)V"⟩, 19), (⟨"PostUnion$Reader", "unwind", "(I)V"⟩, 19), (⟨"PostUnion$Reader", "takeInBracket", "()V"⟩, 19), (⟨"PostUnion", "answerOrNoneSuch", "(I)I"⟩, 16), (⟨"PostUnion", "isReserve", "(IIII)Z"⟩, 16), (⟨"PostUnion", "isMail", "(IIIIII)Z"⟩, 16)]
theorem lw_r2 : ∀ q ∈ lw_privs_2, lw_okq q := List.forall_mem_cons.mpr ⟨lw_p16, List.forall_mem_cons.mpr ⟨lw_p17, List.forall_mem_cons.mpr ⟨lw_p18, List.forall_mem_cons.mpr ⟨lw_p19, List.forall_mem_cons.mpr ⟨lw_p20, List.forall_mem_cons.mpr ⟨lw_p21, List.forall_mem_cons.mpr ⟨lw_p22, List.forall_mem_cons.mpr ⟨lw_p23, List.forall_mem_cons.mpr ⟨lw_p24, List.forall_mem_cons.mpr ⟨lw_p25, List.forall_mem_cons.mpr ⟨lw_p26, List.forall_mem_cons.mpr ⟨lw_p27, List.forall_mem_cons.mpr ⟨lw_p28, List.forall_mem_cons.mpr ⟨lw_p29, List.forall_mem_cons.mpr ⟨lw_p30, List.forall_mem_cons.mpr ⟨lw_p31, fun _ h => absurd h List.not_mem_nil⟩⟩⟩⟩⟩⟩⟩⟩⟩⟩⟩⟩⟩⟩⟩⟩
theorem lw_p32 : lw_okq (⟨"PostUnion$Ways", "extend", "(IIJ)V"⟩, 12) := ⟨⟨by decide +kernel, by decide +kernel⟩, List.mem_of_getElem? (i := 238) (by decide +kernel), List.mem_of_getElem? (i := 1059) (by decide +kernel), List.mem_of_getElem? (i := 1060) (by decide +kernel)⟩
theorem lw_p33 : lw_okq (⟨"PostUnion$Ways", "isOnPath", "(II)Z"⟩, 12) := ⟨⟨by decide +kernel, by decide +kernel⟩, List.mem_of_getElem? (i := 238) (by decide +kernel), List.mem_of_getElem? (i := 1064) (by decide +kernel), List.mem_of_getElem? (i := 1065) (by decide +kernel)⟩
theorem lw_p34 : lw_okq (⟨"PostUnion$Ways", "arrive", "(IIJ)V"⟩, 12) := ⟨⟨by decide +kernel, by decide +kernel⟩, List.mem_of_getElem? (i := 238) (by decide +kernel), List.mem_of_getElem? (i := 1077) (by decide +kernel), List.mem_of_getElem? (i := 1078) (by decide +kernel)⟩
theorem lw_p35 : lw_okq (⟨"PostUnion", "hasOnly", "(III)Z"⟩, 16) := ⟨⟨by decide +kernel, by decide +kernel⟩, List.mem_of_getElem? (i := 22) (by decide +kernel), List.mem_of_getElem? (i := 1172) (by decide +kernel), List.mem_of_getElem? (i := 1173) (by decide +kernel)⟩
theorem lw_p36 : lw_okq (⟨"PostUnion$Flows", "toldBy", "(I[II)I"⟩, 12) := ⟨⟨by decide +kernel, by decide +kernel⟩, List.mem_of_getElem? (i := 282) (by decide +kernel), List.mem_of_getElem? (i := 1229) (by decide +kernel), List.mem_of_getElem? (i := 1230) (by decide +kernel)⟩
theorem lw_p37 : lw_okq (⟨"PostUnion$Flows", "farOff", "(II)I"⟩, 12) := ⟨⟨by decide +kernel, by decide +kernel⟩, List.mem_of_getElem? (i := 282) (by decide +kernel), List.mem_of_getElem? (i := 1243) (by decide +kernel), List.mem_of_getElem? (i := 1244) (by decide +kernel)⟩
theorem lw_p38 : lw_okq (⟨"PostUnion$Flows", "tryNext", "(I)Z"⟩, 12) := ⟨⟨by decide +kernel, by decide +kernel⟩, List.mem_of_getElem? (i := 282) (by decide +kernel), List.mem_of_getElem? (i := 1250) (by decide +kernel), List.mem_of_getElem? (i := 1251) (by decide +kernel)⟩
theorem lw_p39 : lw_okq (⟨"PostUnion$Bags", "find", "(II)V"⟩, 15) := ⟨⟨by decide +kernel, by decide +kernel⟩, List.mem_of_getElem? (i := 346) (by decide +kernel), List.mem_of_getElem? (i := 1390) (by decide +kernel), List.mem_of_getElem? (i := 1391) (by decide +kernel)⟩
theorem lw_p40 : lw_okq (⟨"PostUnion$Books", "putIn", "(II)I"⟩, 12) := ⟨⟨by decide +kernel, by decide +kernel⟩, List.mem_of_getElem? (i := 399) (by decide +kernel), List.mem_of_getElem? (i := 1448) (by decide +kernel), List.mem_of_getElem? (i := 1449) (by decide +kernel)⟩
theorem lw_p41 : lw_okq (⟨"PostUnion$Books", "nearestFrom", "(II)I"⟩, 12) := ⟨⟨by decide +kernel, by decide +kernel⟩, List.mem_of_getElem? (i := 399) (by decide +kernel), List.mem_of_getElem? (i := 1453) (by decide +kernel), List.mem_of_getElem? (i := 1454) (by decide +kernel)⟩
theorem lw_p42 : lw_okq (⟨"PostUnion$Books", "weightOf", "(II)J"⟩, 12) := ⟨⟨by decide +kernel, by decide +kernel⟩, List.mem_of_getElem? (i := 399) (by decide +kernel), List.mem_of_getElem? (i := 1457) (by decide +kernel), List.mem_of_getElem? (i := 1458) (by decide +kernel)⟩
theorem lw_p43 : lw_okq (⟨"PostUnion$Books", "cost", "(II)I"⟩, 12) := ⟨⟨by decide +kernel, by decide +kernel⟩, List.mem_of_getElem? (i := 399) (by decide +kernel), List.mem_of_getElem? (i := 1461) (by decide +kernel), List.mem_of_getElem? (i := 1462) (by decide +kernel)⟩
theorem lw_p44 : lw_okq (⟨"PostUnion$Books", "shift", "(II)V"⟩, 12) := ⟨⟨by decide +kernel, by decide +kernel⟩, List.mem_of_getElem? (i := 399) (by decide +kernel), List.mem_of_getElem? (i := 1470) (by decide +kernel), List.mem_of_getElem? (i := 1471) (by decide +kernel)⟩
theorem lw_p45 : lw_okq (⟨"PostUnion", "setFraction", "(JJ)V"⟩, 16) := ⟨⟨by decide +kernel, by decide +kernel⟩, List.mem_of_getElem? (i := 22) (by decide +kernel), List.mem_of_getElem? (i := 1507) (by decide +kernel), List.mem_of_getElem? (i := 1508) (by decide +kernel)⟩
theorem lw_p46 : lw_okq (⟨"PostUnion$Cases", "distance", "(II)I"⟩, 4) := ⟨⟨by decide +kernel, by decide +kernel⟩, List.mem_of_getElem? (i := 444) (by decide +kernel), List.mem_of_getElem? (i := 1542) (by decide +kernel), List.mem_of_getElem? (i := 1543) (by decide +kernel)⟩
theorem lw_p47 : lw_okq (⟨"PostUnionModel", "is", "(I)Z"⟩, 108) := ⟨⟨by decide +kernel, by decide +kernel⟩, List.mem_of_getElem? (i := 1547) (by decide +kernel), List.mem_of_getElem? (i := 1898) (by decide +kernel), List.mem_of_getElem? (i := 1899) (by decide +kernel)⟩
def lw_privs_3 : List (MethodName × Nat) := [(⟨"PostUnion$Ways", "extend", "(IIJ)V"⟩, 12), (⟨"PostUnion$Ways", "isOnPath", "(II)Z"⟩, 12), (⟨"PostUnion$Ways", "arrive", "(IIJ)V"⟩, 12), (⟨"PostUnion", "hasOnly", "(III)Z"⟩, 16), (⟨"PostUnion$Flows", "toldBy", "(I[II)I"⟩, 12), (⟨"PostUnion$Flows", "farOff", "(II)I"⟩, 12), (⟨"PostUnion$Flows", "tryNext", "(I)Z"⟩, 12), (⟨"PostUnion$Bags", "find", "(II)V"⟩, 15), (⟨"PostUnion$Books", "putIn", "(II)I"⟩, 12), (⟨"PostUnion$Books", "nearestFrom", "(II)I"⟩, 12), (⟨"PostUnion$Books", "weightOf", "(II)J"⟩, 12), (⟨"PostUnion$Books", "cost", "(II)I"⟩, 12), (⟨"PostUnion$Books", "shift", "(II)V"⟩, 12), (⟨"PostUnion", "setFraction", "(JJ)V"⟩, 16), (⟨"PostUnion$Cases", "distance", "(II)I"⟩, 4), (⟨"PostUnionModel", "is", "(I)Z"⟩, 108)]
theorem lw_r3 : ∀ q ∈ lw_privs_3, lw_okq q := List.forall_mem_cons.mpr ⟨lw_p32, List.forall_mem_cons.mpr ⟨lw_p33, List.forall_mem_cons.mpr ⟨lw_p34, List.forall_mem_cons.mpr ⟨lw_p35, List.forall_mem_cons.mpr ⟨lw_p36, List.forall_mem_cons.mpr ⟨lw_p37, List.forall_mem_cons.mpr ⟨lw_p38, List.forall_mem_cons.mpr ⟨lw_p39, List.forall_mem_cons.mpr ⟨lw_p40, List.forall_mem_cons.mpr ⟨lw_p41, List.forall_mem_cons.mpr ⟨lw_p42, List.forall_mem_cons.mpr ⟨lw_p43, List.forall_mem_cons.mpr ⟨lw_p44, List.forall_mem_cons.mpr ⟨lw_p45, List.forall_mem_cons.mpr ⟨lw_p46, List.forall_mem_cons.mpr ⟨lw_p47, fun _ h => absurd h List.not_mem_nil⟩⟩⟩⟩⟩⟩⟩⟩⟩⟩⟩⟩⟩⟩⟩⟩
theorem lw_p48 : lw_okq (⟨"PostUnionModel", "wrongPlace", "(II)I"⟩, 108) := ⟨⟨by decide +kernel, by decide +kernel⟩, List.mem_of_getElem? (i := 1547) (by decide +kernel), List.mem_of_getElem? (i := 1906) (by decide +kernel), List.mem_of_getElem? (i := 1907) (by decide +kernel)⟩
theorem lw_p49 : lw_okq (⟨"PostUnionModel", "refuse", "(I)I"⟩, 108) := ⟨⟨by decide +kernel, by decide +kernel⟩, List.mem_of_getElem? (i := 1547) (by decide +kernel), List.mem_of_getElem? (i := 1930) (by decide +kernel), List.mem_of_getElem? (i := 1931) (by decide +kernel)⟩
theorem lw_p50 : lw_okq (⟨"PostUnionModel", "gives", "(I)I"⟩, 108) := ⟨⟨by decide +kernel, by decide +kernel⟩, List.mem_of_getElem? (i := 1547) (by decide +kernel), List.mem_of_getElem? (i := 1934) (by decide +kernel), List.mem_of_getElem? (i := 1935) (by decide +kernel)⟩
theorem lw_p51 : lw_okq (⟨"PostUnionModel", "isLand", "(I)Z"⟩, 108) := ⟨⟨by decide +kernel, by decide +kernel⟩, List.mem_of_getElem? (i := 1547) (by decide +kernel), List.mem_of_getElem? (i := 1942) (by decide +kernel), List.mem_of_getElem? (i := 1943) (by decide +kernel)⟩
theorem lw_p52 : lw_okq (⟨"PostUnionModel", "givesLong", "(J)J"⟩, 108) := ⟨⟨by decide +kernel, by decide +kernel⟩, List.mem_of_getElem? (i := 1547) (by decide +kernel), List.mem_of_getElem? (i := 1956) (by decide +kernel), List.mem_of_getElem? (i := 1957) (by decide +kernel)⟩
theorem lw_p53 : lw_okq (⟨"PostUnionModel", "areTwo", "(II)Z"⟩, 108) := ⟨⟨by decide +kernel, by decide +kernel⟩, List.mem_of_getElem? (i := 1547) (by decide +kernel), List.mem_of_getElem? (i := 1964) (by decide +kernel), List.mem_of_getElem? (i := 1965) (by decide +kernel)⟩
theorem lw_p54 : lw_okq (⟨"PostUnionModel", "four", "(I)V"⟩, 108) := ⟨⟨by decide +kernel, by decide +kernel⟩, List.mem_of_getElem? (i := 1547) (by decide +kernel), List.mem_of_getElem? (i := 1975) (by decide +kernel), List.mem_of_getElem? (i := 1976) (by decide +kernel)⟩
theorem lw_p55 : lw_okq (⟨"PostUnionModel", "next", "()V"⟩, 108) := ⟨⟨by decide +kernel, by decide +kernel⟩, List.mem_of_getElem? (i := 1547) (by decide +kernel), List.mem_of_getElem? (i := 1983) (by decide +kernel), List.mem_of_getElem? (i := 1984) (by decide +kernel)⟩
theorem lw_p56 : lw_okq (⟨"PostUnionModel", "at", "(I)I"⟩, 108) := ⟨⟨by decide +kernel, by decide +kernel⟩, List.mem_of_getElem? (i := 1547) (by decide +kernel), List.mem_of_getElem? (i := 1987) (by decide +kernel), List.mem_of_getElem? (i := 1988) (by decide +kernel)⟩
theorem lw_p57 : lw_okq (⟨"PostUnionModel", "clause", "()Z"⟩, 108) := ⟨⟨by decide +kernel, by decide +kernel⟩, List.mem_of_getElem? (i := 1547) (by decide +kernel), List.mem_of_getElem? (i := 2001) (by decide +kernel), List.mem_of_getElem? (i := 2002) (by decide +kernel)⟩
theorem lw_p58 : lw_okq (⟨"PostUnionModel", "inWords", "(Ljava/lang/String;)I"⟩, 108) := ⟨⟨by decide +kernel, by decide +kernel⟩, List.mem_of_getElem? (i := 1547) (by decide +kernel), List.mem_of_getElem? (i := 2006) (by decide +kernel), List.mem_of_getElem? (i := 2007) (by decide +kernel)⟩
theorem lw_p59 : lw_okq (⟨"PostUnionModel", "fail", "(I)Z"⟩, 108) := ⟨⟨by decide +kernel, by decide +kernel⟩, List.mem_of_getElem? (i := 1547) (by decide +kernel), List.mem_of_getElem? (i := 2013) (by decide +kernel), List.mem_of_getElem? (i := 2014) (by decide +kernel)⟩
theorem lw_p60 : lw_okq (⟨"PostUnionModel", "want", "(I)Z"⟩, 108) := ⟨⟨by decide +kernel, by decide +kernel⟩, List.mem_of_getElem? (i := 1547) (by decide +kernel), List.mem_of_getElem? (i := 2017) (by decide +kernel), List.mem_of_getElem? (i := 2018) (by decide +kernel)⟩
theorem lw_p61 : lw_okq (⟨"PostUnionModel", "isSign", "(I)Z"⟩, 108) := ⟨⟨by decide +kernel, by decide +kernel⟩, List.mem_of_getElem? (i := 1547) (by decide +kernel), List.mem_of_getElem? (i := 2021) (by decide +kernel), List.mem_of_getElem? (i := 2022) (by decide +kernel)⟩
theorem lw_p62 : lw_okq (⟨"PostUnionModel", "isKey", "(I)Z"⟩, 108) := ⟨⟨by decide +kernel, by decide +kernel⟩, List.mem_of_getElem? (i := 1547) (by decide +kernel), List.mem_of_getElem? (i := 2025) (by decide +kernel), List.mem_of_getElem? (i := 2026) (by decide +kernel)⟩
theorem lw_p63 : lw_okq (⟨"PostUnionModel", "list", "()I"⟩, 108) := ⟨⟨by decide +kernel, by decide +kernel⟩, List.mem_of_getElem? (i := 1547) (by decide +kernel), List.mem_of_getElem? (i := 2029) (by decide +kernel), List.mem_of_getElem? (i := 2030) (by decide +kernel)⟩
def lw_privs_4 : List (MethodName × Nat) := [(⟨"PostUnionModel", "wrongPlace", "(II)I"⟩, 108), (⟨"PostUnionModel", "refuse", "(I)I"⟩, 108), (⟨"PostUnionModel", "gives", "(I)I"⟩, 108), (⟨"PostUnionModel", "isLand", "(I)Z"⟩, 108), (⟨"PostUnionModel", "givesLong", "(J)J"⟩, 108), (⟨"PostUnionModel", "areTwo", "(II)Z"⟩, 108), (⟨"PostUnionModel", "four", "(I)V"⟩, 108), (⟨"PostUnionModel", "next", "()V"⟩, 108), (⟨"PostUnionModel", "at", "(I)I"⟩, 108), (⟨"PostUnionModel", "clause", "()Z"⟩, 108), (⟨"PostUnionModel", "inWords", "(Ljava/lang/String;)I"⟩, 108), (⟨"PostUnionModel", "fail", "(I)Z"⟩, 108), (⟨"PostUnionModel", "want", "(I)Z"⟩, 108), (⟨"PostUnionModel", "isSign", "(I)Z"⟩, 108), (⟨"PostUnionModel", "isKey", "(I)Z"⟩, 108), (⟨"PostUnionModel", "list", "()I"⟩, 108)]
theorem lw_r4 : ∀ q ∈ lw_privs_4, lw_okq q := List.forall_mem_cons.mpr ⟨lw_p48, List.forall_mem_cons.mpr ⟨lw_p49, List.forall_mem_cons.mpr ⟨lw_p50, List.forall_mem_cons.mpr ⟨lw_p51, List.forall_mem_cons.mpr ⟨lw_p52, List.forall_mem_cons.mpr ⟨lw_p53, List.forall_mem_cons.mpr ⟨lw_p54, List.forall_mem_cons.mpr ⟨lw_p55, List.forall_mem_cons.mpr ⟨lw_p56, List.forall_mem_cons.mpr ⟨lw_p57, List.forall_mem_cons.mpr ⟨lw_p58, List.forall_mem_cons.mpr ⟨lw_p59, List.forall_mem_cons.mpr ⟨lw_p60, List.forall_mem_cons.mpr ⟨lw_p61, List.forall_mem_cons.mpr ⟨lw_p62, List.forall_mem_cons.mpr ⟨lw_p63, fun _ h => absurd h List.not_mem_nil⟩⟩⟩⟩⟩⟩⟩⟩⟩⟩⟩⟩⟩⟩⟩⟩
theorem lw_p64 : lw_okq (⟨"PostUnionModel", "test", "()Z"⟩, 108) := ⟨⟨by decide +kernel, by decide +kernel⟩, List.mem_of_getElem? (i := 1547) (by decide +kernel), List.mem_of_getElem? (i := 2034) (by decide +kernel), List.mem_of_getElem? (i := 2035) (by decide +kernel)⟩
theorem lw_p65 : lw_okq (⟨"PostUnionModel", "one", "(Z)Z"⟩, 108) := ⟨⟨by decide +kernel, by decide +kernel⟩, List.mem_of_getElem? (i := 1547) (by decide +kernel), List.mem_of_getElem? (i := 2038) (by decide +kernel), List.mem_of_getElem? (i := 2039) (by decide +kernel)⟩
theorem lw_p66 : lw_okq (⟨"PostUnionModel", "sum", "()Z"⟩, 108) := ⟨⟨by decide +kernel, by decide +kernel⟩, List.mem_of_getElem? (i := 1547) (by decide +kernel), List.mem_of_getElem? (i := 2042) (by decide +kernel), List.mem_of_getElem? (i := 2043) (by decide +kernel)⟩
theorem lw_p67 : lw_okq (⟨"PostUnionModel", "opens", "(II)V"⟩, 108) := ⟨⟨by decide +kernel, by decide +kernel⟩, List.mem_of_getElem? (i := 1547) (by decide +kernel), List.mem_of_getElem? (i := 2046) (by decide +kernel), List.mem_of_getElem? (i := 2047) (by decide +kernel)⟩
theorem lw_p68 : lw_okq (⟨"PostUnionModel", "puts", "(IJ)V"⟩, 108) := ⟨⟨by decide +kernel, by decide +kernel⟩, List.mem_of_getElem? (i := 1547) (by decide +kernel), List.mem_of_getElem? (i := 2050) (by decide +kernel), List.mem_of_getElem? (i := 2051) (by decide +kernel)⟩
theorem lw_p69 : lw_okq (⟨"PostUnionModel", "isTreaty", "(I)Z"⟩, 108) := ⟨⟨by decide +kernel, by decide +kernel⟩, List.mem_of_getElem? (i := 1547) (by decide +kernel), List.mem_of_getElem? (i := 2063) (by decide +kernel), List.mem_of_getElem? (i := 2064) (by decide +kernel)⟩
theorem lw_p70 : lw_okq (⟨"PostUnionModel", "force", "(I)I"⟩, 108) := ⟨⟨by decide +kernel, by decide +kernel⟩, List.mem_of_getElem? (i := 1547) (by decide +kernel), List.mem_of_getElem? (i := 2071) (by decide +kernel), List.mem_of_getElem? (i := 2072) (by decide +kernel)⟩
theorem lw_p71 : lw_okq (⟨"PostUnionModel", "isClause", "(II)Z"⟩, 108) := ⟨⟨by decide +kernel, by decide +kernel⟩, List.mem_of_getElem? (i := 1547) (by decide +kernel), List.mem_of_getElem? (i := 2079) (by decide +kernel), List.mem_of_getElem? (i := 2080) (by decide +kernel)⟩
theorem lw_p72 : lw_okq (⟨"PostUnionModel", "outOf", "(III)Z"⟩, 108) := ⟨⟨by decide +kernel, by decide +kernel⟩, List.mem_of_getElem? (i := 1547) (by decide +kernel), List.mem_of_getElem? (i := 2083) (by decide +kernel), List.mem_of_getElem? (i := 2084) (by decide +kernel)⟩
theorem lw_p73 : lw_okq (⟨"PostUnionModel", "isMail", "(IIIIII)Z"⟩, 108) := ⟨⟨by decide +kernel, by decide +kernel⟩, List.mem_of_getElem? (i := 1547) (by decide +kernel), List.mem_of_getElem? (i := 2095) (by decide +kernel), List.mem_of_getElem? (i := 2096) (by decide +kernel)⟩
theorem lw_p74 : lw_okq (⟨"PostUnionModel", "owed", "(IIIJJIII)J"⟩, 108) := ⟨⟨by decide +kernel, by decide +kernel⟩, List.mem_of_getElem? (i := 1547) (by decide +kernel), List.mem_of_getElem? (i := 2100) (by decide +kernel), List.mem_of_getElem? (i := 2101) (by decide +kernel)⟩
theorem lw_p75 : lw_okq (⟨"PostUnionModel", "asks", "(IJJIII)V"⟩, 108) := ⟨⟨by decide +kernel, by decide +kernel⟩, List.mem_of_getElem? (i := 1547) (by decide +kernel), List.mem_of_getElem? (i := 2104) (by decide +kernel), List.mem_of_getElem? (i := 2105) (by decide +kernel)⟩
theorem lw_p76 : lw_okq (⟨"PostUnionModel", "clauseOf", "(IIII)I"⟩, 108) := ⟨⟨by decide +kernel, by decide +kernel⟩, List.mem_of_getElem? (i := 1547) (by decide +kernel), List.mem_of_getElem? (i := 2108) (by decide +kernel), List.mem_of_getElem? (i := 2109) (by decide +kernel)⟩
theorem lw_p77 : lw_okq (⟨"PostUnionModel", "holds", "(I)Z"⟩, 108) := ⟨⟨by decide +kernel, by decide +kernel⟩, List.mem_of_getElem? (i := 1547) (by decide +kernel), List.mem_of_getElem? (i := 2112) (by decide +kernel), List.mem_of_getElem? (i := 2113) (by decide +kernel)⟩
theorem lw_p78 : lw_okq (⟨"PostUnionModel", "work", "(II)J"⟩, 108) := ⟨⟨by decide +kernel, by decide +kernel⟩, List.mem_of_getElem? (i := 1547) (by decide +kernel), List.mem_of_getElem? (i := 2116) (by decide +kernel), List.mem_of_getElem? (i := 2117) (by decide +kernel)⟩
theorem lw_p79 : lw_okq (⟨"PostUnionModel", "finds", "(IIIJJI)Z"⟩, 108) := ⟨⟨by decide +kernel, by decide +kernel⟩, List.mem_of_getElem? (i := 1547) (by decide +kernel), List.mem_of_getElem? (i := 2133) (by decide +kernel), List.mem_of_getElem? (i := 2134) (by decide +kernel)⟩
def lw_privs_5 : List (MethodName × Nat) := [(⟨"PostUnionModel", "test", "()Z"⟩, 108), (⟨"PostUnionModel", "one", "(Z)Z"⟩, 108), (⟨"PostUnionModel", "sum", "()Z"⟩, 108), (⟨"PostUnionModel", "opens", "(II)V"⟩, 108), (⟨"PostUnionModel", "puts", "(IJ)V"⟩, 108), (⟨"PostUnionModel", "isTreaty", "(I)Z"⟩, 108), (⟨"PostUnionModel", "force", "(I)I"⟩, 108), (⟨"PostUnionModel", "isClause", "(II)Z"⟩, 108), (⟨"PostUnionModel", "outOf", "(III)Z"⟩, 108), (⟨"PostUnionModel", "isMail", "(IIIIII)Z"⟩, 108), (⟨"PostUnionModel", "owed", "(IIIJJIII)J"⟩, 108), (⟨"PostUnionModel", "asks", "(IJJIII)V"⟩, 108), (⟨"PostUnionModel", "clauseOf", "(IIII)I"⟩, 108), (⟨"PostUnionModel", "holds", "(I)Z"⟩, 108), (⟨"PostUnionModel", "work", "(II)J"⟩, 108), (⟨"PostUnionModel", "finds", "(IIIJJI)Z"⟩, 108)]
theorem lw_r5 : ∀ q ∈ lw_privs_5, lw_okq q := List.forall_mem_cons.mpr ⟨lw_p64, List.forall_mem_cons.mpr ⟨lw_p65, List.forall_mem_cons.mpr ⟨lw_p66, List.forall_mem_cons.mpr ⟨lw_p67, List.forall_mem_cons.mpr ⟨lw_p68, List.forall_mem_cons.mpr ⟨lw_p69, List.forall_mem_cons.mpr ⟨lw_p70, List.forall_mem_cons.mpr ⟨lw_p71, List.forall_mem_cons.mpr ⟨lw_p72, List.forall_mem_cons.mpr ⟨lw_p73, List.forall_mem_cons.mpr ⟨lw_p74, List.forall_mem_cons.mpr ⟨lw_p75, List.forall_mem_cons.mpr ⟨lw_p76, List.forall_mem_cons.mpr ⟨lw_p77, List.forall_mem_cons.mpr ⟨lw_p78, List.forall_mem_cons.mpr ⟨lw_p79, fun _ h => absurd h List.not_mem_nil⟩⟩⟩⟩⟩⟩⟩⟩⟩⟩⟩⟩⟩⟩⟩⟩
theorem lw_p80 : lw_okq (⟨"PostUnionModel", "tries", "(IIJJI)V"⟩, 108) := ⟨⟨by decide +kernel, by decide +kernel⟩, List.mem_of_getElem? (i := 1547) (by decide +kernel), List.mem_of_getElem? (i := 2137) (by decide +kernel), List.mem_of_getElem? (i := 2138) (by decide +kernel)⟩
theorem lw_p81 : lw_okq (⟨"PostUnionModel", "isRoad", "(II)Z"⟩, 108) := ⟨⟨by decide +kernel, by decide +kernel⟩, List.mem_of_getElem? (i := 1547) (by decide +kernel), List.mem_of_getElem? (i := 2141) (by decide +kernel), List.mem_of_getElem? (i := 2142) (by decide +kernel)⟩
theorem lw_p82 : lw_okq (⟨"PostUnionModel", "priceOf", "(IIJJI)J"⟩, 108) := ⟨⟨by decide +kernel, by decide +kernel⟩, List.mem_of_getElem? (i := 1547) (by decide +kernel), List.mem_of_getElem? (i := 2145) (by decide +kernel), List.mem_of_getElem? (i := 2146) (by decide +kernel)⟩
theorem lw_p83 : lw_okq (⟨"PostUnionModel", "isBefore", "(I)Z"⟩, 108) := ⟨⟨by decide +kernel, by decide +kernel⟩, List.mem_of_getElem? (i := 1547) (by decide +kernel), List.mem_of_getElem? (i := 2149) (by decide +kernel), List.mem_of_getElem? (i := 2150) (by decide +kernel)⟩
theorem lw_p84 : lw_okq (⟨"PostUnionModel", "carry", "()V"⟩, 108) := ⟨⟨by decide +kernel, by decide +kernel⟩, List.mem_of_getElem? (i := 1547) (by decide +kernel), List.mem_of_getElem? (i := 2161) (by decide +kernel), List.mem_of_getElem? (i := 2162) (by decide +kernel)⟩
theorem lw_p85 : lw_okq (⟨"PostUnionModel", "remails", "(IIIIII)Z"⟩, 108) := ⟨⟨by decide +kernel, by decide +kernel⟩, List.mem_of_getElem? (i := 1547) (by decide +kernel), List.mem_of_getElem? (i := 2169) (by decide +kernel), List.mem_of_getElem? (i := 2170) (by decide +kernel)⟩
theorem lw_p86 : lw_okq (⟨"PostUnionModel", "evenOf", "(II)I"⟩, 108) := ⟨⟨by decide +kernel, by decide +kernel⟩, List.mem_of_getElem? (i := 1547) (by decide +kernel), List.mem_of_getElem? (i := 2189) (by decide +kernel), List.mem_of_getElem? (i := 2190) (by decide +kernel)⟩
theorem lw_p87 : lw_okq (⟨"PostUnionModel", "isFlow", "(I)Z"⟩, 108) := ⟨⟨by decide +kernel, by decide +kernel⟩, List.mem_of_getElem? (i := 1547) (by decide +kernel), List.mem_of_getElem? (i := 2207) (by decide +kernel), List.mem_of_getElem? (i := 2208) (by decide +kernel)⟩
theorem lw_p88 : lw_okq (⟨"PostUnionModel", "trueOf", "(I)I"⟩, 108) := ⟨⟨by decide +kernel, by decide +kernel⟩, List.mem_of_getElem? (i := 1547) (by decide +kernel), List.mem_of_getElem? (i := 2211) (by decide +kernel), List.mem_of_getElem? (i := 2212) (by decide +kernel)⟩
theorem lw_p89 : lw_okq (⟨"PostUnionModel", "toldOf", "(I)I"⟩, 108) := ⟨⟨by decide +kernel, by decide +kernel⟩, List.mem_of_getElem? (i := 1547) (by decide +kernel), List.mem_of_getElem? (i := 2231) (by decide +kernel), List.mem_of_getElem? (i := 2232) (by decide +kernel)⟩
theorem lw_p90 : lw_okq (⟨"PostUnionModel", "farOff", "(I)I"⟩, 108) := ⟨⟨by decide +kernel, by decide +kernel⟩, List.mem_of_getElem? (i := 1547) (by decide +kernel), List.mem_of_getElem? (i := 2239) (by decide +kernel), List.mem_of_getElem? (i := 2240) (by decide +kernel)⟩
theorem lw_p91 : lw_okq (⟨"PostUnionModel", "balanceOf", "(I)J"⟩, 108) := ⟨⟨by decide +kernel, by decide +kernel⟩, List.mem_of_getElem? (i := 1547) (by decide +kernel), List.mem_of_getElem? (i := 2260) (by decide +kernel), List.mem_of_getElem? (i := 2261) (by decide +kernel)⟩
theorem lw_p92 : lw_okq (⟨"PostUnionModel", "isBag", "(I)Z"⟩, 108) := ⟨⟨by decide +kernel, by decide +kernel⟩, List.mem_of_getElem? (i := 1547) (by decide +kernel), List.mem_of_getElem? (i := 2281) (by decide +kernel), List.mem_of_getElem? (i := 2282) (by decide +kernel)⟩
theorem lw_p93 : lw_okq (⟨"PostUnionModel", "find", "(II)V"⟩, 108) := ⟨⟨by decide +kernel, by decide +kernel⟩, List.mem_of_getElem? (i := 1547) (by decide +kernel), List.mem_of_getElem? (i := 2289) (by decide +kernel), List.mem_of_getElem? (i := 2290) (by decide +kernel)⟩
theorem lw_p94 : lw_okq (⟨"PostUnionModel", "lateOf", "(III)I"⟩, 108) := ⟨⟨by decide +kernel, by decide +kernel⟩, List.mem_of_getElem? (i := 1547) (by decide +kernel), List.mem_of_getElem? (i := 2297) (by decide +kernel), List.mem_of_getElem? (i := 2298) (by decide +kernel)⟩
theorem lw_p95 : lw_okq (⟨"PostUnionModel", "pairing", "()I"⟩, 108) := ⟨⟨by decide +kernel, by decide +kernel⟩, List.mem_of_getElem? (i := 1547) (by decide +kernel), List.mem_of_getElem? (i := 2317) (by decide +kernel), List.mem_of_getElem? (i := 2318) (by decide +kernel)⟩
def lw_privs_6 : List (MethodName × Nat) := [(⟨"PostUnionModel", "tries", "(IIJJI)V"⟩, 108), (⟨"PostUnionModel", "isRoad", "(II)Z"⟩, 108), (⟨"PostUnionModel", "priceOf", "(IIJJI)J"⟩, 108), (⟨"PostUnionModel", "isBefore", "(I)Z"⟩, 108), (⟨"PostUnionModel", "carry", "()V"⟩, 108), (⟨"PostUnionModel", "remails", "(IIIIII)Z"⟩, 108), (⟨"PostUnionModel", "evenOf", "(II)I"⟩, 108), (⟨"PostUnionModel", "isFlow", "(I)Z"⟩, 108), (⟨"PostUnionModel", "trueOf", "(I)I"⟩, 108), (⟨"PostUnionModel", "toldOf", "(I)I"⟩, 108), (⟨"PostUnionModel", "farOff", "(I)I"⟩, 108), (⟨"PostUnionModel", "balanceOf", "(I)J"⟩, 108), (⟨"PostUnionModel", "isBag", "(I)Z"⟩, 108), (⟨"PostUnionModel", "find", "(II)V"⟩, 108), (⟨"PostUnionModel", "lateOf", "(III)I"⟩, 108), (⟨"PostUnionModel", "pairing", "()I"⟩, 108)]
theorem lw_r6 : ∀ q ∈ lw_privs_6, lw_okq q := List.forall_mem_cons.mpr ⟨lw_p80, List.forall_mem_cons.mpr ⟨lw_p81, List.forall_mem_cons.mpr ⟨lw_p82, List.forall_mem_cons.mpr ⟨lw_p83, List.forall_mem_cons.mpr ⟨lw_p84, List.forall_mem_cons.mpr ⟨lw_p85, List.forall_mem_cons.mpr ⟨lw_p86, List.forall_mem_cons.mpr ⟨lw_p87, List.forall_mem_cons.mpr ⟨lw_p88, List.forall_mem_cons.mpr ⟨lw_p89, List.forall_mem_cons.mpr ⟨lw_p90, List.forall_mem_cons.mpr ⟨lw_p91, List.forall_mem_cons.mpr ⟨lw_p92, List.forall_mem_cons.mpr ⟨lw_p93, List.forall_mem_cons.mpr ⟨lw_p94, List.forall_mem_cons.mpr ⟨lw_p95, fun _ h => absurd h List.not_mem_nil⟩⟩⟩⟩⟩⟩⟩⟩⟩⟩⟩⟩⟩⟩⟩⟩
theorem lw_p96 : lw_okq (⟨"PostUnionModel", "cost", "(II)I"⟩, 108) := ⟨⟨by decide +kernel, by decide +kernel⟩, List.mem_of_getElem? (i := 1547) (by decide +kernel), List.mem_of_getElem? (i := 2321) (by decide +kernel), List.mem_of_getElem? (i := 2322) (by decide +kernel)⟩
theorem lw_p97 : lw_okq (⟨"PostUnionModel", "pairs", "()V"⟩, 108) := ⟨⟨by decide +kernel, by decide +kernel⟩, List.mem_of_getElem? (i := 1547) (by decide +kernel), List.mem_of_getElem? (i := 2329) (by decide +kernel), List.mem_of_getElem? (i := 2330) (by decide +kernel)⟩
def lw_privs_7 : List (MethodName × Nat) := [(⟨"PostUnionModel", "cost", "(II)I"⟩, 108), (⟨"PostUnionModel", "pairs", "()V"⟩, 108)]
theorem lw_r7 : ∀ q ∈ lw_privs_7, lw_okq q := List.forall_mem_cons.mpr ⟨lw_p96, List.forall_mem_cons.mpr ⟨lw_p97, fun _ h => absurd h List.not_mem_nil⟩⟩
def lw_privs : List (MethodName × Nat) := lw_privs_1 ++ (lw_privs_2 ++ (lw_privs_3 ++ (lw_privs_4 ++ (lw_privs_5 ++ (lw_privs_6 ++ (lw_privs_7))))))
def lw_tbl : List Cond := k2_sels lw_privs ++ tables_1
theorem lw_privs_ok : ∀ q ∈ lw_privs, lw_okq q := by
  show ∀ q ∈ lw_privs_1 ++ (lw_privs_2 ++ (lw_privs_3 ++ (lw_privs_4 ++ (lw_privs_5 ++ (lw_privs_6 ++ (lw_privs_7)))))), lw_okq q
  exact List.forall_mem_append.mpr ⟨lw_r1, List.forall_mem_append.mpr ⟨lw_r2, List.forall_mem_append.mpr ⟨lw_r3, List.forall_mem_append.mpr ⟨lw_r4, List.forall_mem_append.mpr ⟨lw_r5, List.forall_mem_append.mpr ⟨lw_r6, lw_r7⟩⟩⟩⟩⟩⟩
-- ===== end of PART A; then your names; then what follows =====
def RX0 : String := "PostUnion$Accounts"
def TX0 : u_T := fun k => match k with
  | 0 => ("PostUnion$Accounts", "isTold", "Z", false)
  | 1 => ("PostUnion$Accounts", "owed", "[[J", true)
  | 2 => ("PostUnion$Accounts", "fresh", "[[J", true)
  | _ => ("PostUnion$Accounts", "left", "[J", true)
def tyX0 : Nat → FieldType := fun k => match k with
  | 0 => .boolean
  | 1 => .array (.array .long)
  | 2 => .array (.array .long)
  | _ => .array .long
abbrev wsX00 : List Cond := u_ws RX0 TX0 4
theorem nmX0 : ∀ a, a < 4 → ∀ b, b < 4 → a ≠ b → (TX0 a).2.1 ≠ (TX0 b).2.1 := by decide +kernel
theorem tyX0_ok : ∀ k, k < 4 → parseFieldDescriptor (TX0 k).2.2.1 = some (tyX0 k) := by decide +kernel
abbrev cX0_init : ByteArray := prog_2_method_1_code
def yX0_init : MethodName := ⟨RX0, "<init>", "()V"⟩
abbrev cX0_isTold : ByteArray := prog_2_method_2_code
def yX0_isTold : MethodName := ⟨RX0, "isTold", "()Z"⟩
abbrev cX0_begin : ByteArray := prog_2_method_3_code
def yX0_begin : MethodName := ⟨RX0, "begin", "()V"⟩
abbrev cX0_enter : ByteArray := prog_2_method_4_code
def yX0_enter : MethodName := ⟨RX0, "enter", "(LPostUnion$Ways;)V"⟩
abbrev cX0_settle : ByteArray := prog_2_method_5_code
def yX0_settle : MethodName := ⟨RX0, "settle", "()J"⟩
abbrev cX0_netDebt : ByteArray := prog_2_method_6_code
def yX0_netDebt : MethodName := ⟨RX0, "netDebt", "(II)J"⟩
abbrev cX0_balanceOf : ByteArray := prog_2_method_7_code
def yX0_balanceOf : MethodName := ⟨RX0, "balanceOf", "(I)J"⟩
abbrev cX0_clearedPayment : ByteArray := prog_2_method_8_code
def yX0_clearedPayment : MethodName := ⟨RX0, "clearedPayment", "(II)J"⟩
def RX1 : String := "PostUnion$Bags"
def TX1 : u_T := fun k => match k with
  | 0 => ("PostUnion$Bags", "grace", "I", false)
  | 1 => ("PostUnion$Bags", "limit", "I", false)
  | 2 => ("PostUnion$Bags", "loss", "I", false)
  | 3 => ("PostUnion$Bags", "count", "I", false)
  | 4 => ("PostUnion$Bags", "weights", "[I", true)
  | 5 => ("PostUnion$Bags", "begins", "[I", true)
  | 6 => ("PostUnion$Bags", "lengths", "[I", true)
  | 7 => ("PostUnion$Bags", "places", "[[I", true)
  | 8 => ("PostUnion$Bags", "tellings", "I", false)
  | 9 => ("PostUnion$Bags", "handedBags", "[I", true)
  | 10 => ("PostUnion$Bags", "handedPlaces", "[I", true)
  | 11 => ("PostUnion$Bags", "handedDays", "[I", true)
  | 12 => ("PostUnion$Bags", "handedKnown", "[I", true)
  | 13 => ("PostUnion$Bags", "foundPlace", "I", false)
  | _ => ("PostUnion$Bags", "foundSince", "I", false)
def tyX1 : Nat → FieldType := fun k => match k with
  | 0 => .int
  | 1 => .int
  | 2 => .int
  | 3 => .int
  | 4 => .array .int
  | 5 => .array .int
  | 6 => .array .int
  | 7 => .array (.array .int)
  | 8 => .int
  | 9 => .array .int
  | 10 => .array .int
  | 11 => .array .int
  | 12 => .array .int
  | 13 => .int
  | _ => .int
abbrev wsX10 : List Cond := u_ws RX1 TX1 15
theorem nmX1 : ∀ a, a < 15 → ∀ b, b < 15 → a ≠ b → (TX1 a).2.1 ≠ (TX1 b).2.1 := by decide +kernel
theorem tyX1_ok : ∀ k, k < 15 → parseFieldDescriptor (TX1 k).2.2.1 = some (tyX1 k) := by decide +kernel
abbrev cX1_init : ByteArray := prog_3_method_1_code
def yX1_init : MethodName := ⟨RX1, "<init>", "()V"⟩
abbrev cX1_setRules : ByteArray := prog_3_method_2_code
def yX1_setRules : MethodName := ⟨RX1, "setRules", "(III)V"⟩
abbrev cX1_has : ByteArray := prog_3_method_3_code
def yX1_has : MethodName := ⟨RX1, "has", "(I)Z"⟩
abbrev cX1_hasPlace : ByteArray := prog_3_method_4_code
def yX1_hasPlace : MethodName := ⟨RX1, "hasPlace", "(II)Z"⟩
abbrev cX1_isFull : ByteArray := prog_3_method_5_code
def yX1_isFull : MethodName := ⟨RX1, "isFull", "()Z"⟩
abbrev cX1_add : ByteArray := prog_3_method_6_code
def yX1_add : MethodName := ⟨RX1, "add", "(I[JII)I"⟩
abbrev cX1_hasBegun : ByteArray := prog_3_method_7_code
def yX1_hasBegun : MethodName := ⟨RX1, "hasBegun", "(II)Z"⟩
abbrev cX1_isHandedFull : ByteArray := prog_3_method_8_code
def yX1_isHandedFull : MethodName := ⟨RX1, "isHandedFull", "()Z"⟩
abbrev cX1_latestKnown : ByteArray := prog_3_method_9_code
def yX1_latestKnown : MethodName := ⟨RX1, "latestKnown", "()I"⟩
abbrev cX1_addHanded : ByteArray := prog_3_method_10_code
def yX1_addHanded : MethodName := ⟨RX1, "addHanded", "(IIII)V"⟩
abbrev cX1_find : ByteArray := prog_3_method_11_code
def yX1_find : MethodName := ⟨RX1, "find", "(II)V"⟩
abbrev cX1_landOf : ByteArray := prog_3_method_12_code
def yX1_landOf : MethodName := ⟨RX1, "landOf", "(II)I"⟩
abbrev cX1_lateness : ByteArray := prog_3_method_13_code
def yX1_lateness : MethodName := ⟨RX1, "lateness", "(IIILPostUnion$Lands;)I"⟩
abbrev cX1_lossesOf : ByteArray := prog_3_method_14_code
def yX1_lossesOf : MethodName := ⟨RX1, "lossesOf", "(IILPostUnion$Lands;)J"⟩
def RX2 : String := "PostUnion$Books"
def TX2 : u_T := fun k => match k with
  | 0 => ("PostUnion$Books", "counts", "[I", true)
  | 1 => ("PostUnion$Books", "numbers", "[[I", true)
  | 2 => ("PostUnion$Books", "days", "[[I", true)
  | 3 => ("PostUnion$Books", "grams", "[[I", true)
  | 4 => ("PostUnion$Books", "mates", "[I", true)
  | 5 => ("PostUnion$Books", "figures", "[J", true)
  | 6 => ("PostUnion$Books", "rowWorth", "[J", true)
  | 7 => ("PostUnion$Books", "columnWorth", "[J", true)
  | 8 => ("PostUnion$Books", "slack", "[J", true)
  | 9 => ("PostUnion$Books", "rowOf", "[I", true)
  | 10 => ("PostUnion$Books", "cameFrom", "[I", true)
  | _ => ("PostUnion$Books", "isSeen", "[Z", true)
def tyX2 : Nat → FieldType := fun k => match k with
  | 0 => .array .int
  | 1 => .array (.array .int)
  | 2 => .array (.array .int)
  | 3 => .array (.array .int)
  | 4 => .array .int
  | 5 => .array .long
  | 6 => .array .long
  | 7 => .array .long
  | 8 => .array .long
  | 9 => .array .int
  | 10 => .array .int
  | _ => .array .boolean
abbrev wsX20 : List Cond := u_ws RX2 TX2 12
theorem nmX2 : ∀ a, a < 12 → ∀ b, b < 12 → a ≠ b → (TX2 a).2.1 ≠ (TX2 b).2.1 := by decide +kernel
theorem tyX2_ok : ∀ k, k < 12 → parseFieldDescriptor (TX2 k).2.2.1 = some (tyX2 k) := by decide +kernel
abbrev cX2_init : ByteArray := prog_4_method_1_code
def yX2_init : MethodName := ⟨RX2, "<init>", "()V"⟩
abbrev cX2_clear : ByteArray := prog_4_method_2_code
def yX2_clear : MethodName := ⟨RX2, "clear", "()V"⟩
abbrev cX2_isFull : ByteArray := prog_4_method_3_code
def yX2_isFull : MethodName := ⟨RX2, "isFull", "(I)Z"⟩
abbrev cX2_has : ByteArray := prog_4_method_4_code
def yX2_has : MethodName := ⟨RX2, "has", "(I)Z"⟩
abbrev cX2_add : ByteArray := prog_4_method_5_code
def yX2_add : MethodName := ⟨RX2, "add", "(IIII)I"⟩
abbrev cX2_mateOf : ByteArray := prog_4_method_6_code
def yX2_mateOf : MethodName := ⟨RX2, "mateOf", "(I)I"⟩
abbrev cX2_cost : ByteArray := prog_4_method_7_code
def yX2_cost : MethodName := ⟨RX2, "cost", "(II)I"⟩
abbrev cX2_weightOf : ByteArray := prog_4_method_8_code
def yX2_weightOf : MethodName := ⟨RX2, "weightOf", "(II)J"⟩
abbrev cX2_joinLines : ByteArray := prog_4_method_9_code
def yX2_joinLines : MethodName := ⟨RX2, "joinLines", "()V"⟩
abbrev cX2_putIn : ByteArray := prog_4_method_10_code
def yX2_putIn : MethodName := ⟨RX2, "putIn", "(II)I"⟩
abbrev cX2_nearestFrom : ByteArray := prog_4_method_11_code
def yX2_nearestFrom : MethodName := ⟨RX2, "nearestFrom", "(II)I"⟩
abbrev cX2_shift : ByteArray := prog_4_method_12_code
def yX2_shift : MethodName := ⟨RX2, "shift", "(II)V"⟩
abbrev cX2_joinedCost : ByteArray := prog_4_method_13_code
def yX2_joinedCost : MethodName := ⟨RX2, "joinedCost", "()I"⟩
abbrev cX2_leanOfPairs : ByteArray := prog_4_method_14_code
def yX2_leanOfPairs : MethodName := ⟨RX2, "leanOfPairs", "()I"⟩
abbrev cX2_leanOfAll : ByteArray := prog_4_method_15_code
def yX2_leanOfAll : MethodName := ⟨RX2, "leanOfAll", "()I"⟩
def RX3 : String := "PostUnion$Cases"
def TX3 : u_T := fun k => match k with
  | 0 => ("PostUnion$Cases", "count", "I", false)
  | 1 => ("PostUnion$Cases", "features", "[I", true)
  | 2 => ("PostUnion$Cases", "rulings", "[I", true)
  | _ => ("PostUnion$Cases", "weights", "[I", true)
def tyX3 : Nat → FieldType := fun k => match k with
  | 0 => .int
  | 1 => .array .int
  | 2 => .array .int
  | _ => .array .int
abbrev wsX30 : List Cond := u_ws RX3 TX3 4
theorem nmX3 : ∀ a, a < 4 → ∀ b, b < 4 → a ≠ b → (TX3 a).2.1 ≠ (TX3 b).2.1 := by decide +kernel
theorem tyX3_ok : ∀ k, k < 4 → parseFieldDescriptor (TX3 k).2.2.1 = some (tyX3 k) := by decide +kernel
abbrev cX3_init : ByteArray := prog_5_method_1_code
def yX3_init : MethodName := ⟨RX3, "<init>", "()V"⟩
abbrev cX3_setWeight : ByteArray := prog_5_method_2_code
def yX3_setWeight : MethodName := ⟨RX3, "setWeight", "(II)V"⟩
abbrev cX3_isFull : ByteArray := prog_5_method_3_code
def yX3_isFull : MethodName := ⟨RX3, "isFull", "()Z"⟩
abbrev cX3_add : ByteArray := prog_5_method_4_code
def yX3_add : MethodName := ⟨RX3, "add", "(II)I"⟩
abbrev cX3_nearestRuling : ByteArray := prog_5_method_5_code
def yX3_nearestRuling : MethodName := ⟨RX3, "nearestRuling", "(I)I"⟩
abbrev cX3_distance : ByteArray := prog_5_method_6_code
def yX3_distance : MethodName := ⟨RX3, "distance", "(II)I"⟩
def RX4 : String := "PostUnion$Flows"
def TX4 : u_T := fun k => match k with
  | 0 => ("PostUnion$Flows", "count", "I", false)
  | 1 => ("PostUnion$Flows", "froms", "[I", true)
  | 2 => ("PostUnion$Flows", "tos", "[I", true)
  | 3 => ("PostUnion$Flows", "flowSizes", "[I", true)
  | 4 => ("PostUnion$Flows", "pieces", "[I", true)
  | 5 => ("PostUnion$Flows", "trues", "[I", true)
  | 6 => ("PostUnion$Flows", "kilograms", "[[I", true)
  | 7 => ("PostUnion$Flows", "draws", "I", false)
  | 8 => ("PostUnion$Flows", "drawnWeeks", "[I", true)
  | 9 => ("PostUnion$Flows", "tellings", "I", false)
  | 10 => ("PostUnion$Flows", "tellingWeeks", "[I", true)
  | _ => ("PostUnion$Flows", "tried", "[I", true)
def tyX4 : Nat → FieldType := fun k => match k with
  | 0 => .int
  | 1 => .array .int
  | 2 => .array .int
  | 3 => .array .int
  | 4 => .array .int
  | 5 => .array .int
  | 6 => .array (.array .int)
  | 7 => .int
  | 8 => .array .int
  | 9 => .int
  | 10 => .array .int
  | _ => .array .int
abbrev wsX40 : List Cond := u_ws RX4 TX4 12
theorem nmX4 : ∀ a, a < 12 → ∀ b, b < 12 → a ≠ b → (TX4 a).2.1 ≠ (TX4 b).2.1 := by decide +kernel
theorem tyX4_ok : ∀ k, k < 12 → parseFieldDescriptor (TX4 k).2.2.1 = some (tyX4 k) := by decide +kernel
abbrev cX4_init : ByteArray := prog_6_method_1_code
def yX4_init : MethodName := ⟨RX4, "<init>", "()V"⟩
abbrev cX4_count : ByteArray := prog_6_method_2_code
def yX4_count : MethodName := ⟨RX4, "count", "()I"⟩
abbrev cX4_has : ByteArray := prog_6_method_3_code
def yX4_has : MethodName := ⟨RX4, "has", "(I)Z"⟩
abbrev cX4_isFull : ByteArray := prog_6_method_4_code
def yX4_isFull : MethodName := ⟨RX4, "isFull", "()Z"⟩
abbrev cX4_add : ByteArray := prog_6_method_5_code
def yX4_add : MethodName := ⟨RX4, "add", "(IIII[J)I"⟩
abbrev cX4_trueWeight : ByteArray := prog_6_method_6_code
def yX4_trueWeight : MethodName := ⟨RX4, "trueWeight", "(I)I"⟩
abbrev cX4_makeMail : ByteArray := prog_6_method_7_code
def yX4_makeMail : MethodName := ⟨RX4, "makeMail", "(IIILPostUnion$Mail;)V"⟩
abbrev cX4_hasDraw : ByteArray := prog_6_method_8_code
def yX4_hasDraw : MethodName := ⟨RX4, "hasDraw", "()Z"⟩
abbrev cX4_drawWeeks : ByteArray := prog_6_method_9_code
def yX4_drawWeeks : MethodName := ⟨RX4, "drawWeeks", "(II)V"⟩
abbrev cX4_drawnWeek : ByteArray := prog_6_method_10_code
def yX4_drawnWeek : MethodName := ⟨RX4, "drawnWeek", "(I)I"⟩
abbrev cX4_toldWeight : ByteArray := prog_6_method_11_code
def yX4_toldWeight : MethodName := ⟨RX4, "toldWeight", "(I)I"⟩
abbrev cX4_toldBy : ByteArray := prog_6_method_12_code
def yX4_toldBy : MethodName := ⟨RX4, "toldBy", "(I[II)I"⟩
abbrev cX4_tellingWeek : ByteArray := prog_6_method_13_code
def yX4_tellingWeek : MethodName := ⟨RX4, "tellingWeek", "(I)I"⟩
abbrev cX4_findTelling : ByteArray := prog_6_method_14_code
def yX4_findTelling : MethodName := ⟨RX4, "findTelling", "(I)I"⟩
abbrev cX4_farOff : ByteArray := prog_6_method_15_code
def yX4_farOff : MethodName := ⟨RX4, "farOff", "(II)I"⟩
abbrev cX4_tryNext : ByteArray := prog_6_method_16_code
def yX4_tryNext : MethodName := ⟨RX4, "tryNext", "(I)Z"⟩
def RX5 : String := "PostUnion$Lands"
def TX5 : u_T := fun k => match k with
  | 0 => ("PostUnion$Lands", "count", "I", false)
  | 1 => ("PostUnion$Lands", "tellings", "I", false)
  | 2 => ("PostUnion$Lands", "goldLands", "[I", true)
  | 3 => ("PostUnion$Lands", "goldDays", "[I", true)
  | 4 => ("PostUnion$Lands", "goldCoins", "[I", true)
  | 5 => ("PostUnion$Lands", "roadDays", "[[I", true)
  | 6 => ("PostUnion$Lands", "freights", "[[I", true)
  | 7 => ("PostUnion$Lands", "carriages", "[[I", true)
  | _ => ("PostUnion$Lands", "rates", "[[I", true)
def tyX5 : Nat → FieldType := fun k => match k with
  | 0 => .int
  | 1 => .int
  | 2 => .array .int
  | 3 => .array .int
  | 4 => .array .int
  | 5 => .array (.array .int)
  | 6 => .array (.array .int)
  | 7 => .array (.array .int)
  | _ => .array (.array .int)
abbrev wsX50 : List Cond := u_ws RX5 TX5 9
theorem nmX5 : ∀ a, a < 9 → ∀ b, b < 9 → a ≠ b → (TX5 a).2.1 ≠ (TX5 b).2.1 := by decide +kernel
theorem tyX5_ok : ∀ k, k < 9 → parseFieldDescriptor (TX5 k).2.2.1 = some (tyX5 k) := by decide +kernel
abbrev cX5_init : ByteArray := prog_7_method_1_code
def yX5_init : MethodName := ⟨RX5, "<init>", "()V"⟩
abbrev cX5_count : ByteArray := prog_7_method_2_code
def yX5_count : MethodName := ⟨RX5, "count", "()I"⟩
abbrev cX5_isFull : ByteArray := prog_7_method_3_code
def yX5_isFull : MethodName := ⟨RX5, "isFull", "()Z"⟩
abbrev cX5_add : ByteArray := prog_7_method_4_code
def yX5_add : MethodName := ⟨RX5, "add", "()I"⟩
abbrev cX5_isGoldFull : ByteArray := prog_7_method_5_code
def yX5_isGoldFull : MethodName := ⟨RX5, "isGoldFull", "()Z"⟩
abbrev cX5_addGold : ByteArray := prog_7_method_6_code
def yX5_addGold : MethodName := ⟨RX5, "addGold", "(III)V"⟩
abbrev cX5_goldOn : ByteArray := prog_7_method_7_code
def yX5_goldOn : MethodName := ⟨RX5, "goldOn", "(II)I"⟩
abbrev cX5_hasRoad : ByteArray := prog_7_method_8_code
def yX5_hasRoad : MethodName := ⟨RX5, "hasRoad", "(II)Z"⟩
abbrev cX5_daysOf : ByteArray := prog_7_method_9_code
def yX5_daysOf : MethodName := ⟨RX5, "daysOf", "(II)I"⟩
abbrev cX5_freightOf : ByteArray := prog_7_method_10_code
def yX5_freightOf : MethodName := ⟨RX5, "freightOf", "(II)I"⟩
abbrev cX5_setRoad : ByteArray := prog_7_method_11_code
def yX5_setRoad : MethodName := ⟨RX5, "setRoad", "(IIII)V"⟩
abbrev cX5_findCarriages : ByteArray := prog_7_method_12_code
def yX5_findCarriages : MethodName := ⟨RX5, "findCarriages", "()V"⟩
abbrev cX5_isReached : ByteArray := prog_7_method_13_code
def yX5_isReached : MethodName := ⟨RX5, "isReached", "(II)Z"⟩
abbrev cX5_carriage : ByteArray := prog_7_method_14_code
def yX5_carriage : MethodName := ⟨RX5, "carriage", "(II)I"⟩
abbrev cX5_isWay : ByteArray := prog_7_method_15_code
def yX5_isWay : MethodName := ⟨RX5, "isWay", "([JI)Z"⟩
abbrev cX5_setRate : ByteArray := prog_7_method_16_code
def yX5_setRate : MethodName := ⟨RX5, "setRate", "(III)V"⟩
abbrev cX5_evenRate : ByteArray := prog_7_method_17_code
def yX5_evenRate : MethodName := ⟨RX5, "evenRate", "(II)I"⟩
abbrev cX5_countUneven : ByteArray := prog_7_method_18_code
def yX5_countUneven : MethodName := ⟨RX5, "countUneven", "()I"⟩
def RX6 : String := "PostUnion$Mail"
def TX6 : u_T := fun k => match k with
  | 0 => ("PostUnion$Mail", "from", "I", false)
  | 1 => ("PostUnion$Mail", "to", "I", false)
  | 2 => ("PostUnion$Mail", "via", "I", false)
  | 3 => ("PostUnion$Mail", "day", "I", false)
  | _ => ("PostUnion$Mail", "variables", "[J", true)
def tyX6 : Nat → FieldType := fun k => match k with
  | 0 => .int
  | 1 => .int
  | 2 => .int
  | 3 => .int
  | _ => .array .long
abbrev wsX60 : List Cond := u_ws RX6 TX6 5
theorem nmX6 : ∀ a, a < 5 → ∀ b, b < 5 → a ≠ b → (TX6 a).2.1 ≠ (TX6 b).2.1 := by decide +kernel
theorem tyX6_ok : ∀ k, k < 5 → parseFieldDescriptor (TX6 k).2.2.1 = some (tyX6 k) := by decide +kernel
abbrev cX6_init : ByteArray := prog_8_method_1_code
def yX6_init : MethodName := ⟨RX6, "<init>", "()V"⟩
abbrev cX6_become : ByteArray := prog_8_method_2_code
def yX6_become : MethodName := ⟨RX6, "become", "(IIIIII)V"⟩
abbrev cX6_goOver : ByteArray := prog_8_method_3_code
def yX6_goOver : MethodName := ⟨RX6, "goOver", "(II)V"⟩
abbrev cX6_postIn : ByteArray := prog_8_method_4_code
def yX6_postIn : MethodName := ⟨RX6, "postIn", "(I)V"⟩
abbrev cX6_from : ByteArray := prog_8_method_5_code
def yX6_from : MethodName := ⟨RX6, "from", "()I"⟩
abbrev cX6_to : ByteArray := prog_8_method_6_code
def yX6_to : MethodName := ⟨RX6, "to", "()I"⟩
abbrev cX6_via : ByteArray := prog_8_method_7_code
def yX6_via : MethodName := ⟨RX6, "via", "()I"⟩
abbrev cX6_day : ByteArray := prog_8_method_8_code
def yX6_day : MethodName := ⟨RX6, "day", "()I"⟩
abbrev cX6_year : ByteArray := prog_8_method_9_code
def yX6_year : MethodName := ⟨RX6, "year", "()I"⟩
abbrev cX6_weight : ByteArray := prog_8_method_10_code
def yX6_weight : MethodName := ⟨RX6, "weight", "()J"⟩
abbrev cX6_variable : ByteArray := prog_8_method_11_code
def yX6_variable : MethodName := ⟨RX6, "variable", "(I)J"⟩
def RX7 : String := "PostUnion$Reader"
def TX7 : u_T := fun k => match k with
  | 0 => ("PostUnion$Reader", "tape", "[B", true)
  | 1 => ("PostUnion$Reader", "tapeLength", "I", false)
  | 2 => ("PostUnion$Reader", "length", "I", false)
  | 3 => ("PostUnion$Reader", "next", "I", false)
  | 4 => ("PostUnion$Reader", "kinds", "[I", true)
  | 5 => ("PostUnion$Reader", "places", "[I", true)
  | 6 => ("PostUnion$Reader", "values", "[J", true)
  | 7 => ("PostUnion$Reader", "tokens", "I", false)
  | 8 => ("PostUnion$Reader", "current", "I", false)
  | 9 => ("PostUnion$Reader", "kind", "I", false)
  | 10 => ("PostUnion$Reader", "faultKind", "I", false)
  | 11 => ("PostUnion$Reader", "faultPlace", "I", false)
  | 12 => ("PostUnion$Reader", "treaty", "LPostUnion$Treaty;", false)
  | 13 => ("PostUnion$Reader", "names", "[J", true)
  | 14 => ("PostUnion$Reader", "pending", "[I", true)
  | 15 => ("PostUnion$Reader", "pendings", "I", false)
  | 16 => ("PostUnion$Reader", "depth", "I", false)
  | 17 => ("PostUnion$Reader", "part", "I", false)
  | _ => ("PostUnion$Reader", "wantsAtom", "Z", false)
def tyX7 : Nat → FieldType := fun k => match k with
  | 0 => .array .byte
  | 1 => .int
  | 2 => .int
  | 3 => .int
  | 4 => .array .int
  | 5 => .array .int
  | 6 => .array .long
  | 7 => .int
  | 8 => .int
  | 9 => .int
  | 10 => .int
  | 11 => .int
  | 12 => .object "PostUnion$Treaty"
  | 13 => .array .long
  | 14 => .array .int
  | 15 => .int
  | 16 => .int
  | 17 => .int
  | _ => .boolean
abbrev wsX70 : List Cond := u_ws RX7 TX7 19
theorem nmX7 : ∀ a, a < 19 → ∀ b, b < 19 → a ≠ b → (TX7 a).2.1 ≠ (TX7 b).2.1 := by decide +kernel
theorem tyX7_ok : ∀ k, k < 19 → parseFieldDescriptor (TX7 k).2.2.1 = some (tyX7 k) := by decide +kernel
abbrev cX7_init : ByteArray := prog_9_method_1_code
def yX7_init : MethodName := ⟨RX7, "<init>", "()V"⟩
abbrev cX7_isVariable : ByteArray := prog_9_method_2_code
def yX7_isVariable : MethodName := ⟨RX7, "isVariable", "(I)Z"⟩
abbrev cX7_faultKind : ByteArray := prog_9_method_3_code
def yX7_faultKind : MethodName := ⟨RX7, "faultKind", "()I"⟩
abbrev cX7_faultPlace : ByteArray := prog_9_method_4_code
def yX7_faultPlace : MethodName := ⟨RX7, "faultPlace", "()I"⟩
abbrev cX7_tapeLength : ByteArray := prog_9_method_5_code
def yX7_tapeLength : MethodName := ⟨RX7, "tapeLength", "()I"⟩
abbrev cX7_hasRoom : ByteArray := prog_9_method_6_code
def yX7_hasRoom : MethodName := ⟨RX7, "hasRoom", "()Z"⟩
abbrev cX7_addToTape : ByteArray := prog_9_method_7_code
def yX7_addToTape : MethodName := ⟨RX7, "addToTape", "(I)V"⟩
abbrev cX7_understands : ByteArray := prog_9_method_8_code
def yX7_understands : MethodName := ⟨RX7, "understands", "(ILPostUnion$Treaty;)Z"⟩
abbrev cX7_tellTokens : ByteArray := prog_9_method_9_code
def yX7_tellTokens : MethodName := ⟨RX7, "tellTokens", "()V"⟩
abbrev cX7_tellToken : ByteArray := prog_9_method_10_code
def yX7_tellToken : MethodName := ⟨RX7, "tellToken", "(I)I"⟩
abbrev cX7_isLetter : ByteArray := prog_9_method_11_code
def yX7_isLetter : MethodName := ⟨RX7, "isLetter", "(I)Z"⟩
abbrev cX7_isDigit : ByteArray := prog_9_method_12_code
def yX7_isDigit : MethodName := ⟨RX7, "isDigit", "(I)Z"⟩
abbrev cX7_tellWord : ByteArray := prog_9_method_13_code
def yX7_tellWord : MethodName := ⟨RX7, "tellWord", "(I)I"⟩
abbrev cX7_wordKind : ByteArray := prog_9_method_14_code
def yX7_wordKind : MethodName := ⟨RX7, "wordKind", "(I)I"⟩
abbrev cX7_tellNumber : ByteArray := prog_9_method_15_code
def yX7_tellNumber : MethodName := ⟨RX7, "tellNumber", "(I)I"⟩
abbrev cX7_takeClause : ByteArray := prog_9_method_16_code
def yX7_takeClause : MethodName := ⟨RX7, "takeClause", "()V"⟩
abbrev cX7_takeName : ByteArray := prog_9_method_17_code
def yX7_takeName : MethodName := ⟨RX7, "takeName", "()V"⟩
abbrev cX7_isNamed : ByteArray := prog_9_method_18_code
def yX7_isNamed : MethodName := ⟨RX7, "isNamed", "(I)Z"⟩
abbrev cX7_takeList : ByteArray := prog_9_method_19_code
def yX7_takeList : MethodName := ⟨RX7, "takeList", "()I"⟩
abbrev cX7_takeFormula : ByteArray := prog_9_method_20_code
def yX7_takeFormula : MethodName := ⟨RX7, "takeFormula", "(I)V"⟩
abbrev cX7_takeAtom : ByteArray := prog_9_method_21_code
def yX7_takeAtom : MethodName := ⟨RX7, "takeAtom", "()V"⟩
abbrev cX7_openBracket : ByteArray := prog_9_method_22_code
def yX7_openBracket : MethodName := ⟨RX7, "openBracket", "(I)V"⟩
abbrev cX7_takeJoint : ByteArray := prog_9_method_23_code
def yX7_takeJoint : MethodName := ⟨RX7, "takeJoint", "()V"⟩
abbrev cX7_joinBy : ByteArray := prog_9_method_24_code
def yX7_joinBy : MethodName := ⟨RX7, "joinBy", "(II)V"⟩
abbrev cX7_takeInBracket : ByteArray := prog_9_method_25_code
def yX7_takeInBracket : MethodName := ⟨RX7, "takeInBracket", "()V"⟩
abbrev cX7_bindingOf : ByteArray := prog_9_method_26_code
def yX7_bindingOf : MethodName := ⟨RX7, "bindingOf", "(I)I"⟩
abbrev cX7_hold : ByteArray := prog_9_method_27_code
def yX7_hold : MethodName := ⟨RX7, "hold", "(I)V"⟩
abbrev cX7_unwind : ByteArray := prog_9_method_28_code
def yX7_unwind : MethodName := ⟨RX7, "unwind", "(I)V"⟩
abbrev cX7_take : ByteArray := prog_9_method_29_code
def yX7_take : MethodName := ⟨RX7, "take", "(I)Z"⟩
abbrev cX7_need : ByteArray := prog_9_method_30_code
def yX7_need : MethodName := ⟨RX7, "need", "(I)V"⟩
abbrev cX7_step : ByteArray := prog_9_method_31_code
def yX7_step : MethodName := ⟨RX7, "step", "()V"⟩
abbrev cX7_blame : ByteArray := prog_9_method_32_code
def yX7_blame : MethodName := ⟨RX7, "blame", "(I)V"⟩
def RX8 : String := "PostUnion$Treaties"
def TX8 : u_T := fun k => match k with
  | 0 => ("PostUnion$Treaties", "count", "I", false)
  | 1 => ("PostUnion$Treaties", "all", "[LPostUnion$Treaty;", true)
  | 2 => ("PostUnion$Treaties", "years", "[I", true)
  | 3 => ("PostUnion$Treaties", "reserves", "I", false)
  | 4 => ("PostUnion$Treaties", "reserveLands", "[I", true)
  | 5 => ("PostUnion$Treaties", "reserveTreaties", "[I", true)
  | 6 => ("PostUnion$Treaties", "reserveClauses", "[I", true)
  | 7 => ("PostUnion$Treaties", "reserveDays", "[I", true)
  | _ => ("PostUnion$Treaties", "reserveOuts", "[Z", true)
def tyX8 : Nat → FieldType := fun k => match k with
  | 0 => .int
  | 1 => .array (.object "PostUnion$Treaty")
  | 2 => .array .int
  | 3 => .int
  | 4 => .array .int
  | 5 => .array .int
  | 6 => .array .int
  | 7 => .array .int
  | _ => .array .boolean
abbrev wsX80 : List Cond := u_ws RX8 TX8 9
theorem nmX8 : ∀ a, a < 9 → ∀ b, b < 9 → a ≠ b → (TX8 a).2.1 ≠ (TX8 b).2.1 := by decide +kernel
theorem tyX8_ok : ∀ k, k < 9 → parseFieldDescriptor (TX8 k).2.2.1 = some (tyX8 k) := by decide +kernel
abbrev cX8_init : ByteArray := prog_10_method_1_code
def yX8_init : MethodName := ⟨RX8, "<init>", "()V"⟩
abbrev cX8_has : ByteArray := prog_10_method_2_code
def yX8_has : MethodName := ⟨RX8, "has", "(I)Z"⟩
abbrev cX8_nextFree : ByteArray := prog_10_method_3_code
def yX8_nextFree : MethodName := ⟨RX8, "nextFree", "()LPostUnion$Treaty;"⟩
abbrev cX8_add : ByteArray := prog_10_method_4_code
def yX8_add : MethodName := ⟨RX8, "add", "(I)I"⟩
abbrev cX8_clausesOf : ByteArray := prog_10_method_5_code
def yX8_clausesOf : MethodName := ⟨RX8, "clausesOf", "(I)I"⟩
abbrev cX8_holding : ByteArray := prog_10_method_6_code
def yX8_holding : MethodName := ⟨RX8, "holding", "(I)I"⟩
abbrev cX8_isReservesFull : ByteArray := prog_10_method_7_code
def yX8_isReservesFull : MethodName := ⟨RX8, "isReservesFull", "()Z"⟩
abbrev cX8_addReserve : ByteArray := prog_10_method_8_code
def yX8_addReserve : MethodName := ⟨RX8, "addReserve", "(IIIIZ)V"⟩
abbrev cX8_isOutOf : ByteArray := prog_10_method_9_code
def yX8_isOutOf : MethodName := ⟨RX8, "isOutOf", "(IIII)Z"⟩
abbrev cX8_clauseFor : ByteArray := prog_10_method_10_code
def yX8_clauseFor : MethodName := ⟨RX8, "clauseFor", "(ZLPostUnion$Mail;)I"⟩
abbrev cX8_charge : ByteArray := prog_10_method_11_code
def yX8_charge : MethodName := ⟨RX8, "charge", "(ZLPostUnion$Mail;)J"⟩
def RX9 : String := "PostUnion$Treaty"
def TX9 : u_T := fun k => match k with
  | 0 => ("PostUnion$Treaty", "count", "I", false)
  | 1 => ("PostUnion$Treaty", "length", "I", false)
  | 2 => ("PostUnion$Treaty", "thirds", "[Z", true)
  | 3 => ("PostUnion$Treaty", "froms", "[I", true)
  | 4 => ("PostUnion$Treaty", "tos", "[I", true)
  | 5 => ("PostUnion$Treaty", "tests", "[I", true)
  | 6 => ("PostUnion$Treaty", "sums", "[I", true)
  | 7 => ("PostUnion$Treaty", "ends", "[I", true)
  | 8 => ("PostUnion$Treaty", "code", "[I", true)
  | _ => ("PostUnion$Treaty", "waiting", "[J", true)
def tyX9 : Nat → FieldType := fun k => match k with
  | 0 => .int
  | 1 => .int
  | 2 => .array .boolean
  | 3 => .array .int
  | 4 => .array .int
  | 5 => .array .int
  | 6 => .array .int
  | 7 => .array .int
  | 8 => .array .int
  | _ => .array .long
abbrev wsX90 : List Cond := u_ws RX9 TX9 10
theorem nmX9 : ∀ a, a < 10 → ∀ b, b < 10 → a ≠ b → (TX9 a).2.1 ≠ (TX9 b).2.1 := by decide +kernel
theorem tyX9_ok : ∀ k, k < 10 → parseFieldDescriptor (TX9 k).2.2.1 = some (tyX9 k) := by decide +kernel
abbrev cX9_init : ByteArray := prog_11_method_1_code
def yX9_init : MethodName := ⟨RX9, "<init>", "()V"⟩
abbrev cX9_clear : ByteArray := prog_11_method_2_code
def yX9_clear : MethodName := ⟨RX9, "clear", "()V"⟩
abbrev cX9_count : ByteArray := prog_11_method_3_code
def yX9_count : MethodName := ⟨RX9, "count", "()I"⟩
abbrev cX9_length : ByteArray := prog_11_method_4_code
def yX9_length : MethodName := ⟨RX9, "length", "()I"⟩
abbrev cX9_emit : ByteArray := prog_11_method_5_code
def yX9_emit : MethodName := ⟨RX9, "emit", "(I)V"⟩
abbrev cX9_addClause : ByteArray := prog_11_method_6_code
def yX9_addClause : MethodName := ⟨RX9, "addClause", "(ZIIII)V"⟩
abbrev cX9_serves : ByteArray := prog_11_method_7_code
def yX9_serves : MethodName := ⟨RX9, "serves", "(IZII)Z"⟩
abbrev cX9_compute : ByteArray := prog_11_method_8_code
def yX9_compute : MethodName := ⟨RX9, "compute", "(IZLPostUnion$Mail;)J"⟩
abbrev cX9_both : ByteArray := prog_11_method_9_code
def yX9_both : MethodName := ⟨RX9, "both", "(IJJ)J"⟩
def RX10 : String := "PostUnion$Ways"
def TX10 : u_T := fun k => match k with
  | 0 => ("PostUnion$Ways", "lands", "LPostUnion$Lands;", true)
  | 1 => ("PostUnion$Ways", "treaties", "LPostUnion$Treaties;", true)
  | 2 => ("PostUnion$Ways", "goal", "I", false)
  | 3 => ("PostUnion$Ways", "weight", "J", false)
  | 4 => ("PostUnion$Ways", "dues", "[J", true)
  | 5 => ("PostUnion$Ways", "thirds", "[[J", true)
  | 6 => ("PostUnion$Ways", "path", "[I", true)
  | 7 => ("PostUnion$Ways", "best", "[I", true)
  | 8 => ("PostUnion$Ways", "bestLength", "I", false)
  | 9 => ("PostUnion$Ways", "bestDays", "I", false)
  | 10 => ("PostUnion$Ways", "bestPrice", "J", false)
  | _ => ("PostUnion$Ways", "remailPrice", "J", false)
def tyX10 : Nat → FieldType := fun k => match k with
  | 0 => .object "PostUnion$Lands"
  | 1 => .object "PostUnion$Treaties"
  | 2 => .int
  | 3 => .long
  | 4 => .array .long
  | 5 => .array (.array .long)
  | 6 => .array .int
  | 7 => .array .int
  | 8 => .int
  | 9 => .int
  | 10 => .long
  | _ => .long
abbrev wsX100 : List Cond := u_ws RX10 TX10 12
theorem nmX10 : ∀ a, a < 12 → ∀ b, b < 12 → a ≠ b → (TX10 a).2.1 ≠ (TX10 b).2.1 := by decide +kernel
theorem tyX10_ok : ∀ k, k < 12 → parseFieldDescriptor (TX10 k).2.2.1 = some (tyX10 k) := by decide +kernel
abbrev cX10_init : ByteArray := prog_12_method_1_code
def yX10_init : MethodName := ⟨RX10, "<init>", "(LPostUnion$Lands;LPostUnion$Treaties;)V"⟩
abbrev cX10_bestLength : ByteArray := prog_12_method_2_code
def yX10_bestLength : MethodName := ⟨RX10, "bestLength", "()I"⟩
abbrev cX10_bestDays : ByteArray := prog_12_method_3_code
def yX10_bestDays : MethodName := ⟨RX10, "bestDays", "()I"⟩
abbrev cX10_bestLand : ByteArray := prog_12_method_4_code
def yX10_bestLand : MethodName := ⟨RX10, "bestLand", "(I)I"⟩
abbrev cX10_bestPrice : ByteArray := prog_12_method_5_code
def yX10_bestPrice : MethodName := ⟨RX10, "bestPrice", "()J"⟩
abbrev cX10_bestDue : ByteArray := prog_12_method_6_code
def yX10_bestDue : MethodName := ⟨RX10, "bestDue", "()J"⟩
abbrev cX10_bestThird : ByteArray := prog_12_method_7_code
def yX10_bestThird : MethodName := ⟨RX10, "bestThird", "(I)J"⟩
abbrev cX10_remailPrice : ByteArray := prog_12_method_8_code
def yX10_remailPrice : MethodName := ⟨RX10, "remailPrice", "()J"⟩
abbrev cX10_findBest : ByteArray := prog_12_method_9_code
def yX10_findBest : MethodName := ⟨RX10, "findBest", "(LPostUnion$Mail;)Z"⟩
abbrev cX10_extend : ByteArray := prog_12_method_10_code
def yX10_extend : MethodName := ⟨RX10, "extend", "(IIJ)V"⟩
abbrev cX10_isOnPath : ByteArray := prog_12_method_11_code
def yX10_isOnPath : MethodName := ⟨RX10, "isOnPath", "(II)Z"⟩
abbrev cX10_arrive : ByteArray := prog_12_method_12_code
def yX10_arrive : MethodName := ⟨RX10, "arrive", "(IIJ)V"⟩
abbrev cX10_findRemailer : ByteArray := prog_12_method_13_code
def yX10_findRemailer : MethodName := ⟨RX10, "findRemailer", "(LPostUnion$Mail;)I"⟩
def RX11 : String := "PostUnion"
def TX11 : u_T := fun k => match k with
  | 0 => ("PostUnion", "status", "I", false)
  | 1 => ("PostUnion", "top", "J", false)
  | 2 => ("PostUnion", "bottom", "J", false)
  | 3 => ("PostUnion", "trays", "[[J", true)
  | 4 => ("PostUnion", "sorts", "[I", true)
  | 5 => ("PostUnion", "sizes", "[I", true)
  | 6 => ("PostUnion", "lands", "LPostUnion$Lands;", true)
  | 7 => ("PostUnion", "reader", "LPostUnion$Reader;", true)
  | 8 => ("PostUnion", "treaties", "LPostUnion$Treaties;", true)
  | 9 => ("PostUnion", "mail", "LPostUnion$Mail;", true)
  | 10 => ("PostUnion", "ways", "LPostUnion$Ways;", true)
  | 11 => ("PostUnion", "flows", "LPostUnion$Flows;", true)
  | 12 => ("PostUnion", "accounts", "LPostUnion$Accounts;", true)
  | 13 => ("PostUnion", "bags", "LPostUnion$Bags;", true)
  | 14 => ("PostUnion", "books", "LPostUnion$Books;", true)
  | _ => ("PostUnion", "cases", "LPostUnion$Cases;", true)
def tyX11 : Nat → FieldType := fun k => match k with
  | 0 => .int
  | 1 => .long
  | 2 => .long
  | 3 => .array (.array .long)
  | 4 => .array .int
  | 5 => .array .int
  | 6 => .object "PostUnion$Lands"
  | 7 => .object "PostUnion$Reader"
  | 8 => .object "PostUnion$Treaties"
  | 9 => .object "PostUnion$Mail"
  | 10 => .object "PostUnion$Ways"
  | 11 => .object "PostUnion$Flows"
  | 12 => .object "PostUnion$Accounts"
  | 13 => .object "PostUnion$Bags"
  | 14 => .object "PostUnion$Books"
  | _ => .object "PostUnion$Cases"
abbrev wsX110 : List Cond := u_ws RX11 TX11 16
theorem nmX11 : ∀ a, a < 16 → ∀ b, b < 16 → a ≠ b → (TX11 a).2.1 ≠ (TX11 b).2.1 := by decide +kernel
theorem tyX11_ok : ∀ k, k < 16 → parseFieldDescriptor (TX11 k).2.2.1 = some (tyX11 k) := by decide +kernel
abbrev cX11_init : ByteArray := prog_1_method_1_code
def yX11_init : MethodName := ⟨RX11, "<init>", "()V"⟩
abbrev cX11_status : ByteArray := prog_1_method_2_code
def yX11_status : MethodName := ⟨RX11, "status", "()I"⟩
abbrev cX11_top : ByteArray := prog_1_method_3_code
def yX11_top : MethodName := ⟨RX11, "top", "()J"⟩
abbrev cX11_bottom : ByteArray := prog_1_method_4_code
def yX11_bottom : MethodName := ⟨RX11, "bottom", "()J"⟩
abbrev cX11_tray : ByteArray := prog_1_method_5_code
def yX11_tray : MethodName := ⟨RX11, "tray", "(III)Z"⟩
abbrev cX11_write : ByteArray := prog_1_method_6_code
def yX11_write : MethodName := ⟨RX11, "write", "(IIJ)Z"⟩
abbrev cX11_fill : ByteArray := prog_1_method_7_code
def yX11_fill : MethodName := ⟨RX11, "fill", "(IIIJJ)Z"⟩
abbrev cX11_read : ByteArray := prog_1_method_8_code
def yX11_read : MethodName := ⟨RX11, "read", "(II)J"⟩
abbrev cX11_pour : ByteArray := prog_1_method_9_code
def yX11_pour : MethodName := ⟨RX11, "pour", "(IIIII)Z"⟩
abbrev cX11_land : ByteArray := prog_1_method_10_code
def yX11_land : MethodName := ⟨RX11, "land", "()I"⟩
abbrev cX11_gold : ByteArray := prog_1_method_11_code
def yX11_gold : MethodName := ⟨RX11, "gold", "(III)Z"⟩
abbrev cX11_coins : ByteArray := prog_1_method_12_code
def yX11_coins : MethodName := ⟨RX11, "coins", "(IIJ)J"⟩
abbrev cX11_road : ByteArray := prog_1_method_13_code
def yX11_road : MethodName := ⟨RX11, "road", "(IIII)Z"⟩
abbrev cX11_feed : ByteArray := prog_1_method_14_code
def yX11_feed : MethodName := ⟨RX11, "feed", "(IIIII)I"⟩
abbrev cX11_treaty : ByteArray := prog_1_method_15_code
def yX11_treaty : MethodName := ⟨RX11, "treaty", "(II)I"⟩
abbrev cX11_fault : ByteArray := prog_1_method_16_code
def yX11_fault : MethodName := ⟨RX11, "fault", "(I)I"⟩
abbrev cX11_clauses : ByteArray := prog_1_method_17_code
def yX11_clauses : MethodName := ⟨RX11, "clauses", "(I)I"⟩
abbrev cX11_inForce : ByteArray := prog_1_method_18_code
def yX11_inForce : MethodName := ⟨RX11, "inForce", "(I)I"⟩
abbrev cX11_reserve : ByteArray := prog_1_method_19_code
def yX11_reserve : MethodName := ⟨RX11, "reserve", "(IIIIZ)Z"⟩
abbrev cX11_isOut : ByteArray := prog_1_method_20_code
def yX11_isOut : MethodName := ⟨RX11, "isOut", "(IIII)I"⟩
abbrev cX11_due : ByteArray := prog_1_method_21_code
def yX11_due : MethodName := ⟨RX11, "due", "(IIIIIII)J"⟩
abbrev cX11_dueBy : ByteArray := prog_1_method_22_code
def yX11_dueBy : MethodName := ⟨RX11, "dueBy", "(IIIIIII)I"⟩
abbrev cX11_third : ByteArray := prog_1_method_23_code
def yX11_third : MethodName := ⟨RX11, "third", "(IIIIIIII)J"⟩
abbrev cX11_price : ByteArray := prog_1_method_24_code
def yX11_price : MethodName := ⟨RX11, "price", "(IIIIII)J"⟩
abbrev cX11_way : ByteArray := prog_1_method_25_code
def yX11_way : MethodName := ⟨RX11, "way", "(IIIIIII)I"⟩
abbrev cX11_carried : ByteArray := prog_1_method_26_code
def yX11_carried : MethodName := ⟨RX11, "carried", "(II)I"⟩
abbrev cX11_remailed : ByteArray := prog_1_method_27_code
def yX11_remailed : MethodName := ⟨RX11, "remailed", "(IIIIII)J"⟩
abbrev cX11_remailer : ByteArray := prog_1_method_28_code
def yX11_remailer : MethodName := ⟨RX11, "remailer", "(IIIIII)I"⟩
abbrev cX11_gain : ByteArray := prog_1_method_29_code
def yX11_gain : MethodName := ⟨RX11, "gain", "(IIIIII)J"⟩
abbrev cX11_rate : ByteArray := prog_1_method_30_code
def yX11_rate : MethodName := ⟨RX11, "rate", "(III)Z"⟩
abbrev cX11_even : ByteArray := prog_1_method_31_code
def yX11_even : MethodName := ⟨RX11, "even", "(II)I"⟩
abbrev cX11_uneven : ByteArray := prog_1_method_32_code
def yX11_uneven : MethodName := ⟨RX11, "uneven", "()I"⟩
abbrev cX11_flow : ByteArray := prog_1_method_33_code
def yX11_flow : MethodName := ⟨RX11, "flow", "(IIIII)I"⟩
abbrev cX11_isTrue : ByteArray := prog_1_method_34_code
def yX11_isTrue : MethodName := ⟨RX11, "isTrue", "(I)I"⟩
abbrev cX11_draw : ByteArray := prog_1_method_35_code
def yX11_draw : MethodName := ⟨RX11, "draw", "(II)I"⟩
abbrev cX11_drawn : ByteArray := prog_1_method_36_code
def yX11_drawn : MethodName := ⟨RX11, "drawn", "(I)I"⟩
abbrev cX11_told : ByteArray := prog_1_method_37_code
def yX11_told : MethodName := ⟨RX11, "told", "(I)I"⟩
abbrev cX11_telling : ByteArray := prog_1_method_38_code
def yX11_telling : MethodName := ⟨RX11, "telling", "(I)I"⟩
abbrev cX11_tells : ByteArray := prog_1_method_39_code
def yX11_tells : MethodName := ⟨RX11, "tells", "(I)I"⟩
abbrev cX11_account : ByteArray := prog_1_method_40_code
def yX11_account : MethodName := ⟨RX11, "account", "(IZ)J"⟩
abbrev cX11_owes : ByteArray := prog_1_method_41_code
def yX11_owes : MethodName := ⟨RX11, "owes", "(II)J"⟩
abbrev cX11_balance : ByteArray := prog_1_method_42_code
def yX11_balance : MethodName := ⟨RX11, "balance", "(I)J"⟩
abbrev cX11_pays : ByteArray := prog_1_method_43_code
def yX11_pays : MethodName := ⟨RX11, "pays", "(II)J"⟩
abbrev cX11_rules : ByteArray := prog_1_method_44_code
def yX11_rules : MethodName := ⟨RX11, "rules", "(III)Z"⟩
abbrev cX11_bag : ByteArray := prog_1_method_45_code
def yX11_bag : MethodName := ⟨RX11, "bag", "(IIII)I"⟩
abbrev cX11_handed : ByteArray := prog_1_method_46_code
def yX11_handed : MethodName := ⟨RX11, "handed", "(IIII)Z"⟩
abbrev cX11_where : ByteArray := prog_1_method_47_code
def yX11_where : MethodName := ⟨RX11, "where", "(II)I"⟩
abbrev cX11_late : ByteArray := prog_1_method_48_code
def yX11_late : MethodName := ⟨RX11, "late", "(III)I"⟩
abbrev cX11_loses : ByteArray := prog_1_method_49_code
def yX11_loses : MethodName := ⟨RX11, "loses", "(II)J"⟩
abbrev cX11_line : ByteArray := prog_1_method_50_code
def yX11_line : MethodName := ⟨RX11, "line", "(IIII)I"⟩
abbrev cX11_close : ByteArray := prog_1_method_51_code
def yX11_close : MethodName := ⟨RX11, "close", "()Z"⟩
abbrev cX11_join : ByteArray := prog_1_method_52_code
def yX11_join : MethodName := ⟨RX11, "join", "()I"⟩
abbrev cX11_mate : ByteArray := prog_1_method_53_code
def yX11_mate : MethodName := ⟨RX11, "mate", "(I)I"⟩
abbrev cX11_leans : ByteArray := prog_1_method_54_code
def yX11_leans : MethodName := ⟨RX11, "leans", "(I)I"⟩
abbrev cX11_interest : ByteArray := prog_1_method_55_code
def yX11_interest : MethodName := ⟨RX11, "interest", "(III)I"⟩
abbrev cX11_weigh : ByteArray := prog_1_method_56_code
def yX11_weigh : MethodName := ⟨RX11, "weigh", "(II)Z"⟩
abbrev cX11_rule : ByteArray := prog_1_method_57_code
def yX11_rule : MethodName := ⟨RX11, "rule", "(II)I"⟩
abbrev cX11_judge : ByteArray := prog_1_method_58_code
def yX11_judge : MethodName := ⟨RX11, "judge", "(I)I"⟩
abbrev cX11_refuse : ByteArray := prog_1_method_59_code
def yX11_refuse : MethodName := ⟨RX11, "refuse", "(I)I"⟩
abbrev cX11_refused : ByteArray := prog_1_method_60_code
def yX11_refused : MethodName := ⟨RX11, "refused", "(I)Z"⟩
abbrev cX11_accepted : ByteArray := prog_1_method_61_code
def yX11_accepted : MethodName := ⟨RX11, "accepted", "()Z"⟩
abbrev cX11_answerOrNoneSuch : ByteArray := prog_1_method_62_code
def yX11_answerOrNoneSuch : MethodName := ⟨RX11, "answerOrNoneSuch", "(I)I"⟩
abbrev cX11_outside : ByteArray := prog_1_method_63_code
def yX11_outside : MethodName := ⟨RX11, "outside", "(JJJ)Z"⟩
abbrev cX11_isDay : ByteArray := prog_1_method_64_code
def yX11_isDay : MethodName := ⟨RX11, "isDay", "(I)Z"⟩
abbrev cX11_isLand : ByteArray := prog_1_method_65_code
def yX11_isLand : MethodName := ⟨RX11, "isLand", "(I)Z"⟩
abbrev cX11_isPair : ByteArray := prog_1_method_66_code
def yX11_isPair : MethodName := ⟨RX11, "isPair", "(II)Z"⟩
abbrev cX11_isMail : ByteArray := prog_1_method_67_code
def yX11_isMail : MethodName := ⟨RX11, "isMail", "(IIIIII)Z"⟩
abbrev cX11_isReserve : ByteArray := prog_1_method_68_code
def yX11_isReserve : MethodName := ⟨RX11, "isReserve", "(IIII)Z"⟩
abbrev cX11_trayStatus : ByteArray := prog_1_method_69_code
def yX11_trayStatus : MethodName := ⟨RX11, "trayStatus", "(III)I"⟩
abbrev cX11_pourStatus : ByteArray := prog_1_method_70_code
def yX11_pourStatus : MethodName := ⟨RX11, "pourStatus", "(IIIII)I"⟩
abbrev cX11_cutTo : ByteArray := prog_1_method_71_code
def yX11_cutTo : MethodName := ⟨RX11, "cutTo", "(IJ)J"⟩
abbrev cX11_hasOnly : ByteArray := prog_1_method_72_code
def yX11_hasOnly : MethodName := ⟨RX11, "hasOnly", "(III)Z"⟩
abbrev cX11_setFraction : ByteArray := prog_1_method_73_code
def yX11_setFraction : MethodName := ⟨RX11, "setFraction", "(JJ)V"⟩
def RX12 : String := "PostUnionModel"
def TX12 : u_T := fun k => match k with
  | 0 => ("PostUnionModel", "status", "I", false)
  | 1 => ("PostUnionModel", "top", "J", false)
  | 2 => ("PostUnionModel", "bottom", "J", false)
  | 3 => ("PostUnionModel", "sort", "[I", true)
  | 4 => ("PostUnionModel", "many", "[I", true)
  | 5 => ("PostUnionModel", "trays", "[J", true)
  | 6 => ("PostUnionModel", "lands", "I", false)
  | 7 => ("PostUnionModel", "golds", "I", false)
  | 8 => ("PostUnionModel", "goldLand", "[I", true)
  | 9 => ("PostUnionModel", "goldDay", "[I", true)
  | 10 => ("PostUnionModel", "goldCoins", "[I", true)
  | 11 => ("PostUnionModel", "roadDays", "[I", true)
  | 12 => ("PostUnionModel", "roadFreight", "[I", true)
  | 13 => ("PostUnionModel", "tape", "[B", true)
  | 14 => ("PostUnionModel", "text", "[B", true)
  | 15 => ("PostUnionModel", "taped", "I", false)
  | 16 => ("PostUnionModel", "size", "I", false)
  | 17 => ("PostUnionModel", "token", "I", false)
  | 18 => ("PostUnionModel", "from", "I", false)
  | 19 => ("PostUnionModel", "end", "I", false)
  | 20 => ("PostUnionModel", "faultKind", "I", false)
  | 21 => ("PostUnionModel", "faultPlace", "I", false)
  | 22 => ("PostUnionModel", "faults", "I", false)
  | 23 => ("PostUnionModel", "value", "J", false)
  | 24 => ("PostUnionModel", "treaties", "I", false)
  | 25 => ("PostUnionModel", "yearOf", "[I", true)
  | 26 => ("PostUnionModel", "clauseMany", "[I", true)
  | 27 => ("PostUnionModel", "third", "[I", true)
  | 28 => ("PostUnionModel", "fromSet", "[I", true)
  | 29 => ("PostUnionModel", "toSet", "[I", true)
  | 30 => ("PostUnionModel", "oneFirst", "[I", true)
  | 31 => ("PostUnionModel", "oneLast", "[I", true)
  | 32 => ("PostUnionModel", "sumFirst", "[I", true)
  | 33 => ("PostUnionModel", "sumLast", "[I", true)
  | 34 => ("PostUnionModel", "names", "[J", true)
  | 35 => ("PostUnionModel", "leftFirst", "[I", true)
  | 36 => ("PostUnionModel", "leftLast", "[I", true)
  | 37 => ("PostUnionModel", "rightFirst", "[I", true)
  | 38 => ("PostUnionModel", "rightLast", "[I", true)
  | 39 => ("PostUnionModel", "compares", "[I", true)
  | 40 => ("PostUnionModel", "isNot", "[Z", true)
  | 41 => ("PostUnionModel", "begins", "[Z", true)
  | 42 => ("PostUnionModel", "sign", "[I", true)
  | 43 => ("PostUnionModel", "signOf", "[J", true)
  | 44 => ("PostUnionModel", "signs", "I", false)
  | 45 => ("PostUnionModel", "ones", "I", false)
  | 46 => ("PostUnionModel", "bracket", "[I", true)
  | 47 => ("PostUnionModel", "waitsSum", "[I", true)
  | 48 => ("PostUnionModel", "waitsItem", "[I", true)
  | 49 => ("PostUnionModel", "outLand", "[I", true)
  | 50 => ("PostUnionModel", "outClause", "[I", true)
  | 51 => ("PostUnionModel", "outDay", "[I", true)
  | 52 => ("PostUnionModel", "isOutNow", "[Z", true)
  | 53 => ("PostUnionModel", "reserves", "I", false)
  | 54 => ("PostUnionModel", "variables", "[J", true)
  | 55 => ("PostUnionModel", "stack", "[J", true)
  | 56 => ("PostUnionModel", "way", "[I", true)
  | 57 => ("PostUnionModel", "best", "[I", true)
  | 58 => ("PostUnionModel", "bestMany", "I", false)
  | 59 => ("PostUnionModel", "bestDays", "I", false)
  | 60 => ("PostUnionModel", "bestPrice", "J", false)
  | 61 => ("PostUnionModel", "freight", "[I", true)
  | 62 => ("PostUnionModel", "mailed", "J", false)
  | 63 => ("PostUnionModel", "mailer", "I", false)
  | 64 => ("PostUnionModel", "rates", "[I", true)
  | 65 => ("PostUnionModel", "flows", "I", false)
  | 66 => ("PostUnionModel", "drawnMany", "I", false)
  | 67 => ("PostUnionModel", "toldMany", "I", false)
  | 68 => ("PostUnionModel", "flowFrom", "[I", true)
  | 69 => ("PostUnionModel", "flowTo", "[I", true)
  | 70 => ("PostUnionModel", "flowSize", "[I", true)
  | 71 => ("PostUnionModel", "flowPieces", "[I", true)
  | 72 => ("PostUnionModel", "kilos", "[I", true)
  | 73 => ("PostUnionModel", "drawnWeeks", "[I", true)
  | 74 => ("PostUnionModel", "tellWeeks", "[I", true)
  | 75 => ("PostUnionModel", "tried", "[I", true)
  | 76 => ("PostUnionModel", "debts", "[J", true)
  | 77 => ("PostUnionModel", "newDebts", "[J", true)
  | 78 => ("PostUnionModel", "payments", "[J", true)
  | 79 => ("PostUnionModel", "over", "[J", true)
  | 80 => ("PostUnionModel", "hasAccount", "Z", false)
  | 81 => ("PostUnionModel", "bags", "I", false)
  | 82 => ("PostUnionModel", "handings", "I", false)
  | 83 => ("PostUnionModel", "latest", "I", false)
  | 84 => ("PostUnionModel", "grace", "I", false)
  | 85 => ("PostUnionModel", "limit", "I", false)
  | 86 => ("PostUnionModel", "loss", "I", false)
  | 87 => ("PostUnionModel", "bagWeight", "[I", true)
  | 88 => ("PostUnionModel", "bagLands", "[I", true)
  | 89 => ("PostUnionModel", "bagDay", "[I", true)
  | 90 => ("PostUnionModel", "bagWay", "[I", true)
  | 91 => ("PostUnionModel", "handBag", "[I", true)
  | 92 => ("PostUnionModel", "handPlace", "[I", true)
  | 93 => ("PostUnionModel", "handDay", "[I", true)
  | 94 => ("PostUnionModel", "handKnown", "[I", true)
  | 95 => ("PostUnionModel", "placeNow", "I", false)
  | 96 => ("PostUnionModel", "since", "I", false)
  | 97 => ("PostUnionModel", "lineMany", "[I", true)
  | 98 => ("PostUnionModel", "lineNumber", "[I", true)
  | 99 => ("PostUnionModel", "lineDay", "[I", true)
  | 100 => ("PostUnionModel", "lineGrams", "[I", true)
  | 101 => ("PostUnionModel", "least", "[I", true)
  | 102 => ("PostUnionModel", "mates", "[I", true)
  | 103 => ("PostUnionModel", "usedSet", "I", false)
  | 104 => ("PostUnionModel", "feature", "[I", true)
  | 105 => ("PostUnionModel", "caseOf", "[I", true)
  | 106 => ("PostUnionModel", "ruling", "[I", true)
  | _ => ("PostUnionModel", "cases", "I", false)
def tyX12 : Nat → FieldType := fun k => match k with
  | 0 => .int
  | 1 => .long
  | 2 => .long
  | 3 => .array .int
  | 4 => .array .int
  | 5 => .array .long
  | 6 => .int
  | 7 => .int
  | 8 => .array .int
  | 9 => .array .int
  | 10 => .array .int
  | 11 => .array .int
  | 12 => .array .int
  | 13 => .array .byte
  | 14 => .array .byte
  | 15 => .int
  | 16 => .int
  | 17 => .int
  | 18 => .int
  | 19 => .int
  | 20 => .int
  | 21 => .int
  | 22 => .int
  | 23 => .long
  | 24 => .int
  | 25 => .array .int
  | 26 => .array .int
  | 27 => .array .int
  | 28 => .array .int
  | 29 => .array .int
  | 30 => .array .int
  | 31 => .array .int
  | 32 => .array .int
  | 33 => .array .int
  | 34 => .array .long
  | 35 => .array .int
  | 36 => .array .int
  | 37 => .array .int
  | 38 => .array .int
  | 39 => .array .int
  | 40 => .array .boolean
  | 41 => .array .boolean
  | 42 => .array .int
  | 43 => .array .long
  | 44 => .int
  | 45 => .int
  | 46 => .array .int
  | 47 => .array .int
  | 48 => .array .int
  | 49 => .array .int
  | 50 => .array .int
  | 51 => .array .int
  | 52 => .array .boolean
  | 53 => .int
  | 54 => .array .long
  | 55 => .array .long
  | 56 => .array .int
  | 57 => .array .int
  | 58 => .int
  | 59 => .int
  | 60 => .long
  | 61 => .array .int
  | 62 => .long
  | 63 => .int
  | 64 => .array .int
  | 65 => .int
  | 66 => .int
  | 67 => .int
  | 68 => .array .int
  | 69 => .array .int
  | 70 => .array .int
  | 71 => .array .int
  | 72 => .array .int
  | 73 => .array .int
  | 74 => .array .int
  | 75 => .array .int
  | 76 => .array .long
  | 77 => .array .long
  | 78 => .array .long
  | 79 => .array .long
  | 80 => .boolean
  | 81 => .int
  | 82 => .int
  | 83 => .int
  | 84 => .int
  | 85 => .int
  | 86 => .int
  | 87 => .array .int
  | 88 => .array .int
  | 89 => .array .int
  | 90 => .array .int
  | 91 => .array .int
  | 92 => .array .int
  | 93 => .array .int
  | 94 => .array .int
  | 95 => .int
  | 96 => .int
  | 97 => .array .int
  | 98 => .array .int
  | 99 => .array .int
  | 100 => .array .int
  | 101 => .array .int
  | 102 => .array .int
  | 103 => .int
  | 104 => .array .int
  | 105 => .array .int
  | 106 => .array .int
  | _ => .int
abbrev wsX120 : List Cond := u_ws RX12 TX12 108
theorem nmX12 : ∀ a, a < 108 → ∀ b, b < 108 → a ≠ b → (TX12 a).2.1 ≠ (TX12 b).2.1 := by decide +kernel
theorem tyX12_ok : ∀ k, k < 108 → parseFieldDescriptor (TX12 k).2.2.1 = some (tyX12 k) := by decide +kernel
abbrev cX12_init : ByteArray := prog_14_method_1_code
def yX12_init : MethodName := ⟨RX12, "<init>", "()V"⟩
abbrev cX12_status : ByteArray := prog_14_method_2_code
def yX12_status : MethodName := ⟨RX12, "status", "()I"⟩
abbrev cX12_top : ByteArray := prog_14_method_3_code
def yX12_top : MethodName := ⟨RX12, "top", "()J"⟩
abbrev cX12_bottom : ByteArray := prog_14_method_4_code
def yX12_bottom : MethodName := ⟨RX12, "bottom", "()J"⟩
abbrev cX12_is : ByteArray := prog_14_method_5_code
def yX12_is : MethodName := ⟨RX12, "is", "(I)Z"⟩
abbrev cX12_refuse : ByteArray := prog_14_method_6_code
def yX12_refuse : MethodName := ⟨RX12, "refuse", "(I)I"⟩
abbrev cX12_gives : ByteArray := prog_14_method_7_code
def yX12_gives : MethodName := ⟨RX12, "gives", "(I)I"⟩
abbrev cX12_givesLong : ByteArray := prog_14_method_8_code
def yX12_givesLong : MethodName := ⟨RX12, "givesLong", "(J)J"⟩
abbrev cX12_isTray : ByteArray := prog_14_method_9_code
def yX12_isTray : MethodName := ⟨RX12, "isTray", "(I)Z"⟩
abbrev cX12_cut : ByteArray := prog_14_method_10_code
def yX12_cut : MethodName := ⟨RX12, "cut", "(JI)J"⟩
abbrev cX12_tray : ByteArray := prog_14_method_11_code
def yX12_tray : MethodName := ⟨RX12, "tray", "(III)Z"⟩
abbrev cX12_wrongPlace : ByteArray := prog_14_method_12_code
def yX12_wrongPlace : MethodName := ⟨RX12, "wrongPlace", "(II)I"⟩
abbrev cX12_write : ByteArray := prog_14_method_13_code
def yX12_write : MethodName := ⟨RX12, "write", "(IIJ)Z"⟩
abbrev cX12_fill : ByteArray := prog_14_method_14_code
def yX12_fill : MethodName := ⟨RX12, "fill", "(IIIJJ)Z"⟩
abbrev cX12_read : ByteArray := prog_14_method_15_code
def yX12_read : MethodName := ⟨RX12, "read", "(II)J"⟩
abbrev cX12_pour : ByteArray := prog_14_method_16_code
def yX12_pour : MethodName := ⟨RX12, "pour", "(IIIII)Z"⟩
abbrev cX12_isLand : ByteArray := prog_14_method_17_code
def yX12_isLand : MethodName := ⟨RX12, "isLand", "(I)Z"⟩
abbrev cX12_areTwo : ByteArray := prog_14_method_18_code
def yX12_areTwo : MethodName := ⟨RX12, "areTwo", "(II)Z"⟩
abbrev cX12_isDay : ByteArray := prog_14_method_19_code
def yX12_isDay : MethodName := ⟨RX12, "isDay", "(I)Z"⟩
abbrev cX12_pair : ByteArray := prog_14_method_20_code
def yX12_pair : MethodName := ⟨RX12, "pair", "(II)I"⟩
abbrev cX12_land : ByteArray := prog_14_method_21_code
def yX12_land : MethodName := ⟨RX12, "land", "()I"⟩
abbrev cX12_gold : ByteArray := prog_14_method_22_code
def yX12_gold : MethodName := ⟨RX12, "gold", "(III)Z"⟩
abbrev cX12_coins : ByteArray := prog_14_method_23_code
def yX12_coins : MethodName := ⟨RX12, "coins", "(IIJ)J"⟩
abbrev cX12_road : ByteArray := prog_14_method_24_code
def yX12_road : MethodName := ⟨RX12, "road", "(IIII)Z"⟩
abbrev cX12_isRoad : ByteArray := prog_14_method_25_code
def yX12_isRoad : MethodName := ⟨RX12, "isRoad", "(II)Z"⟩
abbrev cX12_feed : ByteArray := prog_14_method_26_code
def yX12_feed : MethodName := ⟨RX12, "feed", "(IIIII)I"⟩
abbrev cX12_four : ByteArray := prog_14_method_27_code
def yX12_four : MethodName := ⟨RX12, "four", "(I)V"⟩
abbrev cX12_at : ByteArray := prog_14_method_28_code
def yX12_at : MethodName := ⟨RX12, "at", "(I)I"⟩
abbrev cX12_isSmall : ByteArray := prog_14_method_29_code
def yX12_isSmall : MethodName := ⟨RX12, "isSmall", "(I)Z"⟩
abbrev cX12_isDigit : ByteArray := prog_14_method_30_code
def yX12_isDigit : MethodName := ⟨RX12, "isDigit", "(I)Z"⟩
abbrev cX12_next : ByteArray := prog_14_method_31_code
def yX12_next : MethodName := ⟨RX12, "next", "()V"⟩
abbrev cX12_isSign : ByteArray := prog_14_method_32_code
def yX12_isSign : MethodName := ⟨RX12, "isSign", "(I)Z"⟩
abbrev cX12_inWords : ByteArray := prog_14_method_33_code
def yX12_inWords : MethodName := ⟨RX12, "inWords", "(Ljava/lang/String;)I"⟩
abbrev cX12_isKey : ByteArray := prog_14_method_34_code
def yX12_isKey : MethodName := ⟨RX12, "isKey", "(I)Z"⟩
abbrev cX12_fail : ByteArray := prog_14_method_35_code
def yX12_fail : MethodName := ⟨RX12, "fail", "(I)Z"⟩
abbrev cX12_want : ByteArray := prog_14_method_36_code
def yX12_want : MethodName := ⟨RX12, "want", "(I)Z"⟩
abbrev cX12_puts : ByteArray := prog_14_method_37_code
def yX12_puts : MethodName := ⟨RX12, "puts", "(IJ)V"⟩
abbrev cX12_opens : ByteArray := prog_14_method_38_code
def yX12_opens : MethodName := ⟨RX12, "opens", "(II)V"⟩
abbrev cX12_sum : ByteArray := prog_14_method_39_code
def yX12_sum : MethodName := ⟨RX12, "sum", "()Z"⟩
abbrev cX12_list : ByteArray := prog_14_method_40_code
def yX12_list : MethodName := ⟨RX12, "list", "()I"⟩
abbrev cX12_one : ByteArray := prog_14_method_41_code
def yX12_one : MethodName := ⟨RX12, "one", "(Z)Z"⟩
abbrev cX12_test : ByteArray := prog_14_method_42_code
def yX12_test : MethodName := ⟨RX12, "test", "()Z"⟩
abbrev cX12_clause : ByteArray := prog_14_method_43_code
def yX12_clause : MethodName := ⟨RX12, "clause", "()Z"⟩
abbrev cX12_treaty : ByteArray := prog_14_method_44_code
def yX12_treaty : MethodName := ⟨RX12, "treaty", "(II)I"⟩
abbrev cX12_fault : ByteArray := prog_14_method_45_code
def yX12_fault : MethodName := ⟨RX12, "fault", "(I)I"⟩
abbrev cX12_isTreaty : ByteArray := prog_14_method_46_code
def yX12_isTreaty : MethodName := ⟨RX12, "isTreaty", "(I)Z"⟩
abbrev cX12_clauses : ByteArray := prog_14_method_47_code
def yX12_clauses : MethodName := ⟨RX12, "clauses", "(I)I"⟩
abbrev cX12_force : ByteArray := prog_14_method_48_code
def yX12_force : MethodName := ⟨RX12, "force", "(I)I"⟩
abbrev cX12_inForce : ByteArray := prog_14_method_49_code
def yX12_inForce : MethodName := ⟨RX12, "inForce", "(I)I"⟩
abbrev cX12_isClause : ByteArray := prog_14_method_50_code
def yX12_isClause : MethodName := ⟨RX12, "isClause", "(II)Z"⟩
abbrev cX12_outOf : ByteArray := prog_14_method_51_code
def yX12_outOf : MethodName := ⟨RX12, "outOf", "(III)Z"⟩
abbrev cX12_reserve : ByteArray := prog_14_method_52_code
def yX12_reserve : MethodName := ⟨RX12, "reserve", "(IIIIZ)Z"⟩
abbrev cX12_isOut : ByteArray := prog_14_method_53_code
def yX12_isOut : MethodName := ⟨RX12, "isOut", "(IIII)I"⟩
abbrev cX12_asks : ByteArray := prog_14_method_54_code
def yX12_asks : MethodName := ⟨RX12, "asks", "(IJJIII)V"⟩
abbrev cX12_work : ByteArray := prog_14_method_55_code
def yX12_work : MethodName := ⟨RX12, "work", "(II)J"⟩
abbrev cX12_holds : ByteArray := prog_14_method_56_code
def yX12_holds : MethodName := ⟨RX12, "holds", "(I)Z"⟩
abbrev cX12_clauseOf : ByteArray := prog_14_method_57_code
def yX12_clauseOf : MethodName := ⟨RX12, "clauseOf", "(IIII)I"⟩
abbrev cX12_owed : ByteArray := prog_14_method_58_code
def yX12_owed : MethodName := ⟨RX12, "owed", "(IIIJJIII)J"⟩
abbrev cX12_isMail : ByteArray := prog_14_method_59_code
def yX12_isMail : MethodName := ⟨RX12, "isMail", "(IIIIII)Z"⟩
abbrev cX12_due : ByteArray := prog_14_method_60_code
def yX12_due : MethodName := ⟨RX12, "due", "(IIIIIII)J"⟩
abbrev cX12_dueBy : ByteArray := prog_14_method_61_code
def yX12_dueBy : MethodName := ⟨RX12, "dueBy", "(IIIIIII)I"⟩
abbrev cX12_third : ByteArray := prog_14_method_62_code
def yX12_third : MethodName := ⟨RX12, "third", "(IIIIIIII)J"⟩
abbrev cX12_priceOf : ByteArray := prog_14_method_63_code
def yX12_priceOf : MethodName := ⟨RX12, "priceOf", "(IIJJI)J"⟩
abbrev cX12_isBefore : ByteArray := prog_14_method_64_code
def yX12_isBefore : MethodName := ⟨RX12, "isBefore", "(I)Z"⟩
abbrev cX12_tries : ByteArray := prog_14_method_65_code
def yX12_tries : MethodName := ⟨RX12, "tries", "(IIJJI)V"⟩
abbrev cX12_finds : ByteArray := prog_14_method_66_code
def yX12_finds : MethodName := ⟨RX12, "finds", "(IIIJJI)Z"⟩
abbrev cX12_price : ByteArray := prog_14_method_67_code
def yX12_price : MethodName := ⟨RX12, "price", "(IIIIII)J"⟩
abbrev cX12_way : ByteArray := prog_14_method_68_code
def yX12_way : MethodName := ⟨RX12, "way", "(IIIIIII)I"⟩
abbrev cX12_carry : ByteArray := prog_14_method_69_code
def yX12_carry : MethodName := ⟨RX12, "carry", "()V"⟩
abbrev cX12_carried : ByteArray := prog_14_method_70_code
def yX12_carried : MethodName := ⟨RX12, "carried", "(II)I"⟩
abbrev cX12_remails : ByteArray := prog_14_method_71_code
def yX12_remails : MethodName := ⟨RX12, "remails", "(IIIIII)Z"⟩
abbrev cX12_remailed : ByteArray := prog_14_method_72_code
def yX12_remailed : MethodName := ⟨RX12, "remailed", "(IIIIII)J"⟩
abbrev cX12_remailer : ByteArray := prog_14_method_73_code
def yX12_remailer : MethodName := ⟨RX12, "remailer", "(IIIIII)I"⟩
abbrev cX12_gain : ByteArray := prog_14_method_74_code
def yX12_gain : MethodName := ⟨RX12, "gain", "(IIIIII)J"⟩
abbrev cX12_rate : ByteArray := prog_14_method_75_code
def yX12_rate : MethodName := ⟨RX12, "rate", "(III)Z"⟩
abbrev cX12_evenOf : ByteArray := prog_14_method_76_code
def yX12_evenOf : MethodName := ⟨RX12, "evenOf", "(II)I"⟩
abbrev cX12_even : ByteArray := prog_14_method_77_code
def yX12_even : MethodName := ⟨RX12, "even", "(II)I"⟩
abbrev cX12_uneven : ByteArray := prog_14_method_78_code
def yX12_uneven : MethodName := ⟨RX12, "uneven", "()I"⟩
abbrev cX12_isFlow : ByteArray := prog_14_method_79_code
def yX12_isFlow : MethodName := ⟨RX12, "isFlow", "(I)Z"⟩
abbrev cX12_flow : ByteArray := prog_14_method_80_code
def yX12_flow : MethodName := ⟨RX12, "flow", "(IIIII)I"⟩
abbrev cX12_trueOf : ByteArray := prog_14_method_81_code
def yX12_trueOf : MethodName := ⟨RX12, "trueOf", "(I)I"⟩
abbrev cX12_isTrue : ByteArray := prog_14_method_82_code
def yX12_isTrue : MethodName := ⟨RX12, "isTrue", "(I)I"⟩
abbrev cX12_draw : ByteArray := prog_14_method_83_code
def yX12_draw : MethodName := ⟨RX12, "draw", "(II)I"⟩
abbrev cX12_drawn : ByteArray := prog_14_method_84_code
def yX12_drawn : MethodName := ⟨RX12, "drawn", "(I)I"⟩
abbrev cX12_toldOf : ByteArray := prog_14_method_85_code
def yX12_toldOf : MethodName := ⟨RX12, "toldOf", "(I)I"⟩
abbrev cX12_told : ByteArray := prog_14_method_86_code
def yX12_told : MethodName := ⟨RX12, "told", "(I)I"⟩
abbrev cX12_farOff : ByteArray := prog_14_method_87_code
def yX12_farOff : MethodName := ⟨RX12, "farOff", "(I)I"⟩
abbrev cX12_telling : ByteArray := prog_14_method_88_code
def yX12_telling : MethodName := ⟨RX12, "telling", "(I)I"⟩
abbrev cX12_tells : ByteArray := prog_14_method_89_code
def yX12_tells : MethodName := ⟨RX12, "tells", "(I)I"⟩
abbrev cX12_account : ByteArray := prog_14_method_90_code
def yX12_account : MethodName := ⟨RX12, "account", "(IZ)J"⟩
abbrev cX12_owes : ByteArray := prog_14_method_91_code
def yX12_owes : MethodName := ⟨RX12, "owes", "(II)J"⟩
abbrev cX12_balanceOf : ByteArray := prog_14_method_92_code
def yX12_balanceOf : MethodName := ⟨RX12, "balanceOf", "(I)J"⟩
abbrev cX12_balance : ByteArray := prog_14_method_93_code
def yX12_balance : MethodName := ⟨RX12, "balance", "(I)J"⟩
abbrev cX12_pays : ByteArray := prog_14_method_94_code
def yX12_pays : MethodName := ⟨RX12, "pays", "(II)J"⟩
abbrev cX12_rules : ByteArray := prog_14_method_95_code
def yX12_rules : MethodName := ⟨RX12, "rules", "(III)Z"⟩
abbrev cX12_bag : ByteArray := prog_14_method_96_code
def yX12_bag : MethodName := ⟨RX12, "bag", "(IIII)I"⟩
abbrev cX12_isBag : ByteArray := prog_14_method_97_code
def yX12_isBag : MethodName := ⟨RX12, "isBag", "(I)Z"⟩
abbrev cX12_handed : ByteArray := prog_14_method_98_code
def yX12_handed : MethodName := ⟨RX12, "handed", "(IIII)Z"⟩
abbrev cX12_find : ByteArray := prog_14_method_99_code
def yX12_find : MethodName := ⟨RX12, "find", "(II)V"⟩
abbrev cX12_where : ByteArray := prog_14_method_100_code
def yX12_where : MethodName := ⟨RX12, "where", "(II)I"⟩
abbrev cX12_lateOf : ByteArray := prog_14_method_101_code
def yX12_lateOf : MethodName := ⟨RX12, "lateOf", "(III)I"⟩
abbrev cX12_late : ByteArray := prog_14_method_102_code
def yX12_late : MethodName := ⟨RX12, "late", "(III)I"⟩
abbrev cX12_loses : ByteArray := prog_14_method_103_code
def yX12_loses : MethodName := ⟨RX12, "loses", "(II)J"⟩
abbrev cX12_line : ByteArray := prog_14_method_104_code
def yX12_line : MethodName := ⟨RX12, "line", "(IIII)I"⟩
abbrev cX12_close : ByteArray := prog_14_method_105_code
def yX12_close : MethodName := ⟨RX12, "close", "()Z"⟩
abbrev cX12_cost : ByteArray := prog_14_method_106_code
def yX12_cost : MethodName := ⟨RX12, "cost", "(II)I"⟩
abbrev cX12_pairing : ByteArray := prog_14_method_107_code
def yX12_pairing : MethodName := ⟨RX12, "pairing", "()I"⟩
abbrev cX12_pairs : ByteArray := prog_14_method_108_code
def yX12_pairs : MethodName := ⟨RX12, "pairs", "()V"⟩
abbrev cX12_join : ByteArray := prog_14_method_109_code
def yX12_join : MethodName := ⟨RX12, "join", "()I"⟩
abbrev cX12_mate : ByteArray := prog_14_method_110_code
def yX12_mate : MethodName := ⟨RX12, "mate", "(I)I"⟩
abbrev cX12_leans : ByteArray := prog_14_method_111_code
def yX12_leans : MethodName := ⟨RX12, "leans", "(I)I"⟩
abbrev cX12_interest : ByteArray := prog_14_method_112_code
def yX12_interest : MethodName := ⟨RX12, "interest", "(III)I"⟩
abbrev cX12_weigh : ByteArray := prog_14_method_113_code
def yX12_weigh : MethodName := ⟨RX12, "weigh", "(II)Z"⟩
abbrev cX12_rule : ByteArray := prog_14_method_114_code
def yX12_rule : MethodName := ⟨RX12, "rule", "(II)I"⟩
abbrev cX12_judge : ByteArray := prog_14_method_115_code
def yX12_judge : MethodName := ⟨RX12, "judge", "(I)I"⟩
def RJ9 : String := "java/lang/Math"
def TJ9 : u_T := fun k => match k with
  | _ => ("", "", "", false)
def tyJ9 : Nat → FieldType := fun k => match k with
  | _ => .int
abbrev wsJ90 : List Cond := u_ws RJ9 TJ9 0
theorem nmJ9 : ∀ a, a < 0 → ∀ b, b < 0 → a ≠ b → (TJ9 a).2.1 ≠ (TJ9 b).2.1 := by decide +kernel
theorem tyJ9_ok : ∀ k, k < 0 → parseFieldDescriptor (TJ9 k).2.2.1 = some (tyJ9 k) := by decide +kernel
abbrev cJ9_abs_0f7a4 : ByteArray := prog_16_method_59_code
def yJ9_abs_0f7a4 : MethodName := ⟨RJ9, "abs", "(I)I"⟩
abbrev cJ9_max_7cf53 : ByteArray := prog_16_method_65_code
def yJ9_max_7cf53 : MethodName := ⟨RJ9, "max", "(II)I"⟩
abbrev cJ9_max_f86c9 : ByteArray := prog_16_method_66_code
def yJ9_max_f86c9 : MethodName := ⟨RJ9, "max", "(JJ)J"⟩
abbrev cJ9_min_7cf53 : ByteArray := prog_16_method_69_code
def yJ9_min_7cf53 : MethodName := ⟨RJ9, "min", "(II)I"⟩
abbrev cJ9_min_f86c9 : ByteArray := prog_16_method_70_code
def yJ9_min_f86c9 : MethodName := ⟨RJ9, "min", "(JJ)J"⟩
def RL : String := "PostUnionLaw"
