-- ===== PART A: goes FIRST, ahead of the names: the tables' words, and 'selects' of the private methods out of them =====
/-- a private method of a class that the tables say can be made, by its rows of tables_1 -/
def lw_okq (q : MethodName × Nat) : Prop := (q.1.cls ≠ "java/lang/invoke/MethodHandle" ∧ q.1.cls ≠ "java/lang/invoke/VarHandle") ∧ Cond.instantiable q.1.cls q.2 ∈ tables_1 ∧ Cond.privateMethod q.1 ∈ tables_1 ∧ Cond.instanceMethod q.1 ∈ tables_1
theorem lw_p0 : lw_okq (⟨"HotDots", "noHead", "(I)Z"⟩, 11) := ⟨⟨by decide +kernel, by decide +kernel⟩, List.mem_of_getElem? (i := 17) (by decide +kernel), List.mem_of_getElem? (i := 406) (by decide +kernel), List.mem_of_getElem? (i := 407) (by decide +kernel)⟩
theorem lw_p1 : lw_okq (⟨"HotDots", "noLine", "(I)Z"⟩, 11) := ⟨⟨by decide +kernel, by decide +kernel⟩, List.mem_of_getElem? (i := 17) (by decide +kernel), List.mem_of_getElem? (i := 429) (by decide +kernel), List.mem_of_getElem? (i := 430) (by decide +kernel)⟩
theorem lw_p2 : lw_okq (⟨"HotDots", "lineRefused", "(II)Z"⟩, 11) := ⟨⟨by decide +kernel, by decide +kernel⟩, List.mem_of_getElem? (i := 17) (by decide +kernel), List.mem_of_getElem? (i := 458) (by decide +kernel), List.mem_of_getElem? (i := 459) (by decide +kernel)⟩
theorem lw_p3 : lw_okq (⟨"HotDots", "burnLone", "(IZ)I"⟩, 11) := ⟨⟨by decide +kernel, by decide +kernel⟩, List.mem_of_getElem? (i := 17) (by decide +kernel), List.mem_of_getElem? (i := 522) (by decide +kernel), List.mem_of_getElem? (i := 523) (by decide +kernel)⟩
theorem lw_p4 : lw_okq (⟨"HotDots", "bestDrive", "(IIII)I"⟩, 11) := ⟨⟨by decide +kernel, by decide +kernel⟩, List.mem_of_getElem? (i := 17) (by decide +kernel), List.mem_of_getElem? (i := 539) (by decide +kernel), List.mem_of_getElem? (i := 540) (by decide +kernel)⟩
theorem lw_p5 : lw_okq (⟨"HotDots", "wrongOfLone", "(II)I"⟩, 11) := ⟨⟨by decide +kernel, by decide +kernel⟩, List.mem_of_getElem? (i := 17) (by decide +kernel), List.mem_of_getElem? (i := 544) (by decide +kernel), List.mem_of_getElem? (i := 545) (by decide +kernel)⟩
theorem lw_p6 : lw_okq (⟨"HotDots", "bestMark", "(II)I"⟩, 11) := ⟨⟨by decide +kernel, by decide +kernel⟩, List.mem_of_getElem? (i := 17) (by decide +kernel), List.mem_of_getElem? (i := 557) (by decide +kernel), List.mem_of_getElem? (i := 558) (by decide +kernel)⟩
theorem lw_p7 : lw_okq (⟨"HotDots", "stepMarks", "(LHotDots$Head;I)V"⟩, 11) := ⟨⟨by decide +kernel, by decide +kernel⟩, List.mem_of_getElem? (i := 17) (by decide +kernel), List.mem_of_getElem? (i := 562) (by decide +kernel), List.mem_of_getElem? (i := 563) (by decide +kernel)⟩
theorem lw_p8 : lw_okq (⟨"HotDots", "bestCool", "(II)I"⟩, 11) := ⟨⟨by decide +kernel, by decide +kernel⟩, List.mem_of_getElem? (i := 17) (by decide +kernel), List.mem_of_getElem? (i := 567) (by decide +kernel), List.mem_of_getElem? (i := 568) (by decide +kernel)⟩
theorem lw_p9 : lw_okq (⟨"HotDots", "wrongInTrial", "(II)I"⟩, 11) := ⟨⟨by decide +kernel, by decide +kernel⟩, List.mem_of_getElem? (i := 17) (by decide +kernel), List.mem_of_getElem? (i := 571) (by decide +kernel), List.mem_of_getElem? (i := 572) (by decide +kernel)⟩
theorem lw_p10 : lw_okq (⟨"HotDots", "wrongIfSwapped", "(IIII)I"⟩, 11) := ⟨⟨by decide +kernel, by decide +kernel⟩, List.mem_of_getElem? (i := 17) (by decide +kernel), List.mem_of_getElem? (i := 579) (by decide +kernel), List.mem_of_getElem? (i := 580) (by decide +kernel)⟩
theorem lw_p11 : lw_okq (⟨"HotDots", "wrongIfResting", "(III)I"⟩, 11) := ⟨⟨by decide +kernel, by decide +kernel⟩, List.mem_of_getElem? (i := 17) (by decide +kernel), List.mem_of_getElem? (i := 587) (by decide +kernel), List.mem_of_getElem? (i := 588) (by decide +kernel)⟩
theorem lw_p12 : lw_okq (⟨"HotDots", "loneIsRight", "(III)Z"⟩, 11) := ⟨⟨by decide +kernel, by decide +kernel⟩, List.mem_of_getElem? (i := 17) (by decide +kernel), List.mem_of_getElem? (i := 611) (by decide +kernel), List.mem_of_getElem? (i := 612) (by decide +kernel)⟩
theorem lw_p13 : lw_okq (⟨"HotDots", "wrongWithout", "(II)I"⟩, 11) := ⟨⟨by decide +kernel, by decide +kernel⟩, List.mem_of_getElem? (i := 17) (by decide +kernel), List.mem_of_getElem? (i := 622) (by decide +kernel), List.mem_of_getElem? (i := 623) (by decide +kernel)⟩
theorem lw_p14 : lw_okq (⟨"HotDots", "asSeenBy", "(II)I"⟩, 11) := ⟨⟨by decide +kernel, by decide +kernel⟩, List.mem_of_getElem? (i := 17) (by decide +kernel), List.mem_of_getElem? (i := 642) (by decide +kernel), List.mem_of_getElem? (i := 643) (by decide +kernel)⟩
theorem lw_p15 : lw_okq (⟨"HotDots", "othersAsSeen", "(I)Z"⟩, 11) := ⟨⟨by decide +kernel, by decide +kernel⟩, List.mem_of_getElem? (i := 17) (by decide +kernel), List.mem_of_getElem? (i := 646) (by decide +kernel), List.mem_of_getElem? (i := 647) (by decide +kernel)⟩
def lw_privs_1 : List (MethodName × Nat) := [(⟨"HotDots", "noHead", "(I)Z"⟩, 11), (⟨"HotDots", "noLine", "(I)Z"⟩, 11), (⟨"HotDots", "lineRefused", "(II)Z"⟩, 11), (⟨"HotDots", "burnLone", "(IZ)I"⟩, 11), (⟨"HotDots", "bestDrive", "(IIII)I"⟩, 11), (⟨"HotDots", "wrongOfLone", "(II)I"⟩, 11), (⟨"HotDots", "bestMark", "(II)I"⟩, 11), (⟨"HotDots", "stepMarks", "(LHotDots$Head;I)V"⟩, 11), (⟨"HotDots", "bestCool", "(II)I"⟩, 11), (⟨"HotDots", "wrongInTrial", "(II)I"⟩, 11), (⟨"HotDots", "wrongIfSwapped", "(IIII)I"⟩, 11), (⟨"HotDots", "wrongIfResting", "(III)I"⟩, 11), (⟨"HotDots", "loneIsRight", "(III)Z"⟩, 11), (⟨"HotDots", "wrongWithout", "(II)I"⟩, 11), (⟨"HotDots", "asSeenBy", "(II)I"⟩, 11), (⟨"HotDots", "othersAsSeen", "(I)Z"⟩, 11)]
theorem lw_r1 : ∀ q ∈ lw_privs_1, lw_okq q := List.forall_mem_cons.mpr ⟨lw_p0, List.forall_mem_cons.mpr ⟨lw_p1, List.forall_mem_cons.mpr ⟨lw_p2, List.forall_mem_cons.mpr ⟨lw_p3, List.forall_mem_cons.mpr ⟨lw_p4, List.forall_mem_cons.mpr ⟨lw_p5, List.forall_mem_cons.mpr ⟨lw_p6, List.forall_mem_cons.mpr ⟨lw_p7, List.forall_mem_cons.mpr ⟨lw_p8, List.forall_mem_cons.mpr ⟨lw_p9, List.forall_mem_cons.mpr ⟨lw_p10, List.forall_mem_cons.mpr ⟨lw_p11, List.forall_mem_cons.mpr ⟨lw_p12, List.forall_mem_cons.mpr ⟨lw_p13, List.forall_mem_cons.mpr ⟨lw_p14, List.forall_mem_cons.mpr ⟨lw_p15, fun _ h => absurd h List.not_mem_nil⟩⟩⟩⟩⟩⟩⟩⟩⟩⟩⟩⟩⟩⟩⟩⟩
theorem lw_p16 : lw_okq (⟨"HotDots", "noteLooks", "(I)V"⟩, 11) := ⟨⟨by decide +kernel, by decide +kernel⟩, List.mem_of_getElem? (i := 17) (by decide +kernel), List.mem_of_getElem? (i := 654) (by decide +kernel), List.mem_of_getElem? (i := 655) (by decide +kernel)⟩
theorem lw_p17 : lw_okq (⟨"HotDots", "leftAtWorst", "(II)I"⟩, 11) := ⟨⟨by decide +kernel, by decide +kernel⟩, List.mem_of_getElem? (i := 17) (by decide +kernel), List.mem_of_getElem? (i := 670) (by decide +kernel), List.mem_of_getElem? (i := 671) (by decide +kernel)⟩
theorem lw_p18 : lw_okq (⟨"HotDotsModel", "firstDraft", "()V"⟩, 34) := ⟨⟨by decide +kernel, by decide +kernel⟩, List.mem_of_getElem? (i := 742) (by decide +kernel), List.mem_of_getElem? (i := 748) (by decide +kernel), List.mem_of_getElem? (i := 749) (by decide +kernel)⟩
theorem lw_p19 : lw_okq (⟨"HotDotsModel", "keepDraft", "()V"⟩, 34) := ⟨⟨by decide +kernel, by decide +kernel⟩, List.mem_of_getElem? (i := 742) (by decide +kernel), List.mem_of_getElem? (i := 752) (by decide +kernel), List.mem_of_getElem? (i := 753) (by decide +kernel)⟩
theorem lw_p20 : lw_okq (⟨"HotDotsModel", "reads", "()V"⟩, 34) := ⟨⟨by decide +kernel, by decide +kernel⟩, List.mem_of_getElem? (i := 742) (by decide +kernel), List.mem_of_getElem? (i := 875) (by decide +kernel), List.mem_of_getElem? (i := 876) (by decide +kernel)⟩
theorem lw_p21 : lw_okq (⟨"HotDotsModel", "byteAt", "(I)I"⟩, 34) := ⟨⟨by decide +kernel, by decide +kernel⟩, List.mem_of_getElem? (i := 742) (by decide +kernel), List.mem_of_getElem? (i := 879) (by decide +kernel), List.mem_of_getElem? (i := 880) (by decide +kernel)⟩
theorem lw_p22 : lw_okq (⟨"HotDotsModel", "requires", "(ZI)V"⟩, 34) := ⟨⟨by decide +kernel, by decide +kernel⟩, List.mem_of_getElem? (i := 742) (by decide +kernel), List.mem_of_getElem? (i := 887) (by decide +kernel), List.mem_of_getElem? (i := 888) (by decide +kernel)⟩
theorem lw_p23 : lw_okq (⟨"HotDotsModel", "readLine", "()V"⟩, 34) := ⟨⟨by decide +kernel, by decide +kernel⟩, List.mem_of_getElem? (i := 742) (by decide +kernel), List.mem_of_getElem? (i := 891) (by decide +kernel), List.mem_of_getElem? (i := 892) (by decide +kernel)⟩
theorem lw_p24 : lw_okq (⟨"HotDotsModel", "lineNow", "()I"⟩, 34) := ⟨⟨by decide +kernel, by decide +kernel⟩, List.mem_of_getElem? (i := 742) (by decide +kernel), List.mem_of_getElem? (i := 895) (by decide +kernel), List.mem_of_getElem? (i := 896) (by decide +kernel)⟩
theorem lw_p25 : lw_okq (⟨"HotDotsModel", "is", "(IIIII)Z"⟩, 34) := ⟨⟨by decide +kernel, by decide +kernel⟩, List.mem_of_getElem? (i := 742) (by decide +kernel), List.mem_of_getElem? (i := 899) (by decide +kernel), List.mem_of_getElem? (i := 900) (by decide +kernel)⟩
theorem lw_p26 : lw_okq (⟨"HotDotsModel", "endsIn", "(II)Z"⟩, 34) := ⟨⟨by decide +kernel, by decide +kernel⟩, List.mem_of_getElem? (i := 742) (by decide +kernel), List.mem_of_getElem? (i := 903) (by decide +kernel), List.mem_of_getElem? (i := 904) (by decide +kernel)⟩
theorem lw_p27 : lw_okq (⟨"HotDotsModel", "readLineOf", "(I)V"⟩, 34) := ⟨⟨by decide +kernel, by decide +kernel⟩, List.mem_of_getElem? (i := 742) (by decide +kernel), List.mem_of_getElem? (i := 907) (by decide +kernel), List.mem_of_getElem? (i := 908) (by decide +kernel)⟩
theorem lw_p28 : lw_okq (⟨"HotDotsModel", "readLines", "()V"⟩, 34) := ⟨⟨by decide +kernel, by decide +kernel⟩, List.mem_of_getElem? (i := 742) (by decide +kernel), List.mem_of_getElem? (i := 911) (by decide +kernel), List.mem_of_getElem? (i := 912) (by decide +kernel)⟩
theorem lw_p29 : lw_okq (⟨"HotDotsModel", "readNumber", "(II)I"⟩, 34) := ⟨⟨by decide +kernel, by decide +kernel⟩, List.mem_of_getElem? (i := 742) (by decide +kernel), List.mem_of_getElem? (i := 915) (by decide +kernel), List.mem_of_getElem? (i := 916) (by decide +kernel)⟩
theorem lw_p30 : lw_okq (⟨"HotDotsModel", "starts", "()V"⟩, 34) := ⟨⟨by decide +kernel, by decide +kernel⟩, List.mem_of_getElem? (i := 742) (by decide +kernel), List.mem_of_getElem? (i := 933) (by decide +kernel), List.mem_of_getElem? (i := 934) (by decide +kernel)⟩
theorem lw_p31 : lw_okq (⟨"HotDotsModel", "sumOf", "(I)I"⟩, 34) := ⟨⟨by decide +kernel, by decide +kernel⟩, List.mem_of_getElem? (i := 742) (by decide +kernel), List.mem_of_getElem? (i := 937) (by decide +kernel), List.mem_of_getElem? (i := 938) (by decide +kernel)⟩
def lw_privs_2 : List (MethodName × Nat) := [(⟨"HotDots", "noteLooks", "(I)V"⟩, 11), (⟨"HotDots", "leftAtWorst", "(II)I"⟩, 11), (⟨"HotDotsModel", "firstDraft", "()V"⟩, 34), (⟨"HotDotsModel", "keepDraft", "()V"⟩, 34), (⟨"HotDotsModel", "reads", "()V"⟩, 34), (⟨"HotDotsModel", "byteAt", "(I)I"⟩, 34), (⟨"HotDotsModel", "requires", "(ZI)V"⟩, 34), (⟨"HotDotsModel", "readLine", "()V"⟩, 34), (⟨"HotDotsModel", "lineNow", "()I"⟩, 34), (⟨"HotDotsModel", "is", "(IIIII)Z"⟩, 34), (⟨"HotDotsModel", "endsIn", "(II)Z"⟩, 34), (⟨"HotDotsModel", "readLineOf", "(I)V"⟩, 34), (⟨"HotDotsModel", "readLines", "()V"⟩, 34), (⟨"HotDotsModel", "readNumber", "(II)I"⟩, 34), (⟨"HotDotsModel", "starts", "()V"⟩, 34), (⟨"HotDotsModel", "sumOf", "(I)I"⟩, 34)]
theorem lw_r2 : ∀ q ∈ lw_privs_2, lw_okq q := List.forall_mem_cons.mpr ⟨lw_p16, List.forall_mem_cons.mpr ⟨lw_p17, List.forall_mem_cons.mpr ⟨lw_p18, List.forall_mem_cons.mpr ⟨lw_p19, List.forall_mem_cons.mpr ⟨lw_p20, List.forall_mem_cons.mpr ⟨lw_p21, List.forall_mem_cons.mpr ⟨lw_p22, List.forall_mem_cons.mpr ⟨lw_p23, List.forall_mem_cons.mpr ⟨lw_p24, List.forall_mem_cons.mpr ⟨lw_p25, List.forall_mem_cons.mpr ⟨lw_p26, List.forall_mem_cons.mpr ⟨lw_p27, List.forall_mem_cons.mpr ⟨lw_p28, List.forall_mem_cons.mpr ⟨lw_p29, List.forall_mem_cons.mpr ⟨lw_p30, List.forall_mem_cons.mpr ⟨lw_p31, fun _ h => absurd h List.not_mem_nil⟩⟩⟩⟩⟩⟩⟩⟩⟩⟩⟩⟩⟩⟩⟩⟩
theorem lw_p32 : lw_okq (⟨"HotDotsModel", "of", "(II)I"⟩, 34) := ⟨⟨by decide +kernel, by decide +kernel⟩, List.mem_of_getElem? (i := 742) (by decide +kernel), List.mem_of_getElem? (i := 941) (by decide +kernel), List.mem_of_getElem? (i := 942) (by decide +kernel)⟩
theorem lw_p33 : lw_okq (⟨"HotDotsModel", "lineAt", "(I)I"⟩, 34) := ⟨⟨by decide +kernel, by decide +kernel⟩, List.mem_of_getElem? (i := 742) (by decide +kernel), List.mem_of_getElem? (i := 945) (by decide +kernel), List.mem_of_getElem? (i := 946) (by decide +kernel)⟩
theorem lw_p34 : lw_okq (⟨"HotDotsModel", "isHead", "(I)Z"⟩, 34) := ⟨⟨by decide +kernel, by decide +kernel⟩, List.mem_of_getElem? (i := 742) (by decide +kernel), List.mem_of_getElem? (i := 953) (by decide +kernel), List.mem_of_getElem? (i := 954) (by decide +kernel)⟩
theorem lw_p35 : lw_okq (⟨"HotDotsModel", "heatsOf", "(I)I"⟩, 34) := ⟨⟨by decide +kernel, by decide +kernel⟩, List.mem_of_getElem? (i := 742) (by decide +kernel), List.mem_of_getElem? (i := 958) (by decide +kernel), List.mem_of_getElem? (i := 959) (by decide +kernel)⟩
theorem lw_p36 : lw_okq (⟨"HotDotsModel", "heat", "(II)I"⟩, 34) := ⟨⟨by decide +kernel, by decide +kernel⟩, List.mem_of_getElem? (i := 742) (by decide +kernel), List.mem_of_getElem? (i := 962) (by decide +kernel), List.mem_of_getElem? (i := 963) (by decide +kernel)⟩
theorem lw_p37 : lw_okq (⟨"HotDotsModel", "gets", "(IIII)I"⟩, 34) := ⟨⟨by decide +kernel, by decide +kernel⟩, List.mem_of_getElem? (i := 742) (by decide +kernel), List.mem_of_getElem? (i := 977) (by decide +kernel), List.mem_of_getElem? (i := 978) (by decide +kernel)⟩
theorem lw_p38 : lw_okq (⟨"HotDotsModel", "isLine", "(I)Z"⟩, 34) := ⟨⟨by decide +kernel, by decide +kernel⟩, List.mem_of_getElem? (i := 742) (by decide +kernel), List.mem_of_getElem? (i := 992) (by decide +kernel), List.mem_of_getElem? (i := 993) (by decide +kernel)⟩
theorem lw_p39 : lw_okq (⟨"HotDotsModel", "becomes", "(II)I"⟩, 34) := ⟨⟨by decide +kernel, by decide +kernel⟩, List.mem_of_getElem? (i := 742) (by decide +kernel), List.mem_of_getElem? (i := 1001) (by decide +kernel), List.mem_of_getElem? (i := 1002) (by decide +kernel)⟩
theorem lw_p40 : lw_okq (⟨"HotDotsModel", "rowsGo", "(I)V"⟩, 34) := ⟨⟨by decide +kernel, by decide +kernel⟩, List.mem_of_getElem? (i := 742) (by decide +kernel), List.mem_of_getElem? (i := 1036) (by decide +kernel), List.mem_of_getElem? (i := 1037) (by decide +kernel)⟩
theorem lw_p41 : lw_okq (⟨"HotDotsModel", "rowGoes", "(IIZ)V"⟩, 34) := ⟨⟨by decide +kernel, by decide +kernel⟩, List.mem_of_getElem? (i := 742) (by decide +kernel), List.mem_of_getElem? (i := 1040) (by decide +kernel), List.mem_of_getElem? (i := 1041) (by decide +kernel)⟩
theorem lw_p42 : lw_okq (⟨"HotDotsModel", "headBurns", "(IIIZ)V"⟩, 34) := ⟨⟨by decide +kernel, by decide +kernel⟩, List.mem_of_getElem? (i := 742) (by decide +kernel), List.mem_of_getElem? (i := 1044) (by decide +kernel), List.mem_of_getElem? (i := 1045) (by decide +kernel)⟩
theorem lw_p43 : lw_okq (⟨"HotDotsModel", "heatBecomes", "(III)V"⟩, 34) := ⟨⟨by decide +kernel, by decide +kernel⟩, List.mem_of_getElem? (i := 742) (by decide +kernel), List.mem_of_getElem? (i := 1048) (by decide +kernel), List.mem_of_getElem? (i := 1049) (by decide +kernel)⟩
theorem lw_p44 : lw_okq (⟨"HotDotsModel", "blackOf", "(I)I"⟩, 34) := ⟨⟨by decide +kernel, by decide +kernel⟩, List.mem_of_getElem? (i := 742) (by decide +kernel), List.mem_of_getElem? (i := 1052) (by decide +kernel), List.mem_of_getElem? (i := 1053) (by decide +kernel)⟩
theorem lw_p45 : lw_okq (⟨"HotDotsModel", "cools", "(I)V"⟩, 34) := ⟨⟨by decide +kernel, by decide +kernel⟩, List.mem_of_getElem? (i := 742) (by decide +kernel), List.mem_of_getElem? (i := 1062) (by decide +kernel), List.mem_of_getElem? (i := 1063) (by decide +kernel)⟩
theorem lw_p46 : lw_okq (⟨"HotDotsModel", "settles", "()V"⟩, 34) := ⟨⟨by decide +kernel, by decide +kernel⟩, List.mem_of_getElem? (i := 742) (by decide +kernel), List.mem_of_getElem? (i := 1066) (by decide +kernel), List.mem_of_getElem? (i := 1067) (by decide +kernel)⟩
theorem lw_p47 : lw_okq (⟨"HotDotsModel", "bestOf", "(IIIII)I"⟩, 34) := ⟨⟨by decide +kernel, by decide +kernel⟩, List.mem_of_getElem? (i := 742) (by decide +kernel), List.mem_of_getElem? (i := 1090) (by decide +kernel), List.mem_of_getElem? (i := 1091) (by decide +kernel)⟩
def lw_privs_3 : List (MethodName × Nat) := [(⟨"HotDotsModel", "of", "(II)I"⟩, 34), (⟨"HotDotsModel", "lineAt", "(I)I"⟩, 34), (⟨"HotDotsModel", "isHead", "(I)Z"⟩, 34), (⟨"HotDotsModel", "heatsOf", "(I)I"⟩, 34), (⟨"HotDotsModel", "heat", "(II)I"⟩, 34), (⟨"HotDotsModel", "gets", "(IIII)I"⟩, 34), (⟨"HotDotsModel", "isLine", "(I)Z"⟩, 34), (⟨"HotDotsModel", "becomes", "(II)I"⟩, 34), (⟨"HotDotsModel", "rowsGo", "(I)V"⟩, 34), (⟨"HotDotsModel", "rowGoes", "(IIZ)V"⟩, 34), (⟨"HotDotsModel", "headBurns", "(IIIZ)V"⟩, 34), (⟨"HotDotsModel", "heatBecomes", "(III)V"⟩, 34), (⟨"HotDotsModel", "blackOf", "(I)I"⟩, 34), (⟨"HotDotsModel", "cools", "(I)V"⟩, 34), (⟨"HotDotsModel", "settles", "()V"⟩, 34), (⟨"HotDotsModel", "bestOf", "(IIIII)I"⟩, 34)]
theorem lw_r3 : ∀ q ∈ lw_privs_3, lw_okq q := List.forall_mem_cons.mpr ⟨lw_p32, List.forall_mem_cons.mpr ⟨lw_p33, List.forall_mem_cons.mpr ⟨lw_p34, List.forall_mem_cons.mpr ⟨lw_p35, List.forall_mem_cons.mpr ⟨lw_p36, List.forall_mem_cons.mpr ⟨lw_p37, List.forall_mem_cons.mpr ⟨lw_p38, List.forall_mem_cons.mpr ⟨lw_p39, List.forall_mem_cons.mpr ⟨lw_p40, List.forall_mem_cons.mpr ⟨lw_p41, List.forall_mem_cons.mpr ⟨lw_p42, List.forall_mem_cons.mpr ⟨lw_p43, List.forall_mem_cons.mpr ⟨lw_p44, List.forall_mem_cons.mpr ⟨lw_p45, List.forall_mem_cons.mpr ⟨lw_p46, List.forall_mem_cons.mpr ⟨lw_p47, fun _ h => absurd h List.not_mem_nil⟩⟩⟩⟩⟩⟩⟩⟩⟩⟩⟩⟩⟩⟩⟩⟩
theorem lw_p48 : lw_okq (⟨"HotDotsModel", "startsJudging", "(I)V"⟩, 34) := ⟨⟨by decide +kernel, by decide +kernel⟩, List.mem_of_getElem? (i := 742) (by decide +kernel), List.mem_of_getElem? (i := 1094) (by decide +kernel), List.mem_of_getElem? (i := 1095) (by decide +kernel)⟩
theorem lw_p49 : lw_okq (⟨"HotDotsModel", "judges", "(II)V"⟩, 34) := ⟨⟨by decide +kernel, by decide +kernel⟩, List.mem_of_getElem? (i := 742) (by decide +kernel), List.mem_of_getElem? (i := 1098) (by decide +kernel), List.mem_of_getElem? (i := 1099) (by decide +kernel)⟩
theorem lw_p50 : lw_okq (⟨"HotDotsModel", "judged", "(I)I"⟩, 34) := ⟨⟨by decide +kernel, by decide +kernel⟩, List.mem_of_getElem? (i := 742) (by decide +kernel), List.mem_of_getElem? (i := 1102) (by decide +kernel), List.mem_of_getElem? (i := 1103) (by decide +kernel)⟩
theorem lw_p51 : lw_okq (⟨"HotDotsModel", "wrongIn", "(I)I"⟩, 34) := ⟨⟨by decide +kernel, by decide +kernel⟩, List.mem_of_getElem? (i := 742) (by decide +kernel), List.mem_of_getElem? (i := 1114) (by decide +kernel), List.mem_of_getElem? (i := 1115) (by decide +kernel)⟩
theorem lw_p52 : lw_okq (⟨"HotDotsModel", "findOdds", "(III)V"⟩, 34) := ⟨⟨by decide +kernel, by decide +kernel⟩, List.mem_of_getElem? (i := 742) (by decide +kernel), List.mem_of_getElem? (i := 1133) (by decide +kernel), List.mem_of_getElem? (i := 1134) (by decide +kernel)⟩
theorem lw_p53 : lw_okq (⟨"HotDotsModel", "which", "(III)I"⟩, 34) := ⟨⟨by decide +kernel, by decide +kernel⟩, List.mem_of_getElem? (i := 742) (by decide +kernel), List.mem_of_getElem? (i := 1160) (by decide +kernel), List.mem_of_getElem? (i := 1161) (by decide +kernel)⟩
theorem lw_p54 : lw_okq (⟨"HotDotsModel", "isSoWith", "(II)Z"⟩, 34) := ⟨⟨by decide +kernel, by decide +kernel⟩, List.mem_of_getElem? (i := 742) (by decide +kernel), List.mem_of_getElem? (i := 1164) (by decide +kernel), List.mem_of_getElem? (i := 1165) (by decide +kernel)⟩
theorem lw_p55 : lw_okq (⟨"HotDotsModel", "copies", "(II)V"⟩, 34) := ⟨⟨by decide +kernel, by decide +kernel⟩, List.mem_of_getElem? (i := 742) (by decide +kernel), List.mem_of_getElem? (i := 1185) (by decide +kernel), List.mem_of_getElem? (i := 1186) (by decide +kernel)⟩
def lw_privs_4 : List (MethodName × Nat) := [(⟨"HotDotsModel", "startsJudging", "(I)V"⟩, 34), (⟨"HotDotsModel", "judges", "(II)V"⟩, 34), (⟨"HotDotsModel", "judged", "(I)I"⟩, 34), (⟨"HotDotsModel", "wrongIn", "(I)I"⟩, 34), (⟨"HotDotsModel", "findOdds", "(III)V"⟩, 34), (⟨"HotDotsModel", "which", "(III)I"⟩, 34), (⟨"HotDotsModel", "isSoWith", "(II)Z"⟩, 34), (⟨"HotDotsModel", "copies", "(II)V"⟩, 34)]
theorem lw_r4 : ∀ q ∈ lw_privs_4, lw_okq q := List.forall_mem_cons.mpr ⟨lw_p48, List.forall_mem_cons.mpr ⟨lw_p49, List.forall_mem_cons.mpr ⟨lw_p50, List.forall_mem_cons.mpr ⟨lw_p51, List.forall_mem_cons.mpr ⟨lw_p52, List.forall_mem_cons.mpr ⟨lw_p53, List.forall_mem_cons.mpr ⟨lw_p54, List.forall_mem_cons.mpr ⟨lw_p55, fun _ h => absurd h List.not_mem_nil⟩⟩⟩⟩⟩⟩⟩⟩
def lw_privs : List (MethodName × Nat) := lw_privs_1 ++ (lw_privs_2 ++ (lw_privs_3 ++ (lw_privs_4)))
def lw_tbl : List Cond := k2_sels lw_privs ++ tables_1
theorem lw_privs_ok : ∀ q ∈ lw_privs, lw_okq q := by
  show ∀ q ∈ lw_privs_1 ++ (lw_privs_2 ++ (lw_privs_3 ++ (lw_privs_4))), lw_okq q
  exact List.forall_mem_append.mpr ⟨lw_r1, List.forall_mem_append.mpr ⟨lw_r2, List.forall_mem_append.mpr ⟨lw_r3, lw_r4⟩⟩⟩
-- ===== names: out of the printed ones =====
def RX0 : String := "HotDots$Head"
def TX0 : u_T := fun k => match k with
  | 0 => ("HotDots$Head", "heat", "[I", true)
  | 1 => ("HotDots$Head", "hot", "[I", true)
  | 2 => ("HotDots$Head", "kind", "I", false)
  | 3 => ("HotDots$Head", "power", "I", false)
  | _ => ("HotDots$Head", "wrong", "I", false)
def tyX0 : Nat → FieldType := fun k => match k with
  | 0 => .array .int
  | 1 => .array .int
  | 2 => .int
  | 3 => .int
  | _ => .int
abbrev wsX00 : List Cond := u_ws RX0 TX0 5
theorem nmX0 : ∀ a, a < 5 → ∀ b, b < 5 → a ≠ b → (TX0 a).2.1 ≠ (TX0 b).2.1 := by decide +kernel
theorem tyX0_ok : ∀ k, k < 5 → parseFieldDescriptor (TX0 k).2.2.1 = some (tyX0 k) := by decide +kernel
abbrev cX0_init : ByteArray := prog_2_method_1_code
def yX0_init : MethodName := ⟨RX0, "<init>", "()V"⟩
abbrev cX0_begin : ByteArray := prog_2_method_2_code
def yX0_begin : MethodName := ⟨RX0, "begin", "(II)V"⟩
abbrev cX0_copyFrom : ByteArray := prog_2_method_3_code
def yX0_copyFrom : MethodName := ⟨RX0, "copyFrom", "(LHotDots$Head;)V"⟩
abbrev cX0_drive : ByteArray := prog_2_method_4_code
def yX0_drive : MethodName := ⟨RX0, "drive", "(II)V"⟩
abbrev cX0_heatSum : ByteArray := prog_2_method_5_code
def yX0_heatSum : MethodName := ⟨RX0, "heatSum", "()I"⟩
abbrev cX0_gain : ByteArray := prog_2_method_6_code
def yX0_gain : MethodName := ⟨RX0, "gain", "(III)I"⟩
abbrev cX0_burnLine : ByteArray := prog_2_method_7_code
def yX0_burnLine : MethodName := ⟨RX0, "burnLine", "(LHotDots$Printer;IIZ)I"⟩
abbrev cX0_settle : ByteArray := prog_2_method_8_code
def yX0_settle : MethodName := ⟨RX0, "settle", "(II)V"⟩
def RX1 : String := "HotDots$Printer"
def TX1 : u_T := fun k => match k with
  | 0 => ("HotDots$Printer", "heads", "[LHotDots$Head;", true)
  | 1 => ("HotDots$Printer", "lines", "[I", true)
  | 2 => ("HotDots$Printer", "rules", "[I", true)
  | 3 => ("HotDots$Printer", "seen", "LHotDots$Seen;", true)
  | 4 => ("HotDots$Printer", "headCount", "I", false)
  | 5 => ("HotDots$Printer", "lineCount", "I", false)
  | 6 => ("HotDots$Printer", "row", "I", false)
  | _ => ("HotDots$Printer", "latestBlack", "I", false)
def tyX1 : Nat → FieldType := fun k => match k with
  | 0 => .array (.object "HotDots$Head")
  | 1 => .array .int
  | 2 => .array .int
  | 3 => .object "HotDots$Seen"
  | 4 => .int
  | 5 => .int
  | 6 => .int
  | _ => .int
abbrev wsX10 : List Cond := u_ws RX1 TX1 8
theorem nmX1 : ∀ a, a < 8 → ∀ b, b < 8 → a ≠ b → (TX1 a).2.1 ≠ (TX1 b).2.1 := by decide +kernel
theorem tyX1_ok : ∀ k, k < 8 → parseFieldDescriptor (TX1 k).2.2.1 = some (tyX1 k) := by decide +kernel
abbrev cX1_init : ByteArray := prog_3_method_1_code
def yX1_init : MethodName := ⟨RX1, "<init>", "()V"⟩
abbrev cX1_begin : ByteArray := prog_3_method_2_code
def yX1_begin : MethodName := ⟨RX1, "begin", "()V"⟩
abbrev cX1_copyFrom : ByteArray := prog_3_method_3_code
def yX1_copyFrom : MethodName := ⟨RX1, "copyFrom", "(LHotDots$Printer;)V"⟩
abbrev cX1_lineIn : ByteArray := prog_3_method_4_code
def yX1_lineIn : MethodName := ⟨RX1, "lineIn", "(I)I"⟩
abbrev cX1_wantedIn : ByteArray := prog_3_method_5_code
def yX1_wantedIn : MethodName := ⟨RX1, "wantedIn", "(I)I"⟩
abbrev cX1_burnRow : ByteArray := prog_3_method_6_code
def yX1_burnRow : MethodName := ⟨RX1, "burnRow", "(Z)I"⟩
abbrev cX1_burnLine : ByteArray := prog_3_method_7_code
def yX1_burnLine : MethodName := ⟨RX1, "burnLine", "(IIZ)I"⟩
abbrev cX1_hottest : ByteArray := prog_3_method_8_code
def yX1_hottest : MethodName := ⟨RX1, "hottest", "()I"⟩
abbrev cX1_loseHeat : ByteArray := prog_3_method_9_code
def yX1_loseHeat : MethodName := ⟨RX1, "loseHeat", "()V"⟩
abbrev cX1_wrongOfAll : ByteArray := prog_3_method_10_code
def yX1_wrongOfAll : MethodName := ⟨RX1, "wrongOfAll", "()I"⟩
abbrev cX1_heatOfAll : ByteArray := prog_3_method_11_code
def yX1_heatOfAll : MethodName := ⟨RX1, "heatOfAll", "()I"⟩
abbrev cX1_powerOfAll : ByteArray := prog_3_method_12_code
def yX1_powerOfAll : MethodName := ⟨RX1, "powerOfAll", "()I"⟩
abbrev cX1_wantedOfAll : ByteArray := prog_3_method_13_code
def yX1_wantedOfAll : MethodName := ⟨RX1, "wantedOfAll", "()I"⟩
def RX2 : String := "HotDots$Seen"
def TX2 : u_T := fun k => match k with
  | 0 => ("HotDots$Seen", "row", "[I", true)
  | 1 => ("HotDots$Seen", "head", "[I", true)
  | 2 => ("HotDots$Seen", "bits", "[I", true)
  | _ => ("HotDots$Seen", "count", "I", false)
def tyX2 : Nat → FieldType := fun k => match k with
  | 0 => .array .int
  | 1 => .array .int
  | 2 => .array .int
  | _ => .int
abbrev wsX20 : List Cond := u_ws RX2 TX2 4
theorem nmX2 : ∀ a, a < 4 → ∀ b, b < 4 → a ≠ b → (TX2 a).2.1 ≠ (TX2 b).2.1 := by decide +kernel
theorem tyX2_ok : ∀ k, k < 4 → parseFieldDescriptor (TX2 k).2.2.1 = some (tyX2 k) := by decide +kernel
abbrev cX2_init : ByteArray := prog_4_method_1_code
def yX2_init : MethodName := ⟨RX2, "<init>", "()V"⟩
abbrev cX2_append : ByteArray := prog_4_method_2_code
def yX2_append : MethodName := ⟨RX2, "append", "(III)V"⟩
abbrev cX2_copyFrom : ByteArray := prog_4_method_3_code
def yX2_copyFrom : MethodName := ⟨RX2, "copyFrom", "(LHotDots$Seen;)V"⟩
abbrev cX2_names : ByteArray := prog_4_method_4_code
def yX2_names : MethodName := ⟨RX2, "names", "(I)Z"⟩
abbrev cX2_agrees : ByteArray := prog_4_method_5_code
def yX2_agrees : MethodName := ⟨RX2, "agrees", "(I[II)Z"⟩
def RX3 : String := "HotDots$Sheet"
def TX3 : u_T := fun k => match k with
  | 0 => ("HotDots$Sheet", "cells", "[I", true)
  | 1 => ("HotDots$Sheet", "there", "Z", false)
  | 2 => ("HotDots$Sheet", "lane", "I", false)
  | _ => ("HotDots$Sheet", "size", "I", false)
def tyX3 : Nat → FieldType := fun k => match k with
  | 0 => .array .int
  | 1 => .boolean
  | 2 => .int
  | _ => .int
abbrev wsX30 : List Cond := u_ws RX3 TX3 4
theorem nmX3 : ∀ a, a < 4 → ∀ b, b < 4 → a ≠ b → (TX3 a).2.1 ≠ (TX3 b).2.1 := by decide +kernel
theorem tyX3_ok : ∀ k, k < 4 → parseFieldDescriptor (TX3 k).2.2.1 = some (tyX3 k) := by decide +kernel
abbrev cX3_init : ByteArray := prog_5_method_1_code
def yX3_init : MethodName := ⟨RX3, "<init>", "()V"⟩
abbrev cX3_renew : ByteArray := prog_5_method_2_code
def yX3_renew : MethodName := ⟨RX3, "renew", "(II)V"⟩
abbrev cX3_faultOf : ByteArray := prog_5_method_3_code
def yX3_faultOf : MethodName := ⟨RX3, "faultOf", "(II)I"⟩
abbrev cX3_pairFault : ByteArray := prog_5_method_4_code
def yX3_pairFault : MethodName := ⟨RX3, "pairFault", "(III)I"⟩
abbrev cX3_put : ByteArray := prog_5_method_5_code
def yX3_put : MethodName := ⟨RX3, "put", "(II)V"⟩
def RX4 : String := "HotDots$Tape"
def TX4 : u_T := fun k => match k with
  | 0 => ("HotDots$Tape", "bytes", "[B", true)
  | 1 => ("HotDots$Tape", "size", "I", false)
  | 2 => ("HotDots$Tape", "fault", "I", false)
  | 3 => ("HotDots$Tape", "faultPlace", "I", false)
  | 4 => ("HotDots$Tape", "token", "I", false)
  | 5 => ("HotDots$Tape", "from", "I", false)
  | 6 => ("HotDots$Tape", "at", "I", false)
  | 7 => ("HotDots$Tape", "number", "I", false)
  | _ => ("HotDots$Tape", "met", "I", false)
def tyX4 : Nat → FieldType := fun k => match k with
  | 0 => .array .byte
  | 1 => .int
  | 2 => .int
  | 3 => .int
  | 4 => .int
  | 5 => .int
  | 6 => .int
  | 7 => .int
  | _ => .int
abbrev wsX40 : List Cond := u_ws RX4 TX4 9
theorem nmX4 : ∀ a, a < 9 → ∀ b, b < 9 → a ≠ b → (TX4 a).2.1 ≠ (TX4 b).2.1 := by decide +kernel
theorem tyX4_ok : ∀ k, k < 9 → parseFieldDescriptor (TX4 k).2.2.1 = some (tyX4 k) := by decide +kernel
abbrev cX4_init : ByteArray := prog_6_method_1_code
def yX4_init : MethodName := ⟨RX4, "<init>", "()V"⟩
abbrev cX4_nameOf : ByteArray := prog_6_method_2_code
def yX4_nameOf : MethodName := ⟨RX4, "nameOf", "(I)Ljava/lang/String;"⟩
abbrev cX4_readInto : ByteArray := prog_6_method_3_code
def yX4_readInto : MethodName := ⟨RX4, "readInto", "(LHotDots$Printer;)I"⟩
abbrev cX4_refuse : ByteArray := prog_6_method_4_code
def yX4_refuse : MethodName := ⟨RX4, "refuse", "(I)Z"⟩
abbrev cX4_sortOf : ByteArray := prog_6_method_5_code
def yX4_sortOf : MethodName := ⟨RX4, "sortOf", "(I)I"⟩
abbrev cX4_step : ByteArray := prog_6_method_6_code
def yX4_step : MethodName := ⟨RX4, "step", "()Z"⟩
abbrev cX4_stepTo : ByteArray := prog_6_method_7_code
def yX4_stepTo : MethodName := ⟨RX4, "stepTo", "(I)Z"⟩
abbrev cX4_takeNumber : ByteArray := prog_6_method_8_code
def yX4_takeNumber : MethodName := ⟨RX4, "takeNumber", "(II)Z"⟩
abbrev cX4_isName : ByteArray := prog_6_method_9_code
def yX4_isName : MethodName := ⟨RX4, "isName", "(Ljava/lang/String;)Z"⟩
abbrev cX4_nameIndex : ByteArray := prog_6_method_10_code
def yX4_nameIndex : MethodName := ⟨RX4, "nameIndex", "()I"⟩
abbrev cX4_readLine : ByteArray := prog_6_method_11_code
def yX4_readLine : MethodName := ⟨RX4, "readLine", "(LHotDots$Printer;)Z"⟩
abbrev cX4_readHead : ByteArray := prog_6_method_12_code
def yX4_readHead : MethodName := ⟨RX4, "readHead", "(LHotDots$Printer;I)Z"⟩
abbrev cX4_readRule : ByteArray := prog_6_method_13_code
def yX4_readRule : MethodName := ⟨RX4, "readRule", "(LHotDots$Printer;I)Z"⟩
abbrev cX4_readLines : ByteArray := prog_6_method_14_code
def yX4_readLines : MethodName := ⟨RX4, "readLines", "(LHotDots$Printer;)Z"⟩
def RX5 : String := "HotDots"
def TX5 : u_T := fun k => match k with
  | 0 => ("HotDots", "tape", "LHotDots$Tape;", true)
  | 1 => ("HotDots", "now", "LHotDots$Printer;", true)
  | 2 => ("HotDots", "trial", "LHotDots$Printer;", true)
  | 3 => ("HotDots", "lone", "LHotDots$Head;", true)
  | 4 => ("HotDots", "images", "[LHotDots$Printer;", true)
  | 5 => ("HotDots", "kept", "[Z", true)
  | 6 => ("HotDots", "sheets", "[LHotDots$Sheet;", true)
  | 7 => ("HotDots", "markSteps", "[I", true)
  | 8 => ("HotDots", "looks", "[I", true)
  | 9 => ("HotDots", "alike", "[I", true)
  | _ => ("HotDots", "readFault", "I", false)
def tyX5 : Nat → FieldType := fun k => match k with
  | 0 => .object "HotDots$Tape"
  | 1 => .object "HotDots$Printer"
  | 2 => .object "HotDots$Printer"
  | 3 => .object "HotDots$Head"
  | 4 => .array (.object "HotDots$Printer")
  | 5 => .array .boolean
  | 6 => .array (.object "HotDots$Sheet")
  | 7 => .array .int
  | 8 => .array .int
  | 9 => .array .int
  | _ => .int
abbrev wsX50 : List Cond := u_ws RX5 TX5 11
theorem nmX5 : ∀ a, a < 11 → ∀ b, b < 11 → a ≠ b → (TX5 a).2.1 ≠ (TX5 b).2.1 := by decide +kernel
theorem tyX5_ok : ∀ k, k < 11 → parseFieldDescriptor (TX5 k).2.2.1 = some (tyX5 k) := by decide +kernel
abbrev cX5_init : ByteArray := prog_1_method_1_code
def yX5_init : MethodName := ⟨RX5, "<init>", "()V"⟩
abbrev cX5_feed : ByteArray := prog_1_method_2_code
def yX5_feed : MethodName := ⟨RX5, "feed", "(I)I"⟩
abbrev cX5_end : ByteArray := prog_1_method_3_code
def yX5_end : MethodName := ⟨RX5, "end", "(I)I"⟩
abbrev cX5_text : ByteArray := prog_1_method_4_code
def yX5_text : MethodName := ⟨RX5, "text", "()I"⟩
abbrev cX5_fault : ByteArray := prog_1_method_5_code
def yX5_fault : MethodName := ⟨RX5, "fault", "()I"⟩
abbrev cX5_rule : ByteArray := prog_1_method_6_code
def yX5_rule : MethodName := ⟨RX5, "rule", "(I)I"⟩
abbrev cX5_head : ByteArray := prog_1_method_7_code
def yX5_head : MethodName := ⟨RX5, "head", "(II)I"⟩
abbrev cX5_dot : ByteArray := prog_1_method_8_code
def yX5_dot : MethodName := ⟨RX5, "dot", "(III)I"⟩
abbrev cX5_line : ByteArray := prog_1_method_9_code
def yX5_line : MethodName := ⟨RX5, "line", "(I)I"⟩
abbrev cX5_alter : ByteArray := prog_1_method_10_code
def yX5_alter : MethodName := ⟨RX5, "alter", "(III)I"⟩
abbrev cX5_tell : ByteArray := prog_1_method_11_code
def yX5_tell : MethodName := ⟨RX5, "tell", "(II)I"⟩
abbrev cX5_warm : ByteArray := prog_1_method_12_code
def yX5_warm : MethodName := ⟨RX5, "warm", "(III)I"⟩
abbrev cX5_set : ByteArray := prog_1_method_13_code
def yX5_set : MethodName := ⟨RX5, "set", "(II)I"⟩
abbrev cX5_add : ByteArray := prog_1_method_14_code
def yX5_add : MethodName := ⟨RX5, "add", "(I)I"⟩
abbrev cX5_cut : ByteArray := prog_1_method_15_code
def yX5_cut : MethodName := ⟨RX5, "cut", "(I)I"⟩
abbrev cX5_burn : ByteArray := prog_1_method_16_code
def yX5_burn : MethodName := ⟨RX5, "burn", "(I)I"⟩
abbrev cX5_runs : ByteArray := prog_1_method_17_code
def yX5_runs : MethodName := ⟨RX5, "runs", "(II)I"⟩
abbrev cX5_black : ByteArray := prog_1_method_18_code
def yX5_black : MethodName := ⟨RX5, "black", "(II)I"⟩
abbrev cX5_ahead : ByteArray := prog_1_method_19_code
def yX5_ahead : MethodName := ⟨RX5, "ahead", "(III)I"⟩
abbrev cX5_when : ByteArray := prog_1_method_20_code
def yX5_when : MethodName := ⟨RX5, "when", "(I)I"⟩
abbrev cX5_power : ByteArray := prog_1_method_21_code
def yX5_power : MethodName := ⟨RX5, "power", "(III)I"⟩
abbrev cX5_kind : ByteArray := prog_1_method_22_code
def yX5_kind : MethodName := ⟨RX5, "kind", "(III)I"⟩
abbrev cX5_best : ByteArray := prog_1_method_23_code
def yX5_best : MethodName := ⟨RX5, "best", "(III)I"⟩
abbrev cX5_swap : ByteArray := prog_1_method_24_code
def yX5_swap : MethodName := ⟨RX5, "swap", "(II)I"⟩
abbrev cX5_rest : ByteArray := prog_1_method_25_code
def yX5_rest : MethodName := ⟨RX5, "rest", "(II)I"⟩
abbrev cX5_luck : ByteArray := prog_1_method_26_code
def yX5_luck : MethodName := ⟨RX5, "luck", "(IIII)J"⟩
abbrev cX5_mean : ByteArray := prog_1_method_27_code
def yX5_mean : MethodName := ⟨RX5, "mean", "(III)J"⟩
abbrev cX5_see : ByteArray := prog_1_method_28_code
def yX5_see : MethodName := ⟨RX5, "see", "(III)I"⟩
abbrev cX5_forget : ByteArray := prog_1_method_29_code
def yX5_forget : MethodName := ⟨RX5, "forget", "(I)I"⟩
abbrev cX5_kinds : ByteArray := prog_1_method_30_code
def yX5_kinds : MethodName := ⟨RX5, "kinds", "(I)I"⟩
abbrev cX5_powers : ByteArray := prog_1_method_31_code
def yX5_powers : MethodName := ⟨RX5, "powers", "(I)I"⟩
abbrev cX5_ask : ByteArray := prog_1_method_32_code
def yX5_ask : MethodName := ⟨RX5, "ask", "(II)I"⟩
abbrev cX5_drift : ByteArray := prog_1_method_33_code
def yX5_drift : MethodName := ⟨RX5, "drift", "(III)I"⟩
abbrev cX5_keep : ByteArray := prog_1_method_34_code
def yX5_keep : MethodName := ⟨RX5, "keep", "(I)I"⟩
abbrev cX5_back : ByteArray := prog_1_method_35_code
def yX5_back : MethodName := ⟨RX5, "back", "(I)I"⟩
abbrev cX5_sheet : ByteArray := prog_1_method_36_code
def yX5_sheet : MethodName := ⟨RX5, "sheet", "(III)I"⟩
abbrev cX5_lay : ByteArray := prog_1_method_37_code
def yX5_lay : MethodName := ⟨RX5, "lay", "(III)I"⟩
abbrev cX5_read : ByteArray := prog_1_method_38_code
def yX5_read : MethodName := ⟨RX5, "read", "(IIII)I"⟩
abbrev cX5_torn : ByteArray := prog_1_method_39_code
def yX5_torn : MethodName := ⟨RX5, "torn", "()I"⟩
abbrev cX5_count : ByteArray := prog_1_method_40_code
def yX5_count : MethodName := ⟨RX5, "count", "(I)I"⟩
abbrev cX5_outside : ByteArray := prog_1_method_41_code
def yX5_outside : MethodName := ⟨RX5, "outside", "(III)Z"⟩
abbrev cX5_noHead : ByteArray := prog_1_method_42_code
def yX5_noHead : MethodName := ⟨RX5, "noHead", "(I)Z"⟩
abbrev cX5_noDot : ByteArray := prog_1_method_43_code
def yX5_noDot : MethodName := ⟨RX5, "noDot", "(I)Z"⟩
abbrev cX5_noLine : ByteArray := prog_1_method_44_code
def yX5_noLine : MethodName := ⟨RX5, "noLine", "(I)Z"⟩
abbrev cX5_noSheet : ByteArray := prog_1_method_45_code
def yX5_noSheet : MethodName := ⟨RX5, "noSheet", "(I)Z"⟩
abbrev cX5_lineRefused : ByteArray := prog_1_method_46_code
def yX5_lineRefused : MethodName := ⟨RX5, "lineRefused", "(II)Z"⟩
abbrev cX5_badRows : ByteArray := prog_1_method_47_code
def yX5_badRows : MethodName := ⟨RX5, "badRows", "(I)Z"⟩
abbrev cX5_badOdds : ByteArray := prog_1_method_48_code
def yX5_badOdds : MethodName := ⟨RX5, "badOdds", "(III)Z"⟩
abbrev cX5_mostOf : ByteArray := prog_1_method_49_code
def yX5_mostOf : MethodName := ⟨RX5, "mostOf", "(I)I"⟩
abbrev cX5_burnLone : ByteArray := prog_1_method_50_code
def yX5_burnLone : MethodName := ⟨RX5, "burnLone", "(IZ)I"⟩
abbrev cX5_wrongOfLone : ByteArray := prog_1_method_51_code
def yX5_wrongOfLone : MethodName := ⟨RX5, "wrongOfLone", "(II)I"⟩
abbrev cX5_bestDrive : ByteArray := prog_1_method_52_code
def yX5_bestDrive : MethodName := ⟨RX5, "bestDrive", "(IIII)I"⟩
abbrev cX5_wrongInTrial : ByteArray := prog_1_method_53_code
def yX5_wrongInTrial : MethodName := ⟨RX5, "wrongInTrial", "(II)I"⟩
abbrev cX5_bestMark : ByteArray := prog_1_method_54_code
def yX5_bestMark : MethodName := ⟨RX5, "bestMark", "(II)I"⟩
abbrev cX5_stepMarks : ByteArray := prog_1_method_55_code
def yX5_stepMarks : MethodName := ⟨RX5, "stepMarks", "(LHotDots$Head;I)V"⟩
abbrev cX5_bestCool : ByteArray := prog_1_method_56_code
def yX5_bestCool : MethodName := ⟨RX5, "bestCool", "(II)I"⟩
abbrev cX5_wrongIfSwapped : ByteArray := prog_1_method_57_code
def yX5_wrongIfSwapped : MethodName := ⟨RX5, "wrongIfSwapped", "(IIII)I"⟩
abbrev cX5_wrongIfResting : ByteArray := prog_1_method_58_code
def yX5_wrongIfResting : MethodName := ⟨RX5, "wrongIfResting", "(III)I"⟩
abbrev cX5_raised : ByteArray := prog_1_method_59_code
def yX5_raised : MethodName := ⟨RX5, "raised", "(II)J"⟩
abbrev cX5_weightOf : ByteArray := prog_1_method_60_code
def yX5_weightOf : MethodName := ⟨RX5, "weightOf", "(III)J"⟩
abbrev cX5_loneIsRight : ByteArray := prog_1_method_61_code
def yX5_loneIsRight : MethodName := ⟨RX5, "loneIsRight", "(III)Z"⟩
abbrev cX5_wrongWithout : ByteArray := prog_1_method_62_code
def yX5_wrongWithout : MethodName := ⟨RX5, "wrongWithout", "(II)I"⟩
abbrev cX5_part : ByteArray := prog_1_method_63_code
def yX5_part : MethodName := ⟨RX5, "part", "(JJI)J"⟩
abbrev cX5_asSeenBy : ByteArray := prog_1_method_64_code
def yX5_asSeenBy : MethodName := ⟨RX5, "asSeenBy", "(II)I"⟩
abbrev cX5_othersAsSeen : ByteArray := prog_1_method_65_code
def yX5_othersAsSeen : MethodName := ⟨RX5, "othersAsSeen", "(I)Z"⟩
abbrev cX5_noteLooks : ByteArray := prog_1_method_66_code
def yX5_noteLooks : MethodName := ⟨RX5, "noteLooks", "(I)V"⟩
abbrev cX5_leftAtWorst : ByteArray := prog_1_method_67_code
def yX5_leftAtWorst : MethodName := ⟨RX5, "leftAtWorst", "(II)I"⟩
def RX6 : String := "HotDotsModel"
def TX6 : u_T := fun k => match k with
  | 0 => ("HotDotsModel", "st", "[I", true)
  | 1 => ("HotDotsModel", "now", "[I", true)
  | 2 => ("HotDotsModel", "isKept", "[Z", true)
  | 3 => ("HotDotsModel", "draft", "[I", true)
  | 4 => ("HotDotsModel", "hasTold", "[Z", true)
  | 5 => ("HotDotsModel", "tape", "[I", true)
  | 6 => ("HotDotsModel", "taped", "I", false)
  | 7 => ("HotDotsModel", "pos", "I", false)
  | 8 => ("HotDotsModel", "begun", "I", false)
  | 9 => ("HotDotsModel", "sort", "I", false)
  | 10 => ("HotDotsModel", "value", "I", false)
  | 11 => ("HotDotsModel", "fault", "I", false)
  | 12 => ("HotDotsModel", "wrongAt", "I", false)
  | 13 => ("HotDotsModel", "waits", "I", false)
  | 14 => ("HotDotsModel", "wrongMany", "I", false)
  | 15 => ("HotDotsModel", "blackMany", "I", false)
  | 16 => ("HotDotsModel", "hottest", "I", false)
  | 17 => ("HotDotsModel", "wrongRows", "I", false)
  | 18 => ("HotDotsModel", "wrongBy", "[I", true)
  | 19 => ("HotDotsModel", "blackNow", "[I", true)
  | 20 => ("HotDotsModel", "got", "[I", true)
  | 21 => ("HotDotsModel", "to", "[I", true)
  | 22 => ("HotDotsModel", "bestCode", "I", false)
  | 23 => ("HotDotsModel", "bestMuch", "I", false)
  | 24 => ("HotDotsModel", "rightSum", "J", false)
  | 25 => ("HotDotsModel", "wrongSum", "J", false)
  | 26 => ("HotDotsModel", "allWays", "J", false)
  | 27 => ("HotDotsModel", "blacks", "[I", true)
  | 28 => ("HotDotsModel", "byPower", "[I", true)
  | 29 => ("HotDotsModel", "lanes", "[I", true)
  | 30 => ("HotDotsModel", "sizes", "[I", true)
  | 31 => ("HotDotsModel", "cells", "[I", true)
  | 32 => ("HotDotsModel", "torn", "I", false)
  | _ => ("HotDotsModel", "before", "[I", true)
def tyX6 : Nat → FieldType := fun k => match k with
  | 0 => .array .int
  | 1 => .array .int
  | 2 => .array .boolean
  | 3 => .array .int
  | 4 => .array .boolean
  | 5 => .array .int
  | 6 => .int
  | 7 => .int
  | 8 => .int
  | 9 => .int
  | 10 => .int
  | 11 => .int
  | 12 => .int
  | 13 => .int
  | 14 => .int
  | 15 => .int
  | 16 => .int
  | 17 => .int
  | 18 => .array .int
  | 19 => .array .int
  | 20 => .array .int
  | 21 => .array .int
  | 22 => .int
  | 23 => .int
  | 24 => .long
  | 25 => .long
  | 26 => .long
  | 27 => .array .int
  | 28 => .array .int
  | 29 => .array .int
  | 30 => .array .int
  | 31 => .array .int
  | 32 => .int
  | _ => .array .int
abbrev wsX60 : List Cond := u_ws RX6 TX6 34
theorem nmX6 : ∀ a, a < 34 → ∀ b, b < 34 → a ≠ b → (TX6 a).2.1 ≠ (TX6 b).2.1 := by decide +kernel
theorem tyX6_ok : ∀ k, k < 34 → parseFieldDescriptor (TX6 k).2.2.1 = some (tyX6 k) := by decide +kernel
abbrev cX6_init : ByteArray := prog_8_method_1_code
def yX6_init : MethodName := ⟨RX6, "<init>", "()V"⟩
abbrev cX6_in : ByteArray := prog_8_method_3_code
def yX6_in : MethodName := ⟨RX6, "in", "(JJJ)Z"⟩
abbrev cX6_flag : ByteArray := prog_8_method_4_code
def yX6_flag : MethodName := ⟨RX6, "flag", "(Z)I"⟩
abbrev cX6_within : ByteArray := prog_8_method_5_code
def yX6_within : MethodName := ⟨RX6, "within", "(II)I"⟩
abbrev cX6_bitsOf : ByteArray := prog_8_method_6_code
def yX6_bitsOf : MethodName := ⟨RX6, "bitsOf", "(I)I"⟩
abbrev cX6_firstDraft : ByteArray := prog_8_method_7_code
def yX6_firstDraft : MethodName := ⟨RX6, "firstDraft", "()V"⟩
abbrev cX6_keepDraft : ByteArray := prog_8_method_8_code
def yX6_keepDraft : MethodName := ⟨RX6, "keepDraft", "()V"⟩
abbrev cX6_feed : ByteArray := prog_8_method_9_code
def yX6_feed : MethodName := ⟨RX6, "feed", "(I)I"⟩
abbrev cX6_end : ByteArray := prog_8_method_10_code
def yX6_end : MethodName := ⟨RX6, "end", "(I)I"⟩
abbrev cX6_requires : ByteArray := prog_8_method_11_code
def yX6_requires : MethodName := ⟨RX6, "requires", "(ZI)V"⟩
abbrev cX6_byteAt : ByteArray := prog_8_method_12_code
def yX6_byteAt : MethodName := ⟨RX6, "byteAt", "(I)I"⟩
abbrev cX6_is : ByteArray := prog_8_method_13_code
def yX6_is : MethodName := ⟨RX6, "is", "(IIIII)Z"⟩
abbrev cX6_endsIn : ByteArray := prog_8_method_14_code
def yX6_endsIn : MethodName := ⟨RX6, "endsIn", "(II)Z"⟩
abbrev cX6_lineNow : ByteArray := prog_8_method_15_code
def yX6_lineNow : MethodName := ⟨RX6, "lineNow", "()I"⟩
abbrev cX6_reads : ByteArray := prog_8_method_16_code
def yX6_reads : MethodName := ⟨RX6, "reads", "()V"⟩
abbrev cX6_readNumber : ByteArray := prog_8_method_17_code
def yX6_readNumber : MethodName := ⟨RX6, "readNumber", "(II)I"⟩
abbrev cX6_readLines : ByteArray := prog_8_method_18_code
def yX6_readLines : MethodName := ⟨RX6, "readLines", "()V"⟩
abbrev cX6_mostOf : ByteArray := prog_8_method_19_code
def yX6_mostOf : MethodName := ⟨RX6, "mostOf", "(I)I"⟩
abbrev cX6_lowOf : ByteArray := prog_8_method_20_code
def yX6_lowOf : MethodName := ⟨RX6, "lowOf", "(I)I"⟩
abbrev cX6_readLineOf : ByteArray := prog_8_method_21_code
def yX6_readLineOf : MethodName := ⟨RX6, "readLineOf", "(I)V"⟩
abbrev cX6_readLine : ByteArray := prog_8_method_22_code
def yX6_readLine : MethodName := ⟨RX6, "readLine", "()V"⟩
abbrev cX6_text : ByteArray := prog_8_method_23_code
def yX6_text : MethodName := ⟨RX6, "text", "()I"⟩
abbrev cX6_fault : ByteArray := prog_8_method_24_code
def yX6_fault : MethodName := ⟨RX6, "fault", "()I"⟩
abbrev cX6_isHead : ByteArray := prog_8_method_25_code
def yX6_isHead : MethodName := ⟨RX6, "isHead", "(I)Z"⟩
abbrev cX6_isDot : ByteArray := prog_8_method_26_code
def yX6_isDot : MethodName := ⟨RX6, "isDot", "(I)Z"⟩
abbrev cX6_isLine : ByteArray := prog_8_method_27_code
def yX6_isLine : MethodName := ⟨RX6, "isLine", "(I)Z"⟩
abbrev cX6_isPart : ByteArray := prog_8_method_28_code
def yX6_isPart : MethodName := ⟨RX6, "isPart", "(I)Z"⟩
abbrev cX6_starts : ByteArray := prog_8_method_29_code
def yX6_starts : MethodName := ⟨RX6, "starts", "()V"⟩
abbrev cX6_settles : ByteArray := prog_8_method_30_code
def yX6_settles : MethodName := ⟨RX6, "settles", "()V"⟩
abbrev cX6_of : ByteArray := prog_8_method_31_code
def yX6_of : MethodName := ⟨RX6, "of", "(II)I"⟩
abbrev cX6_heat : ByteArray := prog_8_method_32_code
def yX6_heat : MethodName := ⟨RX6, "heat", "(II)I"⟩
abbrev cX6_heatBecomes : ByteArray := prog_8_method_33_code
def yX6_heatBecomes : MethodName := ⟨RX6, "heatBecomes", "(III)V"⟩
abbrev cX6_lineAt : ByteArray := prog_8_method_34_code
def yX6_lineAt : MethodName := ⟨RX6, "lineAt", "(I)I"⟩
abbrev cX6_isIn : ByteArray := prog_8_method_35_code
def yX6_isIn : MethodName := ⟨RX6, "isIn", "(II)Z"⟩
abbrev cX6_gets : ByteArray := prog_8_method_36_code
def yX6_gets : MethodName := ⟨RX6, "gets", "(IIII)I"⟩
abbrev cX6_blackOf : ByteArray := prog_8_method_37_code
def yX6_blackOf : MethodName := ⟨RX6, "blackOf", "(I)I"⟩
abbrev cX6_cools : ByteArray := prog_8_method_38_code
def yX6_cools : MethodName := ⟨RX6, "cools", "(I)V"⟩
abbrev cX6_headBurns : ByteArray := prog_8_method_39_code
def yX6_headBurns : MethodName := ⟨RX6, "headBurns", "(IIIZ)V"⟩
abbrev cX6_rowGoes : ByteArray := prog_8_method_40_code
def yX6_rowGoes : MethodName := ⟨RX6, "rowGoes", "(IIZ)V"⟩
abbrev cX6_rowsGo : ByteArray := prog_8_method_41_code
def yX6_rowsGo : MethodName := ⟨RX6, "rowsGo", "(I)V"⟩
abbrev cX6_wrongIn : ByteArray := prog_8_method_42_code
def yX6_wrongIn : MethodName := ⟨RX6, "wrongIn", "(I)I"⟩
abbrev cX6_heatsOf : ByteArray := prog_8_method_43_code
def yX6_heatsOf : MethodName := ⟨RX6, "heatsOf", "(I)I"⟩
abbrev cX6_sumOf : ByteArray := prog_8_method_44_code
def yX6_sumOf : MethodName := ⟨RX6, "sumOf", "(I)I"⟩
abbrev cX6_rule : ByteArray := prog_8_method_45_code
def yX6_rule : MethodName := ⟨RX6, "rule", "(I)I"⟩
abbrev cX6_head : ByteArray := prog_8_method_46_code
def yX6_head : MethodName := ⟨RX6, "head", "(II)I"⟩
abbrev cX6_dot : ByteArray := prog_8_method_47_code
def yX6_dot : MethodName := ⟨RX6, "dot", "(III)I"⟩
abbrev cX6_line : ByteArray := prog_8_method_48_code
def yX6_line : MethodName := ⟨RX6, "line", "(I)I"⟩
abbrev cX6_becomes : ByteArray := prog_8_method_49_code
def yX6_becomes : MethodName := ⟨RX6, "becomes", "(II)I"⟩
abbrev cX6_alter : ByteArray := prog_8_method_50_code
def yX6_alter : MethodName := ⟨RX6, "alter", "(III)I"⟩
abbrev cX6_tell : ByteArray := prog_8_method_51_code
def yX6_tell : MethodName := ⟨RX6, "tell", "(II)I"⟩
abbrev cX6_warm : ByteArray := prog_8_method_52_code
def yX6_warm : MethodName := ⟨RX6, "warm", "(III)I"⟩
abbrev cX6_set : ByteArray := prog_8_method_53_code
def yX6_set : MethodName := ⟨RX6, "set", "(II)I"⟩
abbrev cX6_add : ByteArray := prog_8_method_54_code
def yX6_add : MethodName := ⟨RX6, "add", "(I)I"⟩
abbrev cX6_cut : ByteArray := prog_8_method_55_code
def yX6_cut : MethodName := ⟨RX6, "cut", "(I)I"⟩
abbrev cX6_isFar : ByteArray := prog_8_method_56_code
def yX6_isFar : MethodName := ⟨RX6, "isFar", "(I)Z"⟩
abbrev cX6_burn : ByteArray := prog_8_method_57_code
def yX6_burn : MethodName := ⟨RX6, "burn", "(I)I"⟩
abbrev cX6_runs : ByteArray := prog_8_method_58_code
def yX6_runs : MethodName := ⟨RX6, "runs", "(II)I"⟩
abbrev cX6_black : ByteArray := prog_8_method_59_code
def yX6_black : MethodName := ⟨RX6, "black", "(II)I"⟩
abbrev cX6_ahead : ByteArray := prog_8_method_60_code
def yX6_ahead : MethodName := ⟨RX6, "ahead", "(III)I"⟩
abbrev cX6_when : ByteArray := prog_8_method_61_code
def yX6_when : MethodName := ⟨RX6, "when", "(I)I"⟩
abbrev cX6_startsJudging : ByteArray := prog_8_method_62_code
def yX6_startsJudging : MethodName := ⟨RX6, "startsJudging", "(I)V"⟩
abbrev cX6_judges : ByteArray := prog_8_method_63_code
def yX6_judges : MethodName := ⟨RX6, "judges", "(II)V"⟩
abbrev cX6_judged : ByteArray := prog_8_method_64_code
def yX6_judged : MethodName := ⟨RX6, "judged", "(I)I"⟩
abbrev cX6_bestOf : ByteArray := prog_8_method_65_code
def yX6_bestOf : MethodName := ⟨RX6, "bestOf", "(IIIII)I"⟩
abbrev cX6_power : ByteArray := prog_8_method_66_code
def yX6_power : MethodName := ⟨RX6, "power", "(III)I"⟩
abbrev cX6_kind : ByteArray := prog_8_method_67_code
def yX6_kind : MethodName := ⟨RX6, "kind", "(III)I"⟩
abbrev cX6_best : ByteArray := prog_8_method_68_code
def yX6_best : MethodName := ⟨RX6, "best", "(III)I"⟩
abbrev cX6_swap : ByteArray := prog_8_method_69_code
def yX6_swap : MethodName := ⟨RX6, "swap", "(II)I"⟩
abbrev cX6_rest : ByteArray := prog_8_method_70_code
def yX6_rest : MethodName := ⟨RX6, "rest", "(II)I"⟩
abbrev cX6_common : ByteArray := prog_8_method_71_code
def yX6_common : MethodName := ⟨RX6, "common", "(JJ)J"⟩
abbrev cX6_lowest : ByteArray := prog_8_method_72_code
def yX6_lowest : MethodName := ⟨RX6, "lowest", "(JJI)J"⟩
abbrev cX6_findOdds : ByteArray := prog_8_method_73_code
def yX6_findOdds : MethodName := ⟨RX6, "findOdds", "(III)V"⟩
abbrev cX6_luck : ByteArray := prog_8_method_74_code
def yX6_luck : MethodName := ⟨RX6, "luck", "(IIII)J"⟩
abbrev cX6_mean : ByteArray := prog_8_method_75_code
def yX6_mean : MethodName := ⟨RX6, "mean", "(III)J"⟩
abbrev cX6_see : ByteArray := prog_8_method_76_code
def yX6_see : MethodName := ⟨RX6, "see", "(III)I"⟩
abbrev cX6_forget : ByteArray := prog_8_method_77_code
def yX6_forget : MethodName := ⟨RX6, "forget", "(I)I"⟩
abbrev cX6_isSoWith : ByteArray := prog_8_method_78_code
def yX6_isSoWith : MethodName := ⟨RX6, "isSoWith", "(II)Z"⟩
abbrev cX6_which : ByteArray := prog_8_method_79_code
def yX6_which : MethodName := ⟨RX6, "which", "(III)I"⟩
abbrev cX6_kinds : ByteArray := prog_8_method_80_code
def yX6_kinds : MethodName := ⟨RX6, "kinds", "(I)I"⟩
abbrev cX6_powers : ByteArray := prog_8_method_81_code
def yX6_powers : MethodName := ⟨RX6, "powers", "(I)I"⟩
abbrev cX6_ask : ByteArray := prog_8_method_82_code
def yX6_ask : MethodName := ⟨RX6, "ask", "(II)I"⟩
abbrev cX6_drift : ByteArray := prog_8_method_83_code
def yX6_drift : MethodName := ⟨RX6, "drift", "(III)I"⟩
abbrev cX6_copies : ByteArray := prog_8_method_84_code
def yX6_copies : MethodName := ⟨RX6, "copies", "(II)V"⟩
abbrev cX6_keep : ByteArray := prog_8_method_85_code
def yX6_keep : MethodName := ⟨RX6, "keep", "(I)I"⟩
abbrev cX6_back : ByteArray := prog_8_method_86_code
def yX6_back : MethodName := ⟨RX6, "back", "(I)I"⟩
abbrev cX6_isSheet : ByteArray := prog_8_method_87_code
def yX6_isSheet : MethodName := ⟨RX6, "isSheet", "(II)Z"⟩
abbrev cX6_sheet : ByteArray := prog_8_method_88_code
def yX6_sheet : MethodName := ⟨RX6, "sheet", "(III)I"⟩
abbrev cX6_lay : ByteArray := prog_8_method_89_code
def yX6_lay : MethodName := ⟨RX6, "lay", "(III)I"⟩
abbrev cX6_read : ByteArray := prog_8_method_90_code
def yX6_read : MethodName := ⟨RX6, "read", "(IIII)I"⟩
abbrev cX6_torn : ByteArray := prog_8_method_91_code
def yX6_torn : MethodName := ⟨RX6, "torn", "()I"⟩
abbrev cX6_count : ByteArray := prog_8_method_92_code
def yX6_count : MethodName := ⟨RX6, "count", "(I)I"⟩
def RJ6 : String := "java/lang/Integer"
def TJ6 : u_T := fun k => match k with
  | _ => ("", "", "", false)
def tyJ6 : Nat → FieldType := fun k => match k with
  | _ => .int
abbrev wsJ60 : List Cond := u_ws RJ6 TJ6 0
theorem nmJ6 : ∀ a, a < 0 → ∀ b, b < 0 → a ≠ b → (TJ6 a).2.1 ≠ (TJ6 b).2.1 := by decide +kernel
theorem tyJ6_ok : ∀ k, k < 0 → parseFieldDescriptor (TJ6 k).2.2.1 = some (tyJ6 k) := by decide +kernel
abbrev cJ6_bitCount_0f7a4 : ByteArray := prog_9_method_49_code
def yJ6_bitCount_0f7a4 : MethodName := ⟨RJ6, "bitCount", "(I)I"⟩
def RJ9 : String := "java/lang/Math"
def TJ9 : u_T := fun k => match k with
  | _ => ("", "", "", false)
def tyJ9 : Nat → FieldType := fun k => match k with
  | _ => .int
abbrev wsJ90 : List Cond := u_ws RJ9 TJ9 0
theorem nmJ9 : ∀ a, a < 0 → ∀ b, b < 0 → a ≠ b → (TJ9 a).2.1 ≠ (TJ9 b).2.1 := by decide +kernel
theorem tyJ9_ok : ∀ k, k < 0 → parseFieldDescriptor (TJ9 k).2.2.1 = some (tyJ9 k) := by decide +kernel
abbrev cJ9_max_7cf53 : ByteArray := prog_10_method_65_code
def yJ9_max_7cf53 : MethodName := ⟨RJ9, "max", "(II)I"⟩
abbrev cJ9_min_7cf53 : ByteArray := prog_10_method_69_code
def yJ9_min_7cf53 : MethodName := ⟨RJ9, "min", "(II)I"⟩
def RJ0 : String := "java/lang/String"
def TJ0 : u_T := fun k => match k with
  | _ => ("", "", "", false)
def tyJ0 : Nat → FieldType := fun k => match k with
  | _ => .int
abbrev wsJ00 : List Cond := u_ws RJ0 TJ0 0
theorem nmJ0 : ∀ a, a < 0 → ∀ b, b < 0 → a ≠ b → (TJ0 a).2.1 ≠ (TJ0 b).2.1 := by decide +kernel
theorem tyJ0_ok : ∀ k, k < 0 → parseFieldDescriptor (TJ0 k).2.2.1 = some (tyJ0 k) := by decide +kernel
abbrev cJ0_length_8abf5 : ByteArray := prog_11_method_54_code
def yJ0_length_8abf5 : MethodName := ⟨RJ0, "length", "()I"⟩
abbrev cJ0_charAt_5068e : ByteArray := prog_11_method_56_code
def yJ0_charAt_5068e : MethodName := ⟨RJ0, "charAt", "(I)C"⟩
abbrev cJ0_coder_7d493 : ByteArray := prog_11_method_152_code
def yJ0_coder_7d493 : MethodName := ⟨RJ0, "coder", "()B"⟩
abbrev cJ0_isLatin1_aae02 : ByteArray := prog_11_method_154_code
def yJ0_isLatin1_aae02 : MethodName := ⟨RJ0, "isLatin1", "()Z"⟩
abbrev cJ0_checkIndex_df160 : ByteArray := prog_11_method_155_code
def yJ0_checkIndex_df160 : MethodName := ⟨RJ0, "checkIndex", "(II)V"⟩
def RJ1 : String := "java/lang/StringLatin1"
def TJ1 : u_T := fun k => match k with
  | _ => ("", "", "", false)
def tyJ1 : Nat → FieldType := fun k => match k with
  | _ => .int
abbrev wsJ10 : List Cond := u_ws RJ1 TJ1 0
theorem nmJ1 : ∀ a, a < 0 → ∀ b, b < 0 → a ≠ b → (TJ1 a).2.1 ≠ (TJ1 b).2.1 := by decide +kernel
theorem tyJ1_ok : ∀ k, k < 0 → parseFieldDescriptor (TJ1 k).2.2.1 = some (tyJ1 k) := by decide +kernel
abbrev cJ1_charAt_3b067 : ByteArray := prog_12_method_2_code
def yJ1_charAt_3b067 : MethodName := ⟨RJ1, "charAt", "([BI)C"⟩
def RJ2 : String := "java/lang/StringUTF16"
def TJ2 : u_T := fun k => match k with
  | _ => ("", "", "", false)
def tyJ2 : Nat → FieldType := fun k => match k with
  | _ => .int
abbrev wsJ20 : List Cond := u_ws RJ2 TJ2 0
theorem nmJ2 : ∀ a, a < 0 → ∀ b, b < 0 → a ≠ b → (TJ2 a).2.1 ≠ (TJ2 b).2.1 := by decide +kernel
theorem tyJ2_ok : ∀ k, k < 0 → parseFieldDescriptor (TJ2 k).2.2.1 = some (tyJ2 k) := by decide +kernel
abbrev cJ2_getChar_3b067 : ByteArray := prog_13_method_5_code
def yJ2_getChar_3b067 : MethodName := ⟨RJ2, "getChar", "([BI)C"⟩
abbrev cJ2_length_9d52b : ByteArray := prog_13_method_6_code
def yJ2_length_9d52b : MethodName := ⟨RJ2, "length", "([B)I"⟩
abbrev cJ2_charAt_3b067 : ByteArray := prog_13_method_83_code
def yJ2_charAt_3b067 : MethodName := ⟨RJ2, "charAt", "([BI)C"⟩
abbrev cJ2_checkIndex_2214a : ByteArray := prog_13_method_91_code
def yJ2_checkIndex_2214a : MethodName := ⟨RJ2, "checkIndex", "(I[B)V"⟩
def RJ10 : String := "java/lang/System"
def TJ10 : u_T := fun k => match k with
  | _ => ("", "", "", false)
def tyJ10 : Nat → FieldType := fun k => match k with
  | _ => .int
abbrev wsJ100 : List Cond := u_ws RJ10 TJ10 0
theorem nmJ10 : ∀ a, a < 0 → ∀ b, b < 0 → a ≠ b → (TJ10 a).2.1 ≠ (TJ10 b).2.1 := by decide +kernel
theorem tyJ10_ok : ∀ k, k < 0 → parseFieldDescriptor (TJ10 k).2.2.1 = some (tyJ10 k) := by decide +kernel
def RJ7 : String := "java/util/Arrays"
def TJ7 : u_T := fun k => match k with
  | _ => ("", "", "", false)
def tyJ7 : Nat → FieldType := fun k => match k with
  | _ => .int
abbrev wsJ70 : List Cond := u_ws RJ7 TJ7 0
theorem nmJ7 : ∀ a, a < 0 → ∀ b, b < 0 → a ≠ b → (TJ7 a).2.1 ≠ (TJ7 b).2.1 := by decide +kernel
theorem tyJ7_ok : ∀ k, k < 0 → parseFieldDescriptor (TJ7 k).2.2.1 = some (tyJ7 k) := by decide +kernel
abbrev cJ7_fill_53178 : ByteArray := prog_15_method_103_code
def yJ7_fill_53178 : MethodName := ⟨RJ7, "fill", "([II)V"⟩
def RJ3 : String := "jdk/internal/util/Preconditions"
def TJ3 : u_T := fun k => match k with
  | _ => ("", "", "", false)
def tyJ3 : Nat → FieldType := fun k => match k with
  | _ => .int
abbrev wsJ30 : List Cond := u_ws RJ3 TJ3 0
theorem nmJ3 : ∀ a, a < 0 → ∀ b, b < 0 → a ≠ b → (TJ3 a).2.1 ≠ (TJ3 b).2.1 := by decide +kernel
theorem tyJ3_ok : ∀ k, k < 0 → parseFieldDescriptor (TJ3 k).2.2.1 = some (tyJ3 k) := by decide +kernel
abbrev cJ3_checkIndex_8e157 : ByteArray := prog_16_method_11_code
def yJ3_checkIndex_8e157 : MethodName := ⟨RJ3, "checkIndex", "(IILjava/util/function/BiFunction;)I"⟩
def RL : String := "HotDotsLaw"
abbrev cL_law : ByteArray := code
abbrev vwCl : List vw_C := [(RX0, TX0, 5), (RX1, TX1, 8), (RX2, TX2, 4), (RX3, TX3, 4), (RX4, TX4, 9), (RX5, TX5, 11), (RX6, TX6, 34)]

-- the words that every method takes
def zz_tbl : List Cond := lw_tbl.filter goodWord
theorem zz_in {w : Cond} (i : Nat) (h : tables_1[i]? = some w) (g : goodWord w = true) : w ∈ zz_tbl := List.mem_filter.mpr ⟨List.mem_append_right _ (List.mem_of_getElem? h), g⟩
theorem zz_inS {w : Cond} (i : Nat) (h : (k2_sels lw_privs)[i]? = some w) (g : goodWord w = true) : w ∈ zz_tbl := List.mem_filter.mpr ⟨List.mem_append_left _ (List.mem_of_getElem? h), g⟩
theorem zz_ins (ws : List Cond) (h : ws.all (fun w => decide (w ∈ tables_1) && goodWord w) = true) : ∀ w ∈ ws, w ∈ zz_tbl := by
  intro w hw
  have h1 := List.all_eq_true.mp h w hw
  rw [Bool.and_eq_true, decide_eq_true_eq] at h1
  exact List.mem_filter.mpr ⟨List.mem_append_right _ h1.1, h1.2⟩
theorem zz_good : GoodIn zz_tbl zz_tbl := fun w hw => ⟨hw, good_of_word (List.mem_filter.mp hw).2⟩

theorem zz_u0 : ∀ w ∈ u_ws RX0 TX0 5, w ∈ zz_tbl := zz_ins _ (by decide +kernel)
theorem zz_u1 : ∀ w ∈ u_ws RX1 TX1 8, w ∈ zz_tbl := zz_ins _ (by decide +kernel)
theorem zz_u2 : ∀ w ∈ u_ws RX2 TX2 4, w ∈ zz_tbl := zz_ins _ (by decide +kernel)
theorem zz_u3 : ∀ w ∈ u_ws RX3 TX3 4, w ∈ zz_tbl := zz_ins _ (by decide +kernel)
theorem zz_u4 : ∀ w ∈ u_ws RX4 TX4 9, w ∈ zz_tbl := zz_ins _ (by decide +kernel)
theorem zz_u5 : ∀ w ∈ u_ws RX5 TX5 11, w ∈ zz_tbl := zz_ins _ (by decide +kernel)
theorem zz_u6 : ∀ w ∈ u_ws RX6 TX6 34, w ∈ zz_tbl := zz_ins _ (by decide +kernel)
