section
-- ===== PART A: goes FIRST, ahead of the names: the tables' words, and 'selects' of the private methods out of them =====
/-- a private method of a class that the tables say can be made, by its rows of tables_1 -/
def lw_okq (q : MethodName × Nat) : Prop := (q.1.cls ≠ "java/lang/invoke/MethodHandle" ∧ q.1.cls ≠ "java/lang/invoke/VarHandle") ∧ Cond.instantiable q.1.cls q.2 ∈ tables_1 ∧ Cond.privateMethod q.1 ∈ tables_1 ∧ Cond.instanceMethod q.1 ∈ tables_1
theorem lw_p0 : lw_okq (⟨"HotDots", "noHead", "(I)Z"⟩, 11) := ⟨⟨by decide +kernel, by decide +kernel⟩, List.mem_of_getElem? (i := 17) (by decide +kernel), List.mem_of_getElem? (i := 406) (by decide +kernel), List.mem_of_getElem? (i := 407) (by decide +kernel)⟩
theorem lw_p1 : lw_okq (⟨"HotDots", "noLine", "(I)Z"⟩, 11) := ⟨⟨by decide +kernel, by decide +kernel⟩, List.mem_of_getElem? (i := 17) (by decide +kernel), List.mem_of_getElem? (i := 429) (by decide +kernel), List.mem_of_getElem? (i := 430) (by decide +kernel)⟩
theorem lw_p2 : lw_okq (⟨"HotDots", "lineRefused", "(II)Z"⟩, 11) := ⟨⟨by decide +kernel, by decide +kernel⟩, List.mem_of_getElem? (i := 17) (by decide +kernel), List.mem_of_getElem? (i := 458) (by decide +kernel), List.mem_of_getElem? (i := 459) (by decide +kernel)⟩
theorem lw_p3 : lw_okq (⟨"HotDots", "burnLone", "(IZ)I"⟩, 11) := ⟨⟨by decide +kernel, by decide +kernel⟩, List.mem_of_getElem? (i := 17) (by decide +kernel), List.mem_of_getElem? (i := 522) (by decide +kernel), List.mem_of_getElem? (i := 523) (by decide +kernel)⟩
theorem lw_p4 : lw_okq (⟨"HotDots", "bestDrive", "(IIII)I"⟩, 11) := ⟨⟨by decide +kernel, by decide +kernel⟩, List.mem_of_getElem? (i := 17) (by decide +kernel), List.mem_of_getElem? (i := 539) (by decide +kernel), List.mem_of_getElem? (i := 540) (by decide +kernel)⟩
theorem lw_p5 : lw_okq (⟨"HotDots", "wrongOfLone", "(II)I"⟩, 11) := ⟨⟨by decide +kernel, by decide +kernel⟩, List.mem_of_getElem? (i := 17) (by decide +kernel), List.mem_of_getElem? (i := 544) (by decide +kernel), List.mem_of_getElem? (i := 545) (by decide +kernel)⟩
theorem lw_p6 : lw_okq (⟨"HotDots", "bestMark", "(II)I"⟩, 11) := ⟨⟨by decide +kernel, by decide +kernel⟩, List.mem_of_getElem? (i := 17) (by decide +kernel), List.mem_of_getElem? (i := 557) (by decide +kernel), List.mem_of_getElem? (i := 558) (by decide +kernel)⟩
theorem lw_p7 : lw_okq (⟨"HotDots", "stepMarks", "(LHotDots$Head;I)V"⟩, 11) := ⟨⟨by decide +kernel, by decide +kernel⟩, List.mem_of_getElem? (i := 17) (by decide +kernel), List.mem_of_getElem? (i := 562) (by decide +kernel), List.mem_of_getElem? (i := 563) (by decide +kernel)⟩
theorem lw_p8 : lw_okq (⟨"HotDots", "bestCool", "(II)I"⟩, 11) := ⟨⟨by decide +kernel, by decide +kernel⟩, List.mem_of_getElem? (i := 17) (by decide +kernel), List.mem_of_getElem? (i := 567) (by decide +kernel), List.mem_of_getElem? (i := 568) (by decide +kernel)⟩
theorem lw_p9 : lw_okq (⟨"HotDots", "wrongInTrial", "(II)I"⟩, 11) := ⟨⟨by decide +kernel, by decide +kernel⟩, List.mem_of_getElem? (i := 17) (by decide +kernel), List.mem_of_getElem? (i := 571) (by decide +kernel), List.mem_of_getElem? (i := 572) (by decide +kernel)⟩
theorem lw_p10 : lw_okq (⟨"HotDots", "wrongIfSwapped", "(IIII)I"⟩, 11) := ⟨⟨by decide +kernel, by decide +kernel⟩, List.mem_of_getElem? (i := 17) (by decide +kernel), List.mem_of_getElem? (i := 579) (by decide +kernel), List.mem_of_getElem? (i := 580) (by decide +kernel)⟩
theorem lw_p11 : lw_okq (⟨"HotDots", "wrongIfResting", "(III)I"⟩, 11) := ⟨⟨by decide +kernel, by decide +kernel⟩, List.mem_of_getElem? (i := 17) (by decide +kernel), List.mem_of_getElem? (i := 587) (by decide +kernel), List.mem_of_getElem? (i := 588) (by decide +kernel)⟩
theorem lw_p12 : lw_okq (⟨"HotDots", "loneIsRight", "(III)Z"⟩, 11) := ⟨⟨by decide +kernel, by decide +kernel⟩, List.mem_of_getElem? (i := 17) (by decide +kernel), List.mem_of_getElem? (i := 611) (by decide +kernel), List.mem_of_getElem? (i := 612) (by decide +kernel)⟩
theorem lw_p13 : lw_okq (⟨"HotDots", "wrongWithout", "(II)I"⟩, 11) := ⟨⟨by decide +kernel, by decide +kernel⟩, List.mem_of_getElem? (i := 17) (by decide +kernel), List.mem_of_getElem? (i := 622) (by decide +kernel), List.mem_of_getElem? (i := 623) (by decide +kernel)⟩
theorem lw_p14 : lw_okq (⟨"HotDots", "asSeenBy", "(II)I"⟩, 11) := ⟨⟨by decide +kernel, by decide +kernel⟩, List.mem_of_getElem? (i := 17) (by decide +kernel), List.mem_of_getElem? (i := 642) (by decide +kernel), List.mem_of_getElem? (i := 643) (by decide +kernel)⟩
theorem lw_p15 : lw_okq (⟨"HotDots", "othersAsSeen", "(I)Z"⟩, 11) := ⟨⟨by decide +kernel, by decide +kernel⟩, List.mem_of_getElem? (i := 17) (by decide +kernel), List.mem_of_getElem? (i := 646) (by decide +kernel), List.mem_of_getElem? (i := 647) (by decide +kernel)⟩
def lw_privs_1 : List (MethodName × Nat) := [(⟨"HotDots", "noHead", "(I)Z"⟩, 11), (⟨"HotDots", "noLine", "(I)Z"⟩, 11), (⟨"HotDots", "lineRefused", "(II)Z"⟩, 11), (⟨"HotDots", "burnLone", "(IZ)I"⟩, 11), (⟨"HotDots", "bestDrive", "(IIII)I"⟩, 11), (⟨"HotDots", "wrongOfLone", "(II)I"⟩, 11), (⟨"HotDots", "bestMark", "(II)I"⟩, 11), (⟨"HotDots", "stepMarks", "(LHotDots$Head;I)V"⟩, 11), (⟨"HotDots", "bestCool", "(II)I"⟩, 11), (⟨"HotDots", "wrongInTrial", "(II)I"⟩, 11), (⟨"HotDots", "wrongIfSwapped", "(IIII)I"⟩, 11), (⟨"HotDots", "wrongIfResting", "(III)I"⟩, 11), (⟨"HotDots", "loneIsRight", "(III)Z"⟩, 11), (⟨"HotDots", "wrongWithout", "(II)I"⟩, 11), (⟨"HotDots", "asSeenBy", "(II)I"⟩, 11), (⟨"HotDots", "othersAsSeen", "(I)Z"⟩, 11)]
theorem lw_r1 : ∀ q ∈ lw_privs_1, lw_okq q := List.forall_mem_cons.mpr ⟨lw_p0, List.forall_mem_cons.mpr ⟨lw_p1, List.forall_mem_cons.mpr ⟨lw_p2, List.forall_mem_cons.mpr ⟨lw_p3, List.forall_mem_cons.mpr ⟨lw_p4, List.forall_mem_cons.mpr ⟨lw_p5, List.forall_mem_cons.mpr ⟨lw_p6, List.forall_mem_cons.mpr ⟨lw_p7, List.forall_mem_cons.mpr ⟨lw_p8, List.forall_mem_cons.mpr ⟨lw_p9, List.forall_mem_cons.mpr ⟨lw_p10, List.forall_mem_cons.mpr ⟨lw_p11, List.forall_mem_cons.mpr ⟨lw_p12, List.forall_mem_cons.mpr ⟨lw_p13, List.forall_mem_cons.mpr ⟨lw_p14, List.forall_mem_cons.mpr ⟨lw_p15, fun _ h => absurd h List.not_mem_nil⟩⟩⟩⟩⟩⟩⟩⟩⟩⟩⟩⟩⟩⟩⟩⟩
theorem lw_p16 : lw_okq (⟨"HotDots", "noteLooks", "(I)V"⟩, 11) := ⟨⟨by decide +kernel, by decide +kernel⟩, List.mem_of_getElem? (i := 17) (by decide +kernel), List.mem_of_getElem? (i := 654) (by decide +kernel), List.mem_of_getElem? (i := 655) (by decide +kernel)⟩
theorem lw_p17 : lw_okq (⟨"HotDots", "leftAtWorst", "(II)I"⟩, 11) := ⟨⟨by decide +kernel, by decide +kernel⟩, List.mem_of_getElem? (i := 17) (by decide +kernel), List.mem_of_getElem? (i := 670) (by decide +kernel), List.mem_of_getElem? (i := 671) (by decide +kernel)⟩
theorem lw_p18 : lw_okq (⟨"HotDotsModel", "firstDraft", "()V"⟩, 34) := ⟨⟨by decide +kernel, by decide +kernel⟩, List.mem_of_getElem? (i := 742) (by decide +kernel), List.mem_of_getElem? (i := 748) (by decide +kernel), List.mem_of_getElem? (i := 749) (by decide +kernel)⟩
theorem lw_p19 : lw_okq (⟨"HotDotsModel", "keepDraft", "()V"⟩, 34) := ⟨⟨by decide +kernel, by decide +kernel⟩, List.mem_of_getElem? (i := 742) (by decide +kernel), List.mem_of_getElem? (i := 752) (by decide +kernel), List.mem_of_getElem? (i := 753) (by decide +kernel)⟩
theorem lw_p20 : lw_okq (⟨"HotDotsModel", "reads", "()V"⟩, 34) := ⟨⟨by decide +kernel, by decide +kernel⟩, List.mem_of_getElem? (i := 742) (by decide +kernel), List.mem_of_getElem? (i := 875) (by decide +kernel), List.mem_of_getElem? (i := 876) (by decide +kernel)⟩
theorem lw_p21 : lw_okq (⟨"HotDotsModel", "byteAt", "(I)I"⟩, 34) := ⟨⟨by decide +kernel, by decide +kernel⟩, List.mem_of_getElem? (i := 742) (by decide +kernel), List.mem_of_getElem? (i := 879) (by decide +kernel), List.mem_of_getElem? (i := 880) (by decide +kernel)⟩
theorem lw_p22 : lw_okq (⟨"HotDotsModel", "requires", "(ZI)V"⟩, 34) := ⟨⟨by decide +kernel, by decide +kernel⟩, List.mem_of_getElem? (i := 742) (by decide +kernel), List.mem_of_getElem? (i := 887) (by decide +kernel), List.mem_of_getElem? (i := 888) (by decide +kernel)⟩
theorem lw_p23 : lw_okq (⟨"HotDotsModel", "readLine", "()V"⟩, 34) := ⟨⟨by decide +kernel, by decide +kernel⟩, List.mem_of_getElem? (i := 742) (by decide +kernel), List.mem_of_getElem? (i := 891) (by decide +kernel), List.mem_of_getElem? (i := 892) (by decide +kernel)⟩
theorem lw_p24 : lw_okq (⟨"HotDotsModel", "lineNow", "()I"⟩, 34) := ⟨⟨by decide +kernel, by decide +kernel⟩, List.mem_of_getElem? (i := 742) (by decide +kernel), List.mem_of_getElem? (i := 895) (by decide +kernel), List.mem_of_getElem? (i := 896) (by decide +kernel)⟩
theorem lw_p25 : lw_okq (⟨"HotDotsModel", "is", "(IIIII)Z"⟩, 34) := ⟨⟨by decide +kernel, by decide +kernel⟩, List.mem_of_getElem? (i := 742) (by decide +kernel), List.mem_of_getElem? (i := 899) (by decide +kernel), List.mem_of_getElem? (i := 900) (by decide +kernel)⟩
theorem lw_p26 : lw_okq (⟨"HotDotsModel", "endsIn", "(II)Z"⟩, 34) := ⟨⟨by decide +kernel, by decide +kernel⟩, List.mem_of_getElem? (i := 742) (by decide +kernel), List.mem_of_getElem? (i := 903) (by decide +kernel), List.mem_of_getElem? (i := 904) (by decide +kernel)⟩
theorem lw_p27 : lw_okq (⟨"HotDotsModel", "readLineOf", "(I)V"⟩, 34) := ⟨⟨by decide +kernel, by decide +kernel⟩, List.mem_of_getElem? (i := 742) (by decide +kernel), List.mem_of_getElem? (i := 907) (by decide +kernel), List.mem_of_getElem? (i := 908) (by decide +kernel)⟩
theorem lw_p28 : lw_okq (⟨"HotDotsModel", "readLines", "()V"⟩, 34) := ⟨⟨by decide +kernel, by decide +kernel⟩, List.mem_of_getElem? (i := 742) (by decide +kernel), List.mem_of_getElem? (i := 911) (by decide +kernel), List.mem_of_getElem? (i := 912) (by decide +kernel)⟩
theorem lw_p29 : lw_okq (⟨"HotDotsModel", "readNumber", "(II)I"⟩, 34) := ⟨⟨by decide +kernel, by decide +kernel⟩, List.mem_of_getElem? (i := 742) (by decide +kernel), List.mem_of_getElem? (i := 915) (by decide +kernel), List.mem_of_getElem? (i := 916) (by decide +kernel)⟩
theorem lw_p30 : lw_okq (⟨"HotDotsModel", "starts", "()V"⟩, 34) := ⟨⟨by decide +kernel, by decide +kernel⟩, List.mem_of_getElem? (i := 742) (by decide +kernel), List.mem_of_getElem? (i := 933) (by decide +kernel), List.mem_of_getElem? (i := 934) (by decide +kernel)⟩
theorem lw_p31 : lw_okq (⟨"HotDotsModel", "sumOf", "(I)I"⟩, 34) := ⟨⟨by decide +kernel, by decide +kernel⟩, List.mem_of_getElem? (i := 742) (by decide +kernel), List.mem_of_getElem? (i := 937) (by decide +kernel), List.mem_of_getElem? (i := 938) (by decide +kernel)⟩
def lw_privs_2 : List (MethodName × Nat) := [(⟨"HotDots", "noteLooks", "(I)V"⟩, 11), (⟨"HotDots", "leftAtWorst", "(II)I"⟩, 11), (⟨"HotDotsModel", "firstDraft", "()V"⟩, 34), (⟨"HotDotsModel", "keepDraft", "()V"⟩, 34), (⟨"HotDotsModel", "reads", "()V"⟩, 34), (⟨"HotDotsModel", "byteAt", "(I)I"⟩, 34), (⟨"HotDotsModel", "requires", "(ZI)V"⟩, 34), (⟨"HotDotsModel", "readLine", "()V"⟩, 34), (⟨"HotDotsModel", "lineNow", "()I"⟩, 34), (⟨"HotDotsModel", "is", "(IIIII)Z"⟩, 34), (⟨"HotDotsModel", "endsIn", "(II)Z"⟩, 34), (⟨"HotDotsModel", "readLineOf", "(I)V"⟩, 34), (⟨"HotDotsModel", "readLines", "()V"⟩, 34), (⟨"HotDotsModel", "readNumber", "(II)I"⟩, 34), (⟨"HotDotsModel", "starts", "()V"⟩, 34), (⟨"HotDotsModel", "sumOf", "(I)I"⟩, 34)]
theorem lw_r2 : ∀ q ∈ lw_privs_2, lw_okq q := List.forall_mem_cons.mpr ⟨lw_p16, List.forall_mem_cons.mpr ⟨lw_p17, List.forall_mem_cons.mpr ⟨lw_p18, List.forall_mem_cons.mpr ⟨lw_p19, List.forall_mem_cons.mpr ⟨lw_p20, List.forall_mem_cons.mpr ⟨lw_p21, List.forall_mem_cons.mpr ⟨lw_p22, List.forall_mem_cons.mpr ⟨lw_p23, List.forall_mem_cons.mpr ⟨lw_p24, List.forall_mem_cons.mpr ⟨lw_p25, List.forall_mem_cons.mpr ⟨lw_p26, List.forall_mem_cons.mpr ⟨lw_p27, List.forall_mem_cons.mpr ⟨lw_p28, List.forall_mem_cons.mpr ⟨lw_p29, List.forall_mem_cons.mpr ⟨lw_p30, List.forall_mem_cons.mpr ⟨lw_p31, fun _ h => absurd h List.not_mem_nil⟩⟩⟩⟩⟩⟩⟩⟩⟩⟩⟩⟩⟩⟩⟩⟩
theorem lw_p32 : lw_okq (⟨"HotDotsModel", "of", "(II)I"⟩, 34) := ⟨⟨by decide +kernel, by decide +kernel⟩, List.mem_of_getElem? (i := 742) (by decide +kernel), List.mem_of_getElem? (i := 941) (by decide +kernel), List.mem_of_getElem? (i := 942) (by decide +kernel)⟩
theorem lw_p33 : lw_okq (⟨"HotDotsModel", "lineAt", "(I)I"⟩, 34) := ⟨⟨by decide +kernel, by decide +kernel⟩, List.mem_of_getElem? (i := 742) (by decide +kernel), List.mem_of_getElem? (i := 945) (by decide +kernel), List.mem_of_getElem? (i := 946) (by decide +kernel)⟩
theorem lw_p34 : lw_okq (⟨"HotDotsModel", "isHead", "(I)Z"⟩, 34) := ⟨⟨by decide +kernel, by decide +kernel⟩, List.mem_of_getElem? (i := 742) (by decide +kernel), List.mem_of_getElem? (i := 953) (by decide +kernel), List.mem_of_getElem? (i := 954) (by decide +kernel)⟩
theorem lw_p35 : lw_okq (⟨"HotDotsModel", "heatsOf", "(I)I"⟩, 34) := ⟨⟨by decide +kernel, by decide +kernel⟩, List.mem_of_getElem? (i := 742) (by decide +kernel), List.mem_of_getElem? (i := 958) (by decide +kernel), List.mem_of_getElem? (i := 959) (by decide +kernel)⟩
theorem lw_p36 : lw_okq (⟨"HotDotsModel", "heat", "(II)I"⟩, 34) := ⟨⟨by decide +kernel, by decide +kernel⟩, List.mem_of_getElem? (i := 742) (by decide +kernel), List.mem_of_getElem? (i := 962) (by decide +kernel), List.mem_of_getElem? (i := 963) (by decide +kernel)⟩
theorem lw_p37 : lw_okq (⟨"HotDotsModel", "gets", "(IIII)I"⟩, 34) := ⟨⟨by decide +kernel, by decide +kernel⟩, List.mem_of_getElem? (i := 742) (by decide +kernel), List.mem_of_getElem? (i := 977) (by decide +kernel), List.mem_of_getElem? (i := 978) (by decide +kernel)⟩
theorem lw_p38 : lw_okq (⟨"HotDotsModel", "isLine", "(I)Z"⟩, 34) := ⟨⟨by decide +kernel, by decide +kernel⟩, List.mem_of_getElem? (i := 742) (by decide +kernel), List.mem_of_getElem? (i := 992) (by decide +kernel), List.mem_of_getElem? (i := 993) (by decide +kernel)⟩
theorem lw_p39 : lw_okq (⟨"HotDotsModel", "becomes", "(II)I"⟩, 34) := ⟨⟨by decide +kernel, by decide +kernel⟩, List.mem_of_getElem? (i := 742) (by decide +kernel), List.mem_of_getElem? (i := 1001) (by decide +kernel), List.mem_of_getElem? (i := 1002) (by decide +kernel)⟩
theorem lw_p40 : lw_okq (⟨"HotDotsModel", "rowsGo", "(I)V"⟩, 34) := ⟨⟨by decide +kernel, by decide +kernel⟩, List.mem_of_getElem? (i := 742) (by decide +kernel), List.mem_of_getElem? (i := 1036) (by decide +kernel), List.mem_of_getElem? (i := 1037) (by decide +kernel)⟩
theorem lw_p41 : lw_okq (⟨"HotDotsModel", "rowGoes", "(IIZ)V"⟩, 34) := ⟨⟨by decide +kernel, by decide +kernel⟩, List.mem_of_getElem? (i := 742) (by decide +kernel), List.mem_of_getElem? (i := 1040) (by decide +kernel), List.mem_of_getElem? (i := 1041) (by decide +kernel)⟩
theorem lw_p42 : lw_okq (⟨"HotDotsModel", "headBurns", "(IIIZ)V"⟩, 34) := ⟨⟨by decide +kernel, by decide +kernel⟩, List.mem_of_getElem? (i := 742) (by decide +kernel), List.mem_of_getElem? (i := 1044) (by decide +kernel), List.mem_of_getElem? (i := 1045) (by decide +kernel)⟩
theorem lw_p43 : lw_okq (⟨"HotDotsModel", "heatBecomes", "(III)V"⟩, 34) := ⟨⟨by decide +kernel, by decide +kernel⟩, List.mem_of_getElem? (i := 742) (by decide +kernel), List.mem_of_getElem? (i := 1048) (by decide +kernel), List.mem_of_getElem? (i := 1049) (by decide +kernel)⟩
theorem lw_p44 : lw_okq (⟨"HotDotsModel", "blackOf", "(I)I"⟩, 34) := ⟨⟨by decide +kernel, by decide +kernel⟩, List.mem_of_getElem? (i := 742) (by decide +kernel), List.mem_of_getElem? (i := 1052) (by decide +kernel), List.mem_of_getElem? (i := 1053) (by decide +kernel)⟩
theorem lw_p45 : lw_okq (⟨"HotDotsModel", "cools", "(I)V"⟩, 34) := ⟨⟨by decide +kernel, by decide +kernel⟩, List.mem_of_getElem? (i := 742) (by decide +kernel), List.mem_of_getElem? (i := 1062) (by decide +kernel), List.mem_of_getElem? (i := 1063) (by decide +kernel)⟩
theorem lw_p46 : lw_okq (⟨"HotDotsModel", "settles", "()V"⟩, 34) := ⟨⟨by decide +kernel, by decide +kernel⟩, List.mem_of_getElem? (i := 742) (by decide +kernel), List.mem_of_getElem? (i := 1066) (by decide +kernel), List.mem_of_getElem? (i := 1067) (by decide +kernel)⟩
theorem lw_p47 : lw_okq (⟨"HotDotsModel", "bestOf", "(IIIII)I"⟩, 34) := ⟨⟨by decide +kernel, by decide +kernel⟩, List.mem_of_getElem? (i := 742) (by decide +kernel), List.mem_of_getElem? (i := 1090) (by decide +kernel), List.mem_of_getElem? (i := 1091) (by decide +kernel)⟩
def lw_privs_3 : List (MethodName × Nat) := [(⟨"HotDotsModel", "of", "(II)I"⟩, 34), (⟨"HotDotsModel", "lineAt", "(I)I"⟩, 34), (⟨"HotDotsModel", "isHead", "(I)Z"⟩, 34), (⟨"HotDotsModel", "heatsOf", "(I)I"⟩, 34), (⟨"HotDotsModel", "heat", "(II)I"⟩, 34), (⟨"HotDotsModel", "gets", "(IIII)I"⟩, 34), (⟨"HotDotsModel", "isLine", "(I)Z"⟩, 34), (⟨"HotDotsModel", "becomes", "(II)I"⟩, 34), (⟨"HotDotsModel", "rowsGo", "(I)V"⟩, 34), (⟨"HotDotsModel", "rowGoes", "(IIZ)V"⟩, 34), (⟨"HotDotsModel", "headBurns", "(IIIZ)V"⟩, 34), (⟨"HotDotsModel", "heatBecomes", "(III)V"⟩, 34), (⟨"HotDotsModel", "blackOf", "(I)I"⟩, 34), (⟨"HotDotsModel", "cools", "(I)V"⟩, 34), (⟨"HotDotsModel", "settles", "()V"⟩, 34), (⟨"HotDotsModel", "bestOf", "(IIIII)I"⟩, 34)]
theorem lw_r3 : ∀ q ∈ lw_privs_3, lw_okq q := List.forall_mem_cons.mpr ⟨lw_p32, List.forall_mem_cons.mpr ⟨lw_p33, List.forall_mem_cons.mpr ⟨lw_p34, List.forall_mem_cons.mpr ⟨lw_p35, List.forall_mem_cons.mpr ⟨lw_p36, List.forall_mem_cons.mpr ⟨lw_p37, List.forall_mem_cons.mpr ⟨lw_p38, List.forall_mem_cons.mpr ⟨lw_p39, List.forall_mem_cons.mpr ⟨lw_p40, List.forall_mem_cons.mpr ⟨lw_p41, List.forall_mem_cons.mpr ⟨lw_p42, List.forall_mem_cons.mpr ⟨lw_p43, List.forall_mem_cons.mpr ⟨lw_p44, List.forall_mem_cons.mpr ⟨lw_p45, List.forall_mem_cons.mpr ⟨lw_p46, List.forall_mem_cons.mpr ⟨lw_p47, fun _ h => absurd h List.not_mem_nil⟩⟩⟩⟩⟩⟩⟩⟩⟩⟩⟩⟩⟩⟩⟩⟩
theorem lw_p48 : lw_okq (⟨"HotDotsModel", "startsJudging", "(I)V"⟩, 34) := ⟨⟨by decide +kernel, by decide +kernel⟩, List.mem_of_getElem? (i := 742) (by decide +kernel), List.mem_of_getElem? (i := 1094) (by decide +kernel), List.mem_of_getElem? (i := 1095) (by decide +kernel)⟩
theorem lw_p49 : lw_okq (⟨"HotDotsModel", "judges", "(II)V"⟩, 34) := ⟨⟨by decide +kernel, by decide +kernel⟩, List.mem_of_getElem? (i := 742) (by decide +kernel), List.mem_of_getElem? (i := 1098) (by decide +kernel), List.mem_of_getElem? (i := 1099) (by decide +kernel)⟩
theorem lw_p50 : lw_okq (⟨"HotDotsModel", "judged", "(I)I"⟩, 34) := ⟨⟨by decide +kernel, by decide +kernel⟩, List.mem_of_getElem? (i := 742) (by decide +kernel), List.mem_of_getElem? (i := 1102) (by decide +kernel), List.mem_of_getElem? (i := 1103) (by decide +kernel)⟩
theorem lw_p51 : lw_okq (⟨"HotDotsModel", "wrongIn", "(I)I"⟩, 34) := ⟨⟨by decide +kernel, by decide +kernel⟩, List.mem_of_getElem? (i := 742) (by decide +kernel), List.mem_of_getElem? (i := 1114) (by decide +kernel), List.mem_of_getElem? (i := 1115) (by decide +kernel)⟩
theorem lw_p52 : lw_okq (⟨"HotDotsModel", "findOdds", "(III)V"⟩, 34) := ⟨⟨by decide +kernel, by decide +kernel⟩, List.mem_of_getElem? (i := 742) (by decide +kernel), List.mem_of_getElem? (i := 1133) (by decide +kernel), List.mem_of_getElem? (i := 1134) (by decide +kernel)⟩
theorem lw_p53 : lw_okq (⟨"HotDotsModel", "which", "(III)I"⟩, 34) := ⟨⟨by decide +kernel, by decide +kernel⟩, List.mem_of_getElem? (i := 742) (by decide +kernel), List.mem_of_getElem? (i := 1160) (by decide +kernel), List.mem_of_getElem? (i := 1161) (by decide +kernel)⟩
theorem lw_p54 : lw_okq (⟨"HotDotsModel", "isSoWith", "(II)Z"⟩, 34) := ⟨⟨by decide +kernel, by decide +kernel⟩, List.mem_of_getElem? (i := 742) (by decide +kernel), List.mem_of_getElem? (i := 1164) (by decide +kernel), List.mem_of_getElem? (i := 1165) (by decide +kernel)⟩
theorem lw_p55 : lw_okq (⟨"HotDotsModel", "copies", "(II)V"⟩, 34) := ⟨⟨by decide +kernel, by decide +kernel⟩, List.mem_of_getElem? (i := 742) (by decide +kernel), List.mem_of_getElem? (i := 1185) (by decide +kernel), List.mem_of_getElem? (i := 1186) (by decide +kernel)⟩
def lw_privs_4 : List (MethodName × Nat) := [(⟨"HotDotsModel", "startsJudging", "(I)V"⟩, 34), (⟨"HotDotsModel", "judges", "(II)V"⟩, 34), (⟨"HotDotsModel", "judged", "(I)I"⟩, 34), (⟨"HotDotsModel", "wrongIn", "(I)I"⟩, 34), (⟨"HotDotsModel", "findOdds", "(III)V"⟩, 34), (⟨"HotDotsModel", "which", "(III)I"⟩, 34), (⟨"HotDotsModel", "isSoWith", "(II)Z"⟩, 34), (⟨"HotDotsModel", "copies", "(II)V"⟩, 34)]
theorem lw_r4 : ∀ q ∈ lw_privs_4, lw_okq q := List.forall_mem_cons.mpr ⟨lw_p48, List.forall_mem_cons.mpr ⟨lw_p49, List.forall_mem_cons.mpr ⟨lw_p50, List.forall_mem_cons.mpr ⟨lw_p51, List.forall_mem_cons.mpr ⟨lw_p52, List.forall_mem_cons.mpr ⟨lw_p53, List.forall_mem_cons.mpr ⟨lw_p54, List.forall_mem_cons.mpr ⟨lw_p55, fun _ h => absurd h List.not_mem_nil⟩⟩⟩⟩⟩⟩⟩⟩
def lw_privs : List (MethodName × Nat) := lw_privs_1 ++ (lw_privs_2 ++ (lw_privs_3 ++ (lw_privs_4)))
def lw_tbl : List Cond := k2_sels lw_privs ++ tables_1
theorem lw_privs_ok : ∀ q ∈ lw_privs, lw_okq q := by
  show ∀ q ∈ lw_privs_1 ++ (lw_privs_2 ++ (lw_privs_3 ++ (lw_privs_4))), lw_okq q
  exact List.forall_mem_append.mpr ⟨lw_r1, List.forall_mem_append.mpr ⟨lw_r2, List.forall_mem_append.mpr ⟨lw_r3, lw_r4⟩⟩⟩
-- ===== names: out of the printed ones =====
def RX0 : String := "HotDots$Head"
def TX0 : u_T := fun k => match k with
  | 0 => ("HotDots$Head", "heat", "[I", true)
  | 1 => ("HotDots$Head", "hot", "[I", true)
  | 2 => ("HotDots$Head", "kind", "I", false)
  | 3 => ("HotDots$Head", "power", "I", false)
  | _ => ("HotDots$Head", "wrong", "I", false)
def tyX0 : Nat → FieldType := fun k => match k with
  | 0 => .array .int
  | 1 => .array .int
  | 2 => .int
  | 3 => .int
  | _ => .int
abbrev wsX00 : List Cond := u_ws RX0 TX0 5
theorem nmX0 : ∀ a, a < 5 → ∀ b, b < 5 → a ≠ b → (TX0 a).2.1 ≠ (TX0 b).2.1 := by decide +kernel
theorem tyX0_ok : ∀ k, k < 5 → parseFieldDescriptor (TX0 k).2.2.1 = some (tyX0 k) := by decide +kernel
abbrev cX0_init : ByteArray := prog_2_method_1_code
def yX0_init : MethodName := ⟨RX0, "<init>", "()V"⟩
abbrev cX0_begin : ByteArray := prog_2_method_2_code
def yX0_begin : MethodName := ⟨RX0, "begin", "(II)V"⟩
abbrev cX0_copyFrom : ByteArray := prog_2_method_3_code
def yX0_copyFrom : MethodName := ⟨RX0, "copyFrom", "(LHotDots$Head;)V"⟩
abbrev cX0_drive : ByteArray := prog_2_method_4_code
def yX0_drive : MethodName := ⟨RX0, "drive", "(II)V"⟩
abbrev cX0_heatSum : ByteArray := prog_2_method_5_code
def yX0_heatSum : MethodName := ⟨RX0, "heatSum", "()I"⟩
abbrev cX0_gain : ByteArray := prog_2_method_6_code
def yX0_gain : MethodName := ⟨RX0, "gain", "(III)I"⟩
abbrev cX0_burnLine : ByteArray := prog_2_method_7_code
def yX0_burnLine : MethodName := ⟨RX0, "burnLine", "(LHotDots$Printer;IIZ)I"⟩
abbrev cX0_settle : ByteArray := prog_2_method_8_code
def yX0_settle : MethodName := ⟨RX0, "settle", "(II)V"⟩
def RX1 : String := "HotDots$Printer"
def TX1 : u_T := fun k => match k with
  | 0 => ("HotDots$Printer", "heads", "[LHotDots$Head;", true)
  | 1 => ("HotDots$Printer", "lines", "[I", true)
  | 2 => ("HotDots$Printer", "rules", "[I", true)
  | 3 => ("HotDots$Printer", "seen", "LHotDots$Seen;", true)
  | 4 => ("HotDots$Printer", "headCount", "I", false)
  | 5 => ("HotDots$Printer", "lineCount", "I", false)
  | 6 => ("HotDots$Printer", "row", "I", false)
  | _ => ("HotDots$Printer", "latestBlack", "I", false)
def tyX1 : Nat → FieldType := fun k => match k with
  | 0 => .array (.object "HotDots$Head")
  | 1 => .array .int
  | 2 => .array .int
  | 3 => .object "HotDots$Seen"
  | 4 => .int
  | 5 => .int
  | 6 => .int
  | _ => .int
abbrev wsX10 : List Cond := u_ws RX1 TX1 8
theorem nmX1 : ∀ a, a < 8 → ∀ b, b < 8 → a ≠ b → (TX1 a).2.1 ≠ (TX1 b).2.1 := by decide +kernel
theorem tyX1_ok : ∀ k, k < 8 → parseFieldDescriptor (TX1 k).2.2.1 = some (tyX1 k) := by decide +kernel
abbrev cX1_init : ByteArray := prog_3_method_1_code
def yX1_init : MethodName := ⟨RX1, "<init>", "()V"⟩
abbrev cX1_begin : ByteArray := prog_3_method_2_code
def yX1_begin : MethodName := ⟨RX1, "begin", "()V"⟩
abbrev cX1_copyFrom : ByteArray := prog_3_method_3_code
def yX1_copyFrom : MethodName := ⟨RX1, "copyFrom", "(LHotDots$Printer;)V"⟩
abbrev cX1_lineIn : ByteArray := prog_3_method_4_code
def yX1_lineIn : MethodName := ⟨RX1, "lineIn", "(I)I"⟩
abbrev cX1_wantedIn : ByteArray := prog_3_method_5_code
def yX1_wantedIn : MethodName := ⟨RX1, "wantedIn", "(I)I"⟩
abbrev cX1_burnRow : ByteArray := prog_3_method_6_code
def yX1_burnRow : MethodName := ⟨RX1, "burnRow", "(Z)I"⟩
abbrev cX1_burnLine : ByteArray := prog_3_method_7_code
def yX1_burnLine : MethodName := ⟨RX1, "burnLine", "(IIZ)I"⟩
abbrev cX1_hottest : ByteArray := prog_3_method_8_code
def yX1_hottest : MethodName := ⟨RX1, "hottest", "()I"⟩
abbrev cX1_loseHeat : ByteArray := prog_3_method_9_code
def yX1_loseHeat : MethodName := ⟨RX1, "loseHeat", "()V"⟩
abbrev cX1_wrongOfAll : ByteArray := prog_3_method_10_code
def yX1_wrongOfAll : MethodName := ⟨RX1, "wrongOfAll", "()I"⟩
abbrev cX1_heatOfAll : ByteArray := prog_3_method_11_code
def yX1_heatOfAll : MethodName := ⟨RX1, "heatOfAll", "()I"⟩
abbrev cX1_powerOfAll : ByteArray := prog_3_method_12_code
def yX1_powerOfAll : MethodName := ⟨RX1, "powerOfAll", "()I"⟩
abbrev cX1_wantedOfAll : ByteArray := prog_3_method_13_code
def yX1_wantedOfAll : MethodName := ⟨RX1, "wantedOfAll", "()I"⟩
def RX2 : String := "HotDots$Seen"
def TX2 : u_T := fun k => match k with
  | 0 => ("HotDots$Seen", "row", "[I", true)
  | 1 => ("HotDots$Seen", "head", "[I", true)
  | 2 => ("HotDots$Seen", "bits", "[I", true)
  | _ => ("HotDots$Seen", "count", "I", false)
def tyX2 : Nat → FieldType := fun k => match k with
  | 0 => .array .int
  | 1 => .array .int
  | 2 => .array .int
  | _ => .int
abbrev wsX20 : List Cond := u_ws RX2 TX2 4
theorem nmX2 : ∀ a, a < 4 → ∀ b, b < 4 → a ≠ b → (TX2 a).2.1 ≠ (TX2 b).2.1 := by decide +kernel
theorem tyX2_ok : ∀ k, k < 4 → parseFieldDescriptor (TX2 k).2.2.1 = some (tyX2 k) := by decide +kernel
abbrev cX2_init : ByteArray := prog_4_method_1_code
def yX2_init : MethodName := ⟨RX2, "<init>", "()V"⟩
abbrev cX2_append : ByteArray := prog_4_method_2_code
def yX2_append : MethodName := ⟨RX2, "append", "(III)V"⟩
abbrev cX2_copyFrom : ByteArray := prog_4_method_3_code
def yX2_copyFrom : MethodName := ⟨RX2, "copyFrom", "(LHotDots$Seen;)V"⟩
abbrev cX2_names : ByteArray := prog_4_method_4_code
def yX2_names : MethodName := ⟨RX2, "names", "(I)Z"⟩
abbrev cX2_agrees : ByteArray := prog_4_method_5_code
def yX2_agrees : MethodName := ⟨RX2, "agrees", "(I[II)Z"⟩
def RX3 : String := "HotDots$Sheet"
def TX3 : u_T := fun k => match k with
  | 0 => ("HotDots$Sheet", "cells", "[I", true)
  | 1 => ("HotDots$Sheet", "there", "Z", false)
  | 2 => ("HotDots$Sheet", "lane", "I", false)
  | _ => ("HotDots$Sheet", "size", "I", false)
def tyX3 : Nat → FieldType := fun k => match k with
  | 0 => .array .int
  | 1 => .boolean
  | 2 => .int
  | _ => .int
abbrev wsX30 : List Cond := u_ws RX3 TX3 4
theorem nmX3 : ∀ a, a < 4 → ∀ b, b < 4 → a ≠ b → (TX3 a).2.1 ≠ (TX3 b).2.1 := by decide +kernel
theorem tyX3_ok : ∀ k, k < 4 → parseFieldDescriptor (TX3 k).2.2.1 = some (tyX3 k) := by decide +kernel
abbrev cX3_init : ByteArray := prog_5_method_1_code
def yX3_init : MethodName := ⟨RX3, "<init>", "()V"⟩
abbrev cX3_renew : ByteArray := prog_5_method_2_code
def yX3_renew : MethodName := ⟨RX3, "renew", "(II)V"⟩
abbrev cX3_faultOf : ByteArray := prog_5_method_3_code
def yX3_faultOf : MethodName := ⟨RX3, "faultOf", "(II)I"⟩
abbrev cX3_pairFault : ByteArray := prog_5_method_4_code
def yX3_pairFault : MethodName := ⟨RX3, "pairFault", "(III)I"⟩
abbrev cX3_put : ByteArray := prog_5_method_5_code
def yX3_put : MethodName := ⟨RX3, "put", "(II)V"⟩
def RX4 : String := "HotDots$Tape"
def TX4 : u_T := fun k => match k with
  | 0 => ("HotDots$Tape", "bytes", "[B", true)
  | 1 => ("HotDots$Tape", "size", "I", false)
  | 2 => ("HotDots$Tape", "fault", "I", false)
  | 3 => ("HotDots$Tape", "faultPlace", "I", false)
  | 4 => ("HotDots$Tape", "token", "I", false)
  | 5 => ("HotDots$Tape", "from", "I", false)
  | 6 => ("HotDots$Tape", "at", "I", false)
  | 7 => ("HotDots$Tape", "number", "I", false)
  | _ => ("HotDots$Tape", "met", "I", false)
def tyX4 : Nat → FieldType := fun k => match k with
  | 0 => .array .byte
  | 1 => .int
  | 2 => .int
  | 3 => .int
  | 4 => .int
  | 5 => .int
  | 6 => .int
  | 7 => .int
  | _ => .int
abbrev wsX40 : List Cond := u_ws RX4 TX4 9
theorem nmX4 : ∀ a, a < 9 → ∀ b, b < 9 → a ≠ b → (TX4 a).2.1 ≠ (TX4 b).2.1 := by decide +kernel
theorem tyX4_ok : ∀ k, k < 9 → parseFieldDescriptor (TX4 k).2.2.1 = some (tyX4 k) := by decide +kernel
abbrev cX4_init : ByteArray := prog_6_method_1_code
def yX4_init : MethodName := ⟨RX4, "<init>", "()V"⟩
abbrev cX4_nameOf : ByteArray := prog_6_method_2_code
def yX4_nameOf : MethodName := ⟨RX4, "nameOf", "(I)Ljava/lang/String;"⟩
abbrev cX4_readInto : ByteArray := prog_6_method_3_code
def yX4_readInto : MethodName := ⟨RX4, "readInto", "(LHotDots$Printer;)I"⟩
abbrev cX4_refuse : ByteArray := prog_6_method_4_code
def yX4_refuse : MethodName := ⟨RX4, "refuse", "(I)Z"⟩
abbrev cX4_sortOf : ByteArray := prog_6_method_5_code
def yX4_sortOf : MethodName := ⟨RX4, "sortOf", "(I)I"⟩
abbrev cX4_step : ByteArray := prog_6_method_6_code
def yX4_step : MethodName := ⟨RX4, "step", "()Z"⟩
abbrev cX4_stepTo : ByteArray := prog_6_method_7_code
def yX4_stepTo : MethodName := ⟨RX4, "stepTo", "(I)Z"⟩
abbrev cX4_takeNumber : ByteArray := prog_6_method_8_code
def yX4_takeNumber : MethodName := ⟨RX4, "takeNumber", "(II)Z"⟩
abbrev cX4_isName : ByteArray := prog_6_method_9_code
def yX4_isName : MethodName := ⟨RX4, "isName", "(Ljava/lang/String;)Z"⟩
abbrev cX4_nameIndex : ByteArray := prog_6_method_10_code
def yX4_nameIndex : MethodName := ⟨RX4, "nameIndex", "()I"⟩
abbrev cX4_readLine : ByteArray := prog_6_method_11_code
def yX4_readLine : MethodName := ⟨RX4, "readLine", "(LHotDots$Printer;)Z"⟩
abbrev cX4_readHead : ByteArray := prog_6_method_12_code
def yX4_readHead : MethodName := ⟨RX4, "readHead", "(LHotDots$Printer;I)Z"⟩
abbrev cX4_readRule : ByteArray := prog_6_method_13_code
def yX4_readRule : MethodName := ⟨RX4, "readRule", "(LHotDots$Printer;I)Z"⟩
abbrev cX4_readLines : ByteArray := prog_6_method_14_code
def yX4_readLines : MethodName := ⟨RX4, "readLines", "(LHotDots$Printer;)Z"⟩
def RX5 : String := "HotDots"
def TX5 : u_T := fun k => match k with
  | 0 => ("HotDots", "tape", "LHotDots$Tape;", true)
  | 1 => ("HotDots", "now", "LHotDots$Printer;", true)
  | 2 => ("HotDots", "trial", "LHotDots$Printer;", true)
  | 3 => ("HotDots", "lone", "LHotDots$Head;", true)
  | 4 => ("HotDots", "images", "[LHotDots$Printer;", true)
  | 5 => ("HotDots", "kept", "[Z", true)
  | 6 => ("HotDots", "sheets", "[LHotDots$Sheet;", true)
  | 7 => ("HotDots", "markSteps", "[I", true)
  | 8 => ("HotDots", "looks", "[I", true)
  | 9 => ("HotDots", "alike", "[I", true)
  | _ => ("HotDots", "readFault", "I", false)
def tyX5 : Nat → FieldType := fun k => match k with
  | 0 => .object "HotDots$Tape"
  | 1 => .object "HotDots$Printer"
  | 2 => .object "HotDots$Printer"
  | 3 => .object "HotDots$Head"
  | 4 => .array (.object "HotDots$Printer")
  | 5 => .array .boolean
  | 6 => .array (.object "HotDots$Sheet")
  | 7 => .array .int
  | 8 => .array .int
  | 9 => .array .int
  | _ => .int
abbrev wsX50 : List Cond := u_ws RX5 TX5 11
theorem nmX5 : ∀ a, a < 11 → ∀ b, b < 11 → a ≠ b → (TX5 a).2.1 ≠ (TX5 b).2.1 := by decide +kernel
theorem tyX5_ok : ∀ k, k < 11 → parseFieldDescriptor (TX5 k).2.2.1 = some (tyX5 k) := by decide +kernel
abbrev cX5_init : ByteArray := prog_1_method_1_code
def yX5_init : MethodName := ⟨RX5, "<init>", "()V"⟩
abbrev cX5_feed : ByteArray := prog_1_method_2_code
def yX5_feed : MethodName := ⟨RX5, "feed", "(I)I"⟩
abbrev cX5_end : ByteArray := prog_1_method_3_code
def yX5_end : MethodName := ⟨RX5, "end", "(I)I"⟩
abbrev cX5_text : ByteArray := prog_1_method_4_code
def yX5_text : MethodName := ⟨RX5, "text", "()I"⟩
abbrev cX5_fault : ByteArray := prog_1_method_5_code
def yX5_fault : MethodName := ⟨RX5, "fault", "()I"⟩
abbrev cX5_rule : ByteArray := prog_1_method_6_code
def yX5_rule : MethodName := ⟨RX5, "rule", "(I)I"⟩
abbrev cX5_head : ByteArray := prog_1_method_7_code
def yX5_head : MethodName := ⟨RX5, "head", "(II)I"⟩
abbrev cX5_dot : ByteArray := prog_1_method_8_code
def yX5_dot : MethodName := ⟨RX5, "dot", "(III)I"⟩
abbrev cX5_line : ByteArray := prog_1_method_9_code
def yX5_line : MethodName := ⟨RX5, "line", "(I)I"⟩
abbrev cX5_alter : ByteArray := prog_1_method_10_code
def yX5_alter : MethodName := ⟨RX5, "alter", "(III)I"⟩
abbrev cX5_tell : ByteArray := prog_1_method_11_code
def yX5_tell : MethodName := ⟨RX5, "tell", "(II)I"⟩
abbrev cX5_warm : ByteArray := prog_1_method_12_code
def yX5_warm : MethodName := ⟨RX5, "warm", "(III)I"⟩
abbrev cX5_set : ByteArray := prog_1_method_13_code
def yX5_set : MethodName := ⟨RX5, "set", "(II)I"⟩
abbrev cX5_add : ByteArray := prog_1_method_14_code
def yX5_add : MethodName := ⟨RX5, "add", "(I)I"⟩
abbrev cX5_cut : ByteArray := prog_1_method_15_code
def yX5_cut : MethodName := ⟨RX5, "cut", "(I)I"⟩
abbrev cX5_burn : ByteArray := prog_1_method_16_code
def yX5_burn : MethodName := ⟨RX5, "burn", "(I)I"⟩
abbrev cX5_runs : ByteArray := prog_1_method_17_code
def yX5_runs : MethodName := ⟨RX5, "runs", "(II)I"⟩
abbrev cX5_black : ByteArray := prog_1_method_18_code
def yX5_black : MethodName := ⟨RX5, "black", "(II)I"⟩
abbrev cX5_ahead : ByteArray := prog_1_method_19_code
def yX5_ahead : MethodName := ⟨RX5, "ahead", "(III)I"⟩
abbrev cX5_when : ByteArray := prog_1_method_20_code
def yX5_when : MethodName := ⟨RX5, "when", "(I)I"⟩
abbrev cX5_power : ByteArray := prog_1_method_21_code
def yX5_power : MethodName := ⟨RX5, "power", "(III)I"⟩
abbrev cX5_kind : ByteArray := prog_1_method_22_code
def yX5_kind : MethodName := ⟨RX5, "kind", "(III)I"⟩
abbrev cX5_best : ByteArray := prog_1_method_23_code
def yX5_best : MethodName := ⟨RX5, "best", "(III)I"⟩
abbrev cX5_swap : ByteArray := prog_1_method_24_code
def yX5_swap : MethodName := ⟨RX5, "swap", "(II)I"⟩
abbrev cX5_rest : ByteArray := prog_1_method_25_code
def yX5_rest : MethodName := ⟨RX5, "rest", "(II)I"⟩
abbrev cX5_luck : ByteArray := prog_1_method_26_code
def yX5_luck : MethodName := ⟨RX5, "luck", "(IIII)J"⟩
abbrev cX5_mean : ByteArray := prog_1_method_27_code
def yX5_mean : MethodName := ⟨RX5, "mean", "(III)J"⟩
abbrev cX5_see : ByteArray := prog_1_method_28_code
def yX5_see : MethodName := ⟨RX5, "see", "(III)I"⟩
abbrev cX5_forget : ByteArray := prog_1_method_29_code
def yX5_forget : MethodName := ⟨RX5, "forget", "(I)I"⟩
abbrev cX5_kinds : ByteArray := prog_1_method_30_code
def yX5_kinds : MethodName := ⟨RX5, "kinds", "(I)I"⟩
abbrev cX5_powers : ByteArray := prog_1_method_31_code
def yX5_powers : MethodName := ⟨RX5, "powers", "(I)I"⟩
abbrev cX5_ask : ByteArray := prog_1_method_32_code
def yX5_ask : MethodName := ⟨RX5, "ask", "(II)I"⟩
abbrev cX5_drift : ByteArray := prog_1_method_33_code
def yX5_drift : MethodName := ⟨RX5, "drift", "(III)I"⟩
abbrev cX5_keep : ByteArray := prog_1_method_34_code
def yX5_keep : MethodName := ⟨RX5, "keep", "(I)I"⟩
abbrev cX5_back : ByteArray := prog_1_method_35_code
def yX5_back : MethodName := ⟨RX5, "back", "(I)I"⟩
abbrev cX5_sheet : ByteArray := prog_1_method_36_code
def yX5_sheet : MethodName := ⟨RX5, "sheet", "(III)I"⟩
abbrev cX5_lay : ByteArray := prog_1_method_37_code
def yX5_lay : MethodName := ⟨RX5, "lay", "(III)I"⟩
abbrev cX5_read : ByteArray := prog_1_method_38_code
def yX5_read : MethodName := ⟨RX5, "read", "(IIII)I"⟩
abbrev cX5_torn : ByteArray := prog_1_method_39_code
def yX5_torn : MethodName := ⟨RX5, "torn", "()I"⟩
abbrev cX5_count : ByteArray := prog_1_method_40_code
def yX5_count : MethodName := ⟨RX5, "count", "(I)I"⟩
abbrev cX5_outside : ByteArray := prog_1_method_41_code
def yX5_outside : MethodName := ⟨RX5, "outside", "(III)Z"⟩
abbrev cX5_noHead : ByteArray := prog_1_method_42_code
def yX5_noHead : MethodName := ⟨RX5, "noHead", "(I)Z"⟩
abbrev cX5_noDot : ByteArray := prog_1_method_43_code
def yX5_noDot : MethodName := ⟨RX5, "noDot", "(I)Z"⟩
abbrev cX5_noLine : ByteArray := prog_1_method_44_code
def yX5_noLine : MethodName := ⟨RX5, "noLine", "(I)Z"⟩
abbrev cX5_noSheet : ByteArray := prog_1_method_45_code
def yX5_noSheet : MethodName := ⟨RX5, "noSheet", "(I)Z"⟩
abbrev cX5_lineRefused : ByteArray := prog_1_method_46_code
def yX5_lineRefused : MethodName := ⟨RX5, "lineRefused", "(II)Z"⟩
abbrev cX5_badRows : ByteArray := prog_1_method_47_code
def yX5_badRows : MethodName := ⟨RX5, "badRows", "(I)Z"⟩
abbrev cX5_badOdds : ByteArray := prog_1_method_48_code
def yX5_badOdds : MethodName := ⟨RX5, "badOdds", "(III)Z"⟩
abbrev cX5_mostOf : ByteArray := prog_1_method_49_code
def yX5_mostOf : MethodName := ⟨RX5, "mostOf", "(I)I"⟩
abbrev cX5_burnLone : ByteArray := prog_1_method_50_code
def yX5_burnLone : MethodName := ⟨RX5, "burnLone", "(IZ)I"⟩
abbrev cX5_wrongOfLone : ByteArray := prog_1_method_51_code
def yX5_wrongOfLone : MethodName := ⟨RX5, "wrongOfLone", "(II)I"⟩
abbrev cX5_bestDrive : ByteArray := prog_1_method_52_code
def yX5_bestDrive : MethodName := ⟨RX5, "bestDrive", "(IIII)I"⟩
abbrev cX5_wrongInTrial : ByteArray := prog_1_method_53_code
def yX5_wrongInTrial : MethodName := ⟨RX5, "wrongInTrial", "(II)I"⟩
abbrev cX5_bestMark : ByteArray := prog_1_method_54_code
def yX5_bestMark : MethodName := ⟨RX5, "bestMark", "(II)I"⟩
abbrev cX5_stepMarks : ByteArray := prog_1_method_55_code
def yX5_stepMarks : MethodName := ⟨RX5, "stepMarks", "(LHotDots$Head;I)V"⟩
abbrev cX5_bestCool : ByteArray := prog_1_method_56_code
def yX5_bestCool : MethodName := ⟨RX5, "bestCool", "(II)I"⟩
abbrev cX5_wrongIfSwapped : ByteArray := prog_1_method_57_code
def yX5_wrongIfSwapped : MethodName := ⟨RX5, "wrongIfSwapped", "(IIII)I"⟩
abbrev cX5_wrongIfResting : ByteArray := prog_1_method_58_code
def yX5_wrongIfResting : MethodName := ⟨RX5, "wrongIfResting", "(III)I"⟩
abbrev cX5_raised : ByteArray := prog_1_method_59_code
def yX5_raised : MethodName := ⟨RX5, "raised", "(II)J"⟩
abbrev cX5_weightOf : ByteArray := prog_1_method_60_code
def yX5_weightOf : MethodName := ⟨RX5, "weightOf", "(III)J"⟩
abbrev cX5_loneIsRight : ByteArray := prog_1_method_61_code
def yX5_loneIsRight : MethodName := ⟨RX5, "loneIsRight", "(III)Z"⟩
abbrev cX5_wrongWithout : ByteArray := prog_1_method_62_code
def yX5_wrongWithout : MethodName := ⟨RX5, "wrongWithout", "(II)I"⟩
abbrev cX5_part : ByteArray := prog_1_method_63_code
def yX5_part : MethodName := ⟨RX5, "part", "(JJI)J"⟩
abbrev cX5_asSeenBy : ByteArray := prog_1_method_64_code
def yX5_asSeenBy : MethodName := ⟨RX5, "asSeenBy", "(II)I"⟩
abbrev cX5_othersAsSeen : ByteArray := prog_1_method_65_code
def yX5_othersAsSeen : MethodName := ⟨RX5, "othersAsSeen", "(I)Z"⟩
abbrev cX5_noteLooks : ByteArray := prog_1_method_66_code
def yX5_noteLooks : MethodName := ⟨RX5, "noteLooks", "(I)V"⟩
abbrev cX5_leftAtWorst : ByteArray := prog_1_method_67_code
def yX5_leftAtWorst : MethodName := ⟨RX5, "leftAtWorst", "(II)I"⟩
def RX6 : String := "HotDotsModel"
def TX6 : u_T := fun k => match k with
  | 0 => ("HotDotsModel", "st", "[I", true)
  | 1 => ("HotDotsModel", "now", "[I", true)
  | 2 => ("HotDotsModel", "isKept", "[Z", true)
  | 3 => ("HotDotsModel", "draft", "[I", true)
  | 4 => ("HotDotsModel", "hasTold", "[Z", true)
  | 5 => ("HotDotsModel", "tape", "[I", true)
  | 6 => ("HotDotsModel", "taped", "I", false)
  | 7 => ("HotDotsModel", "pos", "I", false)
  | 8 => ("HotDotsModel", "begun", "I", false)
  | 9 => ("HotDotsModel", "sort", "I", false)
  | 10 => ("HotDotsModel", "value", "I", false)
  | 11 => ("HotDotsModel", "fault", "I", false)
  | 12 => ("HotDotsModel", "wrongAt", "I", false)
  | 13 => ("HotDotsModel", "waits", "I", false)
  | 14 => ("HotDotsModel", "wrongMany", "I", false)
  | 15 => ("HotDotsModel", "blackMany", "I", false)
  | 16 => ("HotDotsModel", "hottest", "I", false)
  | 17 => ("HotDotsModel", "wrongRows", "I", false)
  | 18 => ("HotDotsModel", "wrongBy", "[I", true)
  | 19 => ("HotDotsModel", "blackNow", "[I", true)
  | 20 => ("HotDotsModel", "got", "[I", true)
  | 21 => ("HotDotsModel", "to", "[I", true)
  | 22 => ("HotDotsModel", "bestCode", "I", false)
  | 23 => ("HotDotsModel", "bestMuch", "I", false)
  | 24 => ("HotDotsModel", "rightSum", "J", false)
  | 25 => ("HotDotsModel", "wrongSum", "J", false)
  | 26 => ("HotDotsModel", "allWays", "J", false)
  | 27 => ("HotDotsModel", "blacks", "[I", true)
  | 28 => ("HotDotsModel", "byPower", "[I", true)
  | 29 => ("HotDotsModel", "lanes", "[I", true)
  | 30 => ("HotDotsModel", "sizes", "[I", true)
  | 31 => ("HotDotsModel", "cells", "[I", true)
  | 32 => ("HotDotsModel", "torn", "I", false)
  | _ => ("HotDotsModel", "before", "[I", true)
def tyX6 : Nat → FieldType := fun k => match k with
  | 0 => .array .int
  | 1 => .array .int
  | 2 => .array .boolean
  | 3 => .array .int
  | 4 => .array .boolean
  | 5 => .array .int
  | 6 => .int
  | 7 => .int
  | 8 => .int
  | 9 => .int
  | 10 => .int
  | 11 => .int
  | 12 => .int
  | 13 => .int
  | 14 => .int
  | 15 => .int
  | 16 => .int
  | 17 => .int
  | 18 => .array .int
  | 19 => .array .int
  | 20 => .array .int
  | 21 => .array .int
  | 22 => .int
  | 23 => .int
  | 24 => .long
  | 25 => .long
  | 26 => .long
  | 27 => .array .int
  | 28 => .array .int
  | 29 => .array .int
  | 30 => .array .int
  | 31 => .array .int
  | 32 => .int
  | _ => .array .int
abbrev wsX60 : List Cond := u_ws RX6 TX6 34
theorem nmX6 : ∀ a, a < 34 → ∀ b, b < 34 → a ≠ b → (TX6 a).2.1 ≠ (TX6 b).2.1 := by decide +kernel
theorem tyX6_ok : ∀ k, k < 34 → parseFieldDescriptor (TX6 k).2.2.1 = some (tyX6 k) := by decide +kernel
abbrev cX6_init : ByteArray := prog_8_method_1_code
def yX6_init : MethodName := ⟨RX6, "<init>", "()V"⟩
abbrev cX6_in : ByteArray := prog_8_method_3_code
def yX6_in : MethodName := ⟨RX6, "in", "(JJJ)Z"⟩
abbrev cX6_flag : ByteArray := prog_8_method_4_code
def yX6_flag : MethodName := ⟨RX6, "flag", "(Z)I"⟩
abbrev cX6_within : ByteArray := prog_8_method_5_code
def yX6_within : MethodName := ⟨RX6, "within", "(II)I"⟩
abbrev cX6_bitsOf : ByteArray := prog_8_method_6_code
def yX6_bitsOf : MethodName := ⟨RX6, "bitsOf", "(I)I"⟩
abbrev cX6_firstDraft : ByteArray := prog_8_method_7_code
def yX6_firstDraft : MethodName := ⟨RX6, "firstDraft", "()V"⟩
abbrev cX6_keepDraft : ByteArray := prog_8_method_8_code
def yX6_keepDraft : MethodName := ⟨RX6, "keepDraft", "()V"⟩
abbrev cX6_feed : ByteArray := prog_8_method_9_code
def yX6_feed : MethodName := ⟨RX6, "feed", "(I)I"⟩
abbrev cX6_end : ByteArray := prog_8_method_10_code
def yX6_end : MethodName := ⟨RX6, "end", "(I)I"⟩
abbrev cX6_requires : ByteArray := prog_8_method_11_code
def yX6_requires : MethodName := ⟨RX6, "requires", "(ZI)V"⟩
abbrev cX6_byteAt : ByteArray := prog_8_method_12_code
def yX6_byteAt : MethodName := ⟨RX6, "byteAt", "(I)I"⟩
abbrev cX6_is : ByteArray := prog_8_method_13_code
def yX6_is : MethodName := ⟨RX6, "is", "(IIIII)Z"⟩
abbrev cX6_endsIn : ByteArray := prog_8_method_14_code
def yX6_endsIn : MethodName := ⟨RX6, "endsIn", "(II)Z"⟩
abbrev cX6_lineNow : ByteArray := prog_8_method_15_code
def yX6_lineNow : MethodName := ⟨RX6, "lineNow", "()I"⟩
abbrev cX6_reads : ByteArray := prog_8_method_16_code
def yX6_reads : MethodName := ⟨RX6, "reads", "()V"⟩
abbrev cX6_readNumber : ByteArray := prog_8_method_17_code
def yX6_readNumber : MethodName := ⟨RX6, "readNumber", "(II)I"⟩
abbrev cX6_readLines : ByteArray := prog_8_method_18_code
def yX6_readLines : MethodName := ⟨RX6, "readLines", "()V"⟩
abbrev cX6_mostOf : ByteArray := prog_8_method_19_code
def yX6_mostOf : MethodName := ⟨RX6, "mostOf", "(I)I"⟩
abbrev cX6_lowOf : ByteArray := prog_8_method_20_code
def yX6_lowOf : MethodName := ⟨RX6, "lowOf", "(I)I"⟩
abbrev cX6_readLineOf : ByteArray := prog_8_method_21_code
def yX6_readLineOf : MethodName := ⟨RX6, "readLineOf", "(I)V"⟩
abbrev cX6_readLine : ByteArray := prog_8_method_22_code
def yX6_readLine : MethodName := ⟨RX6, "readLine", "()V"⟩
abbrev cX6_text : ByteArray := prog_8_method_23_code
def yX6_text : MethodName := ⟨RX6, "text", "()I"⟩
abbrev cX6_fault : ByteArray := prog_8_method_24_code
def yX6_fault : MethodName := ⟨RX6, "fault", "()I"⟩
abbrev cX6_isHead : ByteArray := prog_8_method_25_code
def yX6_isHead : MethodName := ⟨RX6, "isHead", "(I)Z"⟩
abbrev cX6_isDot : ByteArray := prog_8_method_26_code
def yX6_isDot : MethodName := ⟨RX6, "isDot", "(I)Z"⟩
abbrev cX6_isLine : ByteArray := prog_8_method_27_code
def yX6_isLine : MethodName := ⟨RX6, "isLine", "(I)Z"⟩
abbrev cX6_isPart : ByteArray := prog_8_method_28_code
def yX6_isPart : MethodName := ⟨RX6, "isPart", "(I)Z"⟩
abbrev cX6_starts : ByteArray := prog_8_method_29_code
def yX6_starts : MethodName := ⟨RX6, "starts", "()V"⟩
abbrev cX6_settles : ByteArray := prog_8_method_30_code
def yX6_settles : MethodName := ⟨RX6, "settles", "()V"⟩
abbrev cX6_of : ByteArray := prog_8_method_31_code
def yX6_of : MethodName := ⟨RX6, "of", "(II)I"⟩
abbrev cX6_heat : ByteArray := prog_8_method_32_code
def yX6_heat : MethodName := ⟨RX6, "heat", "(II)I"⟩
abbrev cX6_heatBecomes : ByteArray := prog_8_method_33_code
def yX6_heatBecomes : MethodName := ⟨RX6, "heatBecomes", "(III)V"⟩
abbrev cX6_lineAt : ByteArray := prog_8_method_34_code
def yX6_lineAt : MethodName := ⟨RX6, "lineAt", "(I)I"⟩
abbrev cX6_isIn : ByteArray := prog_8_method_35_code
def yX6_isIn : MethodName := ⟨RX6, "isIn", "(II)Z"⟩
abbrev cX6_gets : ByteArray := prog_8_method_36_code
def yX6_gets : MethodName := ⟨RX6, "gets", "(IIII)I"⟩
abbrev cX6_blackOf : ByteArray := prog_8_method_37_code
def yX6_blackOf : MethodName := ⟨RX6, "blackOf", "(I)I"⟩
abbrev cX6_cools : ByteArray := prog_8_method_38_code
def yX6_cools : MethodName := ⟨RX6, "cools", "(I)V"⟩
abbrev cX6_headBurns : ByteArray := prog_8_method_39_code
def yX6_headBurns : MethodName := ⟨RX6, "headBurns", "(IIIZ)V"⟩
abbrev cX6_rowGoes : ByteArray := prog_8_method_40_code
def yX6_rowGoes : MethodName := ⟨RX6, "rowGoes", "(IIZ)V"⟩
abbrev cX6_rowsGo : ByteArray := prog_8_method_41_code
def yX6_rowsGo : MethodName := ⟨RX6, "rowsGo", "(I)V"⟩
abbrev cX6_wrongIn : ByteArray := prog_8_method_42_code
def yX6_wrongIn : MethodName := ⟨RX6, "wrongIn", "(I)I"⟩
abbrev cX6_heatsOf : ByteArray := prog_8_method_43_code
def yX6_heatsOf : MethodName := ⟨RX6, "heatsOf", "(I)I"⟩
abbrev cX6_sumOf : ByteArray := prog_8_method_44_code
def yX6_sumOf : MethodName := ⟨RX6, "sumOf", "(I)I"⟩
abbrev cX6_rule : ByteArray := prog_8_method_45_code
def yX6_rule : MethodName := ⟨RX6, "rule", "(I)I"⟩
abbrev cX6_head : ByteArray := prog_8_method_46_code
def yX6_head : MethodName := ⟨RX6, "head", "(II)I"⟩
abbrev cX6_dot : ByteArray := prog_8_method_47_code
def yX6_dot : MethodName := ⟨RX6, "dot", "(III)I"⟩
abbrev cX6_line : ByteArray := prog_8_method_48_code
def yX6_line : MethodName := ⟨RX6, "line", "(I)I"⟩
abbrev cX6_becomes : ByteArray := prog_8_method_49_code
def yX6_becomes : MethodName := ⟨RX6, "becomes", "(II)I"⟩
abbrev cX6_alter : ByteArray := prog_8_method_50_code
def yX6_alter : MethodName := ⟨RX6, "alter", "(III)I"⟩
abbrev cX6_tell : ByteArray := prog_8_method_51_code
def yX6_tell : MethodName := ⟨RX6, "tell", "(II)I"⟩
abbrev cX6_warm : ByteArray := prog_8_method_52_code
def yX6_warm : MethodName := ⟨RX6, "warm", "(III)I"⟩
abbrev cX6_set : ByteArray := prog_8_method_53_code
def yX6_set : MethodName := ⟨RX6, "set", "(II)I"⟩
abbrev cX6_add : ByteArray := prog_8_method_54_code
def yX6_add : MethodName := ⟨RX6, "add", "(I)I"⟩
abbrev cX6_cut : ByteArray := prog_8_method_55_code
def yX6_cut : MethodName := ⟨RX6, "cut", "(I)I"⟩
abbrev cX6_isFar : ByteArray := prog_8_method_56_code
def yX6_isFar : MethodName := ⟨RX6, "isFar", "(I)Z"⟩
abbrev cX6_burn : ByteArray := prog_8_method_57_code
def yX6_burn : MethodName := ⟨RX6, "burn", "(I)I"⟩
abbrev cX6_runs : ByteArray := prog_8_method_58_code
def yX6_runs : MethodName := ⟨RX6, "runs", "(II)I"⟩
abbrev cX6_black : ByteArray := prog_8_method_59_code
def yX6_black : MethodName := ⟨RX6, "black", "(II)I"⟩
abbrev cX6_ahead : ByteArray := prog_8_method_60_code
def yX6_ahead : MethodName := ⟨RX6, "ahead", "(III)I"⟩
abbrev cX6_when : ByteArray := prog_8_method_61_code
def yX6_when : MethodName := ⟨RX6, "when", "(I)I"⟩
abbrev cX6_startsJudging : ByteArray := prog_8_method_62_code
def yX6_startsJudging : MethodName := ⟨RX6, "startsJudging", "(I)V"⟩
abbrev cX6_judges : ByteArray := prog_8_method_63_code
def yX6_judges : MethodName := ⟨RX6, "judges", "(II)V"⟩
abbrev cX6_judged : ByteArray := prog_8_method_64_code
def yX6_judged : MethodName := ⟨RX6, "judged", "(I)I"⟩
abbrev cX6_bestOf : ByteArray := prog_8_method_65_code
def yX6_bestOf : MethodName := ⟨RX6, "bestOf", "(IIIII)I"⟩
abbrev cX6_power : ByteArray := prog_8_method_66_code
def yX6_power : MethodName := ⟨RX6, "power", "(III)I"⟩
abbrev cX6_kind : ByteArray := prog_8_method_67_code
def yX6_kind : MethodName := ⟨RX6, "kind", "(III)I"⟩
abbrev cX6_best : ByteArray := prog_8_method_68_code
def yX6_best : MethodName := ⟨RX6, "best", "(III)I"⟩
abbrev cX6_swap : ByteArray := prog_8_method_69_code
def yX6_swap : MethodName := ⟨RX6, "swap", "(II)I"⟩
abbrev cX6_rest : ByteArray := prog_8_method_70_code
def yX6_rest : MethodName := ⟨RX6, "rest", "(II)I"⟩
abbrev cX6_common : ByteArray := prog_8_method_71_code
def yX6_common : MethodName := ⟨RX6, "common", "(JJ)J"⟩
abbrev cX6_lowest : ByteArray := prog_8_method_72_code
def yX6_lowest : MethodName := ⟨RX6, "lowest", "(JJI)J"⟩
abbrev cX6_findOdds : ByteArray := prog_8_method_73_code
def yX6_findOdds : MethodName := ⟨RX6, "findOdds", "(III)V"⟩
abbrev cX6_luck : ByteArray := prog_8_method_74_code
def yX6_luck : MethodName := ⟨RX6, "luck", "(IIII)J"⟩
abbrev cX6_mean : ByteArray := prog_8_method_75_code
def yX6_mean : MethodName := ⟨RX6, "mean", "(III)J"⟩
abbrev cX6_see : ByteArray := prog_8_method_76_code
def yX6_see : MethodName := ⟨RX6, "see", "(III)I"⟩
abbrev cX6_forget : ByteArray := prog_8_method_77_code
def yX6_forget : MethodName := ⟨RX6, "forget", "(I)I"⟩
abbrev cX6_isSoWith : ByteArray := prog_8_method_78_code
def yX6_isSoWith : MethodName := ⟨RX6, "isSoWith", "(II)Z"⟩
abbrev cX6_which : ByteArray := prog_8_method_79_code
def yX6_which : MethodName := ⟨RX6, "which", "(III)I"⟩
abbrev cX6_kinds : ByteArray := prog_8_method_80_code
def yX6_kinds : MethodName := ⟨RX6, "kinds", "(I)I"⟩
abbrev cX6_powers : ByteArray := prog_8_method_81_code
def yX6_powers : MethodName := ⟨RX6, "powers", "(I)I"⟩
abbrev cX6_ask : ByteArray := prog_8_method_82_code
def yX6_ask : MethodName := ⟨RX6, "ask", "(II)I"⟩
abbrev cX6_drift : ByteArray := prog_8_method_83_code
def yX6_drift : MethodName := ⟨RX6, "drift", "(III)I"⟩
abbrev cX6_copies : ByteArray := prog_8_method_84_code
def yX6_copies : MethodName := ⟨RX6, "copies", "(II)V"⟩
abbrev cX6_keep : ByteArray := prog_8_method_85_code
def yX6_keep : MethodName := ⟨RX6, "keep", "(I)I"⟩
abbrev cX6_back : ByteArray := prog_8_method_86_code
def yX6_back : MethodName := ⟨RX6, "back", "(I)I"⟩
abbrev cX6_isSheet : ByteArray := prog_8_method_87_code
def yX6_isSheet : MethodName := ⟨RX6, "isSheet", "(II)Z"⟩
abbrev cX6_sheet : ByteArray := prog_8_method_88_code
def yX6_sheet : MethodName := ⟨RX6, "sheet", "(III)I"⟩
abbrev cX6_lay : ByteArray := prog_8_method_89_code
def yX6_lay : MethodName := ⟨RX6, "lay", "(III)I"⟩
abbrev cX6_read : ByteArray := prog_8_method_90_code
def yX6_read : MethodName := ⟨RX6, "read", "(IIII)I"⟩
abbrev cX6_torn : ByteArray := prog_8_method_91_code
def yX6_torn : MethodName := ⟨RX6, "torn", "()I"⟩
abbrev cX6_count : ByteArray := prog_8_method_92_code
def yX6_count : MethodName := ⟨RX6, "count", "(I)I"⟩
def RJ6 : String := "java/lang/Integer"
def TJ6 : u_T := fun k => match k with
  | _ => ("", "", "", false)
def tyJ6 : Nat → FieldType := fun k => match k with
  | _ => .int
abbrev wsJ60 : List Cond := u_ws RJ6 TJ6 0
theorem nmJ6 : ∀ a, a < 0 → ∀ b, b < 0 → a ≠ b → (TJ6 a).2.1 ≠ (TJ6 b).2.1 := by decide +kernel
theorem tyJ6_ok : ∀ k, k < 0 → parseFieldDescriptor (TJ6 k).2.2.1 = some (tyJ6 k) := by decide +kernel
abbrev cJ6_bitCount_0f7a4 : ByteArray := prog_9_method_49_code
def yJ6_bitCount_0f7a4 : MethodName := ⟨RJ6, "bitCount", "(I)I"⟩
def RJ9 : String := "java/lang/Math"
def TJ9 : u_T := fun k => match k with
  | _ => ("", "", "", false)
def tyJ9 : Nat → FieldType := fun k => match k with
  | _ => .int
abbrev wsJ90 : List Cond := u_ws RJ9 TJ9 0
theorem nmJ9 : ∀ a, a < 0 → ∀ b, b < 0 → a ≠ b → (TJ9 a).2.1 ≠ (TJ9 b).2.1 := by decide +kernel
theorem tyJ9_ok : ∀ k, k < 0 → parseFieldDescriptor (TJ9 k).2.2.1 = some (tyJ9 k) := by decide +kernel
abbrev cJ9_max_7cf53 : ByteArray := prog_10_method_65_code
def yJ9_max_7cf53 : MethodName := ⟨RJ9, "max", "(II)I"⟩
abbrev cJ9_min_7cf53 : ByteArray := prog_10_method_69_code
def yJ9_min_7cf53 : MethodName := ⟨RJ9, "min", "(II)I"⟩
def RJ0 : String := "java/lang/String"
def TJ0 : u_T := fun k => match k with
  | _ => ("", "", "", false)
def tyJ0 : Nat → FieldType := fun k => match k with
  | _ => .int
abbrev wsJ00 : List Cond := u_ws RJ0 TJ0 0
theorem nmJ0 : ∀ a, a < 0 → ∀ b, b < 0 → a ≠ b → (TJ0 a).2.1 ≠ (TJ0 b).2.1 := by decide +kernel
theorem tyJ0_ok : ∀ k, k < 0 → parseFieldDescriptor (TJ0 k).2.2.1 = some (tyJ0 k) := by decide +kernel
abbrev cJ0_length_8abf5 : ByteArray := prog_11_method_54_code
def yJ0_length_8abf5 : MethodName := ⟨RJ0, "length", "()I"⟩
abbrev cJ0_charAt_5068e : ByteArray := prog_11_method_56_code
def yJ0_charAt_5068e : MethodName := ⟨RJ0, "charAt", "(I)C"⟩
abbrev cJ0_coder_7d493 : ByteArray := prog_11_method_152_code
def yJ0_coder_7d493 : MethodName := ⟨RJ0, "coder", "()B"⟩
abbrev cJ0_isLatin1_aae02 : ByteArray := prog_11_method_154_code
def yJ0_isLatin1_aae02 : MethodName := ⟨RJ0, "isLatin1", "()Z"⟩
abbrev cJ0_checkIndex_df160 : ByteArray := prog_11_method_155_code
def yJ0_checkIndex_df160 : MethodName := ⟨RJ0, "checkIndex", "(II)V"⟩
def RJ1 : String := "java/lang/StringLatin1"
def TJ1 : u_T := fun k => match k with
  | _ => ("", "", "", false)
def tyJ1 : Nat → FieldType := fun k => match k with
  | _ => .int
abbrev wsJ10 : List Cond := u_ws RJ1 TJ1 0
theorem nmJ1 : ∀ a, a < 0 → ∀ b, b < 0 → a ≠ b → (TJ1 a).2.1 ≠ (TJ1 b).2.1 := by decide +kernel
theorem tyJ1_ok : ∀ k, k < 0 → parseFieldDescriptor (TJ1 k).2.2.1 = some (tyJ1 k) := by decide +kernel
abbrev cJ1_charAt_3b067 : ByteArray := prog_12_method_2_code
def yJ1_charAt_3b067 : MethodName := ⟨RJ1, "charAt", "([BI)C"⟩
def RJ2 : String := "java/lang/StringUTF16"
def TJ2 : u_T := fun k => match k with
  | _ => ("", "", "", false)
def tyJ2 : Nat → FieldType := fun k => match k with
  | _ => .int
abbrev wsJ20 : List Cond := u_ws RJ2 TJ2 0
theorem nmJ2 : ∀ a, a < 0 → ∀ b, b < 0 → a ≠ b → (TJ2 a).2.1 ≠ (TJ2 b).2.1 := by decide +kernel
theorem tyJ2_ok : ∀ k, k < 0 → parseFieldDescriptor (TJ2 k).2.2.1 = some (tyJ2 k) := by decide +kernel
abbrev cJ2_getChar_3b067 : ByteArray := prog_13_method_5_code
def yJ2_getChar_3b067 : MethodName := ⟨RJ2, "getChar", "([BI)C"⟩
abbrev cJ2_length_9d52b : ByteArray := prog_13_method_6_code
def yJ2_length_9d52b : MethodName := ⟨RJ2, "length", "([B)I"⟩
abbrev cJ2_charAt_3b067 : ByteArray := prog_13_method_83_code
def yJ2_charAt_3b067 : MethodName := ⟨RJ2, "charAt", "([BI)C"⟩
abbrev cJ2_checkIndex_2214a : ByteArray := prog_13_method_91_code
def yJ2_checkIndex_2214a : MethodName := ⟨RJ2, "checkIndex", "(I[B)V"⟩
def RJ10 : String := "java/lang/System"
def TJ10 : u_T := fun k => match k with
  | _ => ("", "", "", false)
def tyJ10 : Nat → FieldType := fun k => match k with
  | _ => .int
abbrev wsJ100 : List Cond := u_ws RJ10 TJ10 0
theorem nmJ10 : ∀ a, a < 0 → ∀ b, b < 0 → a ≠ b → (TJ10 a).2.1 ≠ (TJ10 b).2.1 := by decide +kernel
theorem tyJ10_ok : ∀ k, k < 0 → parseFieldDescriptor (TJ10 k).2.2.1 = some (tyJ10 k) := by decide +kernel
def RJ7 : String := "java/util/Arrays"
def TJ7 : u_T := fun k => match k with
  | _ => ("", "", "", false)
def tyJ7 : Nat → FieldType := fun k => match k with
  | _ => .int
abbrev wsJ70 : List Cond := u_ws RJ7 TJ7 0
theorem nmJ7 : ∀ a, a < 0 → ∀ b, b < 0 → a ≠ b → (TJ7 a).2.1 ≠ (TJ7 b).2.1 := by decide +kernel
theorem tyJ7_ok : ∀ k, k < 0 → parseFieldDescriptor (TJ7 k).2.2.1 = some (tyJ7 k) := by decide +kernel
abbrev cJ7_fill_53178 : ByteArray := prog_15_method_103_code
def yJ7_fill_53178 : MethodName := ⟨RJ7, "fill", "([II)V"⟩
def RJ3 : String := "jdk/internal/util/Preconditions"
def TJ3 : u_T := fun k => match k with
  | _ => ("", "", "", false)
def tyJ3 : Nat → FieldType := fun k => match k with
  | _ => .int
abbrev wsJ30 : List Cond := u_ws RJ3 TJ3 0
theorem nmJ3 : ∀ a, a < 0 → ∀ b, b < 0 → a ≠ b → (TJ3 a).2.1 ≠ (TJ3 b).2.1 := by decide +kernel
theorem tyJ3_ok : ∀ k, k < 0 → parseFieldDescriptor (TJ3 k).2.2.1 = some (tyJ3 k) := by decide +kernel
abbrev cJ3_checkIndex_8e157 : ByteArray := prog_16_method_11_code
def yJ3_checkIndex_8e157 : MethodName := ⟨RJ3, "checkIndex", "(IILjava/util/function/BiFunction;)I"⟩
def RL : String := "HotDotsLaw"
abbrev cL_law : ByteArray := code
abbrev vwCl : List vw_C := [(RX0, TX0, 5), (RX1, TX1, 8), (RX2, TX2, 4), (RX3, TX3, 4), (RX4, TX4, 9), (RX5, TX5, 11), (RX6, TX6, 34)]

-- the words that every method takes
def zz_tbl : List Cond := lw_tbl.filter goodWord
theorem zz_in {w : Cond} (i : Nat) (h : tables_1[i]? = some w) (g : goodWord w = true) : w ∈ zz_tbl := List.mem_filter.mpr ⟨List.mem_append_right _ (List.mem_of_getElem? h), g⟩
theorem zz_inS {w : Cond} (i : Nat) (h : (k2_sels lw_privs)[i]? = some w) (g : goodWord w = true) : w ∈ zz_tbl := List.mem_filter.mpr ⟨List.mem_append_left _ (List.mem_of_getElem? h), g⟩
theorem zz_ins (ws : List Cond) (h : ws.all (fun w => decide (w ∈ tables_1) && goodWord w) = true) : ∀ w ∈ ws, w ∈ zz_tbl := by
  intro w hw
  have h1 := List.all_eq_true.mp h w hw
  rw [Bool.and_eq_true, decide_eq_true_eq] at h1
  exact List.mem_filter.mpr ⟨List.mem_append_right _ h1.1, h1.2⟩
theorem zz_good : GoodIn zz_tbl zz_tbl := fun w hw => ⟨hw, good_of_word (List.mem_filter.mp hw).2⟩

theorem zz_u0 : ∀ w ∈ u_ws RX0 TX0 5, w ∈ zz_tbl := zz_ins _ (by decide +kernel)
theorem zz_u1 : ∀ w ∈ u_ws RX1 TX1 8, w ∈ zz_tbl := zz_ins _ (by decide +kernel)
theorem zz_u2 : ∀ w ∈ u_ws RX2 TX2 4, w ∈ zz_tbl := zz_ins _ (by decide +kernel)
theorem zz_u3 : ∀ w ∈ u_ws RX3 TX3 4, w ∈ zz_tbl := zz_ins _ (by decide +kernel)
theorem zz_u4 : ∀ w ∈ u_ws RX4 TX4 9, w ∈ zz_tbl := zz_ins _ (by decide +kernel)
theorem zz_u5 : ∀ w ∈ u_ws RX5 TX5 11, w ∈ zz_tbl := zz_ins _ (by decide +kernel)
theorem zz_u6 : ∀ w ∈ u_ws RX6 TX6 34, w ∈ zz_tbl := zz_ins _ (by decide +kernel)
end
section
theorem dX0_init_0 : decode cX0_init 0 = .ok (.aload_n 0, 1) := by decide +kernel
theorem dX0_init_1 : decode cX0_init 1 = .ok (.invokespecial 3, 3) := by decide +kernel
theorem dX0_init_4 : decode cX0_init 4 = .ok (.aload_n 0, 1) := by decide +kernel
theorem dX0_init_5 : decode cX0_init 5 = .ok (.bipush 8, 2) := by decide +kernel
theorem dX0_init_7 : decode cX0_init 7 = .ok (.newarray .int, 2) := by decide +kernel
theorem dX0_init_9 : decode cX0_init 9 = .ok (.putfield 9, 3) := by decide +kernel
theorem dX0_init_12 : decode cX0_init 12 = .ok (.aload_n 0, 1) := by decide +kernel
theorem dX0_init_13 : decode cX0_init 13 = .ok (.bipush 8, 2) := by decide +kernel
theorem dX0_init_15 : decode cX0_init 15 = .ok (.newarray .int, 2) := by decide +kernel
theorem dX0_init_17 : decode cX0_init 17 = .ok (.putfield 15, 3) := by decide +kernel
theorem dX0_init_20 : decode cX0_init 20 = .ok (.return_, 1) := by decide +kernel
theorem dX0_begin_0 : decode cX0_begin 0 = .ok (.aload_n 0, 1) := by decide +kernel
theorem dX0_begin_1 : decode cX0_begin 1 = .ok (.iload_n 1, 1) := by decide +kernel
theorem dX0_begin_2 : decode cX0_begin 2 = .ok (.putfield 18, 3) := by decide +kernel
theorem dX0_begin_5 : decode cX0_begin 5 = .ok (.aload_n 0, 1) := by decide +kernel
theorem dX0_begin_6 : decode cX0_begin 6 = .ok (.iload_n 2, 1) := by decide +kernel
theorem dX0_begin_7 : decode cX0_begin 7 = .ok (.putfield 22, 3) := by decide +kernel
theorem dX0_begin_10 : decode cX0_begin 10 = .ok (.aload_n 0, 1) := by decide +kernel
theorem dX0_begin_11 : decode cX0_begin 11 = .ok (.iconst 0, 1) := by decide +kernel
theorem dX0_begin_12 : decode cX0_begin 12 = .ok (.putfield 25, 3) := by decide +kernel
theorem dX0_begin_15 : decode cX0_begin 15 = .ok (.aload_n 0, 1) := by decide +kernel
theorem dX0_begin_16 : decode cX0_begin 16 = .ok (.getfield 9, 3) := by decide +kernel
theorem dX0_begin_19 : decode cX0_begin 19 = .ok (.iconst 0, 1) := by decide +kernel
theorem dX0_begin_20 : decode cX0_begin 20 = .ok (.invokestatic 28, 3) := by decide +kernel
theorem dX0_begin_23 : decode cX0_begin 23 = .ok (.return_, 1) := by decide +kernel
theorem dX0_copyFrom_0 : decode cX0_copyFrom 0 = .ok (.aload_n 0, 1) := by decide +kernel
theorem dX0_copyFrom_1 : decode cX0_copyFrom 1 = .ok (.aload_n 1, 1) := by decide +kernel
theorem dX0_copyFrom_2 : decode cX0_copyFrom 2 = .ok (.getfield 18, 3) := by decide +kernel
theorem dX0_copyFrom_5 : decode cX0_copyFrom 5 = .ok (.putfield 18, 3) := by decide +kernel
theorem dX0_copyFrom_8 : decode cX0_copyFrom 8 = .ok (.aload_n 0, 1) := by decide +kernel
theorem dX0_copyFrom_9 : decode cX0_copyFrom 9 = .ok (.aload_n 1, 1) := by decide +kernel
theorem dX0_copyFrom_10 : decode cX0_copyFrom 10 = .ok (.getfield 22, 3) := by decide +kernel
theorem dX0_copyFrom_13 : decode cX0_copyFrom 13 = .ok (.putfield 22, 3) := by decide +kernel
theorem dX0_copyFrom_16 : decode cX0_copyFrom 16 = .ok (.aload_n 0, 1) := by decide +kernel
theorem dX0_copyFrom_17 : decode cX0_copyFrom 17 = .ok (.aload_n 1, 1) := by decide +kernel
theorem dX0_copyFrom_18 : decode cX0_copyFrom 18 = .ok (.getfield 25, 3) := by decide +kernel
theorem dX0_copyFrom_21 : decode cX0_copyFrom 21 = .ok (.putfield 25, 3) := by decide +kernel
theorem dX0_copyFrom_24 : decode cX0_copyFrom 24 = .ok (.aload_n 1, 1) := by decide +kernel
theorem dX0_copyFrom_25 : decode cX0_copyFrom 25 = .ok (.getfield 9, 3) := by decide +kernel
theorem dX0_copyFrom_28 : decode cX0_copyFrom 28 = .ok (.iconst 0, 1) := by decide +kernel
theorem dX0_copyFrom_29 : decode cX0_copyFrom 29 = .ok (.aload_n 0, 1) := by decide +kernel
theorem dX0_copyFrom_30 : decode cX0_copyFrom 30 = .ok (.getfield 9, 3) := by decide +kernel
theorem dX0_copyFrom_33 : decode cX0_copyFrom 33 = .ok (.iconst 0, 1) := by decide +kernel
theorem dX0_copyFrom_34 : decode cX0_copyFrom 34 = .ok (.bipush 8, 2) := by decide +kernel
theorem dX0_copyFrom_36 : decode cX0_copyFrom 36 = .ok (.invokestatic 34, 3) := by decide +kernel
theorem dX0_copyFrom_39 : decode cX0_copyFrom 39 = .ok (.return_, 1) := by decide +kernel
theorem dX0_drive_0 : decode cX0_drive 0 = .ok (.iload_n 1, 1) := by decide +kernel
theorem dX0_drive_1 : decode cX0_drive 1 = .ok (.ifCond .ne 11, 3) := by decide +kernel
theorem dX0_drive_4 : decode cX0_drive 4 = .ok (.aload_n 0, 1) := by decide +kernel
theorem dX0_drive_5 : decode cX0_drive 5 = .ok (.iload_n 2, 1) := by decide +kernel
theorem dX0_drive_6 : decode cX0_drive 6 = .ok (.putfield 18, 3) := by decide +kernel
theorem dX0_drive_9 : decode cX0_drive 9 = .ok (.goto 8, 3) := by decide +kernel
theorem dX0_drive_12 : decode cX0_drive 12 = .ok (.aload_n 0, 1) := by decide +kernel
theorem dX0_drive_13 : decode cX0_drive 13 = .ok (.iload_n 2, 1) := by decide +kernel
theorem dX0_drive_14 : decode cX0_drive 14 = .ok (.putfield 22, 3) := by decide +kernel
theorem dX0_drive_17 : decode cX0_drive 17 = .ok (.return_, 1) := by decide +kernel
theorem dX0_heatSum_0 : decode cX0_heatSum 0 = .ok (.iconst 0, 1) := by decide +kernel
theorem dX0_heatSum_1 : decode cX0_heatSum 1 = .ok (.istore_n 1, 1) := by decide +kernel
theorem dX0_heatSum_2 : decode cX0_heatSum 2 = .ok (.iconst 0, 1) := by decide +kernel
theorem dX0_heatSum_3 : decode cX0_heatSum 3 = .ok (.istore_n 2, 1) := by decide +kernel
theorem dX0_heatSum_4 : decode cX0_heatSum 4 = .ok (.iload_n 2, 1) := by decide +kernel
theorem dX0_heatSum_5 : decode cX0_heatSum 5 = .ok (.bipush 8, 2) := by decide +kernel
theorem dX0_heatSum_7 : decode cX0_heatSum 7 = .ok (.if_icmp .ge 18, 3) := by decide +kernel
theorem dX0_heatSum_10 : decode cX0_heatSum 10 = .ok (.iload_n 1, 1) := by decide +kernel
theorem dX0_heatSum_11 : decode cX0_heatSum 11 = .ok (.aload_n 0, 1) := by decide +kernel
theorem dX0_heatSum_12 : decode cX0_heatSum 12 = .ok (.getfield 9, 3) := by decide +kernel
theorem dX0_heatSum_15 : decode cX0_heatSum 15 = .ok (.iload_n 2, 1) := by decide +kernel
theorem dX0_heatSum_16 : decode cX0_heatSum 16 = .ok (.iaload, 1) := by decide +kernel
theorem dX0_heatSum_17 : decode cX0_heatSum 17 = .ok (.iadd, 1) := by decide +kernel
theorem dX0_heatSum_18 : decode cX0_heatSum 18 = .ok (.istore_n 1, 1) := by decide +kernel
theorem dX0_heatSum_19 : decode cX0_heatSum 19 = .ok (.iinc 2 1, 3) := by decide +kernel
theorem dX0_heatSum_22 : decode cX0_heatSum 22 = .ok (.goto (-18), 3) := by decide +kernel
theorem dX0_heatSum_25 : decode cX0_heatSum 25 = .ok (.iload_n 1, 1) := by decide +kernel
theorem dX0_heatSum_26 : decode cX0_heatSum 26 = .ok (.ireturn, 1) := by decide +kernel
theorem dX0_gain_0 : decode cX0_gain 0 = .ok (.iload_n 2, 1) := by decide +kernel
theorem dX0_gain_1 : decode cX0_gain 1 = .ok (.iload_n 1, 1) := by decide +kernel
theorem dX0_gain_2 : decode cX0_gain 2 = .ok (.ishr, 1) := by decide +kernel
theorem dX0_gain_3 : decode cX0_gain 3 = .ok (.iconst 1, 1) := by decide +kernel
theorem dX0_gain_4 : decode cX0_gain 4 = .ok (.iand, 1) := by decide +kernel
theorem dX0_gain_5 : decode cX0_gain 5 = .ok (.ifCond .ne 31, 3) := by decide +kernel
theorem dX0_gain_8 : decode cX0_gain 8 = .ok (.aload_n 0, 1) := by decide +kernel
theorem dX0_gain_9 : decode cX0_gain 9 = .ok (.getfield 18, 3) := by decide +kernel
theorem dX0_gain_12 : decode cX0_gain 12 = .ok (.iconst 3, 1) := by decide +kernel
theorem dX0_gain_13 : decode cX0_gain 13 = .ok (.if_icmp .ne 21, 3) := by decide +kernel
theorem dX0_gain_16 : decode cX0_gain 16 = .ok (.iload_n 3, 1) := by decide +kernel
theorem dX0_gain_17 : decode cX0_gain 17 = .ok (.iload_n 1, 1) := by decide +kernel
theorem dX0_gain_18 : decode cX0_gain 18 = .ok (.ishr, 1) := by decide +kernel
theorem dX0_gain_19 : decode cX0_gain 19 = .ok (.iconst 1, 1) := by decide +kernel
theorem dX0_gain_20 : decode cX0_gain 20 = .ok (.iand, 1) := by decide +kernel
theorem dX0_gain_21 : decode cX0_gain 21 = .ok (.iconst 1, 1) := by decide +kernel
theorem dX0_gain_22 : decode cX0_gain 22 = .ok (.if_icmp .ne 12, 3) := by decide +kernel
theorem dX0_gain_25 : decode cX0_gain 25 = .ok (.aload_n 0, 1) := by decide +kernel
theorem dX0_gain_26 : decode cX0_gain 26 = .ok (.getfield 22, 3) := by decide +kernel
theorem dX0_gain_29 : decode cX0_gain 29 = .ok (.iconst 3, 1) := by decide +kernel
theorem dX0_gain_30 : decode cX0_gain 30 = .ok (.idiv, 1) := by decide +kernel
theorem dX0_gain_31 : decode cX0_gain 31 = .ok (.goto 4, 3) := by decide +kernel
theorem dX0_gain_34 : decode cX0_gain 34 = .ok (.iconst 0, 1) := by decide +kernel
theorem dX0_gain_35 : decode cX0_gain 35 = .ok (.ireturn, 1) := by decide +kernel
theorem dX0_gain_36 : decode cX0_gain 36 = .ok (.aload_n 0, 1) := by decide +kernel
theorem dX0_gain_37 : decode cX0_gain 37 = .ok (.getfield 22, 3) := by decide +kernel
theorem dX0_gain_40 : decode cX0_gain 40 = .ok (.istore 4, 2) := by decide +kernel
theorem dX0_gain_42 : decode cX0_gain 42 = .ok (.aload_n 0, 1) := by decide +kernel
theorem dX0_gain_43 : decode cX0_gain 43 = .ok (.getfield 18, 3) := by decide +kernel
theorem dX0_gain_46 : decode cX0_gain 46 = .ok (.iconst 1, 1) := by decide +kernel
theorem dX0_gain_47 : decode cX0_gain 47 = .ok (.if_icmp .eq 11, 3) := by decide +kernel
theorem dX0_gain_50 : decode cX0_gain 50 = .ok (.aload_n 0, 1) := by decide +kernel
theorem dX0_gain_51 : decode cX0_gain 51 = .ok (.getfield 18, 3) := by decide +kernel
theorem dX0_gain_54 : decode cX0_gain 54 = .ok (.iconst 2, 1) := by decide +kernel
theorem dX0_gain_55 : decode cX0_gain 55 = .ok (.if_icmp .ne 16, 3) := by decide +kernel
theorem dX0_gain_58 : decode cX0_gain 58 = .ok (.iload 4, 2) := by decide +kernel
theorem dX0_gain_60 : decode cX0_gain 60 = .ok (.aload_n 0, 1) := by decide +kernel
theorem dX0_gain_61 : decode cX0_gain 61 = .ok (.getfield 9, 3) := by decide +kernel
theorem dX0_gain_64 : decode cX0_gain 64 = .ok (.iload_n 1, 1) := by decide +kernel
theorem dX0_gain_65 : decode cX0_gain 65 = .ok (.iaload, 1) := by decide +kernel
theorem dX0_gain_66 : decode cX0_gain 66 = .ok (.iconst 4, 1) := by decide +kernel
theorem dX0_gain_67 : decode cX0_gain 67 = .ok (.idiv, 1) := by decide +kernel
theorem dX0_gain_68 : decode cX0_gain 68 = .ok (.isub, 1) := by decide +kernel
theorem dX0_gain_69 : decode cX0_gain 69 = .ok (.istore 4, 2) := by decide +kernel
theorem dX0_gain_71 : decode cX0_gain 71 = .ok (.aload_n 0, 1) := by decide +kernel
theorem dX0_gain_72 : decode cX0_gain 72 = .ok (.getfield 18, 3) := by decide +kernel
theorem dX0_gain_75 : decode cX0_gain 75 = .ok (.iconst 2, 1) := by decide +kernel
theorem dX0_gain_76 : decode cX0_gain 76 = .ok (.if_icmp .ne 21, 3) := by decide +kernel
theorem dX0_gain_79 : decode cX0_gain 79 = .ok (.iload_n 2, 1) := by decide +kernel
theorem dX0_gain_80 : decode cX0_gain 80 = .ok (.iconst 1, 1) := by decide +kernel
theorem dX0_gain_81 : decode cX0_gain 81 = .ok (.ishl, 1) := by decide +kernel
theorem dX0_gain_82 : decode cX0_gain 82 = .ok (.iload_n 2, 1) := by decide +kernel
theorem dX0_gain_83 : decode cX0_gain 83 = .ok (.iconst 1, 1) := by decide +kernel
theorem dX0_gain_84 : decode cX0_gain 84 = .ok (.ishr, 1) := by decide +kernel
theorem dX0_gain_85 : decode cX0_gain 85 = .ok (.iand, 1) := by decide +kernel
theorem dX0_gain_86 : decode cX0_gain 86 = .ok (.iload_n 1, 1) := by decide +kernel
theorem dX0_gain_87 : decode cX0_gain 87 = .ok (.ishr, 1) := by decide +kernel
theorem dX0_gain_88 : decode cX0_gain 88 = .ok (.iconst 1, 1) := by decide +kernel
theorem dX0_gain_89 : decode cX0_gain 89 = .ok (.iand, 1) := by decide +kernel
theorem dX0_gain_90 : decode cX0_gain 90 = .ok (.iconst 1, 1) := by decide +kernel
theorem dX0_gain_91 : decode cX0_gain 91 = .ok (.if_icmp .ne 6, 3) := by decide +kernel
theorem dX0_gain_94 : decode cX0_gain 94 = .ok (.iinc 4 (-2), 3) := by decide +kernel
theorem dX0_gain_97 : decode cX0_gain 97 = .ok (.iload 4, 2) := by decide +kernel
theorem dX0_gain_99 : decode cX0_gain 99 = .ok (.ifCond .ge 7, 3) := by decide +kernel
theorem dX0_gain_102 : decode cX0_gain 102 = .ok (.iconst 0, 1) := by decide +kernel
theorem dX0_gain_103 : decode cX0_gain 103 = .ok (.goto 5, 3) := by decide +kernel
theorem dX0_gain_106 : decode cX0_gain 106 = .ok (.iload 4, 2) := by decide +kernel
theorem dX0_gain_108 : decode cX0_gain 108 = .ok (.ireturn, 1) := by decide +kernel
theorem dX0_burnLine_0 : decode cX0_burnLine 0 = .ok (.iconst 0, 1) := by decide +kernel
theorem dX0_burnLine_1 : decode cX0_burnLine 1 = .ok (.istore 5, 2) := by decide +kernel
theorem dX0_burnLine_3 : decode cX0_burnLine 3 = .ok (.iconst 0, 1) := by decide +kernel
theorem dX0_burnLine_4 : decode cX0_burnLine 4 = .ok (.istore 6, 2) := by decide +kernel
theorem dX0_burnLine_6 : decode cX0_burnLine 6 = .ok (.iload 6, 2) := by decide +kernel
theorem dX0_burnLine_8 : decode cX0_burnLine 8 = .ok (.bipush 8, 2) := by decide +kernel
theorem dX0_burnLine_10 : decode cX0_burnLine 10 = .ok (.if_icmp .ge 75, 3) := by decide +kernel
theorem dX0_burnLine_13 : decode cX0_burnLine 13 = .ok (.iload 4, 2) := by decide +kernel
theorem dX0_burnLine_15 : decode cX0_burnLine 15 = .ok (.ifCond .eq 14, 3) := by decide +kernel
theorem dX0_burnLine_18 : decode cX0_burnLine 18 = .ok (.aload_n 0, 1) := by decide +kernel
theorem dX0_burnLine_19 : decode cX0_burnLine 19 = .ok (.iload 6, 2) := by decide +kernel
theorem dX0_burnLine_21 : decode cX0_burnLine 21 = .ok (.iload_n 2, 1) := by decide +kernel
theorem dX0_burnLine_22 : decode cX0_burnLine 22 = .ok (.iload_n 3, 1) := by decide +kernel
theorem dX0_burnLine_23 : decode cX0_burnLine 23 = .ok (.invokevirtual 40, 3) := by decide +kernel
theorem dX0_burnLine_26 : decode cX0_burnLine 26 = .ok (.goto 4, 3) := by decide +kernel
theorem dX0_burnLine_29 : decode cX0_burnLine 29 = .ok (.iconst 0, 1) := by decide +kernel
theorem dX0_burnLine_30 : decode cX0_burnLine 30 = .ok (.istore 7, 2) := by decide +kernel
theorem dX0_burnLine_32 : decode cX0_burnLine 32 = .ok (.aload_n 0, 1) := by decide +kernel
theorem dX0_burnLine_33 : decode cX0_burnLine 33 = .ok (.getfield 15, 3) := by decide +kernel
theorem dX0_burnLine_36 : decode cX0_burnLine 36 = .ok (.iload 6, 2) := by decide +kernel
theorem dX0_burnLine_38 : decode cX0_burnLine 38 = .ok (.aload_n 0, 1) := by decide +kernel
theorem dX0_burnLine_39 : decode cX0_burnLine 39 = .ok (.getfield 9, 3) := by decide +kernel
theorem dX0_burnLine_42 : decode cX0_burnLine 42 = .ok (.iload 6, 2) := by decide +kernel
theorem dX0_burnLine_44 : decode cX0_burnLine 44 = .ok (.iaload, 1) := by decide +kernel
theorem dX0_burnLine_45 : decode cX0_burnLine 45 = .ok (.iload 7, 2) := by decide +kernel
theorem dX0_burnLine_47 : decode cX0_burnLine 47 = .ok (.iadd, 1) := by decide +kernel
theorem dX0_burnLine_48 : decode cX0_burnLine 48 = .ok (.bipush 99, 2) := by decide +kernel
theorem dX0_burnLine_50 : decode cX0_burnLine 50 = .ok (.invokestatic 44, 3) := by decide +kernel
theorem dX0_burnLine_53 : decode cX0_burnLine 53 = .ok (.iastore, 1) := by decide +kernel
theorem dX0_burnLine_54 : decode cX0_burnLine 54 = .ok (.aload_n 0, 1) := by decide +kernel
theorem dX0_burnLine_55 : decode cX0_burnLine 55 = .ok (.getfield 15, 3) := by decide +kernel
theorem dX0_burnLine_58 : decode cX0_burnLine 58 = .ok (.iload 6, 2) := by decide +kernel
theorem dX0_burnLine_60 : decode cX0_burnLine 60 = .ok (.iaload, 1) := by decide +kernel
theorem dX0_burnLine_61 : decode cX0_burnLine 61 = .ok (.aload_n 1, 1) := by decide +kernel
theorem dX0_burnLine_62 : decode cX0_burnLine 62 = .ok (.getfield 50, 3) := by decide +kernel
theorem dX0_burnLine_65 : decode cX0_burnLine 65 = .ok (.iconst 0, 1) := by decide +kernel
theorem dX0_burnLine_66 : decode cX0_burnLine 66 = .ok (.iaload, 1) := by decide +kernel
theorem dX0_burnLine_67 : decode cX0_burnLine 67 = .ok (.if_icmp .lt 12, 3) := by decide +kernel
theorem dX0_burnLine_70 : decode cX0_burnLine 70 = .ok (.iload 5, 2) := by decide +kernel
theorem dX0_burnLine_72 : decode cX0_burnLine 72 = .ok (.iconst 1, 1) := by decide +kernel
theorem dX0_burnLine_73 : decode cX0_burnLine 73 = .ok (.iload 6, 2) := by decide +kernel
theorem dX0_burnLine_75 : decode cX0_burnLine 75 = .ok (.ishl, 1) := by decide +kernel
theorem dX0_burnLine_76 : decode cX0_burnLine 76 = .ok (.ior, 1) := by decide +kernel
theorem dX0_burnLine_77 : decode cX0_burnLine 77 = .ok (.istore 5, 2) := by decide +kernel
theorem dX0_burnLine_79 : decode cX0_burnLine 79 = .ok (.iinc 6 1, 3) := by decide +kernel
theorem dX0_burnLine_82 : decode cX0_burnLine 82 = .ok (.goto (-76), 3) := by decide +kernel
theorem dX0_burnLine_85 : decode cX0_burnLine 85 = .ok (.aload_n 0, 1) := by decide +kernel
theorem dX0_burnLine_86 : decode cX0_burnLine 86 = .ok (.aload_n 0, 1) := by decide +kernel
theorem dX0_burnLine_87 : decode cX0_burnLine 87 = .ok (.getfield 25, 3) := by decide +kernel
theorem dX0_burnLine_90 : decode cX0_burnLine 90 = .ok (.iload 5, 2) := by decide +kernel
theorem dX0_burnLine_92 : decode cX0_burnLine 92 = .ok (.iload_n 2, 1) := by decide +kernel
theorem dX0_burnLine_93 : decode cX0_burnLine 93 = .ok (.ixor, 1) := by decide +kernel
theorem dX0_burnLine_94 : decode cX0_burnLine 94 = .ok (.invokestatic 55, 3) := by decide +kernel
theorem dX0_burnLine_97 : decode cX0_burnLine 97 = .ok (.iadd, 1) := by decide +kernel
theorem dX0_burnLine_98 : decode cX0_burnLine 98 = .ok (.sipush 9999, 3) := by decide +kernel
theorem dX0_burnLine_101 : decode cX0_burnLine 101 = .ok (.invokestatic 44, 3) := by decide +kernel
theorem dX0_burnLine_104 : decode cX0_burnLine 104 = .ok (.putfield 25, 3) := by decide +kernel
theorem dX0_burnLine_107 : decode cX0_burnLine 107 = .ok (.aload_n 0, 1) := by decide +kernel
theorem dX0_burnLine_108 : decode cX0_burnLine 108 = .ok (.aload_n 1, 1) := by decide +kernel
theorem dX0_burnLine_109 : decode cX0_burnLine 109 = .ok (.getfield 50, 3) := by decide +kernel
theorem dX0_burnLine_112 : decode cX0_burnLine 112 = .ok (.iconst 1, 1) := by decide +kernel
theorem dX0_burnLine_113 : decode cX0_burnLine 113 = .ok (.iaload, 1) := by decide +kernel
theorem dX0_burnLine_114 : decode cX0_burnLine 114 = .ok (.aload_n 1, 1) := by decide +kernel
theorem dX0_burnLine_115 : decode cX0_burnLine 115 = .ok (.getfield 50, 3) := by decide +kernel
theorem dX0_burnLine_118 : decode cX0_burnLine 118 = .ok (.iconst 2, 1) := by decide +kernel
theorem dX0_burnLine_119 : decode cX0_burnLine 119 = .ok (.iaload, 1) := by decide +kernel
theorem dX0_burnLine_120 : decode cX0_burnLine 120 = .ok (.invokevirtual 61, 3) := by decide +kernel
theorem dX0_burnLine_123 : decode cX0_burnLine 123 = .ok (.iload 5, 2) := by decide +kernel
theorem dX0_burnLine_125 : decode cX0_burnLine 125 = .ok (.ireturn, 1) := by decide +kernel
theorem dX0_settle_0 : decode cX0_settle 0 = .ok (.iconst 0, 1) := by decide +kernel
theorem dX0_settle_1 : decode cX0_settle 1 = .ok (.istore_n 3, 1) := by decide +kernel
theorem dX0_settle_2 : decode cX0_settle 2 = .ok (.iconst 0, 1) := by decide +kernel
theorem dX0_settle_3 : decode cX0_settle 3 = .ok (.istore 4, 2) := by decide +kernel
theorem dX0_settle_5 : decode cX0_settle 5 = .ok (.iload 4, 2) := by decide +kernel
theorem dX0_settle_7 : decode cX0_settle 7 = .ok (.bipush 8, 2) := by decide +kernel
theorem dX0_settle_9 : decode cX0_settle 9 = .ok (.if_icmp .ge 95, 3) := by decide +kernel
theorem dX0_settle_12 : decode cX0_settle 12 = .ok (.iload 4, 2) := by decide +kernel
theorem dX0_settle_14 : decode cX0_settle 14 = .ok (.iconst 1, 1) := by decide +kernel
theorem dX0_settle_15 : decode cX0_settle 15 = .ok (.iadd, 1) := by decide +kernel
theorem dX0_settle_16 : decode cX0_settle 16 = .ok (.bipush 8, 2) := by decide +kernel
theorem dX0_settle_18 : decode cX0_settle 18 = .ok (.if_icmp .ge 28, 3) := by decide +kernel
theorem dX0_settle_21 : decode cX0_settle 21 = .ok (.aload_n 0, 1) := by decide +kernel
theorem dX0_settle_22 : decode cX0_settle 22 = .ok (.getfield 15, 3) := by decide +kernel
theorem dX0_settle_25 : decode cX0_settle 25 = .ok (.iload 4, 2) := by decide +kernel
theorem dX0_settle_27 : decode cX0_settle 27 = .ok (.iaload, 1) := by decide +kernel
theorem dX0_settle_28 : decode cX0_settle 28 = .ok (.aload_n 0, 1) := by decide +kernel
theorem dX0_settle_29 : decode cX0_settle 29 = .ok (.getfield 15, 3) := by decide +kernel
theorem dX0_settle_32 : decode cX0_settle 32 = .ok (.iload 4, 2) := by decide +kernel
theorem dX0_settle_34 : decode cX0_settle 34 = .ok (.iconst 1, 1) := by decide +kernel
theorem dX0_settle_35 : decode cX0_settle 35 = .ok (.iadd, 1) := by decide +kernel
theorem dX0_settle_36 : decode cX0_settle 36 = .ok (.iaload, 1) := by decide +kernel
theorem dX0_settle_37 : decode cX0_settle 37 = .ok (.isub, 1) := by decide +kernel
theorem dX0_settle_38 : decode cX0_settle 38 = .ok (.iload_n 2, 1) := by decide +kernel
theorem dX0_settle_39 : decode cX0_settle 39 = .ok (.imul, 1) := by decide +kernel
theorem dX0_settle_40 : decode cX0_settle 40 = .ok (.bipush 8, 2) := by decide +kernel
theorem dX0_settle_42 : decode cX0_settle 42 = .ok (.idiv, 1) := by decide +kernel
theorem dX0_settle_43 : decode cX0_settle 43 = .ok (.goto 4, 3) := by decide +kernel
theorem dX0_settle_46 : decode cX0_settle 46 = .ok (.iconst 0, 1) := by decide +kernel
theorem dX0_settle_47 : decode cX0_settle 47 = .ok (.istore 5, 2) := by decide +kernel
theorem dX0_settle_49 : decode cX0_settle 49 = .ok (.aload_n 0, 1) := by decide +kernel
theorem dX0_settle_50 : decode cX0_settle 50 = .ok (.getfield 15, 3) := by decide +kernel
theorem dX0_settle_53 : decode cX0_settle 53 = .ok (.iload 4, 2) := by decide +kernel
theorem dX0_settle_55 : decode cX0_settle 55 = .ok (.iaload, 1) := by decide +kernel
theorem dX0_settle_56 : decode cX0_settle 56 = .ok (.iload_n 3, 1) := by decide +kernel
theorem dX0_settle_57 : decode cX0_settle 57 = .ok (.iadd, 1) := by decide +kernel
theorem dX0_settle_58 : decode cX0_settle 58 = .ok (.iload 5, 2) := by decide +kernel
theorem dX0_settle_60 : decode cX0_settle 60 = .ok (.isub, 1) := by decide +kernel
theorem dX0_settle_61 : decode cX0_settle 61 = .ok (.iload_n 1, 1) := by decide +kernel
theorem dX0_settle_62 : decode cX0_settle 62 = .ok (.isub, 1) := by decide +kernel
theorem dX0_settle_63 : decode cX0_settle 63 = .ok (.istore 6, 2) := by decide +kernel
theorem dX0_settle_65 : decode cX0_settle 65 = .ok (.aload_n 0, 1) := by decide +kernel
theorem dX0_settle_66 : decode cX0_settle 66 = .ok (.getfield 9, 3) := by decide +kernel
theorem dX0_settle_69 : decode cX0_settle 69 = .ok (.iload 4, 2) := by decide +kernel
theorem dX0_settle_71 : decode cX0_settle 71 = .ok (.iload 6, 2) := by decide +kernel
theorem dX0_settle_73 : decode cX0_settle 73 = .ok (.ifCond .ge 7, 3) := by decide +kernel
theorem dX0_settle_76 : decode cX0_settle 76 = .ok (.iconst 0, 1) := by decide +kernel
theorem dX0_settle_77 : decode cX0_settle 77 = .ok (.goto 17, 3) := by decide +kernel
theorem dX0_settle_80 : decode cX0_settle 80 = .ok (.iload 6, 2) := by decide +kernel
theorem dX0_settle_82 : decode cX0_settle 82 = .ok (.bipush 99, 2) := by decide +kernel
theorem dX0_settle_84 : decode cX0_settle 84 = .ok (.if_icmp .le 8, 3) := by decide +kernel
theorem dX0_settle_87 : decode cX0_settle 87 = .ok (.bipush 99, 2) := by decide +kernel
theorem dX0_settle_89 : decode cX0_settle 89 = .ok (.goto 5, 3) := by decide +kernel
theorem dX0_settle_92 : decode cX0_settle 92 = .ok (.iload 6, 2) := by decide +kernel
theorem dX0_settle_94 : decode cX0_settle 94 = .ok (.iastore, 1) := by decide +kernel
theorem dX0_settle_95 : decode cX0_settle 95 = .ok (.iload 5, 2) := by decide +kernel
theorem dX0_settle_97 : decode cX0_settle 97 = .ok (.istore_n 3, 1) := by decide +kernel
theorem dX0_settle_98 : decode cX0_settle 98 = .ok (.iinc 4 1, 3) := by decide +kernel
theorem dX0_settle_101 : decode cX0_settle 101 = .ok (.goto (-96), 3) := by decide +kernel
theorem dX0_settle_104 : decode cX0_settle 104 = .ok (.return_, 1) := by decide +kernel
theorem dX1_init_0 : decode cX1_init 0 = .ok (.aload_n 0, 1) := by decide +kernel
theorem dX1_init_1 : decode cX1_init 1 = .ok (.invokespecial 3, 3) := by decide +kernel
theorem dX1_init_4 : decode cX1_init 4 = .ok (.aload_n 0, 1) := by decide +kernel
theorem dX1_init_5 : decode cX1_init 5 = .ok (.iconst 3, 1) := by decide +kernel
theorem dX1_init_6 : decode cX1_init 6 = .ok (.anewarray 9, 3) := by decide +kernel
theorem dX1_init_9 : decode cX1_init 9 = .ok (.putfield 11, 3) := by decide +kernel
theorem dX1_init_12 : decode cX1_init 12 = .ok (.aload_n 0, 1) := by decide +kernel
theorem dX1_init_13 : decode cX1_init 13 = .ok (.bipush 12, 2) := by decide +kernel
theorem dX1_init_15 : decode cX1_init 15 = .ok (.newarray .int, 2) := by decide +kernel
theorem dX1_init_17 : decode cX1_init 17 = .ok (.putfield 17, 3) := by decide +kernel
theorem dX1_init_20 : decode cX1_init 20 = .ok (.aload_n 0, 1) := by decide +kernel
theorem dX1_init_21 : decode cX1_init 21 = .ok (.iconst 3, 1) := by decide +kernel
theorem dX1_init_22 : decode cX1_init 22 = .ok (.newarray .int, 2) := by decide +kernel
theorem dX1_init_24 : decode cX1_init 24 = .ok (.putfield 21, 3) := by decide +kernel
theorem dX1_init_27 : decode cX1_init 27 = .ok (.aload_n 0, 1) := by decide +kernel
theorem dX1_init_28 : decode cX1_init 28 = .ok (.new 24, 3) := by decide +kernel
theorem dX1_init_31 : decode cX1_init 31 = .ok (.dup, 1) := by decide +kernel
theorem dX1_init_32 : decode cX1_init 32 = .ok (.invokespecial 26, 3) := by decide +kernel
theorem dX1_init_35 : decode cX1_init 35 = .ok (.putfield 27, 3) := by decide +kernel
theorem dX1_init_38 : decode cX1_init 38 = .ok (.iconst 0, 1) := by decide +kernel
theorem dX1_init_39 : decode cX1_init 39 = .ok (.istore_n 1, 1) := by decide +kernel
theorem dX1_init_40 : decode cX1_init 40 = .ok (.iload_n 1, 1) := by decide +kernel
theorem dX1_init_41 : decode cX1_init 41 = .ok (.iconst 3, 1) := by decide +kernel
theorem dX1_init_42 : decode cX1_init 42 = .ok (.if_icmp .ge 22, 3) := by decide +kernel
theorem dX1_init_45 : decode cX1_init 45 = .ok (.aload_n 0, 1) := by decide +kernel
theorem dX1_init_46 : decode cX1_init 46 = .ok (.getfield 11, 3) := by decide +kernel
theorem dX1_init_49 : decode cX1_init 49 = .ok (.iload_n 1, 1) := by decide +kernel
theorem dX1_init_50 : decode cX1_init 50 = .ok (.new 9, 3) := by decide +kernel
theorem dX1_init_53 : decode cX1_init 53 = .ok (.dup, 1) := by decide +kernel
theorem dX1_init_54 : decode cX1_init 54 = .ok (.invokespecial 31, 3) := by decide +kernel
theorem dX1_init_57 : decode cX1_init 57 = .ok (.aastore, 1) := by decide +kernel
theorem dX1_init_58 : decode cX1_init 58 = .ok (.iinc 1 1, 3) := by decide +kernel
theorem dX1_init_61 : decode cX1_init 61 = .ok (.goto (-21), 3) := by decide +kernel
theorem dX1_init_64 : decode cX1_init 64 = .ok (.aload_n 0, 1) := by decide +kernel
theorem dX1_init_65 : decode cX1_init 65 = .ok (.invokevirtual 32, 3) := by decide +kernel
theorem dX1_init_68 : decode cX1_init 68 = .ok (.return_, 1) := by decide +kernel
theorem dX1_begin_0 : decode cX1_begin 0 = .ok (.aload_n 0, 1) := by decide +kernel
theorem dX1_begin_1 : decode cX1_begin 1 = .ok (.iconst 0, 1) := by decide +kernel
theorem dX1_begin_2 : decode cX1_begin 2 = .ok (.putfield 35, 3) := by decide +kernel
theorem dX1_begin_5 : decode cX1_begin 5 = .ok (.aload_n 0, 1) := by decide +kernel
theorem dX1_begin_6 : decode cX1_begin 6 = .ok (.iconst 0, 1) := by decide +kernel
theorem dX1_begin_7 : decode cX1_begin 7 = .ok (.putfield 39, 3) := by decide +kernel
theorem dX1_begin_10 : decode cX1_begin 10 = .ok (.aload_n 0, 1) := by decide +kernel
theorem dX1_begin_11 : decode cX1_begin 11 = .ok (.getfield 27, 3) := by decide +kernel
theorem dX1_begin_14 : decode cX1_begin 14 = .ok (.iconst 0, 1) := by decide +kernel
theorem dX1_begin_15 : decode cX1_begin 15 = .ok (.putfield 42, 3) := by decide +kernel
theorem dX1_begin_18 : decode cX1_begin 18 = .ok (.aload_n 0, 1) := by decide +kernel
theorem dX1_begin_19 : decode cX1_begin 19 = .ok (.iconst 0, 1) := by decide +kernel
theorem dX1_begin_20 : decode cX1_begin 20 = .ok (.putfield 45, 3) := by decide +kernel
theorem dX1_begin_23 : decode cX1_begin 23 = .ok (.getstatic 48, 3) := by decide +kernel
theorem dX1_begin_26 : decode cX1_begin 26 = .ok (.iconst 0, 1) := by decide +kernel
theorem dX1_begin_27 : decode cX1_begin 27 = .ok (.aload_n 0, 1) := by decide +kernel
theorem dX1_begin_28 : decode cX1_begin 28 = .ok (.getfield 21, 3) := by decide +kernel
theorem dX1_begin_31 : decode cX1_begin 31 = .ok (.iconst 0, 1) := by decide +kernel
theorem dX1_begin_32 : decode cX1_begin 32 = .ok (.iconst 3, 1) := by decide +kernel
theorem dX1_begin_33 : decode cX1_begin 33 = .ok (.invokestatic 51, 3) := by decide +kernel
theorem dX1_begin_36 : decode cX1_begin 36 = .ok (.return_, 1) := by decide +kernel
theorem dX1_copyFrom_0 : decode cX1_copyFrom 0 = .ok (.aload_n 0, 1) := by decide +kernel
theorem dX1_copyFrom_1 : decode cX1_copyFrom 1 = .ok (.aload_n 1, 1) := by decide +kernel
theorem dX1_copyFrom_2 : decode cX1_copyFrom 2 = .ok (.getfield 35, 3) := by decide +kernel
theorem dX1_copyFrom_5 : decode cX1_copyFrom 5 = .ok (.putfield 35, 3) := by decide +kernel
theorem dX1_copyFrom_8 : decode cX1_copyFrom 8 = .ok (.iconst 0, 1) := by decide +kernel
theorem dX1_copyFrom_9 : decode cX1_copyFrom 9 = .ok (.istore_n 2, 1) := by decide +kernel
theorem dX1_copyFrom_10 : decode cX1_copyFrom 10 = .ok (.iload_n 2, 1) := by decide +kernel
theorem dX1_copyFrom_11 : decode cX1_copyFrom 11 = .ok (.aload_n 0, 1) := by decide +kernel
theorem dX1_copyFrom_12 : decode cX1_copyFrom 12 = .ok (.getfield 35, 3) := by decide +kernel
theorem dX1_copyFrom_15 : decode cX1_copyFrom 15 = .ok (.if_icmp .ge 24, 3) := by decide +kernel
theorem dX1_copyFrom_18 : decode cX1_copyFrom 18 = .ok (.aload_n 0, 1) := by decide +kernel
theorem dX1_copyFrom_19 : decode cX1_copyFrom 19 = .ok (.getfield 11, 3) := by decide +kernel
theorem dX1_copyFrom_22 : decode cX1_copyFrom 22 = .ok (.iload_n 2, 1) := by decide +kernel
theorem dX1_copyFrom_23 : decode cX1_copyFrom 23 = .ok (.aaload, 1) := by decide +kernel
theorem dX1_copyFrom_24 : decode cX1_copyFrom 24 = .ok (.aload_n 1, 1) := by decide +kernel
theorem dX1_copyFrom_25 : decode cX1_copyFrom 25 = .ok (.getfield 11, 3) := by decide +kernel
theorem dX1_copyFrom_28 : decode cX1_copyFrom 28 = .ok (.iload_n 2, 1) := by decide +kernel
theorem dX1_copyFrom_29 : decode cX1_copyFrom 29 = .ok (.aaload, 1) := by decide +kernel
theorem dX1_copyFrom_30 : decode cX1_copyFrom 30 = .ok (.invokevirtual 57, 3) := by decide +kernel
theorem dX1_copyFrom_33 : decode cX1_copyFrom 33 = .ok (.iinc 2 1, 3) := by decide +kernel
theorem dX1_copyFrom_36 : decode cX1_copyFrom 36 = .ok (.goto (-26), 3) := by decide +kernel
theorem dX1_copyFrom_39 : decode cX1_copyFrom 39 = .ok (.aload_n 0, 1) := by decide +kernel
theorem dX1_copyFrom_40 : decode cX1_copyFrom 40 = .ok (.aload_n 1, 1) := by decide +kernel
theorem dX1_copyFrom_41 : decode cX1_copyFrom 41 = .ok (.getfield 39, 3) := by decide +kernel
theorem dX1_copyFrom_44 : decode cX1_copyFrom 44 = .ok (.putfield 39, 3) := by decide +kernel
theorem dX1_copyFrom_47 : decode cX1_copyFrom 47 = .ok (.aload_n 1, 1) := by decide +kernel
theorem dX1_copyFrom_48 : decode cX1_copyFrom 48 = .ok (.getfield 17, 3) := by decide +kernel
theorem dX1_copyFrom_51 : decode cX1_copyFrom 51 = .ok (.iconst 0, 1) := by decide +kernel
theorem dX1_copyFrom_52 : decode cX1_copyFrom 52 = .ok (.aload_n 0, 1) := by decide +kernel
theorem dX1_copyFrom_53 : decode cX1_copyFrom 53 = .ok (.getfield 17, 3) := by decide +kernel
theorem dX1_copyFrom_56 : decode cX1_copyFrom 56 = .ok (.iconst 0, 1) := by decide +kernel
theorem dX1_copyFrom_57 : decode cX1_copyFrom 57 = .ok (.bipush 12, 2) := by decide +kernel
theorem dX1_copyFrom_59 : decode cX1_copyFrom 59 = .ok (.invokestatic 51, 3) := by decide +kernel
theorem dX1_copyFrom_62 : decode cX1_copyFrom 62 = .ok (.aload_n 0, 1) := by decide +kernel
theorem dX1_copyFrom_63 : decode cX1_copyFrom 63 = .ok (.getfield 27, 3) := by decide +kernel
theorem dX1_copyFrom_66 : decode cX1_copyFrom 66 = .ok (.aload_n 1, 1) := by decide +kernel
theorem dX1_copyFrom_67 : decode cX1_copyFrom 67 = .ok (.getfield 27, 3) := by decide +kernel
theorem dX1_copyFrom_70 : decode cX1_copyFrom 70 = .ok (.invokevirtual 61, 3) := by decide +kernel
theorem dX1_copyFrom_73 : decode cX1_copyFrom 73 = .ok (.aload_n 1, 1) := by decide +kernel
theorem dX1_copyFrom_74 : decode cX1_copyFrom 74 = .ok (.getfield 21, 3) := by decide +kernel
theorem dX1_copyFrom_77 : decode cX1_copyFrom 77 = .ok (.iconst 0, 1) := by decide +kernel
theorem dX1_copyFrom_78 : decode cX1_copyFrom 78 = .ok (.aload_n 0, 1) := by decide +kernel
theorem dX1_copyFrom_79 : decode cX1_copyFrom 79 = .ok (.getfield 21, 3) := by decide +kernel
theorem dX1_copyFrom_82 : decode cX1_copyFrom 82 = .ok (.iconst 0, 1) := by decide +kernel
theorem dX1_copyFrom_83 : decode cX1_copyFrom 83 = .ok (.iconst 3, 1) := by decide +kernel
theorem dX1_copyFrom_84 : decode cX1_copyFrom 84 = .ok (.invokestatic 51, 3) := by decide +kernel
theorem dX1_copyFrom_87 : decode cX1_copyFrom 87 = .ok (.aload_n 0, 1) := by decide +kernel
theorem dX1_copyFrom_88 : decode cX1_copyFrom 88 = .ok (.aload_n 1, 1) := by decide +kernel
theorem dX1_copyFrom_89 : decode cX1_copyFrom 89 = .ok (.getfield 45, 3) := by decide +kernel
theorem dX1_copyFrom_92 : decode cX1_copyFrom 92 = .ok (.putfield 45, 3) := by decide +kernel
theorem dX1_copyFrom_95 : decode cX1_copyFrom 95 = .ok (.return_, 1) := by decide +kernel
theorem dX1_lineIn_0 : decode cX1_lineIn 0 = .ok (.aload_n 0, 1) := by decide +kernel
theorem dX1_lineIn_1 : decode cX1_lineIn 1 = .ok (.getfield 39, 3) := by decide +kernel
theorem dX1_lineIn_4 : decode cX1_lineIn 4 = .ok (.ifCond .ne 8, 3) := by decide +kernel
theorem dX1_lineIn_7 : decode cX1_lineIn 7 = .ok (.bipush (-4), 2) := by decide +kernel
theorem dX1_lineIn_9 : decode cX1_lineIn 9 = .ok (.goto 14, 3) := by decide +kernel
theorem dX1_lineIn_12 : decode cX1_lineIn 12 = .ok (.aload_n 0, 1) := by decide +kernel
theorem dX1_lineIn_13 : decode cX1_lineIn 13 = .ok (.getfield 45, 3) := by decide +kernel
theorem dX1_lineIn_16 : decode cX1_lineIn 16 = .ok (.iload_n 1, 1) := by decide +kernel
theorem dX1_lineIn_17 : decode cX1_lineIn 17 = .ok (.iadd, 1) := by decide +kernel
theorem dX1_lineIn_18 : decode cX1_lineIn 18 = .ok (.aload_n 0, 1) := by decide +kernel
theorem dX1_lineIn_19 : decode cX1_lineIn 19 = .ok (.getfield 39, 3) := by decide +kernel
theorem dX1_lineIn_22 : decode cX1_lineIn 22 = .ok (.irem, 1) := by decide +kernel
theorem dX1_lineIn_23 : decode cX1_lineIn 23 = .ok (.ireturn, 1) := by decide +kernel
theorem dX1_wantedIn_0 : decode cX1_wantedIn 0 = .ok (.aload_n 0, 1) := by decide +kernel
theorem dX1_wantedIn_1 : decode cX1_wantedIn 1 = .ok (.getfield 39, 3) := by decide +kernel
theorem dX1_wantedIn_4 : decode cX1_wantedIn 4 = .ok (.ifCond .ne 7, 3) := by decide +kernel
theorem dX1_wantedIn_7 : decode cX1_wantedIn 7 = .ok (.iconst 0, 1) := by decide +kernel
theorem dX1_wantedIn_8 : decode cX1_wantedIn 8 = .ok (.goto 13, 3) := by decide +kernel
theorem dX1_wantedIn_11 : decode cX1_wantedIn 11 = .ok (.aload_n 0, 1) := by decide +kernel
theorem dX1_wantedIn_12 : decode cX1_wantedIn 12 = .ok (.getfield 17, 3) := by decide +kernel
theorem dX1_wantedIn_15 : decode cX1_wantedIn 15 = .ok (.aload_n 0, 1) := by decide +kernel
theorem dX1_wantedIn_16 : decode cX1_wantedIn 16 = .ok (.iload_n 1, 1) := by decide +kernel
theorem dX1_wantedIn_17 : decode cX1_wantedIn 17 = .ok (.invokevirtual 64, 3) := by decide +kernel
theorem dX1_wantedIn_20 : decode cX1_wantedIn 20 = .ok (.iaload, 1) := by decide +kernel
theorem dX1_wantedIn_21 : decode cX1_wantedIn 21 = .ok (.ireturn, 1) := by decide +kernel
theorem dX1_burnRow_0 : decode cX1_burnRow 0 = .ok (.aload_n 0, 1) := by decide +kernel
theorem dX1_burnRow_1 : decode cX1_burnRow 1 = .ok (.aload_n 0, 1) := by decide +kernel
theorem dX1_burnRow_2 : decode cX1_burnRow 2 = .ok (.iconst 0, 1) := by decide +kernel
theorem dX1_burnRow_3 : decode cX1_burnRow 3 = .ok (.invokevirtual 68, 3) := by decide +kernel
theorem dX1_burnRow_6 : decode cX1_burnRow 6 = .ok (.aload_n 0, 1) := by decide +kernel
theorem dX1_burnRow_7 : decode cX1_burnRow 7 = .ok (.iconst 1, 1) := by decide +kernel
theorem dX1_burnRow_8 : decode cX1_burnRow 8 = .ok (.invokevirtual 68, 3) := by decide +kernel
theorem dX1_burnRow_11 : decode cX1_burnRow 11 = .ok (.iload_n 1, 1) := by decide +kernel
theorem dX1_burnRow_12 : decode cX1_burnRow 12 = .ok (.invokevirtual 71, 3) := by decide +kernel
theorem dX1_burnRow_15 : decode cX1_burnRow 15 = .ok (.istore_n 2, 1) := by decide +kernel
theorem dX1_burnRow_16 : decode cX1_burnRow 16 = .ok (.aload_n 0, 1) := by decide +kernel
theorem dX1_burnRow_17 : decode cX1_burnRow 17 = .ok (.dup, 1) := by decide +kernel
theorem dX1_burnRow_18 : decode cX1_burnRow 18 = .ok (.getfield 45, 3) := by decide +kernel
theorem dX1_burnRow_21 : decode cX1_burnRow 21 = .ok (.iconst 1, 1) := by decide +kernel
theorem dX1_burnRow_22 : decode cX1_burnRow 22 = .ok (.iadd, 1) := by decide +kernel
theorem dX1_burnRow_23 : decode cX1_burnRow 23 = .ok (.putfield 45, 3) := by decide +kernel
theorem dX1_burnRow_26 : decode cX1_burnRow 26 = .ok (.iload_n 2, 1) := by decide +kernel
theorem dX1_burnRow_27 : decode cX1_burnRow 27 = .ok (.ireturn, 1) := by decide +kernel
theorem dX1_burnLine_0 : decode cX1_burnLine 0 = .ok (.iconst 0, 1) := by decide +kernel
theorem dX1_burnLine_1 : decode cX1_burnLine 1 = .ok (.istore 4, 2) := by decide +kernel
theorem dX1_burnLine_3 : decode cX1_burnLine 3 = .ok (.aload_n 0, 1) := by decide +kernel
theorem dX1_burnLine_4 : decode cX1_burnLine 4 = .ok (.iconst 0, 1) := by decide +kernel
theorem dX1_burnLine_5 : decode cX1_burnLine 5 = .ok (.putfield 75, 3) := by decide +kernel
theorem dX1_burnLine_8 : decode cX1_burnLine 8 = .ok (.iconst 0, 1) := by decide +kernel
theorem dX1_burnLine_9 : decode cX1_burnLine 9 = .ok (.istore 5, 2) := by decide +kernel
theorem dX1_burnLine_11 : decode cX1_burnLine 11 = .ok (.iload 5, 2) := by decide +kernel
theorem dX1_burnLine_13 : decode cX1_burnLine 13 = .ok (.aload_n 0, 1) := by decide +kernel
theorem dX1_burnLine_14 : decode cX1_burnLine 14 = .ok (.getfield 35, 3) := by decide +kernel
theorem dX1_burnLine_17 : decode cX1_burnLine 17 = .ok (.if_icmp .ge 51, 3) := by decide +kernel
theorem dX1_burnLine_20 : decode cX1_burnLine 20 = .ok (.aload_n 0, 1) := by decide +kernel
theorem dX1_burnLine_21 : decode cX1_burnLine 21 = .ok (.getfield 11, 3) := by decide +kernel
theorem dX1_burnLine_24 : decode cX1_burnLine 24 = .ok (.iload 5, 2) := by decide +kernel
theorem dX1_burnLine_26 : decode cX1_burnLine 26 = .ok (.aaload, 1) := by decide +kernel
theorem dX1_burnLine_27 : decode cX1_burnLine 27 = .ok (.aload_n 0, 1) := by decide +kernel
theorem dX1_burnLine_28 : decode cX1_burnLine 28 = .ok (.iload_n 1, 1) := by decide +kernel
theorem dX1_burnLine_29 : decode cX1_burnLine 29 = .ok (.iload_n 2, 1) := by decide +kernel
theorem dX1_burnLine_30 : decode cX1_burnLine 30 = .ok (.iload_n 3, 1) := by decide +kernel
theorem dX1_burnLine_31 : decode cX1_burnLine 31 = .ok (.invokevirtual 78, 3) := by decide +kernel
theorem dX1_burnLine_34 : decode cX1_burnLine 34 = .ok (.istore 6, 2) := by decide +kernel
theorem dX1_burnLine_36 : decode cX1_burnLine 36 = .ok (.aload_n 0, 1) := by decide +kernel
theorem dX1_burnLine_37 : decode cX1_burnLine 37 = .ok (.dup, 1) := by decide +kernel
theorem dX1_burnLine_38 : decode cX1_burnLine 38 = .ok (.getfield 75, 3) := by decide +kernel
theorem dX1_burnLine_41 : decode cX1_burnLine 41 = .ok (.iload 6, 2) := by decide +kernel
theorem dX1_burnLine_43 : decode cX1_burnLine 43 = .ok (.invokestatic 81, 3) := by decide +kernel
theorem dX1_burnLine_46 : decode cX1_burnLine 46 = .ok (.iadd, 1) := by decide +kernel
theorem dX1_burnLine_47 : decode cX1_burnLine 47 = .ok (.putfield 75, 3) := by decide +kernel
theorem dX1_burnLine_50 : decode cX1_burnLine 50 = .ok (.iload 4, 2) := by decide +kernel
theorem dX1_burnLine_52 : decode cX1_burnLine 52 = .ok (.iload 6, 2) := by decide +kernel
theorem dX1_burnLine_54 : decode cX1_burnLine 54 = .ok (.iload_n 1, 1) := by decide +kernel
theorem dX1_burnLine_55 : decode cX1_burnLine 55 = .ok (.ixor, 1) := by decide +kernel
theorem dX1_burnLine_56 : decode cX1_burnLine 56 = .ok (.invokestatic 81, 3) := by decide +kernel
theorem dX1_burnLine_59 : decode cX1_burnLine 59 = .ok (.iadd, 1) := by decide +kernel
theorem dX1_burnLine_60 : decode cX1_burnLine 60 = .ok (.istore 4, 2) := by decide +kernel
theorem dX1_burnLine_62 : decode cX1_burnLine 62 = .ok (.iinc 5 1, 3) := by decide +kernel
theorem dX1_burnLine_65 : decode cX1_burnLine 65 = .ok (.goto (-54), 3) := by decide +kernel
theorem dX1_burnLine_68 : decode cX1_burnLine 68 = .ok (.iload 4, 2) := by decide +kernel
theorem dX1_burnLine_70 : decode cX1_burnLine 70 = .ok (.ireturn, 1) := by decide +kernel
theorem dX1_hottest_0 : decode cX1_hottest 0 = .ok (.iconst 0, 1) := by decide +kernel
theorem dX1_hottest_1 : decode cX1_hottest 1 = .ok (.istore_n 1, 1) := by decide +kernel
theorem dX1_hottest_2 : decode cX1_hottest 2 = .ok (.iconst 0, 1) := by decide +kernel
theorem dX1_hottest_3 : decode cX1_hottest 3 = .ok (.istore_n 2, 1) := by decide +kernel
theorem dX1_hottest_4 : decode cX1_hottest 4 = .ok (.iload_n 2, 1) := by decide +kernel
theorem dX1_hottest_5 : decode cX1_hottest 5 = .ok (.aload_n 0, 1) := by decide +kernel
theorem dX1_hottest_6 : decode cX1_hottest 6 = .ok (.getfield 35, 3) := by decide +kernel
theorem dX1_hottest_9 : decode cX1_hottest 9 = .ok (.if_icmp .ge 39, 3) := by decide +kernel
theorem dX1_hottest_12 : decode cX1_hottest 12 = .ok (.iconst 0, 1) := by decide +kernel
theorem dX1_hottest_13 : decode cX1_hottest 13 = .ok (.istore_n 3, 1) := by decide +kernel
theorem dX1_hottest_14 : decode cX1_hottest 14 = .ok (.iload_n 3, 1) := by decide +kernel
theorem dX1_hottest_15 : decode cX1_hottest 15 = .ok (.bipush 8, 2) := by decide +kernel
theorem dX1_hottest_17 : decode cX1_hottest 17 = .ok (.if_icmp .ge 25, 3) := by decide +kernel
theorem dX1_hottest_20 : decode cX1_hottest 20 = .ok (.iload_n 1, 1) := by decide +kernel
theorem dX1_hottest_21 : decode cX1_hottest 21 = .ok (.aload_n 0, 1) := by decide +kernel
theorem dX1_hottest_22 : decode cX1_hottest 22 = .ok (.getfield 11, 3) := by decide +kernel
theorem dX1_hottest_25 : decode cX1_hottest 25 = .ok (.iload_n 2, 1) := by decide +kernel
theorem dX1_hottest_26 : decode cX1_hottest 26 = .ok (.aaload, 1) := by decide +kernel
theorem dX1_hottest_27 : decode cX1_hottest 27 = .ok (.getfield 86, 3) := by decide +kernel
theorem dX1_hottest_30 : decode cX1_hottest 30 = .ok (.iload_n 3, 1) := by decide +kernel
theorem dX1_hottest_31 : decode cX1_hottest 31 = .ok (.iaload, 1) := by decide +kernel
theorem dX1_hottest_32 : decode cX1_hottest 32 = .ok (.invokestatic 89, 3) := by decide +kernel
theorem dX1_hottest_35 : decode cX1_hottest 35 = .ok (.istore_n 1, 1) := by decide +kernel
theorem dX1_hottest_36 : decode cX1_hottest 36 = .ok (.iinc 3 1, 3) := by decide +kernel
theorem dX1_hottest_39 : decode cX1_hottest 39 = .ok (.goto (-25), 3) := by decide +kernel
theorem dX1_hottest_42 : decode cX1_hottest 42 = .ok (.iinc 2 1, 3) := by decide +kernel
theorem dX1_hottest_45 : decode cX1_hottest 45 = .ok (.goto (-41), 3) := by decide +kernel
theorem dX1_hottest_48 : decode cX1_hottest 48 = .ok (.iload_n 1, 1) := by decide +kernel
theorem dX1_hottest_49 : decode cX1_hottest 49 = .ok (.ireturn, 1) := by decide +kernel
theorem dX1_loseHeat_0 : decode cX1_loseHeat 0 = .ok (.iconst 0, 1) := by decide +kernel
theorem dX1_loseHeat_1 : decode cX1_loseHeat 1 = .ok (.istore_n 1, 1) := by decide +kernel
theorem dX1_loseHeat_2 : decode cX1_loseHeat 2 = .ok (.iload_n 1, 1) := by decide +kernel
theorem dX1_loseHeat_3 : decode cX1_loseHeat 3 = .ok (.aload_n 0, 1) := by decide +kernel
theorem dX1_loseHeat_4 : decode cX1_loseHeat 4 = .ok (.getfield 35, 3) := by decide +kernel
theorem dX1_loseHeat_7 : decode cX1_loseHeat 7 = .ok (.if_icmp .ge 22, 3) := by decide +kernel
theorem dX1_loseHeat_10 : decode cX1_loseHeat 10 = .ok (.aload_n 0, 1) := by decide +kernel
theorem dX1_loseHeat_11 : decode cX1_loseHeat 11 = .ok (.getfield 11, 3) := by decide +kernel
theorem dX1_loseHeat_14 : decode cX1_loseHeat 14 = .ok (.iload_n 1, 1) := by decide +kernel
theorem dX1_loseHeat_15 : decode cX1_loseHeat 15 = .ok (.aaload, 1) := by decide +kernel
theorem dX1_loseHeat_16 : decode cX1_loseHeat 16 = .ok (.getfield 95, 3) := by decide +kernel
theorem dX1_loseHeat_19 : decode cX1_loseHeat 19 = .ok (.iconst 0, 1) := by decide +kernel
theorem dX1_loseHeat_20 : decode cX1_loseHeat 20 = .ok (.invokestatic 98, 3) := by decide +kernel
theorem dX1_loseHeat_23 : decode cX1_loseHeat 23 = .ok (.iinc 1 1, 3) := by decide +kernel
theorem dX1_loseHeat_26 : decode cX1_loseHeat 26 = .ok (.goto (-24), 3) := by decide +kernel
theorem dX1_loseHeat_29 : decode cX1_loseHeat 29 = .ok (.return_, 1) := by decide +kernel
theorem dX1_wrongOfAll_0 : decode cX1_wrongOfAll 0 = .ok (.iconst 0, 1) := by decide +kernel
theorem dX1_wrongOfAll_1 : decode cX1_wrongOfAll 1 = .ok (.istore_n 1, 1) := by decide +kernel
theorem dX1_wrongOfAll_2 : decode cX1_wrongOfAll 2 = .ok (.iconst 0, 1) := by decide +kernel
theorem dX1_wrongOfAll_3 : decode cX1_wrongOfAll 3 = .ok (.istore_n 2, 1) := by decide +kernel
theorem dX1_wrongOfAll_4 : decode cX1_wrongOfAll 4 = .ok (.iload_n 2, 1) := by decide +kernel
theorem dX1_wrongOfAll_5 : decode cX1_wrongOfAll 5 = .ok (.aload_n 0, 1) := by decide +kernel
theorem dX1_wrongOfAll_6 : decode cX1_wrongOfAll 6 = .ok (.getfield 35, 3) := by decide +kernel
theorem dX1_wrongOfAll_9 : decode cX1_wrongOfAll 9 = .ok (.if_icmp .ge 21, 3) := by decide +kernel
theorem dX1_wrongOfAll_12 : decode cX1_wrongOfAll 12 = .ok (.iload_n 1, 1) := by decide +kernel
theorem dX1_wrongOfAll_13 : decode cX1_wrongOfAll 13 = .ok (.aload_n 0, 1) := by decide +kernel
theorem dX1_wrongOfAll_14 : decode cX1_wrongOfAll 14 = .ok (.getfield 11, 3) := by decide +kernel
theorem dX1_wrongOfAll_17 : decode cX1_wrongOfAll 17 = .ok (.iload_n 2, 1) := by decide +kernel
theorem dX1_wrongOfAll_18 : decode cX1_wrongOfAll 18 = .ok (.aaload, 1) := by decide +kernel
theorem dX1_wrongOfAll_19 : decode cX1_wrongOfAll 19 = .ok (.getfield 104, 3) := by decide +kernel
theorem dX1_wrongOfAll_22 : decode cX1_wrongOfAll 22 = .ok (.iadd, 1) := by decide +kernel
theorem dX1_wrongOfAll_23 : decode cX1_wrongOfAll 23 = .ok (.istore_n 1, 1) := by decide +kernel
theorem dX1_wrongOfAll_24 : decode cX1_wrongOfAll 24 = .ok (.iinc 2 1, 3) := by decide +kernel
theorem dX1_wrongOfAll_27 : decode cX1_wrongOfAll 27 = .ok (.goto (-23), 3) := by decide +kernel
theorem dX1_wrongOfAll_30 : decode cX1_wrongOfAll 30 = .ok (.iload_n 1, 1) := by decide +kernel
theorem dX1_wrongOfAll_31 : decode cX1_wrongOfAll 31 = .ok (.ireturn, 1) := by decide +kernel
theorem dX1_heatOfAll_0 : decode cX1_heatOfAll 0 = .ok (.iconst 0, 1) := by decide +kernel
theorem dX1_heatOfAll_1 : decode cX1_heatOfAll 1 = .ok (.istore_n 1, 1) := by decide +kernel
theorem dX1_heatOfAll_2 : decode cX1_heatOfAll 2 = .ok (.iconst 0, 1) := by decide +kernel
theorem dX1_heatOfAll_3 : decode cX1_heatOfAll 3 = .ok (.istore_n 2, 1) := by decide +kernel
theorem dX1_heatOfAll_4 : decode cX1_heatOfAll 4 = .ok (.iload_n 2, 1) := by decide +kernel
theorem dX1_heatOfAll_5 : decode cX1_heatOfAll 5 = .ok (.aload_n 0, 1) := by decide +kernel
theorem dX1_heatOfAll_6 : decode cX1_heatOfAll 6 = .ok (.getfield 35, 3) := by decide +kernel
theorem dX1_heatOfAll_9 : decode cX1_heatOfAll 9 = .ok (.if_icmp .ge 21, 3) := by decide +kernel
theorem dX1_heatOfAll_12 : decode cX1_heatOfAll 12 = .ok (.iload_n 1, 1) := by decide +kernel
theorem dX1_heatOfAll_13 : decode cX1_heatOfAll 13 = .ok (.aload_n 0, 1) := by decide +kernel
theorem dX1_heatOfAll_14 : decode cX1_heatOfAll 14 = .ok (.getfield 11, 3) := by decide +kernel
theorem dX1_heatOfAll_17 : decode cX1_heatOfAll 17 = .ok (.iload_n 2, 1) := by decide +kernel
theorem dX1_heatOfAll_18 : decode cX1_heatOfAll 18 = .ok (.aaload, 1) := by decide +kernel
theorem dX1_heatOfAll_19 : decode cX1_heatOfAll 19 = .ok (.invokevirtual 107, 3) := by decide +kernel
theorem dX1_heatOfAll_22 : decode cX1_heatOfAll 22 = .ok (.iadd, 1) := by decide +kernel
theorem dX1_heatOfAll_23 : decode cX1_heatOfAll 23 = .ok (.istore_n 1, 1) := by decide +kernel
theorem dX1_heatOfAll_24 : decode cX1_heatOfAll 24 = .ok (.iinc 2 1, 3) := by decide +kernel
theorem dX1_heatOfAll_27 : decode cX1_heatOfAll 27 = .ok (.goto (-23), 3) := by decide +kernel
theorem dX1_heatOfAll_30 : decode cX1_heatOfAll 30 = .ok (.iload_n 1, 1) := by decide +kernel
theorem dX1_heatOfAll_31 : decode cX1_heatOfAll 31 = .ok (.ireturn, 1) := by decide +kernel
theorem dX1_powerOfAll_0 : decode cX1_powerOfAll 0 = .ok (.iconst 0, 1) := by decide +kernel
theorem dX1_powerOfAll_1 : decode cX1_powerOfAll 1 = .ok (.istore_n 1, 1) := by decide +kernel
theorem dX1_powerOfAll_2 : decode cX1_powerOfAll 2 = .ok (.iconst 0, 1) := by decide +kernel
theorem dX1_powerOfAll_3 : decode cX1_powerOfAll 3 = .ok (.istore_n 2, 1) := by decide +kernel
theorem dX1_powerOfAll_4 : decode cX1_powerOfAll 4 = .ok (.iload_n 2, 1) := by decide +kernel
theorem dX1_powerOfAll_5 : decode cX1_powerOfAll 5 = .ok (.aload_n 0, 1) := by decide +kernel
theorem dX1_powerOfAll_6 : decode cX1_powerOfAll 6 = .ok (.getfield 35, 3) := by decide +kernel
theorem dX1_powerOfAll_9 : decode cX1_powerOfAll 9 = .ok (.if_icmp .ge 21, 3) := by decide +kernel
theorem dX1_powerOfAll_12 : decode cX1_powerOfAll 12 = .ok (.iload_n 1, 1) := by decide +kernel
theorem dX1_powerOfAll_13 : decode cX1_powerOfAll 13 = .ok (.aload_n 0, 1) := by decide +kernel
theorem dX1_powerOfAll_14 : decode cX1_powerOfAll 14 = .ok (.getfield 11, 3) := by decide +kernel
theorem dX1_powerOfAll_17 : decode cX1_powerOfAll 17 = .ok (.iload_n 2, 1) := by decide +kernel
theorem dX1_powerOfAll_18 : decode cX1_powerOfAll 18 = .ok (.aaload, 1) := by decide +kernel
theorem dX1_powerOfAll_19 : decode cX1_powerOfAll 19 = .ok (.getfield 111, 3) := by decide +kernel
theorem dX1_powerOfAll_22 : decode cX1_powerOfAll 22 = .ok (.iadd, 1) := by decide +kernel
theorem dX1_powerOfAll_23 : decode cX1_powerOfAll 23 = .ok (.istore_n 1, 1) := by decide +kernel
theorem dX1_powerOfAll_24 : decode cX1_powerOfAll 24 = .ok (.iinc 2 1, 3) := by decide +kernel
theorem dX1_powerOfAll_27 : decode cX1_powerOfAll 27 = .ok (.goto (-23), 3) := by decide +kernel
theorem dX1_powerOfAll_30 : decode cX1_powerOfAll 30 = .ok (.iload_n 1, 1) := by decide +kernel
theorem dX1_powerOfAll_31 : decode cX1_powerOfAll 31 = .ok (.ireturn, 1) := by decide +kernel
theorem dX1_wantedOfAll_0 : decode cX1_wantedOfAll 0 = .ok (.iconst 0, 1) := by decide +kernel
theorem dX1_wantedOfAll_1 : decode cX1_wantedOfAll 1 = .ok (.istore_n 1, 1) := by decide +kernel
theorem dX1_wantedOfAll_2 : decode cX1_wantedOfAll 2 = .ok (.iconst 0, 1) := by decide +kernel
theorem dX1_wantedOfAll_3 : decode cX1_wantedOfAll 3 = .ok (.istore_n 2, 1) := by decide +kernel
theorem dX1_wantedOfAll_4 : decode cX1_wantedOfAll 4 = .ok (.iload_n 2, 1) := by decide +kernel
theorem dX1_wantedOfAll_5 : decode cX1_wantedOfAll 5 = .ok (.aload_n 0, 1) := by decide +kernel
theorem dX1_wantedOfAll_6 : decode cX1_wantedOfAll 6 = .ok (.getfield 39, 3) := by decide +kernel
theorem dX1_wantedOfAll_9 : decode cX1_wantedOfAll 9 = .ok (.if_icmp .ge 21, 3) := by decide +kernel
theorem dX1_wantedOfAll_12 : decode cX1_wantedOfAll 12 = .ok (.iload_n 1, 1) := by decide +kernel
theorem dX1_wantedOfAll_13 : decode cX1_wantedOfAll 13 = .ok (.aload_n 0, 1) := by decide +kernel
theorem dX1_wantedOfAll_14 : decode cX1_wantedOfAll 14 = .ok (.getfield 17, 3) := by decide +kernel
theorem dX1_wantedOfAll_17 : decode cX1_wantedOfAll 17 = .ok (.iload_n 2, 1) := by decide +kernel
theorem dX1_wantedOfAll_18 : decode cX1_wantedOfAll 18 = .ok (.iaload, 1) := by decide +kernel
theorem dX1_wantedOfAll_19 : decode cX1_wantedOfAll 19 = .ok (.invokestatic 81, 3) := by decide +kernel
theorem dX1_wantedOfAll_22 : decode cX1_wantedOfAll 22 = .ok (.iadd, 1) := by decide +kernel
theorem dX1_wantedOfAll_23 : decode cX1_wantedOfAll 23 = .ok (.istore_n 1, 1) := by decide +kernel
theorem dX1_wantedOfAll_24 : decode cX1_wantedOfAll 24 = .ok (.iinc 2 1, 3) := by decide +kernel
theorem dX1_wantedOfAll_27 : decode cX1_wantedOfAll 27 = .ok (.goto (-23), 3) := by decide +kernel
theorem dX1_wantedOfAll_30 : decode cX1_wantedOfAll 30 = .ok (.iload_n 1, 1) := by decide +kernel
theorem dX1_wantedOfAll_31 : decode cX1_wantedOfAll 31 = .ok (.ireturn, 1) := by decide +kernel
theorem dX2_init_0 : decode cX2_init 0 = .ok (.aload_n 0, 1) := by decide +kernel
theorem dX2_init_1 : decode cX2_init 1 = .ok (.invokespecial 3, 3) := by decide +kernel
theorem dX2_init_4 : decode cX2_init 4 = .ok (.aload_n 0, 1) := by decide +kernel
theorem dX2_init_5 : decode cX2_init 5 = .ok (.bipush 6, 2) := by decide +kernel
theorem dX2_init_7 : decode cX2_init 7 = .ok (.newarray .int, 2) := by decide +kernel
theorem dX2_init_9 : decode cX2_init 9 = .ok (.putfield 9, 3) := by decide +kernel
theorem dX2_init_12 : decode cX2_init 12 = .ok (.aload_n 0, 1) := by decide +kernel
theorem dX2_init_13 : decode cX2_init 13 = .ok (.bipush 6, 2) := by decide +kernel
theorem dX2_init_15 : decode cX2_init 15 = .ok (.newarray .int, 2) := by decide +kernel
theorem dX2_init_17 : decode cX2_init 17 = .ok (.putfield 15, 3) := by decide +kernel
theorem dX2_init_20 : decode cX2_init 20 = .ok (.aload_n 0, 1) := by decide +kernel
theorem dX2_init_21 : decode cX2_init 21 = .ok (.bipush 6, 2) := by decide +kernel
theorem dX2_init_23 : decode cX2_init 23 = .ok (.newarray .int, 2) := by decide +kernel
theorem dX2_init_25 : decode cX2_init 25 = .ok (.putfield 18, 3) := by decide +kernel
theorem dX2_init_28 : decode cX2_init 28 = .ok (.return_, 1) := by decide +kernel
theorem dX2_append_0 : decode cX2_append 0 = .ok (.aload_n 0, 1) := by decide +kernel
theorem dX2_append_1 : decode cX2_append 1 = .ok (.getfield 9, 3) := by decide +kernel
theorem dX2_append_4 : decode cX2_append 4 = .ok (.aload_n 0, 1) := by decide +kernel
theorem dX2_append_5 : decode cX2_append 5 = .ok (.getfield 21, 3) := by decide +kernel
theorem dX2_append_8 : decode cX2_append 8 = .ok (.iload_n 1, 1) := by decide +kernel
theorem dX2_append_9 : decode cX2_append 9 = .ok (.iastore, 1) := by decide +kernel
theorem dX2_append_10 : decode cX2_append 10 = .ok (.aload_n 0, 1) := by decide +kernel
theorem dX2_append_11 : decode cX2_append 11 = .ok (.getfield 15, 3) := by decide +kernel
theorem dX2_append_14 : decode cX2_append 14 = .ok (.aload_n 0, 1) := by decide +kernel
theorem dX2_append_15 : decode cX2_append 15 = .ok (.getfield 21, 3) := by decide +kernel
theorem dX2_append_18 : decode cX2_append 18 = .ok (.iload_n 2, 1) := by decide +kernel
theorem dX2_append_19 : decode cX2_append 19 = .ok (.iastore, 1) := by decide +kernel
theorem dX2_append_20 : decode cX2_append 20 = .ok (.aload_n 0, 1) := by decide +kernel
theorem dX2_append_21 : decode cX2_append 21 = .ok (.getfield 18, 3) := by decide +kernel
theorem dX2_append_24 : decode cX2_append 24 = .ok (.aload_n 0, 1) := by decide +kernel
theorem dX2_append_25 : decode cX2_append 25 = .ok (.getfield 21, 3) := by decide +kernel
theorem dX2_append_28 : decode cX2_append 28 = .ok (.iload_n 3, 1) := by decide +kernel
theorem dX2_append_29 : decode cX2_append 29 = .ok (.iastore, 1) := by decide +kernel
theorem dX2_append_30 : decode cX2_append 30 = .ok (.aload_n 0, 1) := by decide +kernel
theorem dX2_append_31 : decode cX2_append 31 = .ok (.dup, 1) := by decide +kernel
theorem dX2_append_32 : decode cX2_append 32 = .ok (.getfield 21, 3) := by decide +kernel
theorem dX2_append_35 : decode cX2_append 35 = .ok (.iconst 1, 1) := by decide +kernel
theorem dX2_append_36 : decode cX2_append 36 = .ok (.iadd, 1) := by decide +kernel
theorem dX2_append_37 : decode cX2_append 37 = .ok (.putfield 21, 3) := by decide +kernel
theorem dX2_append_40 : decode cX2_append 40 = .ok (.return_, 1) := by decide +kernel
theorem dX2_copyFrom_0 : decode cX2_copyFrom 0 = .ok (.aload_n 0, 1) := by decide +kernel
theorem dX2_copyFrom_1 : decode cX2_copyFrom 1 = .ok (.aload_n 1, 1) := by decide +kernel
theorem dX2_copyFrom_2 : decode cX2_copyFrom 2 = .ok (.getfield 21, 3) := by decide +kernel
theorem dX2_copyFrom_5 : decode cX2_copyFrom 5 = .ok (.putfield 21, 3) := by decide +kernel
theorem dX2_copyFrom_8 : decode cX2_copyFrom 8 = .ok (.aload_n 1, 1) := by decide +kernel
theorem dX2_copyFrom_9 : decode cX2_copyFrom 9 = .ok (.getfield 9, 3) := by decide +kernel
theorem dX2_copyFrom_12 : decode cX2_copyFrom 12 = .ok (.iconst 0, 1) := by decide +kernel
theorem dX2_copyFrom_13 : decode cX2_copyFrom 13 = .ok (.aload_n 0, 1) := by decide +kernel
theorem dX2_copyFrom_14 : decode cX2_copyFrom 14 = .ok (.getfield 9, 3) := by decide +kernel
theorem dX2_copyFrom_17 : decode cX2_copyFrom 17 = .ok (.iconst 0, 1) := by decide +kernel
theorem dX2_copyFrom_18 : decode cX2_copyFrom 18 = .ok (.bipush 6, 2) := by decide +kernel
theorem dX2_copyFrom_20 : decode cX2_copyFrom 20 = .ok (.invokestatic 25, 3) := by decide +kernel
theorem dX2_copyFrom_23 : decode cX2_copyFrom 23 = .ok (.aload_n 1, 1) := by decide +kernel
theorem dX2_copyFrom_24 : decode cX2_copyFrom 24 = .ok (.getfield 15, 3) := by decide +kernel
theorem dX2_copyFrom_27 : decode cX2_copyFrom 27 = .ok (.iconst 0, 1) := by decide +kernel
theorem dX2_copyFrom_28 : decode cX2_copyFrom 28 = .ok (.aload_n 0, 1) := by decide +kernel
theorem dX2_copyFrom_29 : decode cX2_copyFrom 29 = .ok (.getfield 15, 3) := by decide +kernel
theorem dX2_copyFrom_32 : decode cX2_copyFrom 32 = .ok (.iconst 0, 1) := by decide +kernel
theorem dX2_copyFrom_33 : decode cX2_copyFrom 33 = .ok (.bipush 6, 2) := by decide +kernel
theorem dX2_copyFrom_35 : decode cX2_copyFrom 35 = .ok (.invokestatic 25, 3) := by decide +kernel
theorem dX2_copyFrom_38 : decode cX2_copyFrom 38 = .ok (.aload_n 1, 1) := by decide +kernel
theorem dX2_copyFrom_39 : decode cX2_copyFrom 39 = .ok (.getfield 18, 3) := by decide +kernel
theorem dX2_copyFrom_42 : decode cX2_copyFrom 42 = .ok (.iconst 0, 1) := by decide +kernel
theorem dX2_copyFrom_43 : decode cX2_copyFrom 43 = .ok (.aload_n 0, 1) := by decide +kernel
theorem dX2_copyFrom_44 : decode cX2_copyFrom 44 = .ok (.getfield 18, 3) := by decide +kernel
theorem dX2_copyFrom_47 : decode cX2_copyFrom 47 = .ok (.iconst 0, 1) := by decide +kernel
theorem dX2_copyFrom_48 : decode cX2_copyFrom 48 = .ok (.bipush 6, 2) := by decide +kernel
theorem dX2_copyFrom_50 : decode cX2_copyFrom 50 = .ok (.invokestatic 25, 3) := by decide +kernel
theorem dX2_copyFrom_53 : decode cX2_copyFrom 53 = .ok (.return_, 1) := by decide +kernel
theorem dX2_names_0 : decode cX2_names 0 = .ok (.iconst 0, 1) := by decide +kernel
theorem dX2_names_1 : decode cX2_names 1 = .ok (.istore_n 2, 1) := by decide +kernel
theorem dX2_names_2 : decode cX2_names 2 = .ok (.iload_n 2, 1) := by decide +kernel
theorem dX2_names_3 : decode cX2_names 3 = .ok (.aload_n 0, 1) := by decide +kernel
theorem dX2_names_4 : decode cX2_names 4 = .ok (.getfield 21, 3) := by decide +kernel
theorem dX2_names_7 : decode cX2_names 7 = .ok (.if_icmp .ge 21, 3) := by decide +kernel
theorem dX2_names_10 : decode cX2_names 10 = .ok (.aload_n 0, 1) := by decide +kernel
theorem dX2_names_11 : decode cX2_names 11 = .ok (.getfield 15, 3) := by decide +kernel
theorem dX2_names_14 : decode cX2_names 14 = .ok (.iload_n 2, 1) := by decide +kernel
theorem dX2_names_15 : decode cX2_names 15 = .ok (.iaload, 1) := by decide +kernel
theorem dX2_names_16 : decode cX2_names 16 = .ok (.iload_n 1, 1) := by decide +kernel
theorem dX2_names_17 : decode cX2_names 17 = .ok (.if_icmp .ne 5, 3) := by decide +kernel
theorem dX2_names_20 : decode cX2_names 20 = .ok (.iconst 1, 1) := by decide +kernel
theorem dX2_names_21 : decode cX2_names 21 = .ok (.ireturn, 1) := by decide +kernel
theorem dX2_names_22 : decode cX2_names 22 = .ok (.iinc 2 1, 3) := by decide +kernel
theorem dX2_names_25 : decode cX2_names 25 = .ok (.goto (-23), 3) := by decide +kernel
theorem dX2_names_28 : decode cX2_names 28 = .ok (.iconst 0, 1) := by decide +kernel
theorem dX2_names_29 : decode cX2_names 29 = .ok (.ireturn, 1) := by decide +kernel
theorem dX2_agrees_0 : decode cX2_agrees 0 = .ok (.iconst 0, 1) := by decide +kernel
theorem dX2_agrees_1 : decode cX2_agrees 1 = .ok (.istore 4, 2) := by decide +kernel
theorem dX2_agrees_3 : decode cX2_agrees 3 = .ok (.iload 4, 2) := by decide +kernel
theorem dX2_agrees_5 : decode cX2_agrees 5 = .ok (.aload_n 0, 1) := by decide +kernel
theorem dX2_agrees_6 : decode cX2_agrees 6 = .ok (.getfield 21, 3) := by decide +kernel
theorem dX2_agrees_9 : decode cX2_agrees 9 = .ok (.if_icmp .ge 43, 3) := by decide +kernel
theorem dX2_agrees_12 : decode cX2_agrees 12 = .ok (.aload_n 0, 1) := by decide +kernel
theorem dX2_agrees_13 : decode cX2_agrees 13 = .ok (.getfield 15, 3) := by decide +kernel
theorem dX2_agrees_16 : decode cX2_agrees 16 = .ok (.iload 4, 2) := by decide +kernel
theorem dX2_agrees_18 : decode cX2_agrees 18 = .ok (.iaload, 1) := by decide +kernel
theorem dX2_agrees_19 : decode cX2_agrees 19 = .ok (.iload_n 1, 1) := by decide +kernel
theorem dX2_agrees_20 : decode cX2_agrees 20 = .ok (.if_icmp .ne 26, 3) := by decide +kernel
theorem dX2_agrees_23 : decode cX2_agrees 23 = .ok (.aload_n 2, 1) := by decide +kernel
theorem dX2_agrees_24 : decode cX2_agrees 24 = .ok (.iload_n 3, 1) := by decide +kernel
theorem dX2_agrees_25 : decode cX2_agrees 25 = .ok (.aload_n 0, 1) := by decide +kernel
theorem dX2_agrees_26 : decode cX2_agrees 26 = .ok (.getfield 9, 3) := by decide +kernel
theorem dX2_agrees_29 : decode cX2_agrees 29 = .ok (.iload 4, 2) := by decide +kernel
theorem dX2_agrees_31 : decode cX2_agrees 31 = .ok (.iaload, 1) := by decide +kernel
theorem dX2_agrees_32 : decode cX2_agrees 32 = .ok (.iadd, 1) := by decide +kernel
theorem dX2_agrees_33 : decode cX2_agrees 33 = .ok (.iaload, 1) := by decide +kernel
theorem dX2_agrees_34 : decode cX2_agrees 34 = .ok (.aload_n 0, 1) := by decide +kernel
theorem dX2_agrees_35 : decode cX2_agrees 35 = .ok (.getfield 18, 3) := by decide +kernel
theorem dX2_agrees_38 : decode cX2_agrees 38 = .ok (.iload 4, 2) := by decide +kernel
theorem dX2_agrees_40 : decode cX2_agrees 40 = .ok (.iaload, 1) := by decide +kernel
theorem dX2_agrees_41 : decode cX2_agrees 41 = .ok (.if_icmp .eq 5, 3) := by decide +kernel
theorem dX2_agrees_44 : decode cX2_agrees 44 = .ok (.iconst 0, 1) := by decide +kernel
theorem dX2_agrees_45 : decode cX2_agrees 45 = .ok (.ireturn, 1) := by decide +kernel
theorem dX2_agrees_46 : decode cX2_agrees 46 = .ok (.iinc 4 1, 3) := by decide +kernel
theorem dX2_agrees_49 : decode cX2_agrees 49 = .ok (.goto (-46), 3) := by decide +kernel
theorem dX2_agrees_52 : decode cX2_agrees 52 = .ok (.iconst 1, 1) := by decide +kernel
theorem dX2_agrees_53 : decode cX2_agrees 53 = .ok (.ireturn, 1) := by decide +kernel
theorem dX3_init_0 : decode cX3_init 0 = .ok (.aload_n 0, 1) := by decide +kernel
theorem dX3_init_1 : decode cX3_init 1 = .ok (.invokespecial 3, 3) := by decide +kernel
theorem dX3_init_4 : decode cX3_init 4 = .ok (.aload_n 0, 1) := by decide +kernel
theorem dX3_init_5 : decode cX3_init 5 = .ok (.bipush 40, 2) := by decide +kernel
theorem dX3_init_7 : decode cX3_init 7 = .ok (.newarray .int, 2) := by decide +kernel
theorem dX3_init_9 : decode cX3_init 9 = .ok (.putfield 9, 3) := by decide +kernel
theorem dX3_init_12 : decode cX3_init 12 = .ok (.return_, 1) := by decide +kernel
theorem dX3_renew_0 : decode cX3_renew 0 = .ok (.aload_n 0, 1) := by decide +kernel
theorem dX3_renew_1 : decode cX3_renew 1 = .ok (.iconst 1, 1) := by decide +kernel
theorem dX3_renew_2 : decode cX3_renew 2 = .ok (.putfield 15, 3) := by decide +kernel
theorem dX3_renew_5 : decode cX3_renew 5 = .ok (.aload_n 0, 1) := by decide +kernel
theorem dX3_renew_6 : decode cX3_renew 6 = .ok (.iload_n 1, 1) := by decide +kernel
theorem dX3_renew_7 : decode cX3_renew 7 = .ok (.putfield 19, 3) := by decide +kernel
theorem dX3_renew_10 : decode cX3_renew 10 = .ok (.aload_n 0, 1) := by decide +kernel
theorem dX3_renew_11 : decode cX3_renew 11 = .ok (.iload_n 2, 1) := by decide +kernel
theorem dX3_renew_12 : decode cX3_renew 12 = .ok (.putfield 23, 3) := by decide +kernel
theorem dX3_renew_15 : decode cX3_renew 15 = .ok (.aload_n 0, 1) := by decide +kernel
theorem dX3_renew_16 : decode cX3_renew 16 = .ok (.getfield 9, 3) := by decide +kernel
theorem dX3_renew_19 : decode cX3_renew 19 = .ok (.iconst 0, 1) := by decide +kernel
theorem dX3_renew_20 : decode cX3_renew 20 = .ok (.invokestatic 26, 3) := by decide +kernel
theorem dX3_renew_23 : decode cX3_renew 23 = .ok (.return_, 1) := by decide +kernel
theorem dX3_faultOf_0 : decode cX3_faultOf 0 = .ok (.aload_n 0, 1) := by decide +kernel
theorem dX3_faultOf_1 : decode cX3_faultOf 1 = .ok (.getfield 15, 3) := by decide +kernel
theorem dX3_faultOf_4 : decode cX3_faultOf 4 = .ok (.ifCond .ne 5, 3) := by decide +kernel
theorem dX3_faultOf_7 : decode cX3_faultOf 7 = .ok (.iconst 1, 1) := by decide +kernel
theorem dX3_faultOf_8 : decode cX3_faultOf 8 = .ok (.ireturn, 1) := by decide +kernel
theorem dX3_faultOf_9 : decode cX3_faultOf 9 = .ok (.aload_n 0, 1) := by decide +kernel
theorem dX3_faultOf_10 : decode cX3_faultOf 10 = .ok (.getfield 19, 3) := by decide +kernel
theorem dX3_faultOf_13 : decode cX3_faultOf 13 = .ok (.iload_n 1, 1) := by decide +kernel
theorem dX3_faultOf_14 : decode cX3_faultOf 14 = .ok (.if_icmp .eq 5, 3) := by decide +kernel
theorem dX3_faultOf_17 : decode cX3_faultOf 17 = .ok (.iconst 3, 1) := by decide +kernel
theorem dX3_faultOf_18 : decode cX3_faultOf 18 = .ok (.ireturn, 1) := by decide +kernel
theorem dX3_faultOf_19 : decode cX3_faultOf 19 = .ok (.iload_n 2, 1) := by decide +kernel
theorem dX3_faultOf_20 : decode cX3_faultOf 20 = .ok (.ifCond .lt 11, 3) := by decide +kernel
theorem dX3_faultOf_23 : decode cX3_faultOf 23 = .ok (.iload_n 2, 1) := by decide +kernel
theorem dX3_faultOf_24 : decode cX3_faultOf 24 = .ok (.aload_n 0, 1) := by decide +kernel
theorem dX3_faultOf_25 : decode cX3_faultOf 25 = .ok (.getfield 23, 3) := by decide +kernel
theorem dX3_faultOf_28 : decode cX3_faultOf 28 = .ok (.if_icmp .lt 7, 3) := by decide +kernel
theorem dX3_faultOf_31 : decode cX3_faultOf 31 = .ok (.iconst 2, 1) := by decide +kernel
theorem dX3_faultOf_32 : decode cX3_faultOf 32 = .ok (.goto 4, 3) := by decide +kernel
theorem dX3_faultOf_35 : decode cX3_faultOf 35 = .ok (.iconst 0, 1) := by decide +kernel
theorem dX3_faultOf_36 : decode cX3_faultOf 36 = .ok (.ireturn, 1) := by decide +kernel
theorem dX3_pairFault_0 : decode cX3_pairFault 0 = .ok (.aload_n 0, 1) := by decide +kernel
theorem dX3_pairFault_1 : decode cX3_pairFault 1 = .ok (.iload_n 1, 1) := by decide +kernel
theorem dX3_pairFault_2 : decode cX3_pairFault 2 = .ok (.iload_n 2, 1) := by decide +kernel
theorem dX3_pairFault_3 : decode cX3_pairFault 3 = .ok (.iconst 2, 1) := by decide +kernel
theorem dX3_pairFault_4 : decode cX3_pairFault 4 = .ok (.iload_n 3, 1) := by decide +kernel
theorem dX3_pairFault_5 : decode cX3_pairFault 5 = .ok (.imul, 1) := by decide +kernel
theorem dX3_pairFault_6 : decode cX3_pairFault 6 = .ok (.iadd, 1) := by decide +kernel
theorem dX3_pairFault_7 : decode cX3_pairFault 7 = .ok (.invokevirtual 32, 3) := by decide +kernel
theorem dX3_pairFault_10 : decode cX3_pairFault 10 = .ok (.istore 4, 2) := by decide +kernel
theorem dX3_pairFault_12 : decode cX3_pairFault 12 = .ok (.iload 4, 2) := by decide +kernel
theorem dX3_pairFault_14 : decode cX3_pairFault 14 = .ok (.ifCond .eq 8, 3) := by decide +kernel
theorem dX3_pairFault_17 : decode cX3_pairFault 17 = .ok (.iload 4, 2) := by decide +kernel
theorem dX3_pairFault_19 : decode cX3_pairFault 19 = .ok (.goto 15, 3) := by decide +kernel
theorem dX3_pairFault_22 : decode cX3_pairFault 22 = .ok (.aload_n 0, 1) := by decide +kernel
theorem dX3_pairFault_23 : decode cX3_pairFault 23 = .ok (.iload_n 1, 1) := by decide +kernel
theorem dX3_pairFault_24 : decode cX3_pairFault 24 = .ok (.iload_n 2, 1) := by decide +kernel
theorem dX3_pairFault_25 : decode cX3_pairFault 25 = .ok (.iconst 2, 1) := by decide +kernel
theorem dX3_pairFault_26 : decode cX3_pairFault 26 = .ok (.iload_n 3, 1) := by decide +kernel
theorem dX3_pairFault_27 : decode cX3_pairFault 27 = .ok (.imul, 1) := by decide +kernel
theorem dX3_pairFault_28 : decode cX3_pairFault 28 = .ok (.iadd, 1) := by decide +kernel
theorem dX3_pairFault_29 : decode cX3_pairFault 29 = .ok (.iconst 1, 1) := by decide +kernel
theorem dX3_pairFault_30 : decode cX3_pairFault 30 = .ok (.iadd, 1) := by decide +kernel
theorem dX3_pairFault_31 : decode cX3_pairFault 31 = .ok (.invokevirtual 32, 3) := by decide +kernel
theorem dX3_pairFault_34 : decode cX3_pairFault 34 = .ok (.ireturn, 1) := by decide +kernel
theorem dX3_put_0 : decode cX3_put 0 = .ok (.aload_n 0, 1) := by decide +kernel
theorem dX3_put_1 : decode cX3_put 1 = .ok (.getfield 19, 3) := by decide +kernel
theorem dX3_put_4 : decode cX3_put 4 = .ok (.lookupswitch 50 #[(0, 28), (1, 39)], 28) := by decide +kernel
theorem dX3_put_32 : decode cX3_put 32 = .ok (.aload_n 0, 1) := by decide +kernel
theorem dX3_put_33 : decode cX3_put 33 = .ok (.getfield 9, 3) := by decide +kernel
theorem dX3_put_36 : decode cX3_put 36 = .ok (.iload_n 1, 1) := by decide +kernel
theorem dX3_put_37 : decode cX3_put 37 = .ok (.iload_n 2, 1) := by decide +kernel
theorem dX3_put_38 : decode cX3_put 38 = .ok (.i2b, 1) := by decide +kernel
theorem dX3_put_39 : decode cX3_put 39 = .ok (.iastore, 1) := by decide +kernel
theorem dX3_put_40 : decode cX3_put 40 = .ok (.goto 21, 3) := by decide +kernel
theorem dX3_put_43 : decode cX3_put 43 = .ok (.aload_n 0, 1) := by decide +kernel
theorem dX3_put_44 : decode cX3_put 44 = .ok (.getfield 9, 3) := by decide +kernel
theorem dX3_put_47 : decode cX3_put 47 = .ok (.iload_n 1, 1) := by decide +kernel
theorem dX3_put_48 : decode cX3_put 48 = .ok (.iload_n 2, 1) := by decide +kernel
theorem dX3_put_49 : decode cX3_put 49 = .ok (.i2s, 1) := by decide +kernel
theorem dX3_put_50 : decode cX3_put 50 = .ok (.iastore, 1) := by decide +kernel
theorem dX3_put_51 : decode cX3_put 51 = .ok (.goto 10, 3) := by decide +kernel
theorem dX3_put_54 : decode cX3_put 54 = .ok (.aload_n 0, 1) := by decide +kernel
theorem dX3_put_55 : decode cX3_put 55 = .ok (.getfield 9, 3) := by decide +kernel
theorem dX3_put_58 : decode cX3_put 58 = .ok (.iload_n 1, 1) := by decide +kernel
theorem dX3_put_59 : decode cX3_put 59 = .ok (.iload_n 2, 1) := by decide +kernel
theorem dX3_put_60 : decode cX3_put 60 = .ok (.iastore, 1) := by decide +kernel
theorem dX3_put_61 : decode cX3_put 61 = .ok (.return_, 1) := by decide +kernel
theorem dX4_init_0 : decode cX4_init 0 = .ok (.aload_n 0, 1) := by decide +kernel
theorem dX4_init_1 : decode cX4_init 1 = .ok (.invokespecial 3, 3) := by decide +kernel
theorem dX4_init_4 : decode cX4_init 4 = .ok (.aload_n 0, 1) := by decide +kernel
theorem dX4_init_5 : decode cX4_init 5 = .ok (.sipush 160, 3) := by decide +kernel
theorem dX4_init_8 : decode cX4_init 8 = .ok (.newarray .byte, 2) := by decide +kernel
theorem dX4_init_10 : decode cX4_init 10 = .ok (.putfield 11, 3) := by decide +kernel
theorem dX4_init_13 : decode cX4_init 13 = .ok (.return_, 1) := by decide +kernel
theorem dX4_nameOf_0 : decode cX4_nameOf 0 = .ok (.iload_n 0, 1) := by decide +kernel
theorem dX4_nameOf_1 : decode cX4_nameOf 1 = .ok (.tableswitch 64 0 6 #[43, 46, 49, 52, 55, 58, 61], 43) := by decide +kernel
theorem dX4_nameOf_44 : decode cX4_nameOf 44 = .ok (.ldc 15, 2) := by decide +kernel
theorem dX4_nameOf_46 : decode cX4_nameOf 46 = .ok (.areturn, 1) := by decide +kernel
theorem dX4_nameOf_47 : decode cX4_nameOf 47 = .ok (.ldc 17, 2) := by decide +kernel
theorem dX4_nameOf_49 : decode cX4_nameOf 49 = .ok (.areturn, 1) := by decide +kernel
theorem dX4_nameOf_50 : decode cX4_nameOf 50 = .ok (.ldc 19, 2) := by decide +kernel
theorem dX4_nameOf_52 : decode cX4_nameOf 52 = .ok (.areturn, 1) := by decide +kernel
theorem dX4_nameOf_53 : decode cX4_nameOf 53 = .ok (.ldc 21, 2) := by decide +kernel
theorem dX4_nameOf_55 : decode cX4_nameOf 55 = .ok (.areturn, 1) := by decide +kernel
theorem dX4_nameOf_56 : decode cX4_nameOf 56 = .ok (.ldc 23, 2) := by decide +kernel
theorem dX4_nameOf_58 : decode cX4_nameOf 58 = .ok (.areturn, 1) := by decide +kernel
theorem dX4_nameOf_59 : decode cX4_nameOf 59 = .ok (.ldc 25, 2) := by decide +kernel
theorem dX4_nameOf_61 : decode cX4_nameOf 61 = .ok (.areturn, 1) := by decide +kernel
theorem dX4_nameOf_62 : decode cX4_nameOf 62 = .ok (.ldc 27, 2) := by decide +kernel
theorem dX4_nameOf_64 : decode cX4_nameOf 64 = .ok (.areturn, 1) := by decide +kernel
theorem dX4_nameOf_65 : decode cX4_nameOf 65 = .ok (.ldc 29, 2) := by decide +kernel
theorem dX4_nameOf_67 : decode cX4_nameOf 67 = .ok (.areturn, 1) := by decide +kernel
theorem dX4_readInto_0 : decode cX4_readInto 0 = .ok (.aload_n 1, 1) := by decide +kernel
theorem dX4_readInto_1 : decode cX4_readInto 1 = .ok (.invokevirtual 31, 3) := by decide +kernel
theorem dX4_readInto_4 : decode cX4_readInto 4 = .ok (.aload_n 0, 1) := by decide +kernel
theorem dX4_readInto_5 : decode cX4_readInto 5 = .ok (.iconst 0, 1) := by decide +kernel
theorem dX4_readInto_6 : decode cX4_readInto 6 = .ok (.putfield 36, 3) := by decide +kernel
theorem dX4_readInto_9 : decode cX4_readInto 9 = .ok (.aload_n 0, 1) := by decide +kernel
theorem dX4_readInto_10 : decode cX4_readInto 10 = .ok (.iconst 0, 1) := by decide +kernel
theorem dX4_readInto_11 : decode cX4_readInto 11 = .ok (.putfield 40, 3) := by decide +kernel
theorem dX4_readInto_14 : decode cX4_readInto 14 = .ok (.aload_n 0, 1) := by decide +kernel
theorem dX4_readInto_15 : decode cX4_readInto 15 = .ok (.iconst 0, 1) := by decide +kernel
theorem dX4_readInto_16 : decode cX4_readInto 16 = .ok (.putfield 43, 3) := by decide +kernel
theorem dX4_readInto_19 : decode cX4_readInto 19 = .ok (.iconst 0, 1) := by decide +kernel
theorem dX4_readInto_20 : decode cX4_readInto 20 = .ok (.istore_n 2, 1) := by decide +kernel
theorem dX4_readInto_21 : decode cX4_readInto 21 = .ok (.iload_n 2, 1) := by decide +kernel
theorem dX4_readInto_22 : decode cX4_readInto 22 = .ok (.sipush 160, 3) := by decide +kernel
theorem dX4_readInto_25 : decode cX4_readInto 25 = .ok (.if_icmp .gt 31, 3) := by decide +kernel
theorem dX4_readInto_28 : decode cX4_readInto 28 = .ok (.aload_n 0, 1) := by decide +kernel
theorem dX4_readInto_29 : decode cX4_readInto 29 = .ok (.invokevirtual 46, 3) := by decide +kernel
theorem dX4_readInto_32 : decode cX4_readInto 32 = .ok (.ifCond .eq 24, 3) := by decide +kernel
theorem dX4_readInto_35 : decode cX4_readInto 35 = .ok (.aload_n 0, 1) := by decide +kernel
theorem dX4_readInto_36 : decode cX4_readInto 36 = .ok (.getfield 50, 3) := by decide +kernel
theorem dX4_readInto_39 : decode cX4_readInto 39 = .ok (.ifCond .eq 17, 3) := by decide +kernel
theorem dX4_readInto_42 : decode cX4_readInto 42 = .ok (.aload_n 0, 1) := by decide +kernel
theorem dX4_readInto_43 : decode cX4_readInto 43 = .ok (.aload_n 1, 1) := by decide +kernel
theorem dX4_readInto_44 : decode cX4_readInto 44 = .ok (.invokevirtual 53, 3) := by decide +kernel
theorem dX4_readInto_47 : decode cX4_readInto 47 = .ok (.ifCond .eq 9, 3) := by decide +kernel
theorem dX4_readInto_50 : decode cX4_readInto 50 = .ok (.iinc 2 1, 3) := by decide +kernel
theorem dX4_readInto_53 : decode cX4_readInto 53 = .ok (.goto (-32), 3) := by decide +kernel
theorem dX4_readInto_56 : decode cX4_readInto 56 = .ok (.iload_n 2, 1) := by decide +kernel
theorem dX4_readInto_57 : decode cX4_readInto 57 = .ok (.ireturn, 1) := by decide +kernel
theorem dX4_refuse_0 : decode cX4_refuse 0 = .ok (.aload_n 0, 1) := by decide +kernel
theorem dX4_refuse_1 : decode cX4_refuse 1 = .ok (.iload_n 1, 1) := by decide +kernel
theorem dX4_refuse_2 : decode cX4_refuse 2 = .ok (.putfield 36, 3) := by decide +kernel
theorem dX4_refuse_5 : decode cX4_refuse 5 = .ok (.aload_n 0, 1) := by decide +kernel
theorem dX4_refuse_6 : decode cX4_refuse 6 = .ok (.aload_n 0, 1) := by decide +kernel
theorem dX4_refuse_7 : decode cX4_refuse 7 = .ok (.getfield 57, 3) := by decide +kernel
theorem dX4_refuse_10 : decode cX4_refuse 10 = .ok (.putfield 60, 3) := by decide +kernel
theorem dX4_refuse_13 : decode cX4_refuse 13 = .ok (.iconst 0, 1) := by decide +kernel
theorem dX4_refuse_14 : decode cX4_refuse 14 = .ok (.ireturn, 1) := by decide +kernel
theorem dX4_sortOf_0 : decode cX4_sortOf 0 = .ok (.iload_n 1, 1) := by decide +kernel
theorem dX4_sortOf_1 : decode cX4_sortOf 1 = .ok (.bipush 97, 2) := by decide +kernel
theorem dX4_sortOf_3 : decode cX4_sortOf 3 = .ok (.if_icmp .lt 11, 3) := by decide +kernel
theorem dX4_sortOf_6 : decode cX4_sortOf 6 = .ok (.iload_n 1, 1) := by decide +kernel
theorem dX4_sortOf_7 : decode cX4_sortOf 7 = .ok (.bipush 122, 2) := by decide +kernel
theorem dX4_sortOf_9 : decode cX4_sortOf 9 = .ok (.if_icmp .gt 5, 3) := by decide +kernel
theorem dX4_sortOf_12 : decode cX4_sortOf 12 = .ok (.iconst 1, 1) := by decide +kernel
theorem dX4_sortOf_13 : decode cX4_sortOf 13 = .ok (.ireturn, 1) := by decide +kernel
theorem dX4_sortOf_14 : decode cX4_sortOf 14 = .ok (.iload_n 1, 1) := by decide +kernel
theorem dX4_sortOf_15 : decode cX4_sortOf 15 = .ok (.bipush 48, 2) := by decide +kernel
theorem dX4_sortOf_17 : decode cX4_sortOf 17 = .ok (.if_icmp .lt 11, 3) := by decide +kernel
theorem dX4_sortOf_20 : decode cX4_sortOf 20 = .ok (.iload_n 1, 1) := by decide +kernel
theorem dX4_sortOf_21 : decode cX4_sortOf 21 = .ok (.bipush 57, 2) := by decide +kernel
theorem dX4_sortOf_23 : decode cX4_sortOf 23 = .ok (.if_icmp .gt 5, 3) := by decide +kernel
theorem dX4_sortOf_26 : decode cX4_sortOf 26 = .ok (.iconst 2, 1) := by decide +kernel
theorem dX4_sortOf_27 : decode cX4_sortOf 27 = .ok (.ireturn, 1) := by decide +kernel
theorem dX4_sortOf_28 : decode cX4_sortOf 28 = .ok (.iload_n 1, 1) := by decide +kernel
theorem dX4_sortOf_29 : decode cX4_sortOf 29 = .ok (.bipush 59, 2) := by decide +kernel
theorem dX4_sortOf_31 : decode cX4_sortOf 31 = .ok (.if_icmp .ne 7, 3) := by decide +kernel
theorem dX4_sortOf_34 : decode cX4_sortOf 34 = .ok (.iconst 3, 1) := by decide +kernel
theorem dX4_sortOf_35 : decode cX4_sortOf 35 = .ok (.goto 4, 3) := by decide +kernel
theorem dX4_sortOf_38 : decode cX4_sortOf 38 = .ok (.iconst 4, 1) := by decide +kernel
theorem dX4_sortOf_39 : decode cX4_sortOf 39 = .ok (.ireturn, 1) := by decide +kernel
theorem dX4_step_0 : decode cX4_step 0 = .ok (.aload_n 0, 1) := by decide +kernel
theorem dX4_step_1 : decode cX4_step 1 = .ok (.getfield 40, 3) := by decide +kernel
theorem dX4_step_4 : decode cX4_step 4 = .ok (.aload_n 0, 1) := by decide +kernel
theorem dX4_step_5 : decode cX4_step 5 = .ok (.getfield 63, 3) := by decide +kernel
theorem dX4_step_8 : decode cX4_step 8 = .ok (.if_icmp .ge 30, 3) := by decide +kernel
theorem dX4_step_11 : decode cX4_step 11 = .ok (.aload_n 0, 1) := by decide +kernel
theorem dX4_step_12 : decode cX4_step 12 = .ok (.getfield 11, 3) := by decide +kernel
theorem dX4_step_15 : decode cX4_step 15 = .ok (.aload_n 0, 1) := by decide +kernel
theorem dX4_step_16 : decode cX4_step 16 = .ok (.getfield 40, 3) := by decide +kernel
theorem dX4_step_19 : decode cX4_step 19 = .ok (.baload, 1) := by decide +kernel
theorem dX4_step_20 : decode cX4_step 20 = .ok (.bipush 32, 2) := by decide +kernel
theorem dX4_step_22 : decode cX4_step 22 = .ok (.if_icmp .ne 16, 3) := by decide +kernel
theorem dX4_step_25 : decode cX4_step 25 = .ok (.aload_n 0, 1) := by decide +kernel
theorem dX4_step_26 : decode cX4_step 26 = .ok (.dup, 1) := by decide +kernel
theorem dX4_step_27 : decode cX4_step 27 = .ok (.getfield 40, 3) := by decide +kernel
theorem dX4_step_30 : decode cX4_step 30 = .ok (.iconst 1, 1) := by decide +kernel
theorem dX4_step_31 : decode cX4_step 31 = .ok (.iadd, 1) := by decide +kernel
theorem dX4_step_32 : decode cX4_step 32 = .ok (.putfield 40, 3) := by decide +kernel
theorem dX4_step_35 : decode cX4_step 35 = .ok (.goto (-35), 3) := by decide +kernel
theorem dX4_step_38 : decode cX4_step 38 = .ok (.aload_n 0, 1) := by decide +kernel
theorem dX4_step_39 : decode cX4_step 39 = .ok (.aload_n 0, 1) := by decide +kernel
theorem dX4_step_40 : decode cX4_step 40 = .ok (.getfield 40, 3) := by decide +kernel
theorem dX4_step_43 : decode cX4_step 43 = .ok (.putfield 57, 3) := by decide +kernel
theorem dX4_step_46 : decode cX4_step 46 = .ok (.aload_n 0, 1) := by decide +kernel
theorem dX4_step_47 : decode cX4_step 47 = .ok (.getfield 40, 3) := by decide +kernel
theorem dX4_step_50 : decode cX4_step 50 = .ok (.aload_n 0, 1) := by decide +kernel
theorem dX4_step_51 : decode cX4_step 51 = .ok (.getfield 63, 3) := by decide +kernel
theorem dX4_step_54 : decode cX4_step 54 = .ok (.if_icmp .lt 10, 3) := by decide +kernel
theorem dX4_step_57 : decode cX4_step 57 = .ok (.aload_n 0, 1) := by decide +kernel
theorem dX4_step_58 : decode cX4_step 58 = .ok (.iconst 0, 1) := by decide +kernel
theorem dX4_step_59 : decode cX4_step 59 = .ok (.putfield 50, 3) := by decide +kernel
theorem dX4_step_62 : decode cX4_step 62 = .ok (.iconst 1, 1) := by decide +kernel
theorem dX4_step_63 : decode cX4_step 63 = .ok (.ireturn, 1) := by decide +kernel
theorem dX4_step_64 : decode cX4_step 64 = .ok (.aload_n 0, 1) := by decide +kernel
theorem dX4_step_65 : decode cX4_step 65 = .ok (.aload_n 0, 1) := by decide +kernel
theorem dX4_step_66 : decode cX4_step 66 = .ok (.aload_n 0, 1) := by decide +kernel
theorem dX4_step_67 : decode cX4_step 67 = .ok (.getfield 11, 3) := by decide +kernel
theorem dX4_step_70 : decode cX4_step 70 = .ok (.aload_n 0, 1) := by decide +kernel
theorem dX4_step_71 : decode cX4_step 71 = .ok (.getfield 40, 3) := by decide +kernel
theorem dX4_step_74 : decode cX4_step 74 = .ok (.baload, 1) := by decide +kernel
theorem dX4_step_75 : decode cX4_step 75 = .ok (.invokevirtual 66, 3) := by decide +kernel
theorem dX4_step_78 : decode cX4_step 78 = .ok (.putfield 50, 3) := by decide +kernel
theorem dX4_step_81 : decode cX4_step 81 = .ok (.aload_n 0, 1) := by decide +kernel
theorem dX4_step_82 : decode cX4_step 82 = .ok (.dup, 1) := by decide +kernel
theorem dX4_step_83 : decode cX4_step 83 = .ok (.getfield 40, 3) := by decide +kernel
theorem dX4_step_86 : decode cX4_step 86 = .ok (.iconst 1, 1) := by decide +kernel
theorem dX4_step_87 : decode cX4_step 87 = .ok (.iadd, 1) := by decide +kernel
theorem dX4_step_88 : decode cX4_step 88 = .ok (.putfield 40, 3) := by decide +kernel
theorem dX4_step_91 : decode cX4_step 91 = .ok (.aload_n 0, 1) := by decide +kernel
theorem dX4_step_92 : decode cX4_step 92 = .ok (.getfield 50, 3) := by decide +kernel
theorem dX4_step_95 : decode cX4_step 95 = .ok (.iconst 3, 1) := by decide +kernel
theorem dX4_step_96 : decode cX4_step 96 = .ok (.if_icmp .eq 47, 3) := by decide +kernel
theorem dX4_step_99 : decode cX4_step 99 = .ok (.aload_n 0, 1) := by decide +kernel
theorem dX4_step_100 : decode cX4_step 100 = .ok (.getfield 40, 3) := by decide +kernel
theorem dX4_step_103 : decode cX4_step 103 = .ok (.aload_n 0, 1) := by decide +kernel
theorem dX4_step_104 : decode cX4_step 104 = .ok (.getfield 63, 3) := by decide +kernel
theorem dX4_step_107 : decode cX4_step 107 = .ok (.if_icmp .ge 36, 3) := by decide +kernel
theorem dX4_step_110 : decode cX4_step 110 = .ok (.aload_n 0, 1) := by decide +kernel
theorem dX4_step_111 : decode cX4_step 111 = .ok (.aload_n 0, 1) := by decide +kernel
theorem dX4_step_112 : decode cX4_step 112 = .ok (.getfield 11, 3) := by decide +kernel
theorem dX4_step_115 : decode cX4_step 115 = .ok (.aload_n 0, 1) := by decide +kernel
theorem dX4_step_116 : decode cX4_step 116 = .ok (.getfield 40, 3) := by decide +kernel
theorem dX4_step_119 : decode cX4_step 119 = .ok (.baload, 1) := by decide +kernel
theorem dX4_step_120 : decode cX4_step 120 = .ok (.invokevirtual 66, 3) := by decide +kernel
theorem dX4_step_123 : decode cX4_step 123 = .ok (.aload_n 0, 1) := by decide +kernel
theorem dX4_step_124 : decode cX4_step 124 = .ok (.getfield 50, 3) := by decide +kernel
theorem dX4_step_127 : decode cX4_step 127 = .ok (.if_icmp .ne 16, 3) := by decide +kernel
theorem dX4_step_130 : decode cX4_step 130 = .ok (.aload_n 0, 1) := by decide +kernel
theorem dX4_step_131 : decode cX4_step 131 = .ok (.dup, 1) := by decide +kernel
theorem dX4_step_132 : decode cX4_step 132 = .ok (.getfield 40, 3) := by decide +kernel
theorem dX4_step_135 : decode cX4_step 135 = .ok (.iconst 1, 1) := by decide +kernel
theorem dX4_step_136 : decode cX4_step 136 = .ok (.iadd, 1) := by decide +kernel
theorem dX4_step_137 : decode cX4_step 137 = .ok (.putfield 40, 3) := by decide +kernel
theorem dX4_step_140 : decode cX4_step 140 = .ok (.goto (-49), 3) := by decide +kernel
theorem dX4_step_143 : decode cX4_step 143 = .ok (.aload_n 0, 1) := by decide +kernel
theorem dX4_step_144 : decode cX4_step 144 = .ok (.getfield 50, 3) := by decide +kernel
theorem dX4_step_147 : decode cX4_step 147 = .ok (.iconst 4, 1) := by decide +kernel
theorem dX4_step_148 : decode cX4_step 148 = .ok (.if_icmp .eq 28, 3) := by decide +kernel
theorem dX4_step_151 : decode cX4_step 151 = .ok (.aload_n 0, 1) := by decide +kernel
theorem dX4_step_152 : decode cX4_step 152 = .ok (.getfield 50, 3) := by decide +kernel
theorem dX4_step_155 : decode cX4_step 155 = .ok (.iconst 2, 1) := by decide +kernel
theorem dX4_step_156 : decode cX4_step 156 = .ok (.if_icmp .ne 16, 3) := by decide +kernel
theorem dX4_step_159 : decode cX4_step 159 = .ok (.aload_n 0, 1) := by decide +kernel
theorem dX4_step_160 : decode cX4_step 160 = .ok (.getfield 40, 3) := by decide +kernel
theorem dX4_step_163 : decode cX4_step 163 = .ok (.aload_n 0, 1) := by decide +kernel
theorem dX4_step_164 : decode cX4_step 164 = .ok (.getfield 57, 3) := by decide +kernel
theorem dX4_step_167 : decode cX4_step 167 = .ok (.isub, 1) := by decide +kernel
theorem dX4_step_168 : decode cX4_step 168 = .ok (.iconst 3, 1) := by decide +kernel
theorem dX4_step_169 : decode cX4_step 169 = .ok (.if_icmp .gt 7, 3) := by decide +kernel
theorem dX4_step_172 : decode cX4_step 172 = .ok (.iconst 1, 1) := by decide +kernel
theorem dX4_step_173 : decode cX4_step 173 = .ok (.goto 4, 3) := by decide +kernel
theorem dX4_step_176 : decode cX4_step 176 = .ok (.iconst 0, 1) := by decide +kernel
theorem dX4_step_177 : decode cX4_step 177 = .ok (.istore_n 1, 1) := by decide +kernel
theorem dX4_step_178 : decode cX4_step 178 = .ok (.iload_n 1, 1) := by decide +kernel
theorem dX4_step_179 : decode cX4_step 179 = .ok (.ifCond .ne 11, 3) := by decide +kernel
theorem dX4_step_182 : decode cX4_step 182 = .ok (.aload_n 0, 1) := by decide +kernel
theorem dX4_step_183 : decode cX4_step 183 = .ok (.iconst 1, 1) := by decide +kernel
theorem dX4_step_184 : decode cX4_step 184 = .ok (.invokevirtual 70, 3) := by decide +kernel
theorem dX4_step_187 : decode cX4_step 187 = .ok (.ifCond .eq 7, 3) := by decide +kernel
theorem dX4_step_190 : decode cX4_step 190 = .ok (.iconst 1, 1) := by decide +kernel
theorem dX4_step_191 : decode cX4_step 191 = .ok (.goto 4, 3) := by decide +kernel
theorem dX4_step_194 : decode cX4_step 194 = .ok (.iconst 0, 1) := by decide +kernel
theorem dX4_step_195 : decode cX4_step 195 = .ok (.ireturn, 1) := by decide +kernel
theorem dX4_stepTo_0 : decode cX4_stepTo 0 = .ok (.aload_n 0, 1) := by decide +kernel
theorem dX4_stepTo_1 : decode cX4_stepTo 1 = .ok (.invokevirtual 46, 3) := by decide +kernel
theorem dX4_stepTo_4 : decode cX4_stepTo 4 = .ok (.ifCond .eq 23, 3) := by decide +kernel
theorem dX4_stepTo_7 : decode cX4_stepTo 7 = .ok (.aload_n 0, 1) := by decide +kernel
theorem dX4_stepTo_8 : decode cX4_stepTo 8 = .ok (.getfield 50, 3) := by decide +kernel
theorem dX4_stepTo_11 : decode cX4_stepTo 11 = .ok (.iload_n 1, 1) := by decide +kernel
theorem dX4_stepTo_12 : decode cX4_stepTo 12 = .ok (.if_icmp .eq 11, 3) := by decide +kernel
theorem dX4_stepTo_15 : decode cX4_stepTo 15 = .ok (.aload_n 0, 1) := by decide +kernel
theorem dX4_stepTo_16 : decode cX4_stepTo 16 = .ok (.iconst 2, 1) := by decide +kernel
theorem dX4_stepTo_17 : decode cX4_stepTo 17 = .ok (.invokevirtual 70, 3) := by decide +kernel
theorem dX4_stepTo_20 : decode cX4_stepTo 20 = .ok (.ifCond .eq 7, 3) := by decide +kernel
theorem dX4_stepTo_23 : decode cX4_stepTo 23 = .ok (.iconst 1, 1) := by decide +kernel
theorem dX4_stepTo_24 : decode cX4_stepTo 24 = .ok (.goto 4, 3) := by decide +kernel
theorem dX4_stepTo_27 : decode cX4_stepTo 27 = .ok (.iconst 0, 1) := by decide +kernel
theorem dX4_stepTo_28 : decode cX4_stepTo 28 = .ok (.ireturn, 1) := by decide +kernel
theorem dX4_takeNumber_0 : decode cX4_takeNumber 0 = .ok (.aload_n 0, 1) := by decide +kernel
theorem dX4_takeNumber_1 : decode cX4_takeNumber 1 = .ok (.iconst 0, 1) := by decide +kernel
theorem dX4_takeNumber_2 : decode cX4_takeNumber 2 = .ok (.putfield 74, 3) := by decide +kernel
theorem dX4_takeNumber_5 : decode cX4_takeNumber 5 = .ok (.aload_n 0, 1) := by decide +kernel
theorem dX4_takeNumber_6 : decode cX4_takeNumber 6 = .ok (.getfield 57, 3) := by decide +kernel
theorem dX4_takeNumber_9 : decode cX4_takeNumber 9 = .ok (.istore_n 3, 1) := by decide +kernel
theorem dX4_takeNumber_10 : decode cX4_takeNumber 10 = .ok (.iload_n 3, 1) := by decide +kernel
theorem dX4_takeNumber_11 : decode cX4_takeNumber 11 = .ok (.aload_n 0, 1) := by decide +kernel
theorem dX4_takeNumber_12 : decode cX4_takeNumber 12 = .ok (.getfield 40, 3) := by decide +kernel
theorem dX4_takeNumber_15 : decode cX4_takeNumber 15 = .ok (.if_icmp .ge 30, 3) := by decide +kernel
theorem dX4_takeNumber_18 : decode cX4_takeNumber 18 = .ok (.aload_n 0, 1) := by decide +kernel
theorem dX4_takeNumber_19 : decode cX4_takeNumber 19 = .ok (.aload_n 0, 1) := by decide +kernel
theorem dX4_takeNumber_20 : decode cX4_takeNumber 20 = .ok (.getfield 74, 3) := by decide +kernel
theorem dX4_takeNumber_23 : decode cX4_takeNumber 23 = .ok (.bipush 10, 2) := by decide +kernel
theorem dX4_takeNumber_25 : decode cX4_takeNumber 25 = .ok (.imul, 1) := by decide +kernel
theorem dX4_takeNumber_26 : decode cX4_takeNumber 26 = .ok (.aload_n 0, 1) := by decide +kernel
theorem dX4_takeNumber_27 : decode cX4_takeNumber 27 = .ok (.getfield 11, 3) := by decide +kernel
theorem dX4_takeNumber_30 : decode cX4_takeNumber 30 = .ok (.iload_n 3, 1) := by decide +kernel
theorem dX4_takeNumber_31 : decode cX4_takeNumber 31 = .ok (.baload, 1) := by decide +kernel
theorem dX4_takeNumber_32 : decode cX4_takeNumber 32 = .ok (.iadd, 1) := by decide +kernel
theorem dX4_takeNumber_33 : decode cX4_takeNumber 33 = .ok (.bipush 48, 2) := by decide +kernel
theorem dX4_takeNumber_35 : decode cX4_takeNumber 35 = .ok (.isub, 1) := by decide +kernel
theorem dX4_takeNumber_36 : decode cX4_takeNumber 36 = .ok (.putfield 74, 3) := by decide +kernel
theorem dX4_takeNumber_39 : decode cX4_takeNumber 39 = .ok (.iinc 3 1, 3) := by decide +kernel
theorem dX4_takeNumber_42 : decode cX4_takeNumber 42 = .ok (.goto (-32), 3) := by decide +kernel
theorem dX4_takeNumber_45 : decode cX4_takeNumber 45 = .ok (.aload_n 0, 1) := by decide +kernel
theorem dX4_takeNumber_46 : decode cX4_takeNumber 46 = .ok (.getfield 74, 3) := by decide +kernel
theorem dX4_takeNumber_49 : decode cX4_takeNumber 49 = .ok (.iload_n 1, 1) := by decide +kernel
theorem dX4_takeNumber_50 : decode cX4_takeNumber 50 = .ok (.if_icmp .lt 11, 3) := by decide +kernel
theorem dX4_takeNumber_53 : decode cX4_takeNumber 53 = .ok (.aload_n 0, 1) := by decide +kernel
theorem dX4_takeNumber_54 : decode cX4_takeNumber 54 = .ok (.getfield 74, 3) := by decide +kernel
theorem dX4_takeNumber_57 : decode cX4_takeNumber 57 = .ok (.iload_n 2, 1) := by decide +kernel
theorem dX4_takeNumber_58 : decode cX4_takeNumber 58 = .ok (.if_icmp .le 11, 3) := by decide +kernel
theorem dX4_takeNumber_61 : decode cX4_takeNumber 61 = .ok (.aload_n 0, 1) := by decide +kernel
theorem dX4_takeNumber_62 : decode cX4_takeNumber 62 = .ok (.iconst 3, 1) := by decide +kernel
theorem dX4_takeNumber_63 : decode cX4_takeNumber 63 = .ok (.invokevirtual 70, 3) := by decide +kernel
theorem dX4_takeNumber_66 : decode cX4_takeNumber 66 = .ok (.ifCond .eq 7, 3) := by decide +kernel
theorem dX4_takeNumber_69 : decode cX4_takeNumber 69 = .ok (.iconst 1, 1) := by decide +kernel
theorem dX4_takeNumber_70 : decode cX4_takeNumber 70 = .ok (.goto 4, 3) := by decide +kernel
theorem dX4_takeNumber_73 : decode cX4_takeNumber 73 = .ok (.iconst 0, 1) := by decide +kernel
theorem dX4_takeNumber_74 : decode cX4_takeNumber 74 = .ok (.ireturn, 1) := by decide +kernel
theorem dX4_isName_0 : decode cX4_isName 0 = .ok (.aload_n 1, 1) := by decide +kernel
theorem dX4_isName_1 : decode cX4_isName 1 = .ok (.invokevirtual 77, 3) := by decide +kernel
theorem dX4_isName_4 : decode cX4_isName 4 = .ok (.aload_n 0, 1) := by decide +kernel
theorem dX4_isName_5 : decode cX4_isName 5 = .ok (.getfield 40, 3) := by decide +kernel
theorem dX4_isName_8 : decode cX4_isName 8 = .ok (.aload_n 0, 1) := by decide +kernel
theorem dX4_isName_9 : decode cX4_isName 9 = .ok (.getfield 57, 3) := by decide +kernel
theorem dX4_isName_12 : decode cX4_isName 12 = .ok (.isub, 1) := by decide +kernel
theorem dX4_isName_13 : decode cX4_isName 13 = .ok (.if_icmp .eq 5, 3) := by decide +kernel
theorem dX4_isName_16 : decode cX4_isName 16 = .ok (.iconst 0, 1) := by decide +kernel
theorem dX4_isName_17 : decode cX4_isName 17 = .ok (.ireturn, 1) := by decide +kernel
theorem dX4_isName_18 : decode cX4_isName 18 = .ok (.iconst 0, 1) := by decide +kernel
theorem dX4_isName_19 : decode cX4_isName 19 = .ok (.istore_n 2, 1) := by decide +kernel
theorem dX4_isName_20 : decode cX4_isName 20 = .ok (.iload_n 2, 1) := by decide +kernel
theorem dX4_isName_21 : decode cX4_isName 21 = .ok (.aload_n 1, 1) := by decide +kernel
theorem dX4_isName_22 : decode cX4_isName 22 = .ok (.invokevirtual 77, 3) := by decide +kernel
theorem dX4_isName_25 : decode cX4_isName 25 = .ok (.if_icmp .ge 30, 3) := by decide +kernel
theorem dX4_isName_28 : decode cX4_isName 28 = .ok (.aload_n 0, 1) := by decide +kernel
theorem dX4_isName_29 : decode cX4_isName 29 = .ok (.getfield 11, 3) := by decide +kernel
theorem dX4_isName_32 : decode cX4_isName 32 = .ok (.aload_n 0, 1) := by decide +kernel
theorem dX4_isName_33 : decode cX4_isName 33 = .ok (.getfield 57, 3) := by decide +kernel
theorem dX4_isName_36 : decode cX4_isName 36 = .ok (.iload_n 2, 1) := by decide +kernel
theorem dX4_isName_37 : decode cX4_isName 37 = .ok (.iadd, 1) := by decide +kernel
theorem dX4_isName_38 : decode cX4_isName 38 = .ok (.baload, 1) := by decide +kernel
theorem dX4_isName_39 : decode cX4_isName 39 = .ok (.aload_n 1, 1) := by decide +kernel
theorem dX4_isName_40 : decode cX4_isName 40 = .ok (.iload_n 2, 1) := by decide +kernel
theorem dX4_isName_41 : decode cX4_isName 41 = .ok (.invokevirtual 83, 3) := by decide +kernel
theorem dX4_isName_44 : decode cX4_isName 44 = .ok (.if_icmp .eq 5, 3) := by decide +kernel
theorem dX4_isName_47 : decode cX4_isName 47 = .ok (.iconst 0, 1) := by decide +kernel
theorem dX4_isName_48 : decode cX4_isName 48 = .ok (.ireturn, 1) := by decide +kernel
theorem dX4_isName_49 : decode cX4_isName 49 = .ok (.iinc 2 1, 3) := by decide +kernel
theorem dX4_isName_52 : decode cX4_isName 52 = .ok (.goto (-32), 3) := by decide +kernel
theorem dX4_isName_55 : decode cX4_isName 55 = .ok (.iconst 1, 1) := by decide +kernel
theorem dX4_isName_56 : decode cX4_isName 56 = .ok (.ireturn, 1) := by decide +kernel
theorem dX4_nameIndex_0 : decode cX4_nameIndex 0 = .ok (.iconst 0, 1) := by decide +kernel
theorem dX4_nameIndex_1 : decode cX4_nameIndex 1 = .ok (.istore_n 1, 1) := by decide +kernel
theorem dX4_nameIndex_2 : decode cX4_nameIndex 2 = .ok (.iload_n 1, 1) := by decide +kernel
theorem dX4_nameIndex_3 : decode cX4_nameIndex 3 = .ok (.bipush 8, 2) := by decide +kernel
theorem dX4_nameIndex_5 : decode cX4_nameIndex 5 = .ok (.if_icmp .ge 22, 3) := by decide +kernel
theorem dX4_nameIndex_8 : decode cX4_nameIndex 8 = .ok (.aload_n 0, 1) := by decide +kernel
theorem dX4_nameIndex_9 : decode cX4_nameIndex 9 = .ok (.iload_n 1, 1) := by decide +kernel
theorem dX4_nameIndex_10 : decode cX4_nameIndex 10 = .ok (.invokestatic 87, 3) := by decide +kernel
theorem dX4_nameIndex_13 : decode cX4_nameIndex 13 = .ok (.invokevirtual 91, 3) := by decide +kernel
theorem dX4_nameIndex_16 : decode cX4_nameIndex 16 = .ok (.ifCond .eq 5, 3) := by decide +kernel
theorem dX4_nameIndex_19 : decode cX4_nameIndex 19 = .ok (.iload_n 1, 1) := by decide +kernel
theorem dX4_nameIndex_20 : decode cX4_nameIndex 20 = .ok (.ireturn, 1) := by decide +kernel
theorem dX4_nameIndex_21 : decode cX4_nameIndex 21 = .ok (.iinc 1 1, 3) := by decide +kernel
theorem dX4_nameIndex_24 : decode cX4_nameIndex 24 = .ok (.goto (-22), 3) := by decide +kernel
theorem dX4_nameIndex_27 : decode cX4_nameIndex 27 = .ok (.bipush (-4), 2) := by decide +kernel
theorem dX4_nameIndex_29 : decode cX4_nameIndex 29 = .ok (.ireturn, 1) := by decide +kernel
theorem dX4_readLine_0 : decode cX4_readLine 0 = .ok (.aload_n 0, 1) := by decide +kernel
theorem dX4_readLine_1 : decode cX4_readLine 1 = .ok (.invokevirtual 95, 3) := by decide +kernel
theorem dX4_readLine_4 : decode cX4_readLine 4 = .ok (.istore_n 2, 1) := by decide +kernel
theorem dX4_readLine_5 : decode cX4_readLine 5 = .ok (.iload_n 2, 1) := by decide +kernel
theorem dX4_readLine_6 : decode cX4_readLine 6 = .ok (.bipush (-4), 2) := by decide +kernel
theorem dX4_readLine_8 : decode cX4_readLine 8 = .ok (.if_icmp .ne 9, 3) := by decide +kernel
theorem dX4_readLine_11 : decode cX4_readLine 11 = .ok (.aload_n 0, 1) := by decide +kernel
theorem dX4_readLine_12 : decode cX4_readLine 12 = .ok (.iconst 2, 1) := by decide +kernel
theorem dX4_readLine_13 : decode cX4_readLine 13 = .ok (.invokevirtual 70, 3) := by decide +kernel
theorem dX4_readLine_16 : decode cX4_readLine 16 = .ok (.ireturn, 1) := by decide +kernel
theorem dX4_readLine_17 : decode cX4_readLine 17 = .ok (.iload_n 2, 1) := by decide +kernel
theorem dX4_readLine_18 : decode cX4_readLine 18 = .ok (.iconst 4, 1) := by decide +kernel
theorem dX4_readLine_19 : decode cX4_readLine 19 = .ok (.if_icmp .ge 10, 3) := by decide +kernel
theorem dX4_readLine_22 : decode cX4_readLine 22 = .ok (.aload_n 0, 1) := by decide +kernel
theorem dX4_readLine_23 : decode cX4_readLine 23 = .ok (.aload_n 1, 1) := by decide +kernel
theorem dX4_readLine_24 : decode cX4_readLine 24 = .ok (.iload_n 2, 1) := by decide +kernel
theorem dX4_readLine_25 : decode cX4_readLine 25 = .ok (.invokevirtual 98, 3) := by decide +kernel
theorem dX4_readLine_28 : decode cX4_readLine 28 = .ok (.ireturn, 1) := by decide +kernel
theorem dX4_readLine_29 : decode cX4_readLine 29 = .ok (.aload_n 0, 1) := by decide +kernel
theorem dX4_readLine_30 : decode cX4_readLine 30 = .ok (.getfield 43, 3) := by decide +kernel
theorem dX4_readLine_33 : decode cX4_readLine 33 = .ok (.iload_n 2, 1) := by decide +kernel
theorem dX4_readLine_34 : decode cX4_readLine 34 = .ok (.ishr, 1) := by decide +kernel
theorem dX4_readLine_35 : decode cX4_readLine 35 = .ok (.iconst 1, 1) := by decide +kernel
theorem dX4_readLine_36 : decode cX4_readLine 36 = .ok (.iand, 1) := by decide +kernel
theorem dX4_readLine_37 : decode cX4_readLine 37 = .ok (.iconst 1, 1) := by decide +kernel
theorem dX4_readLine_38 : decode cX4_readLine 38 = .ok (.if_icmp .ne 9, 3) := by decide +kernel
theorem dX4_readLine_41 : decode cX4_readLine 41 = .ok (.aload_n 0, 1) := by decide +kernel
theorem dX4_readLine_42 : decode cX4_readLine 42 = .ok (.iconst 4, 1) := by decide +kernel
theorem dX4_readLine_43 : decode cX4_readLine 43 = .ok (.invokevirtual 70, 3) := by decide +kernel
theorem dX4_readLine_46 : decode cX4_readLine 46 = .ok (.ireturn, 1) := by decide +kernel
theorem dX4_readLine_47 : decode cX4_readLine 47 = .ok (.aload_n 0, 1) := by decide +kernel
theorem dX4_readLine_48 : decode cX4_readLine 48 = .ok (.dup, 1) := by decide +kernel
theorem dX4_readLine_49 : decode cX4_readLine 49 = .ok (.getfield 43, 3) := by decide +kernel
theorem dX4_readLine_52 : decode cX4_readLine 52 = .ok (.iconst 1, 1) := by decide +kernel
theorem dX4_readLine_53 : decode cX4_readLine 53 = .ok (.iload_n 2, 1) := by decide +kernel
theorem dX4_readLine_54 : decode cX4_readLine 54 = .ok (.ishl, 1) := by decide +kernel
theorem dX4_readLine_55 : decode cX4_readLine 55 = .ok (.ior, 1) := by decide +kernel
theorem dX4_readLine_56 : decode cX4_readLine 56 = .ok (.putfield 43, 3) := by decide +kernel
theorem dX4_readLine_59 : decode cX4_readLine 59 = .ok (.iload_n 2, 1) := by decide +kernel
theorem dX4_readLine_60 : decode cX4_readLine 60 = .ok (.bipush 7, 2) := by decide +kernel
theorem dX4_readLine_62 : decode cX4_readLine 62 = .ok (.if_icmp .ne 11, 3) := by decide +kernel
theorem dX4_readLine_65 : decode cX4_readLine 65 = .ok (.aload_n 0, 1) := by decide +kernel
theorem dX4_readLine_66 : decode cX4_readLine 66 = .ok (.aload_n 1, 1) := by decide +kernel
theorem dX4_readLine_67 : decode cX4_readLine 67 = .ok (.invokevirtual 102, 3) := by decide +kernel
theorem dX4_readLine_70 : decode cX4_readLine 70 = .ok (.goto 11, 3) := by decide +kernel
theorem dX4_readLine_73 : decode cX4_readLine 73 = .ok (.aload_n 0, 1) := by decide +kernel
theorem dX4_readLine_74 : decode cX4_readLine 74 = .ok (.aload_n 1, 1) := by decide +kernel
theorem dX4_readLine_75 : decode cX4_readLine 75 = .ok (.iload_n 2, 1) := by decide +kernel
theorem dX4_readLine_76 : decode cX4_readLine 76 = .ok (.iconst 4, 1) := by decide +kernel
theorem dX4_readLine_77 : decode cX4_readLine 77 = .ok (.isub, 1) := by decide +kernel
theorem dX4_readLine_78 : decode cX4_readLine 78 = .ok (.invokevirtual 105, 3) := by decide +kernel
theorem dX4_readLine_81 : decode cX4_readLine 81 = .ok (.ireturn, 1) := by decide +kernel
theorem dX4_readHead_0 : decode cX4_readHead 0 = .ok (.aload_n 1, 1) := by decide +kernel
theorem dX4_readHead_1 : decode cX4_readHead 1 = .ok (.getfield 108, 3) := by decide +kernel
theorem dX4_readHead_4 : decode cX4_readHead 4 = .ok (.iconst 3, 1) := by decide +kernel
theorem dX4_readHead_5 : decode cX4_readHead 5 = .ok (.if_icmp .lt 9, 3) := by decide +kernel
theorem dX4_readHead_8 : decode cX4_readHead 8 = .ok (.aload_n 0, 1) := by decide +kernel
theorem dX4_readHead_9 : decode cX4_readHead 9 = .ok (.iconst 5, 1) := by decide +kernel
theorem dX4_readHead_10 : decode cX4_readHead 10 = .ok (.invokevirtual 70, 3) := by decide +kernel
theorem dX4_readHead_13 : decode cX4_readHead 13 = .ok (.ireturn, 1) := by decide +kernel
theorem dX4_readHead_14 : decode cX4_readHead 14 = .ok (.aload_n 0, 1) := by decide +kernel
theorem dX4_readHead_15 : decode cX4_readHead 15 = .ok (.iconst 2, 1) := by decide +kernel
theorem dX4_readHead_16 : decode cX4_readHead 16 = .ok (.invokevirtual 111, 3) := by decide +kernel
theorem dX4_readHead_19 : decode cX4_readHead 19 = .ok (.ifCond .eq 13, 3) := by decide +kernel
theorem dX4_readHead_22 : decode cX4_readHead 22 = .ok (.aload_n 0, 1) := by decide +kernel
theorem dX4_readHead_23 : decode cX4_readHead 23 = .ok (.iconst 0, 1) := by decide +kernel
theorem dX4_readHead_24 : decode cX4_readHead 24 = .ok (.bipush 30, 2) := by decide +kernel
theorem dX4_readHead_26 : decode cX4_readHead 26 = .ok (.invokevirtual 114, 3) := by decide +kernel
theorem dX4_readHead_29 : decode cX4_readHead 29 = .ok (.ifCond .ne 5, 3) := by decide +kernel
theorem dX4_readHead_32 : decode cX4_readHead 32 = .ok (.iconst 0, 1) := by decide +kernel
theorem dX4_readHead_33 : decode cX4_readHead 33 = .ok (.ireturn, 1) := by decide +kernel
theorem dX4_readHead_34 : decode cX4_readHead 34 = .ok (.aload_n 1, 1) := by decide +kernel
theorem dX4_readHead_35 : decode cX4_readHead 35 = .ok (.getfield 118, 3) := by decide +kernel
theorem dX4_readHead_38 : decode cX4_readHead 38 = .ok (.aload_n 1, 1) := by decide +kernel
theorem dX4_readHead_39 : decode cX4_readHead 39 = .ok (.getfield 108, 3) := by decide +kernel
theorem dX4_readHead_42 : decode cX4_readHead 42 = .ok (.aaload, 1) := by decide +kernel
theorem dX4_readHead_43 : decode cX4_readHead 43 = .ok (.iload_n 2, 1) := by decide +kernel
theorem dX4_readHead_44 : decode cX4_readHead 44 = .ok (.aload_n 0, 1) := by decide +kernel
theorem dX4_readHead_45 : decode cX4_readHead 45 = .ok (.getfield 74, 3) := by decide +kernel
theorem dX4_readHead_48 : decode cX4_readHead 48 = .ok (.invokevirtual 122, 3) := by decide +kernel
theorem dX4_readHead_51 : decode cX4_readHead 51 = .ok (.aload_n 1, 1) := by decide +kernel
theorem dX4_readHead_52 : decode cX4_readHead 52 = .ok (.dup, 1) := by decide +kernel
theorem dX4_readHead_53 : decode cX4_readHead 53 = .ok (.getfield 108, 3) := by decide +kernel
theorem dX4_readHead_56 : decode cX4_readHead 56 = .ok (.iconst 1, 1) := by decide +kernel
theorem dX4_readHead_57 : decode cX4_readHead 57 = .ok (.iadd, 1) := by decide +kernel
theorem dX4_readHead_58 : decode cX4_readHead 58 = .ok (.putfield 108, 3) := by decide +kernel
theorem dX4_readHead_61 : decode cX4_readHead 61 = .ok (.aload_n 0, 1) := by decide +kernel
theorem dX4_readHead_62 : decode cX4_readHead 62 = .ok (.iconst 3, 1) := by decide +kernel
theorem dX4_readHead_63 : decode cX4_readHead 63 = .ok (.invokevirtual 111, 3) := by decide +kernel
theorem dX4_readHead_66 : decode cX4_readHead 66 = .ok (.ireturn, 1) := by decide +kernel
theorem dX4_readRule_0 : decode cX4_readRule 0 = .ok (.aload_n 0, 1) := by decide +kernel
theorem dX4_readRule_1 : decode cX4_readRule 1 = .ok (.iconst 2, 1) := by decide +kernel
theorem dX4_readRule_2 : decode cX4_readRule 2 = .ok (.invokevirtual 111, 3) := by decide +kernel
theorem dX4_readRule_5 : decode cX4_readRule 5 = .ok (.ifCond .eq 20, 3) := by decide +kernel
theorem dX4_readRule_8 : decode cX4_readRule 8 = .ok (.aload_n 0, 1) := by decide +kernel
theorem dX4_readRule_9 : decode cX4_readRule 9 = .ok (.getstatic 127, 3) := by decide +kernel
theorem dX4_readRule_12 : decode cX4_readRule 12 = .ok (.iload_n 2, 1) := by decide +kernel
theorem dX4_readRule_13 : decode cX4_readRule 13 = .ok (.iaload, 1) := by decide +kernel
theorem dX4_readRule_14 : decode cX4_readRule 14 = .ok (.getstatic 131, 3) := by decide +kernel
theorem dX4_readRule_17 : decode cX4_readRule 17 = .ok (.iload_n 2, 1) := by decide +kernel
theorem dX4_readRule_18 : decode cX4_readRule 18 = .ok (.iaload, 1) := by decide +kernel
theorem dX4_readRule_19 : decode cX4_readRule 19 = .ok (.invokevirtual 114, 3) := by decide +kernel
theorem dX4_readRule_22 : decode cX4_readRule 22 = .ok (.ifCond .ne 5, 3) := by decide +kernel
theorem dX4_readRule_25 : decode cX4_readRule 25 = .ok (.iconst 0, 1) := by decide +kernel
theorem dX4_readRule_26 : decode cX4_readRule 26 = .ok (.ireturn, 1) := by decide +kernel
theorem dX4_readRule_27 : decode cX4_readRule 27 = .ok (.aload_n 1, 1) := by decide +kernel
theorem dX4_readRule_28 : decode cX4_readRule 28 = .ok (.getfield 134, 3) := by decide +kernel
theorem dX4_readRule_31 : decode cX4_readRule 31 = .ok (.iload_n 2, 1) := by decide +kernel
theorem dX4_readRule_32 : decode cX4_readRule 32 = .ok (.aload_n 0, 1) := by decide +kernel
theorem dX4_readRule_33 : decode cX4_readRule 33 = .ok (.getfield 74, 3) := by decide +kernel
theorem dX4_readRule_36 : decode cX4_readRule 36 = .ok (.iastore, 1) := by decide +kernel
theorem dX4_readRule_37 : decode cX4_readRule 37 = .ok (.aload_n 0, 1) := by decide +kernel
theorem dX4_readRule_38 : decode cX4_readRule 38 = .ok (.iconst 3, 1) := by decide +kernel
theorem dX4_readRule_39 : decode cX4_readRule 39 = .ok (.invokevirtual 111, 3) := by decide +kernel
theorem dX4_readRule_42 : decode cX4_readRule 42 = .ok (.ireturn, 1) := by decide +kernel
theorem dX4_readLines_0 : decode cX4_readLines 0 = .ok (.aload_n 0, 1) := by decide +kernel
theorem dX4_readLines_1 : decode cX4_readLines 1 = .ok (.iconst 2, 1) := by decide +kernel
theorem dX4_readLines_2 : decode cX4_readLines 2 = .ok (.invokevirtual 111, 3) := by decide +kernel
theorem dX4_readLines_5 : decode cX4_readLines 5 = .ok (.ifCond .ne 5, 3) := by decide +kernel
theorem dX4_readLines_8 : decode cX4_readLines 8 = .ok (.iconst 0, 1) := by decide +kernel
theorem dX4_readLines_9 : decode cX4_readLines 9 = .ok (.ireturn, 1) := by decide +kernel
theorem dX4_readLines_10 : decode cX4_readLines 10 = .ok (.aload_n 1, 1) := by decide +kernel
theorem dX4_readLines_11 : decode cX4_readLines 11 = .ok (.getfield 137, 3) := by decide +kernel
theorem dX4_readLines_14 : decode cX4_readLines 14 = .ok (.bipush 12, 2) := by decide +kernel
theorem dX4_readLines_16 : decode cX4_readLines 16 = .ok (.if_icmp .ge 56, 3) := by decide +kernel
theorem dX4_readLines_19 : decode cX4_readLines 19 = .ok (.aload_n 0, 1) := by decide +kernel
theorem dX4_readLines_20 : decode cX4_readLines 20 = .ok (.getfield 50, 3) := by decide +kernel
theorem dX4_readLines_23 : decode cX4_readLines 23 = .ok (.iconst 2, 1) := by decide +kernel
theorem dX4_readLines_24 : decode cX4_readLines 24 = .ok (.if_icmp .ne 48, 3) := by decide +kernel
theorem dX4_readLines_27 : decode cX4_readLines 27 = .ok (.aload_n 0, 1) := by decide +kernel
theorem dX4_readLines_28 : decode cX4_readLines 28 = .ok (.iconst 0, 1) := by decide +kernel
theorem dX4_readLines_29 : decode cX4_readLines 29 = .ok (.sipush 255, 3) := by decide +kernel
theorem dX4_readLines_32 : decode cX4_readLines 32 = .ok (.invokevirtual 114, 3) := by decide +kernel
theorem dX4_readLines_35 : decode cX4_readLines 35 = .ok (.ifCond .ne 5, 3) := by decide +kernel
theorem dX4_readLines_38 : decode cX4_readLines 38 = .ok (.iconst 0, 1) := by decide +kernel
theorem dX4_readLines_39 : decode cX4_readLines 39 = .ok (.ireturn, 1) := by decide +kernel
theorem dX4_readLines_40 : decode cX4_readLines 40 = .ok (.aload_n 1, 1) := by decide +kernel
theorem dX4_readLines_41 : decode cX4_readLines 41 = .ok (.getfield 140, 3) := by decide +kernel
theorem dX4_readLines_44 : decode cX4_readLines 44 = .ok (.aload_n 1, 1) := by decide +kernel
theorem dX4_readLines_45 : decode cX4_readLines 45 = .ok (.getfield 137, 3) := by decide +kernel
theorem dX4_readLines_48 : decode cX4_readLines 48 = .ok (.aload_n 0, 1) := by decide +kernel
theorem dX4_readLines_49 : decode cX4_readLines 49 = .ok (.getfield 74, 3) := by decide +kernel
theorem dX4_readLines_52 : decode cX4_readLines 52 = .ok (.iastore, 1) := by decide +kernel
theorem dX4_readLines_53 : decode cX4_readLines 53 = .ok (.aload_n 1, 1) := by decide +kernel
theorem dX4_readLines_54 : decode cX4_readLines 54 = .ok (.dup, 1) := by decide +kernel
theorem dX4_readLines_55 : decode cX4_readLines 55 = .ok (.getfield 137, 3) := by decide +kernel
theorem dX4_readLines_58 : decode cX4_readLines 58 = .ok (.iconst 1, 1) := by decide +kernel
theorem dX4_readLines_59 : decode cX4_readLines 59 = .ok (.iadd, 1) := by decide +kernel
theorem dX4_readLines_60 : decode cX4_readLines 60 = .ok (.putfield 137, 3) := by decide +kernel
theorem dX4_readLines_63 : decode cX4_readLines 63 = .ok (.aload_n 0, 1) := by decide +kernel
theorem dX4_readLines_64 : decode cX4_readLines 64 = .ok (.invokevirtual 46, 3) := by decide +kernel
theorem dX4_readLines_67 : decode cX4_readLines 67 = .ok (.ifCond .ne (-57), 3) := by decide +kernel
theorem dX4_readLines_70 : decode cX4_readLines 70 = .ok (.iconst 0, 1) := by decide +kernel
theorem dX4_readLines_71 : decode cX4_readLines 71 = .ok (.ireturn, 1) := by decide +kernel
theorem dX4_readLines_72 : decode cX4_readLines 72 = .ok (.aload_n 0, 1) := by decide +kernel
theorem dX4_readLines_73 : decode cX4_readLines 73 = .ok (.getfield 50, 3) := by decide +kernel
theorem dX4_readLines_76 : decode cX4_readLines 76 = .ok (.iconst 2, 1) := by decide +kernel
theorem dX4_readLines_77 : decode cX4_readLines 77 = .ok (.if_icmp .ne 9, 3) := by decide +kernel
theorem dX4_readLines_80 : decode cX4_readLines 80 = .ok (.aload_n 0, 1) := by decide +kernel
theorem dX4_readLines_81 : decode cX4_readLines 81 = .ok (.iconst 5, 1) := by decide +kernel
theorem dX4_readLines_82 : decode cX4_readLines 82 = .ok (.invokevirtual 70, 3) := by decide +kernel
theorem dX4_readLines_85 : decode cX4_readLines 85 = .ok (.ireturn, 1) := by decide +kernel
theorem dX4_readLines_86 : decode cX4_readLines 86 = .ok (.aload_n 0, 1) := by decide +kernel
theorem dX4_readLines_87 : decode cX4_readLines 87 = .ok (.getfield 50, 3) := by decide +kernel
theorem dX4_readLines_90 : decode cX4_readLines 90 = .ok (.iconst 3, 1) := by decide +kernel
theorem dX4_readLines_91 : decode cX4_readLines 91 = .ok (.if_icmp .eq 11, 3) := by decide +kernel
theorem dX4_readLines_94 : decode cX4_readLines 94 = .ok (.aload_n 0, 1) := by decide +kernel
theorem dX4_readLines_95 : decode cX4_readLines 95 = .ok (.iconst 2, 1) := by decide +kernel
theorem dX4_readLines_96 : decode cX4_readLines 96 = .ok (.invokevirtual 70, 3) := by decide +kernel
theorem dX4_readLines_99 : decode cX4_readLines 99 = .ok (.ifCond .eq 7, 3) := by decide +kernel
theorem dX4_readLines_102 : decode cX4_readLines 102 = .ok (.iconst 1, 1) := by decide +kernel
theorem dX4_readLines_103 : decode cX4_readLines 103 = .ok (.goto 4, 3) := by decide +kernel
theorem dX4_readLines_106 : decode cX4_readLines 106 = .ok (.iconst 0, 1) := by decide +kernel
theorem dX4_readLines_107 : decode cX4_readLines 107 = .ok (.ireturn, 1) := by decide +kernel
end
section
theorem dX5_init_0 : decode cX5_init 0 = .ok (.aload_n 0, 1) := by decide +kernel
theorem dX5_init_1 : decode cX5_init 1 = .ok (.invokespecial 1, 3) := by decide +kernel
theorem dX5_init_4 : decode cX5_init 4 = .ok (.aload_n 0, 1) := by decide +kernel
theorem dX5_init_5 : decode cX5_init 5 = .ok (.new 7, 3) := by decide +kernel
theorem dX5_init_8 : decode cX5_init 8 = .ok (.dup, 1) := by decide +kernel
theorem dX5_init_9 : decode cX5_init 9 = .ok (.invokespecial 9, 3) := by decide +kernel
theorem dX5_init_12 : decode cX5_init 12 = .ok (.putfield 10, 3) := by decide +kernel
theorem dX5_init_15 : decode cX5_init 15 = .ok (.aload_n 0, 1) := by decide +kernel
theorem dX5_init_16 : decode cX5_init 16 = .ok (.new 16, 3) := by decide +kernel
theorem dX5_init_19 : decode cX5_init 19 = .ok (.dup, 1) := by decide +kernel
theorem dX5_init_20 : decode cX5_init 20 = .ok (.invokespecial 18, 3) := by decide +kernel
theorem dX5_init_23 : decode cX5_init 23 = .ok (.putfield 19, 3) := by decide +kernel
theorem dX5_init_26 : decode cX5_init 26 = .ok (.aload_n 0, 1) := by decide +kernel
theorem dX5_init_27 : decode cX5_init 27 = .ok (.new 16, 3) := by decide +kernel
theorem dX5_init_30 : decode cX5_init 30 = .ok (.dup, 1) := by decide +kernel
theorem dX5_init_31 : decode cX5_init 31 = .ok (.invokespecial 18, 3) := by decide +kernel
theorem dX5_init_34 : decode cX5_init 34 = .ok (.putfield 23, 3) := by decide +kernel
theorem dX5_init_37 : decode cX5_init 37 = .ok (.aload_n 0, 1) := by decide +kernel
theorem dX5_init_38 : decode cX5_init 38 = .ok (.new 26, 3) := by decide +kernel
theorem dX5_init_41 : decode cX5_init 41 = .ok (.dup, 1) := by decide +kernel
theorem dX5_init_42 : decode cX5_init 42 = .ok (.invokespecial 28, 3) := by decide +kernel
theorem dX5_init_45 : decode cX5_init 45 = .ok (.putfield 29, 3) := by decide +kernel
theorem dX5_init_48 : decode cX5_init 48 = .ok (.aload_n 0, 1) := by decide +kernel
theorem dX5_init_49 : decode cX5_init 49 = .ok (.iconst 2, 1) := by decide +kernel
theorem dX5_init_50 : decode cX5_init 50 = .ok (.anewarray 16, 3) := by decide +kernel
theorem dX5_init_53 : decode cX5_init 53 = .ok (.putfield 33, 3) := by decide +kernel
theorem dX5_init_56 : decode cX5_init 56 = .ok (.aload_n 0, 1) := by decide +kernel
theorem dX5_init_57 : decode cX5_init 57 = .ok (.iconst 2, 1) := by decide +kernel
theorem dX5_init_58 : decode cX5_init 58 = .ok (.newarray .boolean, 2) := by decide +kernel
theorem dX5_init_60 : decode cX5_init 60 = .ok (.putfield 37, 3) := by decide +kernel
theorem dX5_init_63 : decode cX5_init 63 = .ok (.aload_n 0, 1) := by decide +kernel
theorem dX5_init_64 : decode cX5_init 64 = .ok (.iconst 4, 1) := by decide +kernel
theorem dX5_init_65 : decode cX5_init 65 = .ok (.anewarray 41, 3) := by decide +kernel
theorem dX5_init_68 : decode cX5_init 68 = .ok (.putfield 43, 3) := by decide +kernel
theorem dX5_init_71 : decode cX5_init 71 = .ok (.aload_n 0, 1) := by decide +kernel
theorem dX5_init_72 : decode cX5_init 72 = .ok (.bipush 62, 2) := by decide +kernel
theorem dX5_init_74 : decode cX5_init 74 = .ok (.newarray .int, 2) := by decide +kernel
theorem dX5_init_76 : decode cX5_init 76 = .ok (.putfield 47, 3) := by decide +kernel
theorem dX5_init_79 : decode cX5_init 79 = .ok (.aload_n 0, 1) := by decide +kernel
theorem dX5_init_80 : decode cX5_init 80 = .ok (.sipush 1271, 3) := by decide +kernel
theorem dX5_init_83 : decode cX5_init 83 = .ok (.newarray .int, 2) := by decide +kernel
theorem dX5_init_85 : decode cX5_init 85 = .ok (.putfield 51, 3) := by decide +kernel
theorem dX5_init_88 : decode cX5_init 88 = .ok (.aload_n 0, 1) := by decide +kernel
theorem dX5_init_89 : decode cX5_init 89 = .ok (.sipush 256, 3) := by decide +kernel
theorem dX5_init_92 : decode cX5_init 92 = .ok (.newarray .int, 2) := by decide +kernel
theorem dX5_init_94 : decode cX5_init 94 = .ok (.putfield 54, 3) := by decide +kernel
theorem dX5_init_97 : decode cX5_init 97 = .ok (.iconst 0, 1) := by decide +kernel
theorem dX5_init_98 : decode cX5_init 98 = .ok (.istore_n 1, 1) := by decide +kernel
theorem dX5_init_99 : decode cX5_init 99 = .ok (.iload_n 1, 1) := by decide +kernel
theorem dX5_init_100 : decode cX5_init 100 = .ok (.iconst 2, 1) := by decide +kernel
theorem dX5_init_101 : decode cX5_init 101 = .ok (.if_icmp .ge 22, 3) := by decide +kernel
theorem dX5_init_104 : decode cX5_init 104 = .ok (.aload_n 0, 1) := by decide +kernel
theorem dX5_init_105 : decode cX5_init 105 = .ok (.getfield 33, 3) := by decide +kernel
theorem dX5_init_108 : decode cX5_init 108 = .ok (.iload_n 1, 1) := by decide +kernel
theorem dX5_init_109 : decode cX5_init 109 = .ok (.new 16, 3) := by decide +kernel
theorem dX5_init_112 : decode cX5_init 112 = .ok (.dup, 1) := by decide +kernel
theorem dX5_init_113 : decode cX5_init 113 = .ok (.invokespecial 18, 3) := by decide +kernel
theorem dX5_init_116 : decode cX5_init 116 = .ok (.aastore, 1) := by decide +kernel
theorem dX5_init_117 : decode cX5_init 117 = .ok (.iinc 1 1, 3) := by decide +kernel
theorem dX5_init_120 : decode cX5_init 120 = .ok (.goto (-21), 3) := by decide +kernel
theorem dX5_init_123 : decode cX5_init 123 = .ok (.iconst 0, 1) := by decide +kernel
theorem dX5_init_124 : decode cX5_init 124 = .ok (.istore_n 1, 1) := by decide +kernel
theorem dX5_init_125 : decode cX5_init 125 = .ok (.iload_n 1, 1) := by decide +kernel
theorem dX5_init_126 : decode cX5_init 126 = .ok (.iconst 4, 1) := by decide +kernel
theorem dX5_init_127 : decode cX5_init 127 = .ok (.if_icmp .ge 22, 3) := by decide +kernel
theorem dX5_init_130 : decode cX5_init 130 = .ok (.aload_n 0, 1) := by decide +kernel
theorem dX5_init_131 : decode cX5_init 131 = .ok (.getfield 43, 3) := by decide +kernel
theorem dX5_init_134 : decode cX5_init 134 = .ok (.iload_n 1, 1) := by decide +kernel
theorem dX5_init_135 : decode cX5_init 135 = .ok (.new 41, 3) := by decide +kernel
theorem dX5_init_138 : decode cX5_init 138 = .ok (.dup, 1) := by decide +kernel
theorem dX5_init_139 : decode cX5_init 139 = .ok (.invokespecial 57, 3) := by decide +kernel
theorem dX5_init_142 : decode cX5_init 142 = .ok (.aastore, 1) := by decide +kernel
theorem dX5_init_143 : decode cX5_init 143 = .ok (.iinc 1 1, 3) := by decide +kernel
theorem dX5_init_146 : decode cX5_init 146 = .ok (.goto (-21), 3) := by decide +kernel
theorem dX5_init_149 : decode cX5_init 149 = .ok (.return_, 1) := by decide +kernel
theorem dX5_feed_0 : decode cX5_feed 0 = .ok (.iload_n 1, 1) := by decide +kernel
theorem dX5_feed_1 : decode cX5_feed 1 = .ok (.iconst 0, 1) := by decide +kernel
theorem dX5_feed_2 : decode cX5_feed 2 = .ok (.bipush 127, 2) := by decide +kernel
theorem dX5_feed_4 : decode cX5_feed 4 = .ok (.invokestatic 58, 3) := by decide +kernel
theorem dX5_feed_7 : decode cX5_feed 7 = .ok (.ifCond .eq 5, 3) := by decide +kernel
theorem dX5_feed_10 : decode cX5_feed 10 = .ok (.iconst (-1), 1) := by decide +kernel
theorem dX5_feed_11 : decode cX5_feed 11 = .ok (.ireturn, 1) := by decide +kernel
theorem dX5_feed_12 : decode cX5_feed 12 = .ok (.aload_n 0, 1) := by decide +kernel
theorem dX5_feed_13 : decode cX5_feed 13 = .ok (.getfield 10, 3) := by decide +kernel
theorem dX5_feed_16 : decode cX5_feed 16 = .ok (.getfield 62, 3) := by decide +kernel
theorem dX5_feed_19 : decode cX5_feed 19 = .ok (.sipush 160, 3) := by decide +kernel
theorem dX5_feed_22 : decode cX5_feed 22 = .ok (.if_icmp .lt 6, 3) := by decide +kernel
theorem dX5_feed_25 : decode cX5_feed 25 = .ok (.bipush (-3), 2) := by decide +kernel
theorem dX5_feed_27 : decode cX5_feed 27 = .ok (.ireturn, 1) := by decide +kernel
theorem dX5_feed_28 : decode cX5_feed 28 = .ok (.aload_n 0, 1) := by decide +kernel
theorem dX5_feed_29 : decode cX5_feed 29 = .ok (.getfield 10, 3) := by decide +kernel
theorem dX5_feed_32 : decode cX5_feed 32 = .ok (.getfield 66, 3) := by decide +kernel
theorem dX5_feed_35 : decode cX5_feed 35 = .ok (.aload_n 0, 1) := by decide +kernel
theorem dX5_feed_36 : decode cX5_feed 36 = .ok (.getfield 10, 3) := by decide +kernel
theorem dX5_feed_39 : decode cX5_feed 39 = .ok (.getfield 62, 3) := by decide +kernel
theorem dX5_feed_42 : decode cX5_feed 42 = .ok (.iload_n 1, 1) := by decide +kernel
theorem dX5_feed_43 : decode cX5_feed 43 = .ok (.i2b, 1) := by decide +kernel
theorem dX5_feed_44 : decode cX5_feed 44 = .ok (.bastore, 1) := by decide +kernel
theorem dX5_feed_45 : decode cX5_feed 45 = .ok (.aload_n 0, 1) := by decide +kernel
theorem dX5_feed_46 : decode cX5_feed 46 = .ok (.getfield 10, 3) := by decide +kernel
theorem dX5_feed_49 : decode cX5_feed 49 = .ok (.dup, 1) := by decide +kernel
theorem dX5_feed_50 : decode cX5_feed 50 = .ok (.getfield 62, 3) := by decide +kernel
theorem dX5_feed_53 : decode cX5_feed 53 = .ok (.iconst 1, 1) := by decide +kernel
theorem dX5_feed_54 : decode cX5_feed 54 = .ok (.iadd, 1) := by decide +kernel
theorem dX5_feed_55 : decode cX5_feed 55 = .ok (.putfield 62, 3) := by decide +kernel
theorem dX5_feed_58 : decode cX5_feed 58 = .ok (.aload_n 0, 1) := by decide +kernel
theorem dX5_feed_59 : decode cX5_feed 59 = .ok (.getfield 10, 3) := by decide +kernel
theorem dX5_feed_62 : decode cX5_feed 62 = .ok (.getfield 62, 3) := by decide +kernel
theorem dX5_feed_65 : decode cX5_feed 65 = .ok (.ireturn, 1) := by decide +kernel
theorem dX5_end_0 : decode cX5_end 0 = .ok (.iload_n 1, 1) := by decide +kernel
theorem dX5_end_1 : decode cX5_end 1 = .ok (.iconst 0, 1) := by decide +kernel
theorem dX5_end_2 : decode cX5_end 2 = .ok (.aload_n 0, 1) := by decide +kernel
theorem dX5_end_3 : decode cX5_end 3 = .ok (.getfield 10, 3) := by decide +kernel
theorem dX5_end_6 : decode cX5_end 6 = .ok (.getfield 62, 3) := by decide +kernel
theorem dX5_end_9 : decode cX5_end 9 = .ok (.invokestatic 58, 3) := by decide +kernel
theorem dX5_end_12 : decode cX5_end 12 = .ok (.ifCond .eq 5, 3) := by decide +kernel
theorem dX5_end_15 : decode cX5_end 15 = .ok (.iconst (-1), 1) := by decide +kernel
theorem dX5_end_16 : decode cX5_end 16 = .ok (.ireturn, 1) := by decide +kernel
theorem dX5_end_17 : decode cX5_end 17 = .ok (.aload_n 0, 1) := by decide +kernel
theorem dX5_end_18 : decode cX5_end 18 = .ok (.getfield 10, 3) := by decide +kernel
theorem dX5_end_21 : decode cX5_end 21 = .ok (.getfield 62, 3) := by decide +kernel
theorem dX5_end_24 : decode cX5_end 24 = .ok (.istore_n 2, 1) := by decide +kernel
theorem dX5_end_25 : decode cX5_end 25 = .ok (.aload_n 0, 1) := by decide +kernel
theorem dX5_end_26 : decode cX5_end 26 = .ok (.getfield 10, 3) := by decide +kernel
theorem dX5_end_29 : decode cX5_end 29 = .ok (.iload_n 1, 1) := by decide +kernel
theorem dX5_end_30 : decode cX5_end 30 = .ok (.putfield 62, 3) := by decide +kernel
theorem dX5_end_33 : decode cX5_end 33 = .ok (.iload_n 2, 1) := by decide +kernel
theorem dX5_end_34 : decode cX5_end 34 = .ok (.ireturn, 1) := by decide +kernel
theorem dX5_text_0 : decode cX5_text 0 = .ok (.aload_n 0, 1) := by decide +kernel
theorem dX5_text_1 : decode cX5_text 1 = .ok (.getfield 10, 3) := by decide +kernel
theorem dX5_text_4 : decode cX5_text 4 = .ok (.aload_n 0, 1) := by decide +kernel
theorem dX5_text_5 : decode cX5_text 5 = .ok (.getfield 23, 3) := by decide +kernel
theorem dX5_text_8 : decode cX5_text 8 = .ok (.invokevirtual 70, 3) := by decide +kernel
theorem dX5_text_11 : decode cX5_text 11 = .ok (.istore_n 1, 1) := by decide +kernel
theorem dX5_text_12 : decode cX5_text 12 = .ok (.aload_n 0, 1) := by decide +kernel
theorem dX5_text_13 : decode cX5_text 13 = .ok (.getfield 10, 3) := by decide +kernel
theorem dX5_text_16 : decode cX5_text 16 = .ok (.iconst 0, 1) := by decide +kernel
theorem dX5_text_17 : decode cX5_text 17 = .ok (.putfield 62, 3) := by decide +kernel
theorem dX5_text_20 : decode cX5_text 20 = .ok (.aload_n 0, 1) := by decide +kernel
theorem dX5_text_21 : decode cX5_text 21 = .ok (.getfield 10, 3) := by decide +kernel
theorem dX5_text_24 : decode cX5_text 24 = .ok (.getfield 74, 3) := by decide +kernel
theorem dX5_text_27 : decode cX5_text 27 = .ok (.ifCond .eq 14, 3) := by decide +kernel
theorem dX5_text_30 : decode cX5_text 30 = .ok (.bipush (-10), 2) := by decide +kernel
theorem dX5_text_32 : decode cX5_text 32 = .ok (.aload_n 0, 1) := by decide +kernel
theorem dX5_text_33 : decode cX5_text 33 = .ok (.getfield 10, 3) := by decide +kernel
theorem dX5_text_36 : decode cX5_text 36 = .ok (.getfield 77, 3) := by decide +kernel
theorem dX5_text_39 : decode cX5_text 39 = .ok (.isub, 1) := by decide +kernel
theorem dX5_text_40 : decode cX5_text 40 = .ok (.ireturn, 1) := by decide +kernel
theorem dX5_text_41 : decode cX5_text 41 = .ok (.aload_n 0, 1) := by decide +kernel
theorem dX5_text_42 : decode cX5_text 42 = .ok (.getfield 19, 3) := by decide +kernel
theorem dX5_text_45 : decode cX5_text 45 = .ok (.aload_n 0, 1) := by decide +kernel
theorem dX5_text_46 : decode cX5_text 46 = .ok (.getfield 23, 3) := by decide +kernel
theorem dX5_text_49 : decode cX5_text 49 = .ok (.invokevirtual 80, 3) := by decide +kernel
theorem dX5_text_52 : decode cX5_text 52 = .ok (.iconst 0, 1) := by decide +kernel
theorem dX5_text_53 : decode cX5_text 53 = .ok (.istore_n 2, 1) := by decide +kernel
theorem dX5_text_54 : decode cX5_text 54 = .ok (.iload_n 2, 1) := by decide +kernel
theorem dX5_text_55 : decode cX5_text 55 = .ok (.iconst 2, 1) := by decide +kernel
theorem dX5_text_56 : decode cX5_text 56 = .ok (.if_icmp .ge 16, 3) := by decide +kernel
theorem dX5_text_59 : decode cX5_text 59 = .ok (.aload_n 0, 1) := by decide +kernel
theorem dX5_text_60 : decode cX5_text 60 = .ok (.getfield 37, 3) := by decide +kernel
theorem dX5_text_63 : decode cX5_text 63 = .ok (.iload_n 2, 1) := by decide +kernel
theorem dX5_text_64 : decode cX5_text 64 = .ok (.iconst 0, 1) := by decide +kernel
theorem dX5_text_65 : decode cX5_text 65 = .ok (.bastore, 1) := by decide +kernel
theorem dX5_text_66 : decode cX5_text 66 = .ok (.iinc 2 1, 3) := by decide +kernel
theorem dX5_text_69 : decode cX5_text 69 = .ok (.goto (-15), 3) := by decide +kernel
theorem dX5_text_72 : decode cX5_text 72 = .ok (.iload_n 1, 1) := by decide +kernel
theorem dX5_text_73 : decode cX5_text 73 = .ok (.ireturn, 1) := by decide +kernel
theorem dX5_fault_0 : decode cX5_fault 0 = .ok (.aload_n 0, 1) := by decide +kernel
theorem dX5_fault_1 : decode cX5_fault 1 = .ok (.getfield 10, 3) := by decide +kernel
theorem dX5_fault_4 : decode cX5_fault 4 = .ok (.getfield 74, 3) := by decide +kernel
theorem dX5_fault_7 : decode cX5_fault 7 = .ok (.ireturn, 1) := by decide +kernel
theorem dX5_rule_0 : decode cX5_rule 0 = .ok (.iload_n 1, 1) := by decide +kernel
theorem dX5_rule_1 : decode cX5_rule 1 = .ok (.tableswitch 118 0 7 #[47, 55, 63, 71, 81, 91, 101, 109], 47) := by decide +kernel
theorem dX5_rule_48 : decode cX5_rule 48 = .ok (.aload_n 0, 1) := by decide +kernel
theorem dX5_rule_49 : decode cX5_rule 49 = .ok (.getfield 19, 3) := by decide +kernel
theorem dX5_rule_52 : decode cX5_rule 52 = .ok (.getfield 84, 3) := by decide +kernel
theorem dX5_rule_55 : decode cX5_rule 55 = .ok (.ireturn, 1) := by decide +kernel
theorem dX5_rule_56 : decode cX5_rule 56 = .ok (.aload_n 0, 1) := by decide +kernel
theorem dX5_rule_57 : decode cX5_rule 57 = .ok (.getfield 19, 3) := by decide +kernel
theorem dX5_rule_60 : decode cX5_rule 60 = .ok (.getfield 87, 3) := by decide +kernel
theorem dX5_rule_63 : decode cX5_rule 63 = .ok (.ireturn, 1) := by decide +kernel
theorem dX5_rule_64 : decode cX5_rule 64 = .ok (.aload_n 0, 1) := by decide +kernel
theorem dX5_rule_65 : decode cX5_rule 65 = .ok (.getfield 19, 3) := by decide +kernel
theorem dX5_rule_68 : decode cX5_rule 68 = .ok (.getfield 90, 3) := by decide +kernel
theorem dX5_rule_71 : decode cX5_rule 71 = .ok (.ireturn, 1) := by decide +kernel
theorem dX5_rule_72 : decode cX5_rule 72 = .ok (.aload_n 0, 1) := by decide +kernel
theorem dX5_rule_73 : decode cX5_rule 73 = .ok (.getfield 19, 3) := by decide +kernel
theorem dX5_rule_76 : decode cX5_rule 76 = .ok (.getfield 93, 3) := by decide +kernel
theorem dX5_rule_79 : decode cX5_rule 79 = .ok (.iconst 0, 1) := by decide +kernel
theorem dX5_rule_80 : decode cX5_rule 80 = .ok (.iaload, 1) := by decide +kernel
theorem dX5_rule_81 : decode cX5_rule 81 = .ok (.ireturn, 1) := by decide +kernel
theorem dX5_rule_82 : decode cX5_rule 82 = .ok (.aload_n 0, 1) := by decide +kernel
theorem dX5_rule_83 : decode cX5_rule 83 = .ok (.getfield 19, 3) := by decide +kernel
theorem dX5_rule_86 : decode cX5_rule 86 = .ok (.getfield 93, 3) := by decide +kernel
theorem dX5_rule_89 : decode cX5_rule 89 = .ok (.iconst 1, 1) := by decide +kernel
theorem dX5_rule_90 : decode cX5_rule 90 = .ok (.iaload, 1) := by decide +kernel
theorem dX5_rule_91 : decode cX5_rule 91 = .ok (.ireturn, 1) := by decide +kernel
theorem dX5_rule_92 : decode cX5_rule 92 = .ok (.aload_n 0, 1) := by decide +kernel
theorem dX5_rule_93 : decode cX5_rule 93 = .ok (.getfield 19, 3) := by decide +kernel
theorem dX5_rule_96 : decode cX5_rule 96 = .ok (.getfield 93, 3) := by decide +kernel
theorem dX5_rule_99 : decode cX5_rule 99 = .ok (.iconst 2, 1) := by decide +kernel
theorem dX5_rule_100 : decode cX5_rule 100 = .ok (.iaload, 1) := by decide +kernel
theorem dX5_rule_101 : decode cX5_rule 101 = .ok (.ireturn, 1) := by decide +kernel
theorem dX5_rule_102 : decode cX5_rule 102 = .ok (.aload_n 0, 1) := by decide +kernel
theorem dX5_rule_103 : decode cX5_rule 103 = .ok (.getfield 19, 3) := by decide +kernel
theorem dX5_rule_106 : decode cX5_rule 106 = .ok (.invokevirtual 96, 3) := by decide +kernel
theorem dX5_rule_109 : decode cX5_rule 109 = .ok (.ireturn, 1) := by decide +kernel
theorem dX5_rule_110 : decode cX5_rule 110 = .ok (.aload_n 0, 1) := by decide +kernel
theorem dX5_rule_111 : decode cX5_rule 111 = .ok (.getfield 19, 3) := by decide +kernel
theorem dX5_rule_114 : decode cX5_rule 114 = .ok (.iconst 0, 1) := by decide +kernel
theorem dX5_rule_115 : decode cX5_rule 115 = .ok (.invokevirtual 100, 3) := by decide +kernel
theorem dX5_rule_118 : decode cX5_rule 118 = .ok (.ireturn, 1) := by decide +kernel
theorem dX5_rule_119 : decode cX5_rule 119 = .ok (.iconst (-1), 1) := by decide +kernel
theorem dX5_rule_120 : decode cX5_rule 120 = .ok (.ireturn, 1) := by decide +kernel
theorem dX5_head_0 : decode cX5_head 0 = .ok (.aload_n 0, 1) := by decide +kernel
theorem dX5_head_1 : decode cX5_head 1 = .ok (.iload_n 1, 1) := by decide +kernel
theorem dX5_head_2 : decode cX5_head 2 = .ok (.invokevirtual 104, 3) := by decide +kernel
theorem dX5_head_5 : decode cX5_head 5 = .ok (.ifCond .eq 5, 3) := by decide +kernel
theorem dX5_head_8 : decode cX5_head 8 = .ok (.iconst (-1), 1) := by decide +kernel
theorem dX5_head_9 : decode cX5_head 9 = .ok (.ireturn, 1) := by decide +kernel
theorem dX5_head_10 : decode cX5_head 10 = .ok (.aload_n 0, 1) := by decide +kernel
theorem dX5_head_11 : decode cX5_head 11 = .ok (.getfield 19, 3) := by decide +kernel
theorem dX5_head_14 : decode cX5_head 14 = .ok (.getfield 108, 3) := by decide +kernel
theorem dX5_head_17 : decode cX5_head 17 = .ok (.iload_n 1, 1) := by decide +kernel
theorem dX5_head_18 : decode cX5_head 18 = .ok (.aaload, 1) := by decide +kernel
theorem dX5_head_19 : decode cX5_head 19 = .ok (.astore_n 3, 1) := by decide +kernel
theorem dX5_head_20 : decode cX5_head 20 = .ok (.iload_n 2, 1) := by decide +kernel
theorem dX5_head_21 : decode cX5_head 21 = .ok (.tableswitch 51 0 3 #[31, 36, 41, 46], 31) := by decide +kernel
theorem dX5_head_52 : decode cX5_head 52 = .ok (.aload_n 3, 1) := by decide +kernel
theorem dX5_head_53 : decode cX5_head 53 = .ok (.getfield 112, 3) := by decide +kernel
theorem dX5_head_56 : decode cX5_head 56 = .ok (.ireturn, 1) := by decide +kernel
theorem dX5_head_57 : decode cX5_head 57 = .ok (.aload_n 3, 1) := by decide +kernel
theorem dX5_head_58 : decode cX5_head 58 = .ok (.getfield 115, 3) := by decide +kernel
theorem dX5_head_61 : decode cX5_head 61 = .ok (.ireturn, 1) := by decide +kernel
theorem dX5_head_62 : decode cX5_head 62 = .ok (.aload_n 3, 1) := by decide +kernel
theorem dX5_head_63 : decode cX5_head 63 = .ok (.getfield 118, 3) := by decide +kernel
theorem dX5_head_66 : decode cX5_head 66 = .ok (.ireturn, 1) := by decide +kernel
theorem dX5_head_67 : decode cX5_head 67 = .ok (.aload_n 3, 1) := by decide +kernel
theorem dX5_head_68 : decode cX5_head 68 = .ok (.invokevirtual 121, 3) := by decide +kernel
theorem dX5_head_71 : decode cX5_head 71 = .ok (.ireturn, 1) := by decide +kernel
theorem dX5_head_72 : decode cX5_head 72 = .ok (.iconst (-1), 1) := by decide +kernel
theorem dX5_head_73 : decode cX5_head 73 = .ok (.ireturn, 1) := by decide +kernel
theorem dX5_dot_0 : decode cX5_dot 0 = .ok (.aload_n 0, 1) := by decide +kernel
theorem dX5_dot_1 : decode cX5_dot 1 = .ok (.iload_n 1, 1) := by decide +kernel
theorem dX5_dot_2 : decode cX5_dot 2 = .ok (.invokevirtual 104, 3) := by decide +kernel
theorem dX5_dot_5 : decode cX5_dot 5 = .ok (.ifCond .ne 19, 3) := by decide +kernel
theorem dX5_dot_8 : decode cX5_dot 8 = .ok (.iload_n 2, 1) := by decide +kernel
theorem dX5_dot_9 : decode cX5_dot 9 = .ok (.invokestatic 124, 3) := by decide +kernel
theorem dX5_dot_12 : decode cX5_dot 12 = .ok (.ifCond .ne 12, 3) := by decide +kernel
theorem dX5_dot_15 : decode cX5_dot 15 = .ok (.iload_n 3, 1) := by decide +kernel
theorem dX5_dot_16 : decode cX5_dot 16 = .ok (.iconst 0, 1) := by decide +kernel
theorem dX5_dot_17 : decode cX5_dot 17 = .ok (.iconst 1, 1) := by decide +kernel
theorem dX5_dot_18 : decode cX5_dot 18 = .ok (.invokestatic 58, 3) := by decide +kernel
theorem dX5_dot_21 : decode cX5_dot 21 = .ok (.ifCond .eq 5, 3) := by decide +kernel
theorem dX5_dot_24 : decode cX5_dot 24 = .ok (.iconst (-1), 1) := by decide +kernel
theorem dX5_dot_25 : decode cX5_dot 25 = .ok (.ireturn, 1) := by decide +kernel
theorem dX5_dot_26 : decode cX5_dot 26 = .ok (.aload_n 0, 1) := by decide +kernel
theorem dX5_dot_27 : decode cX5_dot 27 = .ok (.getfield 19, 3) := by decide +kernel
theorem dX5_dot_30 : decode cX5_dot 30 = .ok (.getfield 108, 3) := by decide +kernel
theorem dX5_dot_33 : decode cX5_dot 33 = .ok (.iload_n 1, 1) := by decide +kernel
theorem dX5_dot_34 : decode cX5_dot 34 = .ok (.aaload, 1) := by decide +kernel
theorem dX5_dot_35 : decode cX5_dot 35 = .ok (.astore 4, 2) := by decide +kernel
theorem dX5_dot_37 : decode cX5_dot 37 = .ok (.iload_n 3, 1) := by decide +kernel
theorem dX5_dot_38 : decode cX5_dot 38 = .ok (.ifCond .ne 13, 3) := by decide +kernel
theorem dX5_dot_41 : decode cX5_dot 41 = .ok (.aload 4, 2) := by decide +kernel
theorem dX5_dot_43 : decode cX5_dot 43 = .ok (.getfield 127, 3) := by decide +kernel
theorem dX5_dot_46 : decode cX5_dot 46 = .ok (.iload_n 2, 1) := by decide +kernel
theorem dX5_dot_47 : decode cX5_dot 47 = .ok (.iaload, 1) := by decide +kernel
theorem dX5_dot_48 : decode cX5_dot 48 = .ok (.goto 25, 3) := by decide +kernel
theorem dX5_dot_51 : decode cX5_dot 51 = .ok (.aload 4, 2) := by decide +kernel
theorem dX5_dot_53 : decode cX5_dot 53 = .ok (.iload_n 2, 1) := by decide +kernel
theorem dX5_dot_54 : decode cX5_dot 54 = .ok (.aload_n 0, 1) := by decide +kernel
theorem dX5_dot_55 : decode cX5_dot 55 = .ok (.getfield 19, 3) := by decide +kernel
theorem dX5_dot_58 : decode cX5_dot 58 = .ok (.iconst 0, 1) := by decide +kernel
theorem dX5_dot_59 : decode cX5_dot 59 = .ok (.invokevirtual 100, 3) := by decide +kernel
theorem dX5_dot_62 : decode cX5_dot 62 = .ok (.aload_n 0, 1) := by decide +kernel
theorem dX5_dot_63 : decode cX5_dot 63 = .ok (.getfield 19, 3) := by decide +kernel
theorem dX5_dot_66 : decode cX5_dot 66 = .ok (.iconst 1, 1) := by decide +kernel
theorem dX5_dot_67 : decode cX5_dot 67 = .ok (.invokevirtual 100, 3) := by decide +kernel
theorem dX5_dot_70 : decode cX5_dot 70 = .ok (.invokevirtual 130, 3) := by decide +kernel
theorem dX5_dot_73 : decode cX5_dot 73 = .ok (.ireturn, 1) := by decide +kernel
theorem dX5_line_0 : decode cX5_line 0 = .ok (.aload_n 0, 1) := by decide +kernel
theorem dX5_line_1 : decode cX5_line 1 = .ok (.iload_n 1, 1) := by decide +kernel
theorem dX5_line_2 : decode cX5_line 2 = .ok (.invokevirtual 134, 3) := by decide +kernel
theorem dX5_line_5 : decode cX5_line 5 = .ok (.ifCond .eq 7, 3) := by decide +kernel
theorem dX5_line_8 : decode cX5_line 8 = .ok (.iconst (-1), 1) := by decide +kernel
theorem dX5_line_9 : decode cX5_line 9 = .ok (.goto 12, 3) := by decide +kernel
theorem dX5_line_12 : decode cX5_line 12 = .ok (.aload_n 0, 1) := by decide +kernel
theorem dX5_line_13 : decode cX5_line 13 = .ok (.getfield 19, 3) := by decide +kernel
theorem dX5_line_16 : decode cX5_line 16 = .ok (.getfield 137, 3) := by decide +kernel
theorem dX5_line_19 : decode cX5_line 19 = .ok (.iload_n 1, 1) := by decide +kernel
theorem dX5_line_20 : decode cX5_line 20 = .ok (.iaload, 1) := by decide +kernel
theorem dX5_line_21 : decode cX5_line 21 = .ok (.ireturn, 1) := by decide +kernel
theorem dX5_alter_0 : decode cX5_alter 0 = .ok (.aload_n 0, 1) := by decide +kernel
theorem dX5_alter_1 : decode cX5_alter 1 = .ok (.iload_n 1, 1) := by decide +kernel
theorem dX5_alter_2 : decode cX5_alter 2 = .ok (.invokevirtual 104, 3) := by decide +kernel
theorem dX5_alter_5 : decode cX5_alter 5 = .ok (.ifCond .ne 24, 3) := by decide +kernel
theorem dX5_alter_8 : decode cX5_alter 8 = .ok (.iload_n 2, 1) := by decide +kernel
theorem dX5_alter_9 : decode cX5_alter 9 = .ok (.iconst 0, 1) := by decide +kernel
theorem dX5_alter_10 : decode cX5_alter 10 = .ok (.iconst 1, 1) := by decide +kernel
theorem dX5_alter_11 : decode cX5_alter 11 = .ok (.invokestatic 58, 3) := by decide +kernel
theorem dX5_alter_14 : decode cX5_alter 14 = .ok (.ifCond .ne 15, 3) := by decide +kernel
theorem dX5_alter_17 : decode cX5_alter 17 = .ok (.iload_n 3, 1) := by decide +kernel
theorem dX5_alter_18 : decode cX5_alter 18 = .ok (.iconst 0, 1) := by decide +kernel
theorem dX5_alter_19 : decode cX5_alter 19 = .ok (.iload_n 2, 1) := by decide +kernel
theorem dX5_alter_20 : decode cX5_alter 20 = .ok (.invokestatic 140, 3) := by decide +kernel
theorem dX5_alter_23 : decode cX5_alter 23 = .ok (.invokestatic 58, 3) := by decide +kernel
theorem dX5_alter_26 : decode cX5_alter 26 = .ok (.ifCond .eq 5, 3) := by decide +kernel
theorem dX5_alter_29 : decode cX5_alter 29 = .ok (.iconst (-1), 1) := by decide +kernel
theorem dX5_alter_30 : decode cX5_alter 30 = .ok (.ireturn, 1) := by decide +kernel
theorem dX5_alter_31 : decode cX5_alter 31 = .ok (.aload_n 0, 1) := by decide +kernel
theorem dX5_alter_32 : decode cX5_alter 32 = .ok (.getfield 19, 3) := by decide +kernel
theorem dX5_alter_35 : decode cX5_alter 35 = .ok (.getfield 108, 3) := by decide +kernel
theorem dX5_alter_38 : decode cX5_alter 38 = .ok (.iload_n 1, 1) := by decide +kernel
theorem dX5_alter_39 : decode cX5_alter 39 = .ok (.aaload, 1) := by decide +kernel
theorem dX5_alter_40 : decode cX5_alter 40 = .ok (.astore 4, 2) := by decide +kernel
theorem dX5_alter_42 : decode cX5_alter 42 = .ok (.iload_n 2, 1) := by decide +kernel
theorem dX5_alter_43 : decode cX5_alter 43 = .ok (.ifCond .ne 11, 3) := by decide +kernel
theorem dX5_alter_46 : decode cX5_alter 46 = .ok (.aload 4, 2) := by decide +kernel
theorem dX5_alter_48 : decode cX5_alter 48 = .ok (.getfield 112, 3) := by decide +kernel
theorem dX5_alter_51 : decode cX5_alter 51 = .ok (.goto 8, 3) := by decide +kernel
theorem dX5_alter_54 : decode cX5_alter 54 = .ok (.aload 4, 2) := by decide +kernel
theorem dX5_alter_56 : decode cX5_alter 56 = .ok (.getfield 115, 3) := by decide +kernel
theorem dX5_alter_59 : decode cX5_alter 59 = .ok (.istore 5, 2) := by decide +kernel
theorem dX5_alter_61 : decode cX5_alter 61 = .ok (.aload 4, 2) := by decide +kernel
theorem dX5_alter_63 : decode cX5_alter 63 = .ok (.iload_n 2, 1) := by decide +kernel
theorem dX5_alter_64 : decode cX5_alter 64 = .ok (.iload_n 3, 1) := by decide +kernel
theorem dX5_alter_65 : decode cX5_alter 65 = .ok (.invokevirtual 143, 3) := by decide +kernel
theorem dX5_alter_68 : decode cX5_alter 68 = .ok (.iload 5, 2) := by decide +kernel
theorem dX5_alter_70 : decode cX5_alter 70 = .ok (.ireturn, 1) := by decide +kernel
theorem dX5_tell_0 : decode cX5_tell 0 = .ok (.iload_n 1, 1) := by decide +kernel
theorem dX5_tell_1 : decode cX5_tell 1 = .ok (.iconst 0, 1) := by decide +kernel
theorem dX5_tell_2 : decode cX5_tell 2 = .ok (.iconst 2, 1) := by decide +kernel
theorem dX5_tell_3 : decode cX5_tell 3 = .ok (.invokestatic 58, 3) := by decide +kernel
theorem dX5_tell_6 : decode cX5_tell 6 = .ok (.ifCond .ne 20, 3) := by decide +kernel
theorem dX5_tell_9 : decode cX5_tell 9 = .ok (.iload_n 2, 1) := by decide +kernel
theorem dX5_tell_10 : decode cX5_tell 10 = .ok (.getstatic 147, 3) := by decide +kernel
theorem dX5_tell_13 : decode cX5_tell 13 = .ok (.iload_n 1, 1) := by decide +kernel
theorem dX5_tell_14 : decode cX5_tell 14 = .ok (.iaload, 1) := by decide +kernel
theorem dX5_tell_15 : decode cX5_tell 15 = .ok (.getstatic 150, 3) := by decide +kernel
theorem dX5_tell_18 : decode cX5_tell 18 = .ok (.iload_n 1, 1) := by decide +kernel
theorem dX5_tell_19 : decode cX5_tell 19 = .ok (.iaload, 1) := by decide +kernel
theorem dX5_tell_20 : decode cX5_tell 20 = .ok (.invokestatic 58, 3) := by decide +kernel
theorem dX5_tell_23 : decode cX5_tell 23 = .ok (.ifCond .eq 5, 3) := by decide +kernel
theorem dX5_tell_26 : decode cX5_tell 26 = .ok (.iconst (-1), 1) := by decide +kernel
theorem dX5_tell_27 : decode cX5_tell 27 = .ok (.ireturn, 1) := by decide +kernel
theorem dX5_tell_28 : decode cX5_tell 28 = .ok (.aload_n 0, 1) := by decide +kernel
theorem dX5_tell_29 : decode cX5_tell 29 = .ok (.getfield 19, 3) := by decide +kernel
theorem dX5_tell_32 : decode cX5_tell 32 = .ok (.getfield 93, 3) := by decide +kernel
theorem dX5_tell_35 : decode cX5_tell 35 = .ok (.iload_n 1, 1) := by decide +kernel
theorem dX5_tell_36 : decode cX5_tell 36 = .ok (.iaload, 1) := by decide +kernel
theorem dX5_tell_37 : decode cX5_tell 37 = .ok (.istore_n 3, 1) := by decide +kernel
theorem dX5_tell_38 : decode cX5_tell 38 = .ok (.aload_n 0, 1) := by decide +kernel
theorem dX5_tell_39 : decode cX5_tell 39 = .ok (.getfield 19, 3) := by decide +kernel
theorem dX5_tell_42 : decode cX5_tell 42 = .ok (.getfield 93, 3) := by decide +kernel
theorem dX5_tell_45 : decode cX5_tell 45 = .ok (.iload_n 1, 1) := by decide +kernel
theorem dX5_tell_46 : decode cX5_tell 46 = .ok (.iload_n 2, 1) := by decide +kernel
theorem dX5_tell_47 : decode cX5_tell 47 = .ok (.iastore, 1) := by decide +kernel
theorem dX5_tell_48 : decode cX5_tell 48 = .ok (.iload_n 3, 1) := by decide +kernel
theorem dX5_tell_49 : decode cX5_tell 49 = .ok (.ireturn, 1) := by decide +kernel
theorem dX5_warm_0 : decode cX5_warm 0 = .ok (.aload_n 0, 1) := by decide +kernel
theorem dX5_warm_1 : decode cX5_warm 1 = .ok (.iload_n 1, 1) := by decide +kernel
theorem dX5_warm_2 : decode cX5_warm 2 = .ok (.invokevirtual 104, 3) := by decide +kernel
theorem dX5_warm_5 : decode cX5_warm 5 = .ok (.ifCond .ne 20, 3) := by decide +kernel
theorem dX5_warm_8 : decode cX5_warm 8 = .ok (.iload_n 2, 1) := by decide +kernel
theorem dX5_warm_9 : decode cX5_warm 9 = .ok (.invokestatic 124, 3) := by decide +kernel
theorem dX5_warm_12 : decode cX5_warm 12 = .ok (.ifCond .ne 13, 3) := by decide +kernel
theorem dX5_warm_15 : decode cX5_warm 15 = .ok (.iload_n 3, 1) := by decide +kernel
theorem dX5_warm_16 : decode cX5_warm 16 = .ok (.iconst 0, 1) := by decide +kernel
theorem dX5_warm_17 : decode cX5_warm 17 = .ok (.bipush 99, 2) := by decide +kernel
theorem dX5_warm_19 : decode cX5_warm 19 = .ok (.invokestatic 58, 3) := by decide +kernel
theorem dX5_warm_22 : decode cX5_warm 22 = .ok (.ifCond .eq 5, 3) := by decide +kernel
theorem dX5_warm_25 : decode cX5_warm 25 = .ok (.iconst (-1), 1) := by decide +kernel
theorem dX5_warm_26 : decode cX5_warm 26 = .ok (.ireturn, 1) := by decide +kernel
theorem dX5_warm_27 : decode cX5_warm 27 = .ok (.aload_n 0, 1) := by decide +kernel
theorem dX5_warm_28 : decode cX5_warm 28 = .ok (.getfield 19, 3) := by decide +kernel
theorem dX5_warm_31 : decode cX5_warm 31 = .ok (.getfield 108, 3) := by decide +kernel
theorem dX5_warm_34 : decode cX5_warm 34 = .ok (.iload_n 1, 1) := by decide +kernel
theorem dX5_warm_35 : decode cX5_warm 35 = .ok (.aaload, 1) := by decide +kernel
theorem dX5_warm_36 : decode cX5_warm 36 = .ok (.getfield 127, 3) := by decide +kernel
theorem dX5_warm_39 : decode cX5_warm 39 = .ok (.iload_n 2, 1) := by decide +kernel
theorem dX5_warm_40 : decode cX5_warm 40 = .ok (.iaload, 1) := by decide +kernel
theorem dX5_warm_41 : decode cX5_warm 41 = .ok (.istore 4, 2) := by decide +kernel
theorem dX5_warm_43 : decode cX5_warm 43 = .ok (.aload_n 0, 1) := by decide +kernel
theorem dX5_warm_44 : decode cX5_warm 44 = .ok (.getfield 19, 3) := by decide +kernel
theorem dX5_warm_47 : decode cX5_warm 47 = .ok (.getfield 108, 3) := by decide +kernel
theorem dX5_warm_50 : decode cX5_warm 50 = .ok (.iload_n 1, 1) := by decide +kernel
theorem dX5_warm_51 : decode cX5_warm 51 = .ok (.aaload, 1) := by decide +kernel
theorem dX5_warm_52 : decode cX5_warm 52 = .ok (.getfield 127, 3) := by decide +kernel
theorem dX5_warm_55 : decode cX5_warm 55 = .ok (.iload_n 2, 1) := by decide +kernel
theorem dX5_warm_56 : decode cX5_warm 56 = .ok (.iload_n 3, 1) := by decide +kernel
theorem dX5_warm_57 : decode cX5_warm 57 = .ok (.iastore, 1) := by decide +kernel
theorem dX5_warm_58 : decode cX5_warm 58 = .ok (.iload 4, 2) := by decide +kernel
theorem dX5_warm_60 : decode cX5_warm 60 = .ok (.ireturn, 1) := by decide +kernel
theorem dX5_set_0 : decode cX5_set 0 = .ok (.aload_n 0, 1) := by decide +kernel
theorem dX5_set_1 : decode cX5_set 1 = .ok (.iload_n 1, 1) := by decide +kernel
theorem dX5_set_2 : decode cX5_set 2 = .ok (.iload_n 2, 1) := by decide +kernel
theorem dX5_set_3 : decode cX5_set 3 = .ok (.invokevirtual 153, 3) := by decide +kernel
theorem dX5_set_6 : decode cX5_set 6 = .ok (.ifCond .eq 5, 3) := by decide +kernel
theorem dX5_set_9 : decode cX5_set 9 = .ok (.iconst (-1), 1) := by decide +kernel
theorem dX5_set_10 : decode cX5_set 10 = .ok (.ireturn, 1) := by decide +kernel
theorem dX5_set_11 : decode cX5_set 11 = .ok (.aload_n 0, 1) := by decide +kernel
theorem dX5_set_12 : decode cX5_set 12 = .ok (.getfield 19, 3) := by decide +kernel
theorem dX5_set_15 : decode cX5_set 15 = .ok (.getfield 137, 3) := by decide +kernel
theorem dX5_set_18 : decode cX5_set 18 = .ok (.iload_n 1, 1) := by decide +kernel
theorem dX5_set_19 : decode cX5_set 19 = .ok (.iaload, 1) := by decide +kernel
theorem dX5_set_20 : decode cX5_set 20 = .ok (.istore_n 3, 1) := by decide +kernel
theorem dX5_set_21 : decode cX5_set 21 = .ok (.aload_n 0, 1) := by decide +kernel
theorem dX5_set_22 : decode cX5_set 22 = .ok (.getfield 19, 3) := by decide +kernel
theorem dX5_set_25 : decode cX5_set 25 = .ok (.getfield 137, 3) := by decide +kernel
theorem dX5_set_28 : decode cX5_set 28 = .ok (.iload_n 1, 1) := by decide +kernel
theorem dX5_set_29 : decode cX5_set 29 = .ok (.iload_n 2, 1) := by decide +kernel
theorem dX5_set_30 : decode cX5_set 30 = .ok (.iastore, 1) := by decide +kernel
theorem dX5_set_31 : decode cX5_set 31 = .ok (.iload_n 3, 1) := by decide +kernel
theorem dX5_set_32 : decode cX5_set 32 = .ok (.ireturn, 1) := by decide +kernel
theorem dX5_add_0 : decode cX5_add 0 = .ok (.iload_n 1, 1) := by decide +kernel
theorem dX5_add_1 : decode cX5_add 1 = .ok (.iconst 0, 1) := by decide +kernel
theorem dX5_add_2 : decode cX5_add 2 = .ok (.sipush 255, 3) := by decide +kernel
theorem dX5_add_5 : decode cX5_add 5 = .ok (.invokestatic 58, 3) := by decide +kernel
theorem dX5_add_8 : decode cX5_add 8 = .ok (.ifCond .eq 5, 3) := by decide +kernel
theorem dX5_add_11 : decode cX5_add 11 = .ok (.iconst (-1), 1) := by decide +kernel
theorem dX5_add_12 : decode cX5_add 12 = .ok (.ireturn, 1) := by decide +kernel
theorem dX5_add_13 : decode cX5_add 13 = .ok (.aload_n 0, 1) := by decide +kernel
theorem dX5_add_14 : decode cX5_add 14 = .ok (.getfield 19, 3) := by decide +kernel
theorem dX5_add_17 : decode cX5_add 17 = .ok (.getfield 87, 3) := by decide +kernel
theorem dX5_add_20 : decode cX5_add 20 = .ok (.bipush 12, 2) := by decide +kernel
theorem dX5_add_22 : decode cX5_add 22 = .ok (.if_icmp .lt 6, 3) := by decide +kernel
theorem dX5_add_25 : decode cX5_add 25 = .ok (.bipush (-3), 2) := by decide +kernel
theorem dX5_add_27 : decode cX5_add 27 = .ok (.ireturn, 1) := by decide +kernel
theorem dX5_add_28 : decode cX5_add 28 = .ok (.aload_n 0, 1) := by decide +kernel
theorem dX5_add_29 : decode cX5_add 29 = .ok (.getfield 19, 3) := by decide +kernel
theorem dX5_add_32 : decode cX5_add 32 = .ok (.getfield 137, 3) := by decide +kernel
theorem dX5_add_35 : decode cX5_add 35 = .ok (.aload_n 0, 1) := by decide +kernel
theorem dX5_add_36 : decode cX5_add 36 = .ok (.getfield 19, 3) := by decide +kernel
theorem dX5_add_39 : decode cX5_add 39 = .ok (.getfield 87, 3) := by decide +kernel
theorem dX5_add_42 : decode cX5_add 42 = .ok (.iload_n 1, 1) := by decide +kernel
theorem dX5_add_43 : decode cX5_add 43 = .ok (.iastore, 1) := by decide +kernel
theorem dX5_add_44 : decode cX5_add 44 = .ok (.aload_n 0, 1) := by decide +kernel
theorem dX5_add_45 : decode cX5_add 45 = .ok (.getfield 19, 3) := by decide +kernel
theorem dX5_add_48 : decode cX5_add 48 = .ok (.dup, 1) := by decide +kernel
theorem dX5_add_49 : decode cX5_add 49 = .ok (.getfield 87, 3) := by decide +kernel
theorem dX5_add_52 : decode cX5_add 52 = .ok (.iconst 1, 1) := by decide +kernel
theorem dX5_add_53 : decode cX5_add 53 = .ok (.iadd, 1) := by decide +kernel
theorem dX5_add_54 : decode cX5_add 54 = .ok (.putfield 87, 3) := by decide +kernel
theorem dX5_add_57 : decode cX5_add 57 = .ok (.aload_n 0, 1) := by decide +kernel
theorem dX5_add_58 : decode cX5_add 58 = .ok (.getfield 19, 3) := by decide +kernel
theorem dX5_add_61 : decode cX5_add 61 = .ok (.getfield 87, 3) := by decide +kernel
theorem dX5_add_64 : decode cX5_add 64 = .ok (.ireturn, 1) := by decide +kernel
theorem dX5_cut_0 : decode cX5_cut 0 = .ok (.iload_n 1, 1) := by decide +kernel
theorem dX5_cut_1 : decode cX5_cut 1 = .ok (.iconst 0, 1) := by decide +kernel
theorem dX5_cut_2 : decode cX5_cut 2 = .ok (.aload_n 0, 1) := by decide +kernel
theorem dX5_cut_3 : decode cX5_cut 3 = .ok (.getfield 19, 3) := by decide +kernel
theorem dX5_cut_6 : decode cX5_cut 6 = .ok (.getfield 87, 3) := by decide +kernel
theorem dX5_cut_9 : decode cX5_cut 9 = .ok (.invokestatic 58, 3) := by decide +kernel
theorem dX5_cut_12 : decode cX5_cut 12 = .ok (.ifCond .eq 5, 3) := by decide +kernel
theorem dX5_cut_15 : decode cX5_cut 15 = .ok (.iconst (-1), 1) := by decide +kernel
theorem dX5_cut_16 : decode cX5_cut 16 = .ok (.ireturn, 1) := by decide +kernel
theorem dX5_cut_17 : decode cX5_cut 17 = .ok (.aload_n 0, 1) := by decide +kernel
theorem dX5_cut_18 : decode cX5_cut 18 = .ok (.getfield 19, 3) := by decide +kernel
theorem dX5_cut_21 : decode cX5_cut 21 = .ok (.getfield 87, 3) := by decide +kernel
theorem dX5_cut_24 : decode cX5_cut 24 = .ok (.istore_n 2, 1) := by decide +kernel
theorem dX5_cut_25 : decode cX5_cut 25 = .ok (.aload_n 0, 1) := by decide +kernel
theorem dX5_cut_26 : decode cX5_cut 26 = .ok (.getfield 19, 3) := by decide +kernel
theorem dX5_cut_29 : decode cX5_cut 29 = .ok (.iload_n 1, 1) := by decide +kernel
theorem dX5_cut_30 : decode cX5_cut 30 = .ok (.putfield 87, 3) := by decide +kernel
theorem dX5_cut_33 : decode cX5_cut 33 = .ok (.iload_n 2, 1) := by decide +kernel
theorem dX5_cut_34 : decode cX5_cut 34 = .ok (.ireturn, 1) := by decide +kernel
theorem dX5_burn_0 : decode cX5_burn 0 = .ok (.iload_n 1, 1) := by decide +kernel
theorem dX5_burn_1 : decode cX5_burn 1 = .ok (.invokestatic 157, 3) := by decide +kernel
theorem dX5_burn_4 : decode cX5_burn 4 = .ok (.ifCond .eq 5, 3) := by decide +kernel
theorem dX5_burn_7 : decode cX5_burn 7 = .ok (.iconst (-1), 1) := by decide +kernel
theorem dX5_burn_8 : decode cX5_burn 8 = .ok (.ireturn, 1) := by decide +kernel
theorem dX5_burn_9 : decode cX5_burn 9 = .ok (.aload_n 0, 1) := by decide +kernel
theorem dX5_burn_10 : decode cX5_burn 10 = .ok (.getfield 19, 3) := by decide +kernel
theorem dX5_burn_13 : decode cX5_burn 13 = .ok (.getfield 90, 3) := by decide +kernel
theorem dX5_burn_16 : decode cX5_burn 16 = .ok (.iload_n 1, 1) := by decide +kernel
theorem dX5_burn_17 : decode cX5_burn 17 = .ok (.iadd, 1) := by decide +kernel
theorem dX5_burn_18 : decode cX5_burn 18 = .ok (.sipush 10000, 3) := by decide +kernel
theorem dX5_burn_21 : decode cX5_burn 21 = .ok (.if_icmp .lt 6, 3) := by decide +kernel
theorem dX5_burn_24 : decode cX5_burn 24 = .ok (.bipush (-3), 2) := by decide +kernel
theorem dX5_burn_26 : decode cX5_burn 26 = .ok (.ireturn, 1) := by decide +kernel
theorem dX5_burn_27 : decode cX5_burn 27 = .ok (.iconst 0, 1) := by decide +kernel
theorem dX5_burn_28 : decode cX5_burn 28 = .ok (.istore_n 2, 1) := by decide +kernel
theorem dX5_burn_29 : decode cX5_burn 29 = .ok (.iconst 0, 1) := by decide +kernel
theorem dX5_burn_30 : decode cX5_burn 30 = .ok (.istore_n 3, 1) := by decide +kernel
theorem dX5_burn_31 : decode cX5_burn 31 = .ok (.iload_n 3, 1) := by decide +kernel
theorem dX5_burn_32 : decode cX5_burn 32 = .ok (.iload_n 1, 1) := by decide +kernel
theorem dX5_burn_33 : decode cX5_burn 33 = .ok (.if_icmp .ge 20, 3) := by decide +kernel
theorem dX5_burn_36 : decode cX5_burn 36 = .ok (.iload_n 2, 1) := by decide +kernel
theorem dX5_burn_37 : decode cX5_burn 37 = .ok (.aload_n 0, 1) := by decide +kernel
theorem dX5_burn_38 : decode cX5_burn 38 = .ok (.getfield 19, 3) := by decide +kernel
theorem dX5_burn_41 : decode cX5_burn 41 = .ok (.iconst 1, 1) := by decide +kernel
theorem dX5_burn_42 : decode cX5_burn 42 = .ok (.invokevirtual 160, 3) := by decide +kernel
theorem dX5_burn_45 : decode cX5_burn 45 = .ok (.iadd, 1) := by decide +kernel
theorem dX5_burn_46 : decode cX5_burn 46 = .ok (.istore_n 2, 1) := by decide +kernel
theorem dX5_burn_47 : decode cX5_burn 47 = .ok (.iinc 3 1, 3) := by decide +kernel
theorem dX5_burn_50 : decode cX5_burn 50 = .ok (.goto (-19), 3) := by decide +kernel
theorem dX5_burn_53 : decode cX5_burn 53 = .ok (.iload_n 2, 1) := by decide +kernel
theorem dX5_burn_54 : decode cX5_burn 54 = .ok (.ireturn, 1) := by decide +kernel
theorem dX5_runs_0 : decode cX5_runs 0 = .ok (.iload_n 1, 1) := by decide +kernel
theorem dX5_runs_1 : decode cX5_runs 1 = .ok (.invokestatic 157, 3) := by decide +kernel
theorem dX5_runs_4 : decode cX5_runs 4 = .ok (.ifCond .ne 12, 3) := by decide +kernel
theorem dX5_runs_7 : decode cX5_runs 7 = .ok (.iload_n 2, 1) := by decide +kernel
theorem dX5_runs_8 : decode cX5_runs 8 = .ok (.iconst 0, 1) := by decide +kernel
theorem dX5_runs_9 : decode cX5_runs 9 = .ok (.iconst 3, 1) := by decide +kernel
theorem dX5_runs_10 : decode cX5_runs 10 = .ok (.invokestatic 58, 3) := by decide +kernel
theorem dX5_runs_13 : decode cX5_runs 13 = .ok (.ifCond .eq 5, 3) := by decide +kernel
theorem dX5_runs_16 : decode cX5_runs 16 = .ok (.iconst (-1), 1) := by decide +kernel
theorem dX5_runs_17 : decode cX5_runs 17 = .ok (.ireturn, 1) := by decide +kernel
theorem dX5_runs_18 : decode cX5_runs 18 = .ok (.aload_n 0, 1) := by decide +kernel
theorem dX5_runs_19 : decode cX5_runs 19 = .ok (.getfield 23, 3) := by decide +kernel
theorem dX5_runs_22 : decode cX5_runs 22 = .ok (.aload_n 0, 1) := by decide +kernel
theorem dX5_runs_23 : decode cX5_runs 23 = .ok (.getfield 19, 3) := by decide +kernel
theorem dX5_runs_26 : decode cX5_runs 26 = .ok (.invokevirtual 80, 3) := by decide +kernel
theorem dX5_runs_29 : decode cX5_runs 29 = .ok (.iconst 0, 1) := by decide +kernel
theorem dX5_runs_30 : decode cX5_runs 30 = .ok (.istore_n 3, 1) := by decide +kernel
theorem dX5_runs_31 : decode cX5_runs 31 = .ok (.iconst 0, 1) := by decide +kernel
theorem dX5_runs_32 : decode cX5_runs 32 = .ok (.istore 4, 2) := by decide +kernel
theorem dX5_runs_34 : decode cX5_runs 34 = .ok (.iconst 0, 1) := by decide +kernel
theorem dX5_runs_35 : decode cX5_runs 35 = .ok (.istore 5, 2) := by decide +kernel
theorem dX5_runs_37 : decode cX5_runs 37 = .ok (.iconst 0, 1) := by decide +kernel
theorem dX5_runs_38 : decode cX5_runs 38 = .ok (.istore 6, 2) := by decide +kernel
theorem dX5_runs_40 : decode cX5_runs 40 = .ok (.iconst 0, 1) := by decide +kernel
theorem dX5_runs_41 : decode cX5_runs 41 = .ok (.istore 7, 2) := by decide +kernel
theorem dX5_runs_43 : decode cX5_runs 43 = .ok (.iload 7, 2) := by decide +kernel
theorem dX5_runs_45 : decode cX5_runs 45 = .ok (.iload_n 1, 1) := by decide +kernel
theorem dX5_runs_46 : decode cX5_runs 46 = .ok (.if_icmp .ge 65, 3) := by decide +kernel
theorem dX5_runs_49 : decode cX5_runs 49 = .ok (.aload_n 0, 1) := by decide +kernel
theorem dX5_runs_50 : decode cX5_runs 50 = .ok (.getfield 23, 3) := by decide +kernel
theorem dX5_runs_53 : decode cX5_runs 53 = .ok (.iconst 1, 1) := by decide +kernel
theorem dX5_runs_54 : decode cX5_runs 54 = .ok (.invokevirtual 160, 3) := by decide +kernel
theorem dX5_runs_57 : decode cX5_runs 57 = .ok (.istore 8, 2) := by decide +kernel
theorem dX5_runs_59 : decode cX5_runs 59 = .ok (.iload_n 3, 1) := by decide +kernel
theorem dX5_runs_60 : decode cX5_runs 60 = .ok (.iload 8, 2) := by decide +kernel
theorem dX5_runs_62 : decode cX5_runs 62 = .ok (.iadd, 1) := by decide +kernel
theorem dX5_runs_63 : decode cX5_runs 63 = .ok (.istore_n 3, 1) := by decide +kernel
theorem dX5_runs_64 : decode cX5_runs 64 = .ok (.iload 6, 2) := by decide +kernel
theorem dX5_runs_66 : decode cX5_runs 66 = .ok (.iload 8, 2) := by decide +kernel
theorem dX5_runs_68 : decode cX5_runs 68 = .ok (.ifCond .le 7, 3) := by decide +kernel
theorem dX5_runs_71 : decode cX5_runs 71 = .ok (.iconst 1, 1) := by decide +kernel
theorem dX5_runs_72 : decode cX5_runs 72 = .ok (.goto 4, 3) := by decide +kernel
theorem dX5_runs_75 : decode cX5_runs 75 = .ok (.iconst 0, 1) := by decide +kernel
theorem dX5_runs_76 : decode cX5_runs 76 = .ok (.iadd, 1) := by decide +kernel
theorem dX5_runs_77 : decode cX5_runs 77 = .ok (.istore 6, 2) := by decide +kernel
theorem dX5_runs_79 : decode cX5_runs 79 = .ok (.iload 4, 2) := by decide +kernel
theorem dX5_runs_81 : decode cX5_runs 81 = .ok (.aload_n 0, 1) := by decide +kernel
theorem dX5_runs_82 : decode cX5_runs 82 = .ok (.getfield 23, 3) := by decide +kernel
theorem dX5_runs_85 : decode cX5_runs 85 = .ok (.getfield 164, 3) := by decide +kernel
theorem dX5_runs_88 : decode cX5_runs 88 = .ok (.iadd, 1) := by decide +kernel
theorem dX5_runs_89 : decode cX5_runs 89 = .ok (.istore 4, 2) := by decide +kernel
theorem dX5_runs_91 : decode cX5_runs 91 = .ok (.iload 5, 2) := by decide +kernel
theorem dX5_runs_93 : decode cX5_runs 93 = .ok (.aload_n 0, 1) := by decide +kernel
theorem dX5_runs_94 : decode cX5_runs 94 = .ok (.getfield 23, 3) := by decide +kernel
theorem dX5_runs_97 : decode cX5_runs 97 = .ok (.invokevirtual 167, 3) := by decide +kernel
theorem dX5_runs_100 : decode cX5_runs 100 = .ok (.invokestatic 170, 3) := by decide +kernel
theorem dX5_runs_103 : decode cX5_runs 103 = .ok (.istore 5, 2) := by decide +kernel
theorem dX5_runs_105 : decode cX5_runs 105 = .ok (.iinc 7 1, 3) := by decide +kernel
theorem dX5_runs_108 : decode cX5_runs 108 = .ok (.goto (-65), 3) := by decide +kernel
theorem dX5_runs_111 : decode cX5_runs 111 = .ok (.iload_n 2, 1) := by decide +kernel
theorem dX5_runs_112 : decode cX5_runs 112 = .ok (.tableswitch 36 0 2 #[28, 30, 33], 28) := by decide +kernel
theorem dX5_runs_140 : decode cX5_runs 140 = .ok (.iload_n 3, 1) := by decide +kernel
theorem dX5_runs_141 : decode cX5_runs 141 = .ok (.ireturn, 1) := by decide +kernel
theorem dX5_runs_142 : decode cX5_runs 142 = .ok (.iload 4, 2) := by decide +kernel
theorem dX5_runs_144 : decode cX5_runs 144 = .ok (.ireturn, 1) := by decide +kernel
theorem dX5_runs_145 : decode cX5_runs 145 = .ok (.iload 5, 2) := by decide +kernel
theorem dX5_runs_147 : decode cX5_runs 147 = .ok (.ireturn, 1) := by decide +kernel
theorem dX5_runs_148 : decode cX5_runs 148 = .ok (.iload 6, 2) := by decide +kernel
theorem dX5_runs_150 : decode cX5_runs 150 = .ok (.ireturn, 1) := by decide +kernel
theorem dX5_black_0 : decode cX5_black 0 = .ok (.aload_n 0, 1) := by decide +kernel
theorem dX5_black_1 : decode cX5_black 1 = .ok (.iload_n 1, 1) := by decide +kernel
theorem dX5_black_2 : decode cX5_black 2 = .ok (.invokevirtual 104, 3) := by decide +kernel
theorem dX5_black_5 : decode cX5_black 5 = .ok (.ifCond .ne 10, 3) := by decide +kernel
theorem dX5_black_8 : decode cX5_black 8 = .ok (.iload_n 2, 1) := by decide +kernel
theorem dX5_black_9 : decode cX5_black 9 = .ok (.invokestatic 157, 3) := by decide +kernel
theorem dX5_black_12 : decode cX5_black 12 = .ok (.ifCond .eq 5, 3) := by decide +kernel
theorem dX5_black_15 : decode cX5_black 15 = .ok (.iconst (-1), 1) := by decide +kernel
theorem dX5_black_16 : decode cX5_black 16 = .ok (.ireturn, 1) := by decide +kernel
theorem dX5_black_17 : decode cX5_black 17 = .ok (.aload_n 0, 1) := by decide +kernel
theorem dX5_black_18 : decode cX5_black 18 = .ok (.getfield 29, 3) := by decide +kernel
theorem dX5_black_21 : decode cX5_black 21 = .ok (.aload_n 0, 1) := by decide +kernel
theorem dX5_black_22 : decode cX5_black 22 = .ok (.getfield 19, 3) := by decide +kernel
theorem dX5_black_25 : decode cX5_black 25 = .ok (.getfield 108, 3) := by decide +kernel
theorem dX5_black_28 : decode cX5_black 28 = .ok (.iload_n 1, 1) := by decide +kernel
theorem dX5_black_29 : decode cX5_black 29 = .ok (.aaload, 1) := by decide +kernel
theorem dX5_black_30 : decode cX5_black 30 = .ok (.invokevirtual 176, 3) := by decide +kernel
theorem dX5_black_33 : decode cX5_black 33 = .ok (.iconst 0, 1) := by decide +kernel
theorem dX5_black_34 : decode cX5_black 34 = .ok (.istore_n 3, 1) := by decide +kernel
theorem dX5_black_35 : decode cX5_black 35 = .ok (.iconst 0, 1) := by decide +kernel
theorem dX5_black_36 : decode cX5_black 36 = .ok (.istore 4, 2) := by decide +kernel
theorem dX5_black_38 : decode cX5_black 38 = .ok (.iload 4, 2) := by decide +kernel
theorem dX5_black_40 : decode cX5_black 40 = .ok (.iload_n 2, 1) := by decide +kernel
theorem dX5_black_41 : decode cX5_black 41 = .ok (.if_icmp .gt 17, 3) := by decide +kernel
theorem dX5_black_44 : decode cX5_black 44 = .ok (.aload_n 0, 1) := by decide +kernel
theorem dX5_black_45 : decode cX5_black 45 = .ok (.iload 4, 2) := by decide +kernel
theorem dX5_black_47 : decode cX5_black 47 = .ok (.iconst 1, 1) := by decide +kernel
theorem dX5_black_48 : decode cX5_black 48 = .ok (.invokevirtual 179, 3) := by decide +kernel
theorem dX5_black_51 : decode cX5_black 51 = .ok (.istore_n 3, 1) := by decide +kernel
theorem dX5_black_52 : decode cX5_black 52 = .ok (.iinc 4 1, 3) := by decide +kernel
theorem dX5_black_55 : decode cX5_black 55 = .ok (.goto (-17), 3) := by decide +kernel
theorem dX5_black_58 : decode cX5_black 58 = .ok (.iload_n 3, 1) := by decide +kernel
theorem dX5_black_59 : decode cX5_black 59 = .ok (.ireturn, 1) := by decide +kernel
theorem dX5_ahead_0 : decode cX5_ahead 0 = .ok (.aload_n 0, 1) := by decide +kernel
theorem dX5_ahead_1 : decode cX5_ahead 1 = .ok (.iload_n 1, 1) := by decide +kernel
theorem dX5_ahead_2 : decode cX5_ahead 2 = .ok (.invokevirtual 104, 3) := by decide +kernel
theorem dX5_ahead_5 : decode cX5_ahead 5 = .ok (.ifCond .ne 17, 3) := by decide +kernel
theorem dX5_ahead_8 : decode cX5_ahead 8 = .ok (.iload_n 2, 1) := by decide +kernel
theorem dX5_ahead_9 : decode cX5_ahead 9 = .ok (.invokestatic 124, 3) := by decide +kernel
theorem dX5_ahead_12 : decode cX5_ahead 12 = .ok (.ifCond .ne 10, 3) := by decide +kernel
theorem dX5_ahead_15 : decode cX5_ahead 15 = .ok (.iload_n 3, 1) := by decide +kernel
theorem dX5_ahead_16 : decode cX5_ahead 16 = .ok (.invokestatic 157, 3) := by decide +kernel
theorem dX5_ahead_19 : decode cX5_ahead 19 = .ok (.ifCond .eq 5, 3) := by decide +kernel
theorem dX5_ahead_22 : decode cX5_ahead 22 = .ok (.iconst (-1), 1) := by decide +kernel
theorem dX5_ahead_23 : decode cX5_ahead 23 = .ok (.ireturn, 1) := by decide +kernel
theorem dX5_ahead_24 : decode cX5_ahead 24 = .ok (.aload_n 0, 1) := by decide +kernel
theorem dX5_ahead_25 : decode cX5_ahead 25 = .ok (.getfield 29, 3) := by decide +kernel
theorem dX5_ahead_28 : decode cX5_ahead 28 = .ok (.aload_n 0, 1) := by decide +kernel
theorem dX5_ahead_29 : decode cX5_ahead 29 = .ok (.getfield 19, 3) := by decide +kernel
theorem dX5_ahead_32 : decode cX5_ahead 32 = .ok (.getfield 108, 3) := by decide +kernel
theorem dX5_ahead_35 : decode cX5_ahead 35 = .ok (.iload_n 1, 1) := by decide +kernel
theorem dX5_ahead_36 : decode cX5_ahead 36 = .ok (.aaload, 1) := by decide +kernel
theorem dX5_ahead_37 : decode cX5_ahead 37 = .ok (.invokevirtual 176, 3) := by decide +kernel
theorem dX5_ahead_40 : decode cX5_ahead 40 = .ok (.iconst 0, 1) := by decide +kernel
theorem dX5_ahead_41 : decode cX5_ahead 41 = .ok (.istore 4, 2) := by decide +kernel
theorem dX5_ahead_43 : decode cX5_ahead 43 = .ok (.iload 4, 2) := by decide +kernel
theorem dX5_ahead_45 : decode cX5_ahead 45 = .ok (.iload_n 3, 1) := by decide +kernel
theorem dX5_ahead_46 : decode cX5_ahead 46 = .ok (.if_icmp .ge 17, 3) := by decide +kernel
theorem dX5_ahead_49 : decode cX5_ahead 49 = .ok (.aload_n 0, 1) := by decide +kernel
theorem dX5_ahead_50 : decode cX5_ahead 50 = .ok (.iload 4, 2) := by decide +kernel
theorem dX5_ahead_52 : decode cX5_ahead 52 = .ok (.iconst 1, 1) := by decide +kernel
theorem dX5_ahead_53 : decode cX5_ahead 53 = .ok (.invokevirtual 179, 3) := by decide +kernel
theorem dX5_ahead_56 : decode cX5_ahead 56 = .ok (.pop, 1) := by decide +kernel
theorem dX5_ahead_57 : decode cX5_ahead 57 = .ok (.iinc 4 1, 3) := by decide +kernel
theorem dX5_ahead_60 : decode cX5_ahead 60 = .ok (.goto (-17), 3) := by decide +kernel
theorem dX5_ahead_63 : decode cX5_ahead 63 = .ok (.aload_n 0, 1) := by decide +kernel
theorem dX5_ahead_64 : decode cX5_ahead 64 = .ok (.getfield 29, 3) := by decide +kernel
theorem dX5_ahead_67 : decode cX5_ahead 67 = .ok (.getfield 127, 3) := by decide +kernel
theorem dX5_ahead_70 : decode cX5_ahead 70 = .ok (.iload_n 2, 1) := by decide +kernel
theorem dX5_ahead_71 : decode cX5_ahead 71 = .ok (.iaload, 1) := by decide +kernel
theorem dX5_ahead_72 : decode cX5_ahead 72 = .ok (.ireturn, 1) := by decide +kernel
theorem dX5_when_0 : decode cX5_when 0 = .ok (.aload_n 0, 1) := by decide +kernel
theorem dX5_when_1 : decode cX5_when 1 = .ok (.iload_n 1, 1) := by decide +kernel
theorem dX5_when_2 : decode cX5_when 2 = .ok (.invokevirtual 104, 3) := by decide +kernel
theorem dX5_when_5 : decode cX5_when 5 = .ok (.ifCond .eq 5, 3) := by decide +kernel
theorem dX5_when_8 : decode cX5_when 8 = .ok (.iconst (-1), 1) := by decide +kernel
theorem dX5_when_9 : decode cX5_when 9 = .ok (.ireturn, 1) := by decide +kernel
theorem dX5_when_10 : decode cX5_when 10 = .ok (.aload_n 0, 1) := by decide +kernel
theorem dX5_when_11 : decode cX5_when 11 = .ok (.getfield 29, 3) := by decide +kernel
theorem dX5_when_14 : decode cX5_when 14 = .ok (.aload_n 0, 1) := by decide +kernel
theorem dX5_when_15 : decode cX5_when 15 = .ok (.getfield 19, 3) := by decide +kernel
theorem dX5_when_18 : decode cX5_when 18 = .ok (.getfield 108, 3) := by decide +kernel
theorem dX5_when_21 : decode cX5_when 21 = .ok (.iload_n 1, 1) := by decide +kernel
theorem dX5_when_22 : decode cX5_when 22 = .ok (.aaload, 1) := by decide +kernel
theorem dX5_when_23 : decode cX5_when 23 = .ok (.invokevirtual 176, 3) := by decide +kernel
theorem dX5_when_26 : decode cX5_when 26 = .ok (.iconst 0, 1) := by decide +kernel
theorem dX5_when_27 : decode cX5_when 27 = .ok (.istore_n 2, 1) := by decide +kernel
theorem dX5_when_28 : decode cX5_when 28 = .ok (.iload_n 2, 1) := by decide +kernel
theorem dX5_when_29 : decode cX5_when 29 = .ok (.bipush 60, 2) := by decide +kernel
theorem dX5_when_31 : decode cX5_when 31 = .ok (.if_icmp .gt 28, 3) := by decide +kernel
theorem dX5_when_34 : decode cX5_when 34 = .ok (.aload_n 0, 1) := by decide +kernel
theorem dX5_when_35 : decode cX5_when 35 = .ok (.iload_n 2, 1) := by decide +kernel
theorem dX5_when_36 : decode cX5_when 36 = .ok (.iconst 1, 1) := by decide +kernel
theorem dX5_when_37 : decode cX5_when 37 = .ok (.invokevirtual 179, 3) := by decide +kernel
theorem dX5_when_40 : decode cX5_when 40 = .ok (.aload_n 0, 1) := by decide +kernel
theorem dX5_when_41 : decode cX5_when 41 = .ok (.getfield 19, 3) := by decide +kernel
theorem dX5_when_44 : decode cX5_when 44 = .ok (.iload_n 2, 1) := by decide +kernel
theorem dX5_when_45 : decode cX5_when 45 = .ok (.invokevirtual 100, 3) := by decide +kernel
theorem dX5_when_48 : decode cX5_when 48 = .ok (.if_icmp .eq 5, 3) := by decide +kernel
theorem dX5_when_51 : decode cX5_when 51 = .ok (.iload_n 2, 1) := by decide +kernel
theorem dX5_when_52 : decode cX5_when 52 = .ok (.ireturn, 1) := by decide +kernel
theorem dX5_when_53 : decode cX5_when 53 = .ok (.iinc 2 1, 3) := by decide +kernel
theorem dX5_when_56 : decode cX5_when 56 = .ok (.goto (-28), 3) := by decide +kernel
theorem dX5_when_59 : decode cX5_when 59 = .ok (.bipush (-4), 2) := by decide +kernel
theorem dX5_when_61 : decode cX5_when 61 = .ok (.ireturn, 1) := by decide +kernel
theorem dX5_power_0 : decode cX5_power 0 = .ok (.aload_n 0, 1) := by decide +kernel
theorem dX5_power_1 : decode cX5_power 1 = .ok (.iload_n 1, 1) := by decide +kernel
theorem dX5_power_2 : decode cX5_power 2 = .ok (.iconst 1, 1) := by decide +kernel
theorem dX5_power_3 : decode cX5_power 3 = .ok (.iload_n 2, 1) := by decide +kernel
theorem dX5_power_4 : decode cX5_power 4 = .ok (.iload_n 3, 1) := by decide +kernel
theorem dX5_power_5 : decode cX5_power 5 = .ok (.invokevirtual 183, 3) := by decide +kernel
theorem dX5_power_8 : decode cX5_power 8 = .ok (.ireturn, 1) := by decide +kernel
theorem dX5_kind_0 : decode cX5_kind 0 = .ok (.aload_n 0, 1) := by decide +kernel
theorem dX5_kind_1 : decode cX5_kind 1 = .ok (.iload_n 1, 1) := by decide +kernel
theorem dX5_kind_2 : decode cX5_kind 2 = .ok (.iconst 0, 1) := by decide +kernel
theorem dX5_kind_3 : decode cX5_kind 3 = .ok (.iload_n 2, 1) := by decide +kernel
theorem dX5_kind_4 : decode cX5_kind 4 = .ok (.iload_n 3, 1) := by decide +kernel
theorem dX5_kind_5 : decode cX5_kind 5 = .ok (.invokevirtual 183, 3) := by decide +kernel
theorem dX5_kind_8 : decode cX5_kind 8 = .ok (.ireturn, 1) := by decide +kernel
theorem dX5_best_0 : decode cX5_best 0 = .ok (.iload_n 1, 1) := by decide +kernel
theorem dX5_best_1 : decode cX5_best 1 = .ok (.iconst 0, 1) := by decide +kernel
theorem dX5_best_2 : decode cX5_best 2 = .ok (.iconst 1, 1) := by decide +kernel
theorem dX5_best_3 : decode cX5_best 3 = .ok (.invokestatic 58, 3) := by decide +kernel
theorem dX5_best_6 : decode cX5_best 6 = .ok (.ifCond .ne 19, 3) := by decide +kernel
theorem dX5_best_9 : decode cX5_best 9 = .ok (.iload_n 2, 1) := by decide +kernel
theorem dX5_best_10 : decode cX5_best 10 = .ok (.invokestatic 157, 3) := by decide +kernel
theorem dX5_best_13 : decode cX5_best 13 = .ok (.ifCond .ne 12, 3) := by decide +kernel
theorem dX5_best_16 : decode cX5_best 16 = .ok (.iload_n 3, 1) := by decide +kernel
theorem dX5_best_17 : decode cX5_best 17 = .ok (.iconst 0, 1) := by decide +kernel
theorem dX5_best_18 : decode cX5_best 18 = .ok (.iconst 1, 1) := by decide +kernel
theorem dX5_best_19 : decode cX5_best 19 = .ok (.invokestatic 58, 3) := by decide +kernel
theorem dX5_best_22 : decode cX5_best 22 = .ok (.ifCond .eq 5, 3) := by decide +kernel
theorem dX5_best_25 : decode cX5_best 25 = .ok (.iconst (-1), 1) := by decide +kernel
theorem dX5_best_26 : decode cX5_best 26 = .ok (.ireturn, 1) := by decide +kernel
theorem dX5_best_27 : decode cX5_best 27 = .ok (.iload_n 1, 1) := by decide +kernel
theorem dX5_best_28 : decode cX5_best 28 = .ok (.ifCond .ne 12, 3) := by decide +kernel
theorem dX5_best_31 : decode cX5_best 31 = .ok (.aload_n 0, 1) := by decide +kernel
theorem dX5_best_32 : decode cX5_best 32 = .ok (.iload_n 2, 1) := by decide +kernel
theorem dX5_best_33 : decode cX5_best 33 = .ok (.iload_n 3, 1) := by decide +kernel
theorem dX5_best_34 : decode cX5_best 34 = .ok (.invokevirtual 187, 3) := by decide +kernel
theorem dX5_best_37 : decode cX5_best 37 = .ok (.goto 9, 3) := by decide +kernel
theorem dX5_best_40 : decode cX5_best 40 = .ok (.aload_n 0, 1) := by decide +kernel
theorem dX5_best_41 : decode cX5_best 41 = .ok (.iload_n 2, 1) := by decide +kernel
theorem dX5_best_42 : decode cX5_best 42 = .ok (.iload_n 3, 1) := by decide +kernel
theorem dX5_best_43 : decode cX5_best 43 = .ok (.invokevirtual 190, 3) := by decide +kernel
theorem dX5_best_46 : decode cX5_best 46 = .ok (.ireturn, 1) := by decide +kernel
theorem dX5_swap_0 : decode cX5_swap 0 = .ok (.iload_n 1, 1) := by decide +kernel
theorem dX5_swap_1 : decode cX5_swap 1 = .ok (.invokestatic 157, 3) := by decide +kernel
theorem dX5_swap_4 : decode cX5_swap 4 = .ok (.ifCond .ne 12, 3) := by decide +kernel
theorem dX5_swap_7 : decode cX5_swap 7 = .ok (.iload_n 2, 1) := by decide +kernel
theorem dX5_swap_8 : decode cX5_swap 8 = .ok (.iconst 0, 1) := by decide +kernel
theorem dX5_swap_9 : decode cX5_swap 9 = .ok (.iconst 1, 1) := by decide +kernel
theorem dX5_swap_10 : decode cX5_swap 10 = .ok (.invokestatic 58, 3) := by decide +kernel
theorem dX5_swap_13 : decode cX5_swap 13 = .ok (.ifCond .eq 5, 3) := by decide +kernel
theorem dX5_swap_16 : decode cX5_swap 16 = .ok (.iconst (-1), 1) := by decide +kernel
theorem dX5_swap_17 : decode cX5_swap 17 = .ok (.ireturn, 1) := by decide +kernel
theorem dX5_swap_18 : decode cX5_swap 18 = .ok (.aload_n 0, 1) := by decide +kernel
theorem dX5_swap_19 : decode cX5_swap 19 = .ok (.getfield 23, 3) := by decide +kernel
theorem dX5_swap_22 : decode cX5_swap 22 = .ok (.aload_n 0, 1) := by decide +kernel
theorem dX5_swap_23 : decode cX5_swap 23 = .ok (.getfield 19, 3) := by decide +kernel
theorem dX5_swap_26 : decode cX5_swap 26 = .ok (.invokevirtual 80, 3) := by decide +kernel
theorem dX5_swap_29 : decode cX5_swap 29 = .ok (.aload_n 0, 1) := by decide +kernel
theorem dX5_swap_30 : decode cX5_swap 30 = .ok (.iload_n 1, 1) := by decide +kernel
theorem dX5_swap_31 : decode cX5_swap 31 = .ok (.ldc 193, 2) := by decide +kernel
theorem dX5_swap_33 : decode cX5_swap 33 = .ok (.invokevirtual 194, 3) := by decide +kernel
theorem dX5_swap_36 : decode cX5_swap 36 = .ok (.istore_n 3, 1) := by decide +kernel
theorem dX5_swap_37 : decode cX5_swap 37 = .ok (.bipush (-4), 2) := by decide +kernel
theorem dX5_swap_39 : decode cX5_swap 39 = .ok (.istore 4, 2) := by decide +kernel
theorem dX5_swap_41 : decode cX5_swap 41 = .ok (.iconst 0, 1) := by decide +kernel
theorem dX5_swap_42 : decode cX5_swap 42 = .ok (.istore 5, 2) := by decide +kernel
theorem dX5_swap_44 : decode cX5_swap 44 = .ok (.iload 5, 2) := by decide +kernel
theorem dX5_swap_46 : decode cX5_swap 46 = .ok (.aload_n 0, 1) := by decide +kernel
theorem dX5_swap_47 : decode cX5_swap 47 = .ok (.getfield 19, 3) := by decide +kernel
theorem dX5_swap_50 : decode cX5_swap 50 = .ok (.getfield 87, 3) := by decide +kernel
theorem dX5_swap_53 : decode cX5_swap 53 = .ok (.if_icmp .ge 64, 3) := by decide +kernel
theorem dX5_swap_56 : decode cX5_swap 56 = .ok (.iload 5, 2) := by decide +kernel
theorem dX5_swap_58 : decode cX5_swap 58 = .ok (.iconst 1, 1) := by decide +kernel
theorem dX5_swap_59 : decode cX5_swap 59 = .ok (.iadd, 1) := by decide +kernel
theorem dX5_swap_60 : decode cX5_swap 60 = .ok (.istore 6, 2) := by decide +kernel
theorem dX5_swap_62 : decode cX5_swap 62 = .ok (.iload 6, 2) := by decide +kernel
theorem dX5_swap_64 : decode cX5_swap 64 = .ok (.aload_n 0, 1) := by decide +kernel
theorem dX5_swap_65 : decode cX5_swap 65 = .ok (.getfield 19, 3) := by decide +kernel
theorem dX5_swap_68 : decode cX5_swap 68 = .ok (.getfield 87, 3) := by decide +kernel
theorem dX5_swap_71 : decode cX5_swap 71 = .ok (.if_icmp .ge 40, 3) := by decide +kernel
theorem dX5_swap_74 : decode cX5_swap 74 = .ok (.aload_n 0, 1) := by decide +kernel
theorem dX5_swap_75 : decode cX5_swap 75 = .ok (.iload 5, 2) := by decide +kernel
theorem dX5_swap_77 : decode cX5_swap 77 = .ok (.iload 6, 2) := by decide +kernel
theorem dX5_swap_79 : decode cX5_swap 79 = .ok (.iload_n 1, 1) := by decide +kernel
theorem dX5_swap_80 : decode cX5_swap 80 = .ok (.iload_n 3, 1) := by decide +kernel
theorem dX5_swap_81 : decode cX5_swap 81 = .ok (.invokevirtual 197, 3) := by decide +kernel
theorem dX5_swap_84 : decode cX5_swap 84 = .ok (.istore 7, 2) := by decide +kernel
theorem dX5_swap_86 : decode cX5_swap 86 = .ok (.iload 7, 2) := by decide +kernel
theorem dX5_swap_88 : decode cX5_swap 88 = .ok (.iload_n 3, 1) := by decide +kernel
theorem dX5_swap_89 : decode cX5_swap 89 = .ok (.if_icmp .ge 16, 3) := by decide +kernel
theorem dX5_swap_92 : decode cX5_swap 92 = .ok (.iload 7, 2) := by decide +kernel
theorem dX5_swap_94 : decode cX5_swap 94 = .ok (.istore_n 3, 1) := by decide +kernel
theorem dX5_swap_95 : decode cX5_swap 95 = .ok (.bipush 100, 2) := by decide +kernel
theorem dX5_swap_97 : decode cX5_swap 97 = .ok (.iload 5, 2) := by decide +kernel
theorem dX5_swap_99 : decode cX5_swap 99 = .ok (.imul, 1) := by decide +kernel
theorem dX5_swap_100 : decode cX5_swap 100 = .ok (.iload 6, 2) := by decide +kernel
theorem dX5_swap_102 : decode cX5_swap 102 = .ok (.iadd, 1) := by decide +kernel
theorem dX5_swap_103 : decode cX5_swap 103 = .ok (.istore 4, 2) := by decide +kernel
theorem dX5_swap_105 : decode cX5_swap 105 = .ok (.iinc 6 1, 3) := by decide +kernel
theorem dX5_swap_108 : decode cX5_swap 108 = .ok (.goto (-46), 3) := by decide +kernel
theorem dX5_swap_111 : decode cX5_swap 111 = .ok (.iinc 5 1, 3) := by decide +kernel
theorem dX5_swap_114 : decode cX5_swap 114 = .ok (.goto (-70), 3) := by decide +kernel
theorem dX5_swap_117 : decode cX5_swap 117 = .ok (.iload_n 2, 1) := by decide +kernel
theorem dX5_swap_118 : decode cX5_swap 118 = .ok (.ifCond .eq 10, 3) := by decide +kernel
theorem dX5_swap_121 : decode cX5_swap 121 = .ok (.iload 4, 2) := by decide +kernel
theorem dX5_swap_123 : decode cX5_swap 123 = .ok (.bipush (-4), 2) := by decide +kernel
theorem dX5_swap_125 : decode cX5_swap 125 = .ok (.if_icmp .ne 8, 3) := by decide +kernel
theorem dX5_swap_128 : decode cX5_swap 128 = .ok (.iload 4, 2) := by decide +kernel
theorem dX5_swap_130 : decode cX5_swap 130 = .ok (.goto 4, 3) := by decide +kernel
theorem dX5_swap_133 : decode cX5_swap 133 = .ok (.iload_n 3, 1) := by decide +kernel
theorem dX5_swap_134 : decode cX5_swap 134 = .ok (.ireturn, 1) := by decide +kernel
theorem dX5_rest_0 : decode cX5_rest 0 = .ok (.iload_n 1, 1) := by decide +kernel
theorem dX5_rest_1 : decode cX5_rest 1 = .ok (.invokestatic 157, 3) := by decide +kernel
theorem dX5_rest_4 : decode cX5_rest 4 = .ok (.ifCond .ne 12, 3) := by decide +kernel
theorem dX5_rest_7 : decode cX5_rest 7 = .ok (.iload_n 2, 1) := by decide +kernel
theorem dX5_rest_8 : decode cX5_rest 8 = .ok (.iconst 0, 1) := by decide +kernel
theorem dX5_rest_9 : decode cX5_rest 9 = .ok (.iconst 1, 1) := by decide +kernel
theorem dX5_rest_10 : decode cX5_rest 10 = .ok (.invokestatic 58, 3) := by decide +kernel
theorem dX5_rest_13 : decode cX5_rest 13 = .ok (.ifCond .eq 5, 3) := by decide +kernel
theorem dX5_rest_16 : decode cX5_rest 16 = .ok (.iconst (-1), 1) := by decide +kernel
theorem dX5_rest_17 : decode cX5_rest 17 = .ok (.ireturn, 1) := by decide +kernel
theorem dX5_rest_18 : decode cX5_rest 18 = .ok (.aload_n 0, 1) := by decide +kernel
theorem dX5_rest_19 : decode cX5_rest 19 = .ok (.getfield 23, 3) := by decide +kernel
theorem dX5_rest_22 : decode cX5_rest 22 = .ok (.aload_n 0, 1) := by decide +kernel
theorem dX5_rest_23 : decode cX5_rest 23 = .ok (.getfield 19, 3) := by decide +kernel
theorem dX5_rest_26 : decode cX5_rest 26 = .ok (.invokevirtual 80, 3) := by decide +kernel
theorem dX5_rest_29 : decode cX5_rest 29 = .ok (.aload_n 0, 1) := by decide +kernel
theorem dX5_rest_30 : decode cX5_rest 30 = .ok (.iload_n 1, 1) := by decide +kernel
theorem dX5_rest_31 : decode cX5_rest 31 = .ok (.ldc 193, 2) := by decide +kernel
theorem dX5_rest_33 : decode cX5_rest 33 = .ok (.invokevirtual 194, 3) := by decide +kernel
theorem dX5_rest_36 : decode cX5_rest 36 = .ok (.istore_n 3, 1) := by decide +kernel
theorem dX5_rest_37 : decode cX5_rest 37 = .ok (.bipush (-4), 2) := by decide +kernel
theorem dX5_rest_39 : decode cX5_rest 39 = .ok (.istore 4, 2) := by decide +kernel
theorem dX5_rest_41 : decode cX5_rest 41 = .ok (.iconst 0, 1) := by decide +kernel
theorem dX5_rest_42 : decode cX5_rest 42 = .ok (.istore 5, 2) := by decide +kernel
theorem dX5_rest_44 : decode cX5_rest 44 = .ok (.iload 5, 2) := by decide +kernel
theorem dX5_rest_46 : decode cX5_rest 46 = .ok (.aload_n 0, 1) := by decide +kernel
theorem dX5_rest_47 : decode cX5_rest 47 = .ok (.getfield 19, 3) := by decide +kernel
theorem dX5_rest_50 : decode cX5_rest 50 = .ok (.getfield 87, 3) := by decide +kernel
theorem dX5_rest_53 : decode cX5_rest 53 = .ok (.if_icmp .ge 32, 3) := by decide +kernel
theorem dX5_rest_56 : decode cX5_rest 56 = .ok (.aload_n 0, 1) := by decide +kernel
theorem dX5_rest_57 : decode cX5_rest 57 = .ok (.iload 5, 2) := by decide +kernel
theorem dX5_rest_59 : decode cX5_rest 59 = .ok (.iload_n 1, 1) := by decide +kernel
theorem dX5_rest_60 : decode cX5_rest 60 = .ok (.iload_n 3, 1) := by decide +kernel
theorem dX5_rest_61 : decode cX5_rest 61 = .ok (.invokevirtual 200, 3) := by decide +kernel
theorem dX5_rest_64 : decode cX5_rest 64 = .ok (.istore 6, 2) := by decide +kernel
theorem dX5_rest_66 : decode cX5_rest 66 = .ok (.iload 6, 2) := by decide +kernel
theorem dX5_rest_68 : decode cX5_rest 68 = .ok (.iload_n 3, 1) := by decide +kernel
theorem dX5_rest_69 : decode cX5_rest 69 = .ok (.if_icmp .ge 10, 3) := by decide +kernel
theorem dX5_rest_72 : decode cX5_rest 72 = .ok (.iload 6, 2) := by decide +kernel
theorem dX5_rest_74 : decode cX5_rest 74 = .ok (.istore_n 3, 1) := by decide +kernel
theorem dX5_rest_75 : decode cX5_rest 75 = .ok (.iload 5, 2) := by decide +kernel
theorem dX5_rest_77 : decode cX5_rest 77 = .ok (.istore 4, 2) := by decide +kernel
theorem dX5_rest_79 : decode cX5_rest 79 = .ok (.iinc 5 1, 3) := by decide +kernel
theorem dX5_rest_82 : decode cX5_rest 82 = .ok (.goto (-38), 3) := by decide +kernel
theorem dX5_rest_85 : decode cX5_rest 85 = .ok (.iload_n 2, 1) := by decide +kernel
theorem dX5_rest_86 : decode cX5_rest 86 = .ok (.ifCond .eq 10, 3) := by decide +kernel
theorem dX5_rest_89 : decode cX5_rest 89 = .ok (.iload 4, 2) := by decide +kernel
theorem dX5_rest_91 : decode cX5_rest 91 = .ok (.bipush (-4), 2) := by decide +kernel
theorem dX5_rest_93 : decode cX5_rest 93 = .ok (.if_icmp .ne 8, 3) := by decide +kernel
theorem dX5_rest_96 : decode cX5_rest 96 = .ok (.iload 4, 2) := by decide +kernel
theorem dX5_rest_98 : decode cX5_rest 98 = .ok (.goto 4, 3) := by decide +kernel
theorem dX5_rest_101 : decode cX5_rest 101 = .ok (.iload_n 3, 1) := by decide +kernel
theorem dX5_rest_102 : decode cX5_rest 102 = .ok (.ireturn, 1) := by decide +kernel
theorem dX5_luck_0 : decode cX5_luck 0 = .ok (.iload_n 1, 1) := by decide +kernel
theorem dX5_luck_1 : decode cX5_luck 1 = .ok (.iload_n 3, 1) := by decide +kernel
theorem dX5_luck_2 : decode cX5_luck 2 = .ok (.iload 4, 2) := by decide +kernel
theorem dX5_luck_4 : decode cX5_luck 4 = .ok (.invokestatic 203, 3) := by decide +kernel
theorem dX5_luck_7 : decode cX5_luck 7 = .ok (.ifCond .ne 11, 3) := by decide +kernel
theorem dX5_luck_10 : decode cX5_luck 10 = .ok (.aload_n 0, 1) := by decide +kernel
theorem dX5_luck_11 : decode cX5_luck 11 = .ok (.iload_n 2, 1) := by decide +kernel
theorem dX5_luck_12 : decode cX5_luck 12 = .ok (.invokevirtual 104, 3) := by decide +kernel
theorem dX5_luck_15 : decode cX5_luck 15 = .ok (.ifCond .eq 7, 3) := by decide +kernel
theorem dX5_luck_18 : decode cX5_luck 18 = .ok (.ldc2_w 206, 3) := by decide +kernel
theorem dX5_luck_21 : decode cX5_luck 21 = .ok (.lreturn, 1) := by decide +kernel
theorem dX5_luck_22 : decode cX5_luck 22 = .ok (.bipush 10, 2) := by decide +kernel
theorem dX5_luck_24 : decode cX5_luck 24 = .ok (.iload_n 3, 1) := by decide +kernel
theorem dX5_luck_25 : decode cX5_luck 25 = .ok (.invokestatic 208, 3) := by decide +kernel
theorem dX5_luck_28 : decode cX5_luck 28 = .ok (.lstore 5, 2) := by decide +kernel
theorem dX5_luck_30 : decode cX5_luck 30 = .ok (.lconst 0, 1) := by decide +kernel
theorem dX5_luck_31 : decode cX5_luck 31 = .ok (.lstore 7, 2) := by decide +kernel
theorem dX5_luck_33 : decode cX5_luck 33 = .ok (.iconst 0, 1) := by decide +kernel
theorem dX5_luck_34 : decode cX5_luck 34 = .ok (.istore 9, 2) := by decide +kernel
theorem dX5_luck_36 : decode cX5_luck 36 = .ok (.iload 9, 2) := by decide +kernel
theorem dX5_luck_38 : decode cX5_luck 38 = .ok (.iconst 1, 1) := by decide +kernel
theorem dX5_luck_39 : decode cX5_luck 39 = .ok (.iload_n 3, 1) := by decide +kernel
theorem dX5_luck_40 : decode cX5_luck 40 = .ok (.ishl, 1) := by decide +kernel
theorem dX5_luck_41 : decode cX5_luck 41 = .ok (.if_icmp .ge 43, 3) := by decide +kernel
theorem dX5_luck_44 : decode cX5_luck 44 = .ok (.iload 9, 2) := by decide +kernel
theorem dX5_luck_46 : decode cX5_luck 46 = .ok (.iload_n 1, 1) := by decide +kernel
theorem dX5_luck_47 : decode cX5_luck 47 = .ok (.iload_n 3, 1) := by decide +kernel
theorem dX5_luck_48 : decode cX5_luck 48 = .ok (.invokestatic 212, 3) := by decide +kernel
theorem dX5_luck_51 : decode cX5_luck 51 = .ok (.lstore 10, 2) := by decide +kernel
theorem dX5_luck_53 : decode cX5_luck 53 = .ok (.lload 10, 2) := by decide +kernel
theorem dX5_luck_55 : decode cX5_luck 55 = .ok (.lconst 0, 1) := by decide +kernel
theorem dX5_luck_56 : decode cX5_luck 56 = .ok (.lcmp, 1) := by decide +kernel
theorem dX5_luck_57 : decode cX5_luck 57 = .ok (.ifCond .eq 21, 3) := by decide +kernel
theorem dX5_luck_60 : decode cX5_luck 60 = .ok (.aload_n 0, 1) := by decide +kernel
theorem dX5_luck_61 : decode cX5_luck 61 = .ok (.iload_n 2, 1) := by decide +kernel
theorem dX5_luck_62 : decode cX5_luck 62 = .ok (.iload_n 3, 1) := by decide +kernel
theorem dX5_luck_63 : decode cX5_luck 63 = .ok (.iload 9, 2) := by decide +kernel
theorem dX5_luck_65 : decode cX5_luck 65 = .ok (.invokevirtual 216, 3) := by decide +kernel
theorem dX5_luck_68 : decode cX5_luck 68 = .ok (.ifCond .eq 10, 3) := by decide +kernel
theorem dX5_luck_71 : decode cX5_luck 71 = .ok (.lload 7, 2) := by decide +kernel
theorem dX5_luck_73 : decode cX5_luck 73 = .ok (.lload 10, 2) := by decide +kernel
theorem dX5_luck_75 : decode cX5_luck 75 = .ok (.ladd, 1) := by decide +kernel
theorem dX5_luck_76 : decode cX5_luck 76 = .ok (.lstore 7, 2) := by decide +kernel
theorem dX5_luck_78 : decode cX5_luck 78 = .ok (.iinc 9 1, 3) := by decide +kernel
theorem dX5_luck_81 : decode cX5_luck 81 = .ok (.goto (-45), 3) := by decide +kernel
theorem dX5_luck_84 : decode cX5_luck 84 = .ok (.lload 7, 2) := by decide +kernel
theorem dX5_luck_86 : decode cX5_luck 86 = .ok (.lload 5, 2) := by decide +kernel
theorem dX5_luck_88 : decode cX5_luck 88 = .ok (.iload 4, 2) := by decide +kernel
theorem dX5_luck_90 : decode cX5_luck 90 = .ok (.invokestatic 219, 3) := by decide +kernel
theorem dX5_luck_93 : decode cX5_luck 93 = .ok (.lreturn, 1) := by decide +kernel
theorem dX5_mean_0 : decode cX5_mean 0 = .ok (.iload_n 1, 1) := by decide +kernel
theorem dX5_mean_1 : decode cX5_mean 1 = .ok (.iload_n 2, 1) := by decide +kernel
theorem dX5_mean_2 : decode cX5_mean 2 = .ok (.iload_n 3, 1) := by decide +kernel
theorem dX5_mean_3 : decode cX5_mean 3 = .ok (.invokestatic 203, 3) := by decide +kernel
theorem dX5_mean_6 : decode cX5_mean 6 = .ok (.ifCond .eq 7, 3) := by decide +kernel
theorem dX5_mean_9 : decode cX5_mean 9 = .ok (.ldc2_w 206, 3) := by decide +kernel
theorem dX5_mean_12 : decode cX5_mean 12 = .ok (.lreturn, 1) := by decide +kernel
theorem dX5_mean_13 : decode cX5_mean 13 = .ok (.bipush 10, 2) := by decide +kernel
theorem dX5_mean_15 : decode cX5_mean 15 = .ok (.iload_n 2, 1) := by decide +kernel
theorem dX5_mean_16 : decode cX5_mean 16 = .ok (.invokestatic 208, 3) := by decide +kernel
theorem dX5_mean_19 : decode cX5_mean 19 = .ok (.lstore 4, 2) := by decide +kernel
theorem dX5_mean_21 : decode cX5_mean 21 = .ok (.lconst 0, 1) := by decide +kernel
theorem dX5_mean_22 : decode cX5_mean 22 = .ok (.lstore 6, 2) := by decide +kernel
theorem dX5_mean_24 : decode cX5_mean 24 = .ok (.iconst 0, 1) := by decide +kernel
theorem dX5_mean_25 : decode cX5_mean 25 = .ok (.istore 8, 2) := by decide +kernel
theorem dX5_mean_27 : decode cX5_mean 27 = .ok (.iload 8, 2) := by decide +kernel
theorem dX5_mean_29 : decode cX5_mean 29 = .ok (.iconst 1, 1) := by decide +kernel
theorem dX5_mean_30 : decode cX5_mean 30 = .ok (.iload_n 2, 1) := by decide +kernel
theorem dX5_mean_31 : decode cX5_mean 31 = .ok (.ishl, 1) := by decide +kernel
theorem dX5_mean_32 : decode cX5_mean 32 = .ok (.if_icmp .ge 41, 3) := by decide +kernel
theorem dX5_mean_35 : decode cX5_mean 35 = .ok (.iload 8, 2) := by decide +kernel
theorem dX5_mean_37 : decode cX5_mean 37 = .ok (.iload_n 1, 1) := by decide +kernel
theorem dX5_mean_38 : decode cX5_mean 38 = .ok (.iload_n 2, 1) := by decide +kernel
theorem dX5_mean_39 : decode cX5_mean 39 = .ok (.invokestatic 212, 3) := by decide +kernel
theorem dX5_mean_42 : decode cX5_mean 42 = .ok (.lstore 9, 2) := by decide +kernel
theorem dX5_mean_44 : decode cX5_mean 44 = .ok (.lload 9, 2) := by decide +kernel
theorem dX5_mean_46 : decode cX5_mean 46 = .ok (.lconst 0, 1) := by decide +kernel
theorem dX5_mean_47 : decode cX5_mean 47 = .ok (.lcmp, 1) := by decide +kernel
theorem dX5_mean_48 : decode cX5_mean 48 = .ok (.ifCond .eq 19, 3) := by decide +kernel
theorem dX5_mean_51 : decode cX5_mean 51 = .ok (.lload 6, 2) := by decide +kernel
theorem dX5_mean_53 : decode cX5_mean 53 = .ok (.lload 9, 2) := by decide +kernel
theorem dX5_mean_55 : decode cX5_mean 55 = .ok (.aload_n 0, 1) := by decide +kernel
theorem dX5_mean_56 : decode cX5_mean 56 = .ok (.iload_n 2, 1) := by decide +kernel
theorem dX5_mean_57 : decode cX5_mean 57 = .ok (.iload 8, 2) := by decide +kernel
theorem dX5_mean_59 : decode cX5_mean 59 = .ok (.invokevirtual 223, 3) := by decide +kernel
theorem dX5_mean_62 : decode cX5_mean 62 = .ok (.i2l, 1) := by decide +kernel
theorem dX5_mean_63 : decode cX5_mean 63 = .ok (.lmul, 1) := by decide +kernel
theorem dX5_mean_64 : decode cX5_mean 64 = .ok (.ladd, 1) := by decide +kernel
theorem dX5_mean_65 : decode cX5_mean 65 = .ok (.lstore 6, 2) := by decide +kernel
theorem dX5_mean_67 : decode cX5_mean 67 = .ok (.iinc 8 1, 3) := by decide +kernel
theorem dX5_mean_70 : decode cX5_mean 70 = .ok (.goto (-43), 3) := by decide +kernel
theorem dX5_mean_73 : decode cX5_mean 73 = .ok (.lload 6, 2) := by decide +kernel
theorem dX5_mean_75 : decode cX5_mean 75 = .ok (.lload 4, 2) := by decide +kernel
theorem dX5_mean_77 : decode cX5_mean 77 = .ok (.iload_n 3, 1) := by decide +kernel
theorem dX5_mean_78 : decode cX5_mean 78 = .ok (.invokestatic 219, 3) := by decide +kernel
theorem dX5_mean_81 : decode cX5_mean 81 = .ok (.lreturn, 1) := by decide +kernel
theorem dX5_see_0 : decode cX5_see 0 = .ok (.iload_n 1, 1) := by decide +kernel
theorem dX5_see_1 : decode cX5_see 1 = .ok (.iconst 0, 1) := by decide +kernel
theorem dX5_see_2 : decode cX5_see 2 = .ok (.bipush 40, 2) := by decide +kernel
theorem dX5_see_4 : decode cX5_see 4 = .ok (.invokestatic 58, 3) := by decide +kernel
theorem dX5_see_7 : decode cX5_see 7 = .ok (.ifCond .ne 22, 3) := by decide +kernel
theorem dX5_see_10 : decode cX5_see 10 = .ok (.aload_n 0, 1) := by decide +kernel
theorem dX5_see_11 : decode cX5_see 11 = .ok (.iload_n 2, 1) := by decide +kernel
theorem dX5_see_12 : decode cX5_see 12 = .ok (.invokevirtual 104, 3) := by decide +kernel
theorem dX5_see_15 : decode cX5_see 15 = .ok (.ifCond .ne 14, 3) := by decide +kernel
theorem dX5_see_18 : decode cX5_see 18 = .ok (.iload_n 3, 1) := by decide +kernel
theorem dX5_see_19 : decode cX5_see 19 = .ok (.iconst 0, 1) := by decide +kernel
theorem dX5_see_20 : decode cX5_see 20 = .ok (.sipush 255, 3) := by decide +kernel
theorem dX5_see_23 : decode cX5_see 23 = .ok (.invokestatic 58, 3) := by decide +kernel
theorem dX5_see_26 : decode cX5_see 26 = .ok (.ifCond .eq 5, 3) := by decide +kernel
theorem dX5_see_29 : decode cX5_see 29 = .ok (.iconst (-1), 1) := by decide +kernel
theorem dX5_see_30 : decode cX5_see 30 = .ok (.ireturn, 1) := by decide +kernel
theorem dX5_see_31 : decode cX5_see 31 = .ok (.aload_n 0, 1) := by decide +kernel
theorem dX5_see_32 : decode cX5_see 32 = .ok (.getfield 19, 3) := by decide +kernel
theorem dX5_see_35 : decode cX5_see 35 = .ok (.getfield 226, 3) := by decide +kernel
theorem dX5_see_38 : decode cX5_see 38 = .ok (.getfield 230, 3) := by decide +kernel
theorem dX5_see_41 : decode cX5_see 41 = .ok (.bipush 6, 2) := by decide +kernel
theorem dX5_see_43 : decode cX5_see 43 = .ok (.if_icmp .lt 6, 3) := by decide +kernel
theorem dX5_see_46 : decode cX5_see 46 = .ok (.bipush (-3), 2) := by decide +kernel
theorem dX5_see_48 : decode cX5_see 48 = .ok (.ireturn, 1) := by decide +kernel
theorem dX5_see_49 : decode cX5_see 49 = .ok (.aload_n 0, 1) := by decide +kernel
theorem dX5_see_50 : decode cX5_see 50 = .ok (.getfield 19, 3) := by decide +kernel
theorem dX5_see_53 : decode cX5_see 53 = .ok (.getfield 226, 3) := by decide +kernel
theorem dX5_see_56 : decode cX5_see 56 = .ok (.iload_n 1, 1) := by decide +kernel
theorem dX5_see_57 : decode cX5_see 57 = .ok (.iload_n 2, 1) := by decide +kernel
theorem dX5_see_58 : decode cX5_see 58 = .ok (.iload_n 3, 1) := by decide +kernel
theorem dX5_see_59 : decode cX5_see 59 = .ok (.invokevirtual 235, 3) := by decide +kernel
theorem dX5_see_62 : decode cX5_see 62 = .ok (.aload_n 0, 1) := by decide +kernel
theorem dX5_see_63 : decode cX5_see 63 = .ok (.getfield 19, 3) := by decide +kernel
theorem dX5_see_66 : decode cX5_see 66 = .ok (.getfield 226, 3) := by decide +kernel
theorem dX5_see_69 : decode cX5_see 69 = .ok (.getfield 230, 3) := by decide +kernel
theorem dX5_see_72 : decode cX5_see 72 = .ok (.ireturn, 1) := by decide +kernel
theorem dX5_forget_0 : decode cX5_forget 0 = .ok (.iload_n 1, 1) := by decide +kernel
theorem dX5_forget_1 : decode cX5_forget 1 = .ok (.iconst 0, 1) := by decide +kernel
theorem dX5_forget_2 : decode cX5_forget 2 = .ok (.aload_n 0, 1) := by decide +kernel
theorem dX5_forget_3 : decode cX5_forget 3 = .ok (.getfield 19, 3) := by decide +kernel
theorem dX5_forget_6 : decode cX5_forget 6 = .ok (.getfield 226, 3) := by decide +kernel
theorem dX5_forget_9 : decode cX5_forget 9 = .ok (.getfield 230, 3) := by decide +kernel
theorem dX5_forget_12 : decode cX5_forget 12 = .ok (.invokestatic 58, 3) := by decide +kernel
theorem dX5_forget_15 : decode cX5_forget 15 = .ok (.ifCond .eq 5, 3) := by decide +kernel
theorem dX5_forget_18 : decode cX5_forget 18 = .ok (.iconst (-1), 1) := by decide +kernel
theorem dX5_forget_19 : decode cX5_forget 19 = .ok (.ireturn, 1) := by decide +kernel
theorem dX5_forget_20 : decode cX5_forget 20 = .ok (.aload_n 0, 1) := by decide +kernel
theorem dX5_forget_21 : decode cX5_forget 21 = .ok (.getfield 19, 3) := by decide +kernel
theorem dX5_forget_24 : decode cX5_forget 24 = .ok (.getfield 226, 3) := by decide +kernel
theorem dX5_forget_27 : decode cX5_forget 27 = .ok (.getfield 230, 3) := by decide +kernel
theorem dX5_forget_30 : decode cX5_forget 30 = .ok (.istore_n 2, 1) := by decide +kernel
theorem dX5_forget_31 : decode cX5_forget 31 = .ok (.aload_n 0, 1) := by decide +kernel
theorem dX5_forget_32 : decode cX5_forget 32 = .ok (.getfield 19, 3) := by decide +kernel
theorem dX5_forget_35 : decode cX5_forget 35 = .ok (.getfield 226, 3) := by decide +kernel
theorem dX5_forget_38 : decode cX5_forget 38 = .ok (.iload_n 1, 1) := by decide +kernel
theorem dX5_forget_39 : decode cX5_forget 39 = .ok (.putfield 230, 3) := by decide +kernel
theorem dX5_forget_42 : decode cX5_forget 42 = .ok (.iload_n 2, 1) := by decide +kernel
theorem dX5_forget_43 : decode cX5_forget 43 = .ok (.ireturn, 1) := by decide +kernel
theorem dX5_kinds_0 : decode cX5_kinds 0 = .ok (.aload_n 0, 1) := by decide +kernel
theorem dX5_kinds_1 : decode cX5_kinds 1 = .ok (.iload_n 1, 1) := by decide +kernel
theorem dX5_kinds_2 : decode cX5_kinds 2 = .ok (.invokevirtual 104, 3) := by decide +kernel
theorem dX5_kinds_5 : decode cX5_kinds 5 = .ok (.ifCond .eq 7, 3) := by decide +kernel
theorem dX5_kinds_8 : decode cX5_kinds 8 = .ok (.iconst (-1), 1) := by decide +kernel
theorem dX5_kinds_9 : decode cX5_kinds 9 = .ok (.goto 9, 3) := by decide +kernel
theorem dX5_kinds_12 : decode cX5_kinds 12 = .ok (.aload_n 0, 1) := by decide +kernel
theorem dX5_kinds_13 : decode cX5_kinds 13 = .ok (.iload_n 1, 1) := by decide +kernel
theorem dX5_kinds_14 : decode cX5_kinds 14 = .ok (.iconst 0, 1) := by decide +kernel
theorem dX5_kinds_15 : decode cX5_kinds 15 = .ok (.invokevirtual 239, 3) := by decide +kernel
theorem dX5_kinds_18 : decode cX5_kinds 18 = .ok (.ireturn, 1) := by decide +kernel
theorem dX5_powers_0 : decode cX5_powers 0 = .ok (.aload_n 0, 1) := by decide +kernel
theorem dX5_powers_1 : decode cX5_powers 1 = .ok (.iload_n 1, 1) := by decide +kernel
theorem dX5_powers_2 : decode cX5_powers 2 = .ok (.invokevirtual 104, 3) := by decide +kernel
theorem dX5_powers_5 : decode cX5_powers 5 = .ok (.ifCond .eq 7, 3) := by decide +kernel
theorem dX5_powers_8 : decode cX5_powers 8 = .ok (.iconst (-1), 1) := by decide +kernel
theorem dX5_powers_9 : decode cX5_powers 9 = .ok (.goto 9, 3) := by decide +kernel
theorem dX5_powers_12 : decode cX5_powers 12 = .ok (.aload_n 0, 1) := by decide +kernel
theorem dX5_powers_13 : decode cX5_powers 13 = .ok (.iload_n 1, 1) := by decide +kernel
theorem dX5_powers_14 : decode cX5_powers 14 = .ok (.iconst 1, 1) := by decide +kernel
theorem dX5_powers_15 : decode cX5_powers 15 = .ok (.invokevirtual 239, 3) := by decide +kernel
theorem dX5_powers_18 : decode cX5_powers 18 = .ok (.ireturn, 1) := by decide +kernel
theorem dX5_ask_0 : decode cX5_ask 0 = .ok (.aload_n 0, 1) := by decide +kernel
theorem dX5_ask_1 : decode cX5_ask 1 = .ok (.iload_n 1, 1) := by decide +kernel
theorem dX5_ask_2 : decode cX5_ask 2 = .ok (.invokevirtual 104, 3) := by decide +kernel
theorem dX5_ask_5 : decode cX5_ask 5 = .ok (.ifCond .ne 12, 3) := by decide +kernel
theorem dX5_ask_8 : decode cX5_ask 8 = .ok (.iload_n 2, 1) := by decide +kernel
theorem dX5_ask_9 : decode cX5_ask 9 = .ok (.iconst 0, 1) := by decide +kernel
theorem dX5_ask_10 : decode cX5_ask 10 = .ok (.iconst 1, 1) := by decide +kernel
theorem dX5_ask_11 : decode cX5_ask 11 = .ok (.invokestatic 58, 3) := by decide +kernel
theorem dX5_ask_14 : decode cX5_ask 14 = .ok (.ifCond .eq 5, 3) := by decide +kernel
theorem dX5_ask_17 : decode cX5_ask 17 = .ok (.iconst (-1), 1) := by decide +kernel
theorem dX5_ask_18 : decode cX5_ask 18 = .ok (.ireturn, 1) := by decide +kernel
theorem dX5_ask_19 : decode cX5_ask 19 = .ok (.aload_n 0, 1) := by decide +kernel
theorem dX5_ask_20 : decode cX5_ask 20 = .ok (.iload_n 1, 1) := by decide +kernel
theorem dX5_ask_21 : decode cX5_ask 21 = .ok (.iconst 1, 1) := by decide +kernel
theorem dX5_ask_22 : decode cX5_ask 22 = .ok (.invokevirtual 239, 3) := by decide +kernel
theorem dX5_ask_25 : decode cX5_ask 25 = .ok (.istore_n 3, 1) := by decide +kernel
theorem dX5_ask_26 : decode cX5_ask 26 = .ok (.iload_n 3, 1) := by decide +kernel
theorem dX5_ask_27 : decode cX5_ask 27 = .ok (.invokestatic 242, 3) := by decide +kernel
theorem dX5_ask_30 : decode cX5_ask 30 = .ok (.istore 4, 2) := by decide +kernel
theorem dX5_ask_32 : decode cX5_ask 32 = .ok (.bipush (-4), 2) := by decide +kernel
theorem dX5_ask_34 : decode cX5_ask 34 = .ok (.istore 5, 2) := by decide +kernel
theorem dX5_ask_36 : decode cX5_ask 36 = .ok (.iload 4, 2) := by decide +kernel
theorem dX5_ask_38 : decode cX5_ask 38 = .ok (.iconst 1, 1) := by decide +kernel
theorem dX5_ask_39 : decode cX5_ask 39 = .ok (.if_icmp .le 43, 3) := by decide +kernel
theorem dX5_ask_42 : decode cX5_ask 42 = .ok (.iconst 0, 1) := by decide +kernel
theorem dX5_ask_43 : decode cX5_ask 43 = .ok (.istore 6, 2) := by decide +kernel
theorem dX5_ask_45 : decode cX5_ask 45 = .ok (.iload 6, 2) := by decide +kernel
theorem dX5_ask_47 : decode cX5_ask 47 = .ok (.bipush 41, 2) := by decide +kernel
theorem dX5_ask_49 : decode cX5_ask 49 = .ok (.if_icmp .ge 33, 3) := by decide +kernel
theorem dX5_ask_52 : decode cX5_ask 52 = .ok (.aload_n 0, 1) := by decide +kernel
theorem dX5_ask_53 : decode cX5_ask 53 = .ok (.iload_n 3, 1) := by decide +kernel
theorem dX5_ask_54 : decode cX5_ask 54 = .ok (.iload 6, 2) := by decide +kernel
theorem dX5_ask_56 : decode cX5_ask 56 = .ok (.invokevirtual 247, 3) := by decide +kernel
theorem dX5_ask_59 : decode cX5_ask 59 = .ok (.istore 7, 2) := by decide +kernel
theorem dX5_ask_61 : decode cX5_ask 61 = .ok (.iload 7, 2) := by decide +kernel
theorem dX5_ask_63 : decode cX5_ask 63 = .ok (.iload 4, 2) := by decide +kernel
theorem dX5_ask_65 : decode cX5_ask 65 = .ok (.if_icmp .ge 11, 3) := by decide +kernel
theorem dX5_ask_68 : decode cX5_ask 68 = .ok (.iload 7, 2) := by decide +kernel
theorem dX5_ask_70 : decode cX5_ask 70 = .ok (.istore 4, 2) := by decide +kernel
theorem dX5_ask_72 : decode cX5_ask 72 = .ok (.iload 6, 2) := by decide +kernel
theorem dX5_ask_74 : decode cX5_ask 74 = .ok (.istore 5, 2) := by decide +kernel
theorem dX5_ask_76 : decode cX5_ask 76 = .ok (.iinc 6 1, 3) := by decide +kernel
theorem dX5_ask_79 : decode cX5_ask 79 = .ok (.goto (-34), 3) := by decide +kernel
theorem dX5_ask_82 : decode cX5_ask 82 = .ok (.iload_n 2, 1) := by decide +kernel
theorem dX5_ask_83 : decode cX5_ask 83 = .ok (.ifCond .eq 10, 3) := by decide +kernel
theorem dX5_ask_86 : decode cX5_ask 86 = .ok (.iload 5, 2) := by decide +kernel
theorem dX5_ask_88 : decode cX5_ask 88 = .ok (.bipush (-4), 2) := by decide +kernel
theorem dX5_ask_90 : decode cX5_ask 90 = .ok (.if_icmp .ne 8, 3) := by decide +kernel
theorem dX5_ask_93 : decode cX5_ask 93 = .ok (.iload 5, 2) := by decide +kernel
theorem dX5_ask_95 : decode cX5_ask 95 = .ok (.goto 5, 3) := by decide +kernel
theorem dX5_ask_98 : decode cX5_ask 98 = .ok (.iload 4, 2) := by decide +kernel
theorem dX5_ask_100 : decode cX5_ask 100 = .ok (.ireturn, 1) := by decide +kernel
theorem dX5_drift_0 : decode cX5_drift 0 = .ok (.iload_n 2, 1) := by decide +kernel
theorem dX5_drift_1 : decode cX5_drift 1 = .ok (.iconst 1, 1) := by decide +kernel
theorem dX5_drift_2 : decode cX5_drift 2 = .ok (.bipush 60, 2) := by decide +kernel
theorem dX5_drift_4 : decode cX5_drift 4 = .ok (.invokestatic 58, 3) := by decide +kernel
theorem dX5_drift_7 : decode cX5_drift 7 = .ok (.ifCond .ne 12, 3) := by decide +kernel
theorem dX5_drift_10 : decode cX5_drift 10 = .ok (.iload_n 3, 1) := by decide +kernel
theorem dX5_drift_11 : decode cX5_drift 11 = .ok (.iconst 0, 1) := by decide +kernel
theorem dX5_drift_12 : decode cX5_drift 12 = .ok (.iconst 1, 1) := by decide +kernel
theorem dX5_drift_13 : decode cX5_drift 13 = .ok (.invokestatic 58, 3) := by decide +kernel
theorem dX5_drift_16 : decode cX5_drift 16 = .ok (.ifCond .eq 5, 3) := by decide +kernel
theorem dX5_drift_19 : decode cX5_drift 19 = .ok (.iconst (-1), 1) := by decide +kernel
theorem dX5_drift_20 : decode cX5_drift 20 = .ok (.ireturn, 1) := by decide +kernel
theorem dX5_drift_21 : decode cX5_drift 21 = .ok (.aload_n 0, 1) := by decide +kernel
theorem dX5_drift_22 : decode cX5_drift 22 = .ok (.getfield 19, 3) := by decide +kernel
theorem dX5_drift_25 : decode cX5_drift 25 = .ok (.getfield 84, 3) := by decide +kernel
theorem dX5_drift_28 : decode cX5_drift 28 = .ok (.ifCond .ne 6, 3) := by decide +kernel
theorem dX5_drift_31 : decode cX5_drift 31 = .ok (.bipush (-2), 2) := by decide +kernel
theorem dX5_drift_33 : decode cX5_drift 33 = .ok (.ireturn, 1) := by decide +kernel
theorem dX5_drift_34 : decode cX5_drift 34 = .ok (.aload_n 0, 1) := by decide +kernel
theorem dX5_drift_35 : decode cX5_drift 35 = .ok (.getfield 23, 3) := by decide +kernel
theorem dX5_drift_38 : decode cX5_drift 38 = .ok (.aload_n 0, 1) := by decide +kernel
theorem dX5_drift_39 : decode cX5_drift 39 = .ok (.getfield 19, 3) := by decide +kernel
theorem dX5_drift_42 : decode cX5_drift 42 = .ok (.invokevirtual 80, 3) := by decide +kernel
theorem dX5_drift_45 : decode cX5_drift 45 = .ok (.iconst 0, 1) := by decide +kernel
theorem dX5_drift_46 : decode cX5_drift 46 = .ok (.istore 4, 2) := by decide +kernel
theorem dX5_drift_48 : decode cX5_drift 48 = .ok (.iload_n 1, 1) := by decide +kernel
theorem dX5_drift_49 : decode cX5_drift 49 = .ok (.istore 5, 2) := by decide +kernel
theorem dX5_drift_51 : decode cX5_drift 51 = .ok (.iconst 0, 1) := by decide +kernel
theorem dX5_drift_52 : decode cX5_drift 52 = .ok (.istore 6, 2) := by decide +kernel
theorem dX5_drift_54 : decode cX5_drift 54 = .ok (.iload 6, 2) := by decide +kernel
theorem dX5_drift_56 : decode cX5_drift 56 = .ok (.iload_n 2, 1) := by decide +kernel
theorem dX5_drift_57 : decode cX5_drift 57 = .ok (.if_icmp .ge 53, 3) := by decide +kernel
theorem dX5_drift_60 : decode cX5_drift 60 = .ok (.iload 5, 2) := by decide +kernel
theorem dX5_drift_62 : decode cX5_drift 62 = .ok (.ldc 250, 2) := by decide +kernel
theorem dX5_drift_64 : decode cX5_drift 64 = .ok (.imul, 1) := by decide +kernel
theorem dX5_drift_65 : decode cX5_drift 65 = .ok (.sipush 12345, 3) := by decide +kernel
theorem dX5_drift_68 : decode cX5_drift 68 = .ok (.iadd, 1) := by decide +kernel
theorem dX5_drift_69 : decode cX5_drift 69 = .ok (.istore 5, 2) := by decide +kernel
theorem dX5_drift_71 : decode cX5_drift 71 = .ok (.iload 5, 2) := by decide +kernel
theorem dX5_drift_73 : decode cX5_drift 73 = .ok (.bipush 16, 2) := by decide +kernel
theorem dX5_drift_75 : decode cX5_drift 75 = .ok (.iushr, 1) := by decide +kernel
theorem dX5_drift_76 : decode cX5_drift 76 = .ok (.sipush 32767, 3) := by decide +kernel
theorem dX5_drift_79 : decode cX5_drift 79 = .ok (.iand, 1) := by decide +kernel
theorem dX5_drift_80 : decode cX5_drift 80 = .ok (.istore 7, 2) := by decide +kernel
theorem dX5_drift_82 : decode cX5_drift 82 = .ok (.iload 4, 2) := by decide +kernel
theorem dX5_drift_84 : decode cX5_drift 84 = .ok (.aload_n 0, 1) := by decide +kernel
theorem dX5_drift_85 : decode cX5_drift 85 = .ok (.getfield 23, 3) := by decide +kernel
theorem dX5_drift_88 : decode cX5_drift 88 = .ok (.iload 7, 2) := by decide +kernel
theorem dX5_drift_90 : decode cX5_drift 90 = .ok (.iconst 4, 1) := by decide +kernel
theorem dX5_drift_91 : decode cX5_drift 91 = .ok (.idiv, 1) := by decide +kernel
theorem dX5_drift_92 : decode cX5_drift 92 = .ok (.sipush 256, 3) := by decide +kernel
theorem dX5_drift_95 : decode cX5_drift 95 = .ok (.irem, 1) := by decide +kernel
theorem dX5_drift_96 : decode cX5_drift 96 = .ok (.iconst 0, 1) := by decide +kernel
theorem dX5_drift_97 : decode cX5_drift 97 = .ok (.iconst 1, 1) := by decide +kernel
theorem dX5_drift_98 : decode cX5_drift 98 = .ok (.invokevirtual 251, 3) := by decide +kernel
theorem dX5_drift_101 : decode cX5_drift 101 = .ok (.iadd, 1) := by decide +kernel
theorem dX5_drift_102 : decode cX5_drift 102 = .ok (.istore 4, 2) := by decide +kernel
theorem dX5_drift_104 : decode cX5_drift 104 = .ok (.iinc 6 1, 3) := by decide +kernel
theorem dX5_drift_107 : decode cX5_drift 107 = .ok (.goto (-53), 3) := by decide +kernel
theorem dX5_drift_110 : decode cX5_drift 110 = .ok (.iload_n 3, 1) := by decide +kernel
theorem dX5_drift_111 : decode cX5_drift 111 = .ok (.ifCond .ne 8, 3) := by decide +kernel
theorem dX5_drift_114 : decode cX5_drift 114 = .ok (.iload 4, 2) := by decide +kernel
theorem dX5_drift_116 : decode cX5_drift 116 = .ok (.goto 10, 3) := by decide +kernel
theorem dX5_drift_119 : decode cX5_drift 119 = .ok (.aload_n 0, 1) := by decide +kernel
theorem dX5_drift_120 : decode cX5_drift 120 = .ok (.getfield 23, 3) := by decide +kernel
theorem dX5_drift_123 : decode cX5_drift 123 = .ok (.invokevirtual 255, 3) := by decide +kernel
theorem dX5_drift_126 : decode cX5_drift 126 = .ok (.ireturn, 1) := by decide +kernel
theorem dX5_keep_0 : decode cX5_keep 0 = .ok (.iload_n 1, 1) := by decide +kernel
theorem dX5_keep_1 : decode cX5_keep 1 = .ok (.iconst 0, 1) := by decide +kernel
theorem dX5_keep_2 : decode cX5_keep 2 = .ok (.iconst 1, 1) := by decide +kernel
theorem dX5_keep_3 : decode cX5_keep 3 = .ok (.invokestatic 58, 3) := by decide +kernel
theorem dX5_keep_6 : decode cX5_keep 6 = .ok (.ifCond .eq 5, 3) := by decide +kernel
theorem dX5_keep_9 : decode cX5_keep 9 = .ok (.iconst (-1), 1) := by decide +kernel
theorem dX5_keep_10 : decode cX5_keep 10 = .ok (.ireturn, 1) := by decide +kernel
theorem dX5_keep_11 : decode cX5_keep 11 = .ok (.aload_n 0, 1) := by decide +kernel
theorem dX5_keep_12 : decode cX5_keep 12 = .ok (.getfield 37, 3) := by decide +kernel
theorem dX5_keep_15 : decode cX5_keep 15 = .ok (.iload_n 1, 1) := by decide +kernel
theorem dX5_keep_16 : decode cX5_keep 16 = .ok (.baload, 1) := by decide +kernel
theorem dX5_keep_17 : decode cX5_keep 17 = .ok (.ifCond .eq 7, 3) := by decide +kernel
theorem dX5_keep_20 : decode cX5_keep 20 = .ok (.iconst 1, 1) := by decide +kernel
theorem dX5_keep_21 : decode cX5_keep 21 = .ok (.goto 4, 3) := by decide +kernel
theorem dX5_keep_24 : decode cX5_keep 24 = .ok (.iconst 0, 1) := by decide +kernel
theorem dX5_keep_25 : decode cX5_keep 25 = .ok (.istore_n 2, 1) := by decide +kernel
theorem dX5_keep_26 : decode cX5_keep 26 = .ok (.aload_n 0, 1) := by decide +kernel
theorem dX5_keep_27 : decode cX5_keep 27 = .ok (.getfield 33, 3) := by decide +kernel
theorem dX5_keep_30 : decode cX5_keep 30 = .ok (.iload_n 1, 1) := by decide +kernel
theorem dX5_keep_31 : decode cX5_keep 31 = .ok (.aaload, 1) := by decide +kernel
theorem dX5_keep_32 : decode cX5_keep 32 = .ok (.aload_n 0, 1) := by decide +kernel
theorem dX5_keep_33 : decode cX5_keep 33 = .ok (.getfield 19, 3) := by decide +kernel
theorem dX5_keep_36 : decode cX5_keep 36 = .ok (.invokevirtual 80, 3) := by decide +kernel
theorem dX5_keep_39 : decode cX5_keep 39 = .ok (.aload_n 0, 1) := by decide +kernel
theorem dX5_keep_40 : decode cX5_keep 40 = .ok (.getfield 37, 3) := by decide +kernel
theorem dX5_keep_43 : decode cX5_keep 43 = .ok (.iload_n 1, 1) := by decide +kernel
theorem dX5_keep_44 : decode cX5_keep 44 = .ok (.iconst 1, 1) := by decide +kernel
theorem dX5_keep_45 : decode cX5_keep 45 = .ok (.bastore, 1) := by decide +kernel
theorem dX5_keep_46 : decode cX5_keep 46 = .ok (.iload_n 2, 1) := by decide +kernel
theorem dX5_keep_47 : decode cX5_keep 47 = .ok (.ireturn, 1) := by decide +kernel
theorem dX5_back_0 : decode cX5_back 0 = .ok (.iload_n 1, 1) := by decide +kernel
theorem dX5_back_1 : decode cX5_back 1 = .ok (.iconst 0, 1) := by decide +kernel
theorem dX5_back_2 : decode cX5_back 2 = .ok (.iconst 1, 1) := by decide +kernel
theorem dX5_back_3 : decode cX5_back 3 = .ok (.invokestatic 58, 3) := by decide +kernel
theorem dX5_back_6 : decode cX5_back 6 = .ok (.ifCond .eq 5, 3) := by decide +kernel
theorem dX5_back_9 : decode cX5_back 9 = .ok (.iconst (-1), 1) := by decide +kernel
theorem dX5_back_10 : decode cX5_back 10 = .ok (.ireturn, 1) := by decide +kernel
theorem dX5_back_11 : decode cX5_back 11 = .ok (.aload_n 0, 1) := by decide +kernel
theorem dX5_back_12 : decode cX5_back 12 = .ok (.getfield 37, 3) := by decide +kernel
theorem dX5_back_15 : decode cX5_back 15 = .ok (.iload_n 1, 1) := by decide +kernel
theorem dX5_back_16 : decode cX5_back 16 = .ok (.baload, 1) := by decide +kernel
theorem dX5_back_17 : decode cX5_back 17 = .ok (.ifCond .ne 6, 3) := by decide +kernel
theorem dX5_back_20 : decode cX5_back 20 = .ok (.bipush (-2), 2) := by decide +kernel
theorem dX5_back_22 : decode cX5_back 22 = .ok (.ireturn, 1) := by decide +kernel
theorem dX5_back_23 : decode cX5_back 23 = .ok (.aload_n 0, 1) := by decide +kernel
theorem dX5_back_24 : decode cX5_back 24 = .ok (.getfield 19, 3) := by decide +kernel
theorem dX5_back_27 : decode cX5_back 27 = .ok (.aload_n 0, 1) := by decide +kernel
theorem dX5_back_28 : decode cX5_back 28 = .ok (.getfield 33, 3) := by decide +kernel
theorem dX5_back_31 : decode cX5_back 31 = .ok (.iload_n 1, 1) := by decide +kernel
theorem dX5_back_32 : decode cX5_back 32 = .ok (.aaload, 1) := by decide +kernel
theorem dX5_back_33 : decode cX5_back 33 = .ok (.invokevirtual 80, 3) := by decide +kernel
theorem dX5_back_36 : decode cX5_back 36 = .ok (.aload_n 0, 1) := by decide +kernel
theorem dX5_back_37 : decode cX5_back 37 = .ok (.getfield 19, 3) := by decide +kernel
theorem dX5_back_40 : decode cX5_back 40 = .ok (.getfield 90, 3) := by decide +kernel
theorem dX5_back_43 : decode cX5_back 43 = .ok (.ireturn, 1) := by decide +kernel
theorem dX5_sheet_0 : decode cX5_sheet 0 = .ok (.iload_n 1, 1) := by decide +kernel
theorem dX5_sheet_1 : decode cX5_sheet 1 = .ok (.invokestatic 258, 3) := by decide +kernel
theorem dX5_sheet_4 : decode cX5_sheet 4 = .ok (.ifCond .ne 18, 3) := by decide +kernel
theorem dX5_sheet_7 : decode cX5_sheet 7 = .ok (.iload_n 2, 1) := by decide +kernel
theorem dX5_sheet_8 : decode cX5_sheet 8 = .ok (.iconst 0, 1) := by decide +kernel
theorem dX5_sheet_9 : decode cX5_sheet 9 = .ok (.iconst 2, 1) := by decide +kernel
theorem dX5_sheet_10 : decode cX5_sheet 10 = .ok (.invokestatic 58, 3) := by decide +kernel
theorem dX5_sheet_13 : decode cX5_sheet 13 = .ok (.ifCond .ne 9, 3) := by decide +kernel
theorem dX5_sheet_16 : decode cX5_sheet 16 = .ok (.iload_n 3, 1) := by decide +kernel
theorem dX5_sheet_17 : decode cX5_sheet 17 = .ok (.bipush 40, 2) := by decide +kernel
theorem dX5_sheet_19 : decode cX5_sheet 19 = .ok (.if_icmp .le 5, 3) := by decide +kernel
theorem dX5_sheet_22 : decode cX5_sheet 22 = .ok (.iconst (-1), 1) := by decide +kernel
theorem dX5_sheet_23 : decode cX5_sheet 23 = .ok (.ireturn, 1) := by decide +kernel
theorem dX5_sheet_24 : decode cX5_sheet 24 = .ok (.iload_n 3, 1) := by decide +kernel
theorem dX5_sheet_25 : decode cX5_sheet 25 = .ok (.ifCond .ge 6, 3) := by decide +kernel
theorem dX5_sheet_28 : decode cX5_sheet 28 = .ok (.bipush (-14), 2) := by decide +kernel
theorem dX5_sheet_30 : decode cX5_sheet 30 = .ok (.ireturn, 1) := by decide +kernel
theorem dX5_sheet_31 : decode cX5_sheet 31 = .ok (.aload_n 0, 1) := by decide +kernel
theorem dX5_sheet_32 : decode cX5_sheet 32 = .ok (.getfield 43, 3) := by decide +kernel
theorem dX5_sheet_35 : decode cX5_sheet 35 = .ok (.iload_n 1, 1) := by decide +kernel
theorem dX5_sheet_36 : decode cX5_sheet 36 = .ok (.aaload, 1) := by decide +kernel
theorem dX5_sheet_37 : decode cX5_sheet 37 = .ok (.iload_n 2, 1) := by decide +kernel
theorem dX5_sheet_38 : decode cX5_sheet 38 = .ok (.iload_n 3, 1) := by decide +kernel
theorem dX5_sheet_39 : decode cX5_sheet 39 = .ok (.invokevirtual 261, 3) := by decide +kernel
theorem dX5_sheet_42 : decode cX5_sheet 42 = .ok (.iconst 1, 1) := by decide +kernel
theorem dX5_sheet_43 : decode cX5_sheet 43 = .ok (.ireturn, 1) := by decide +kernel
theorem dX5_lay_0 : decode cX5_lay 0 = .ok (.iload_n 1, 1) := by decide +kernel
theorem dX5_lay_1 : decode cX5_lay 1 = .ok (.invokestatic 258, 3) := by decide +kernel
theorem dX5_lay_4 : decode cX5_lay 4 = .ok (.ifCond .eq 5, 3) := by decide +kernel
theorem dX5_lay_7 : decode cX5_lay 7 = .ok (.iconst (-1), 1) := by decide +kernel
theorem dX5_lay_8 : decode cX5_lay 8 = .ok (.ireturn, 1) := by decide +kernel
theorem dX5_lay_9 : decode cX5_lay 9 = .ok (.aload_n 0, 1) := by decide +kernel
theorem dX5_lay_10 : decode cX5_lay 10 = .ok (.getfield 43, 3) := by decide +kernel
theorem dX5_lay_13 : decode cX5_lay 13 = .ok (.iload_n 1, 1) := by decide +kernel
theorem dX5_lay_14 : decode cX5_lay 14 = .ok (.aaload, 1) := by decide +kernel
theorem dX5_lay_15 : decode cX5_lay 15 = .ok (.astore 4, 2) := by decide +kernel
theorem dX5_lay_17 : decode cX5_lay 17 = .ok (.aload 4, 2) := by decide +kernel
theorem dX5_lay_19 : decode cX5_lay 19 = .ok (.aload 4, 2) := by decide +kernel
theorem dX5_lay_21 : decode cX5_lay 21 = .ok (.getfield 264, 3) := by decide +kernel
theorem dX5_lay_24 : decode cX5_lay 24 = .ok (.iload_n 2, 1) := by decide +kernel
theorem dX5_lay_25 : decode cX5_lay 25 = .ok (.invokevirtual 267, 3) := by decide +kernel
theorem dX5_lay_28 : decode cX5_lay 28 = .ok (.istore 5, 2) := by decide +kernel
theorem dX5_lay_30 : decode cX5_lay 30 = .ok (.iload 5, 2) := by decide +kernel
theorem dX5_lay_32 : decode cX5_lay 32 = .ok (.ifCond .eq 9, 3) := by decide +kernel
theorem dX5_lay_35 : decode cX5_lay 35 = .ok (.bipush (-10), 2) := by decide +kernel
theorem dX5_lay_37 : decode cX5_lay 37 = .ok (.iload 5, 2) := by decide +kernel
theorem dX5_lay_39 : decode cX5_lay 39 = .ok (.isub, 1) := by decide +kernel
theorem dX5_lay_40 : decode cX5_lay 40 = .ok (.ireturn, 1) := by decide +kernel
theorem dX5_lay_41 : decode cX5_lay 41 = .ok (.aload 4, 2) := by decide +kernel
theorem dX5_lay_43 : decode cX5_lay 43 = .ok (.iload_n 2, 1) := by decide +kernel
theorem dX5_lay_44 : decode cX5_lay 44 = .ok (.iload_n 3, 1) := by decide +kernel
theorem dX5_lay_45 : decode cX5_lay 45 = .ok (.invokevirtual 270, 3) := by decide +kernel
theorem dX5_lay_48 : decode cX5_lay 48 = .ok (.iconst 1, 1) := by decide +kernel
theorem dX5_lay_49 : decode cX5_lay 49 = .ok (.ireturn, 1) := by decide +kernel
theorem dX5_read_0 : decode cX5_read 0 = .ok (.iload_n 1, 1) := by decide +kernel
theorem dX5_read_1 : decode cX5_read 1 = .ok (.invokestatic 258, 3) := by decide +kernel
theorem dX5_read_4 : decode cX5_read 4 = .ok (.ifCond .ne 23, 3) := by decide +kernel
theorem dX5_read_7 : decode cX5_read 7 = .ok (.iload_n 2, 1) := by decide +kernel
theorem dX5_read_8 : decode cX5_read 8 = .ok (.iconst 0, 1) := by decide +kernel
theorem dX5_read_9 : decode cX5_read 9 = .ok (.iconst 2, 1) := by decide +kernel
theorem dX5_read_10 : decode cX5_read 10 = .ok (.invokestatic 58, 3) := by decide +kernel
theorem dX5_read_13 : decode cX5_read 13 = .ok (.ifCond .ne 14, 3) := by decide +kernel
theorem dX5_read_16 : decode cX5_read 16 = .ok (.iload 4, 2) := by decide +kernel
theorem dX5_read_18 : decode cX5_read 18 = .ok (.iconst 0, 1) := by decide +kernel
theorem dX5_read_19 : decode cX5_read 19 = .ok (.bipush 20, 2) := by decide +kernel
theorem dX5_read_21 : decode cX5_read 21 = .ok (.invokestatic 58, 3) := by decide +kernel
theorem dX5_read_24 : decode cX5_read 24 = .ok (.ifCond .eq 5, 3) := by decide +kernel
theorem dX5_read_27 : decode cX5_read 27 = .ok (.iconst (-1), 1) := by decide +kernel
theorem dX5_read_28 : decode cX5_read 28 = .ok (.ireturn, 1) := by decide +kernel
theorem dX5_read_29 : decode cX5_read 29 = .ok (.aload_n 0, 1) := by decide +kernel
theorem dX5_read_30 : decode cX5_read 30 = .ok (.getfield 43, 3) := by decide +kernel
theorem dX5_read_33 : decode cX5_read 33 = .ok (.iload_n 1, 1) := by decide +kernel
theorem dX5_read_34 : decode cX5_read 34 = .ok (.aaload, 1) := by decide +kernel
theorem dX5_read_35 : decode cX5_read 35 = .ok (.astore 5, 2) := by decide +kernel
theorem dX5_read_37 : decode cX5_read 37 = .ok (.iconst 0, 1) := by decide +kernel
theorem dX5_read_38 : decode cX5_read 38 = .ok (.istore 6, 2) := by decide +kernel
theorem dX5_read_40 : decode cX5_read 40 = .ok (.iconst 0, 1) := by decide +kernel
theorem dX5_read_41 : decode cX5_read 41 = .ok (.istore 7, 2) := by decide +kernel
theorem dX5_read_43 : decode cX5_read 43 = .ok (.iconst 0, 1) := by decide +kernel
theorem dX5_read_44 : decode cX5_read 44 = .ok (.istore 8, 2) := by decide +kernel
theorem dX5_read_46 : decode cX5_read 46 = .ok (.iload 8, 2) := by decide +kernel
theorem dX5_read_48 : decode cX5_read 48 = .ok (.iload 4, 2) := by decide +kernel
theorem dX5_read_50 : decode cX5_read 50 = .ok (.if_icmp .ge 72, 3) := by decide +kernel
theorem dX5_read_53 : decode cX5_read 53 = .ok (.iload 6, 2) := by decide +kernel
theorem dX5_read_55 : decode cX5_read 55 = .ok (.ifCond .ne 67, 3) := by decide +kernel
theorem dX5_read_58 : decode cX5_read 58 = .ok (.aload 5, 2) := by decide +kernel
theorem dX5_read_60 : decode cX5_read 60 = .ok (.iload_n 2, 1) := by decide +kernel
theorem dX5_read_61 : decode cX5_read 61 = .ok (.iload_n 3, 1) := by decide +kernel
theorem dX5_read_62 : decode cX5_read 62 = .ok (.iload 8, 2) := by decide +kernel
theorem dX5_read_64 : decode cX5_read 64 = .ok (.invokevirtual 273, 3) := by decide +kernel
theorem dX5_read_67 : decode cX5_read 67 = .ok (.istore 6, 2) := by decide +kernel
theorem dX5_read_69 : decode cX5_read 69 = .ok (.iload 6, 2) := by decide +kernel
theorem dX5_read_71 : decode cX5_read 71 = .ok (.ifCond .ne 45, 3) := by decide +kernel
theorem dX5_read_74 : decode cX5_read 74 = .ok (.aload_n 0, 1) := by decide +kernel
theorem dX5_read_75 : decode cX5_read 75 = .ok (.aload 5, 2) := by decide +kernel
theorem dX5_read_77 : decode cX5_read 77 = .ok (.getfield 276, 3) := by decide +kernel
theorem dX5_read_80 : decode cX5_read 80 = .ok (.iload_n 3, 1) := by decide +kernel
theorem dX5_read_81 : decode cX5_read 81 = .ok (.iconst 2, 1) := by decide +kernel
theorem dX5_read_82 : decode cX5_read 82 = .ok (.iload 8, 2) := by decide +kernel
theorem dX5_read_84 : decode cX5_read 84 = .ok (.imul, 1) := by decide +kernel
theorem dX5_read_85 : decode cX5_read 85 = .ok (.iadd, 1) := by decide +kernel
theorem dX5_read_86 : decode cX5_read 86 = .ok (.iaload, 1) := by decide +kernel
theorem dX5_read_87 : decode cX5_read 87 = .ok (.aload 5, 2) := by decide +kernel
theorem dX5_read_89 : decode cX5_read 89 = .ok (.getfield 276, 3) := by decide +kernel
theorem dX5_read_92 : decode cX5_read 92 = .ok (.iload_n 3, 1) := by decide +kernel
theorem dX5_read_93 : decode cX5_read 93 = .ok (.iconst 2, 1) := by decide +kernel
theorem dX5_read_94 : decode cX5_read 94 = .ok (.iload 8, 2) := by decide +kernel
theorem dX5_read_96 : decode cX5_read 96 = .ok (.imul, 1) := by decide +kernel
theorem dX5_read_97 : decode cX5_read 97 = .ok (.iadd, 1) := by decide +kernel
theorem dX5_read_98 : decode cX5_read 98 = .ok (.iconst 1, 1) := by decide +kernel
theorem dX5_read_99 : decode cX5_read 99 = .ok (.iadd, 1) := by decide +kernel
theorem dX5_read_100 : decode cX5_read 100 = .ok (.iaload, 1) := by decide +kernel
theorem dX5_read_101 : decode cX5_read 101 = .ok (.invokevirtual 153, 3) := by decide +kernel
theorem dX5_read_104 : decode cX5_read 104 = .ok (.ifCond .eq 9, 3) := by decide +kernel
theorem dX5_read_107 : decode cX5_read 107 = .ok (.bipush (-20), 2) := by decide +kernel
theorem dX5_read_109 : decode cX5_read 109 = .ok (.iload 8, 2) := by decide +kernel
theorem dX5_read_111 : decode cX5_read 111 = .ok (.isub, 1) := by decide +kernel
theorem dX5_read_112 : decode cX5_read 112 = .ok (.ireturn, 1) := by decide +kernel
theorem dX5_read_113 : decode cX5_read 113 = .ok (.iinc 7 1, 3) := by decide +kernel
theorem dX5_read_116 : decode cX5_read 116 = .ok (.iinc 8 1, 3) := by decide +kernel
theorem dX5_read_119 : decode cX5_read 119 = .ok (.goto (-73), 3) := by decide +kernel
theorem dX5_read_122 : decode cX5_read 122 = .ok (.iconst 0, 1) := by decide +kernel
theorem dX5_read_123 : decode cX5_read 123 = .ok (.istore 8, 2) := by decide +kernel
theorem dX5_read_125 : decode cX5_read 125 = .ok (.iload 8, 2) := by decide +kernel
theorem dX5_read_127 : decode cX5_read 127 = .ok (.iload 7, 2) := by decide +kernel
theorem dX5_read_129 : decode cX5_read 129 = .ok (.if_icmp .ge 43, 3) := by decide +kernel
theorem dX5_read_132 : decode cX5_read 132 = .ok (.aload_n 0, 1) := by decide +kernel
theorem dX5_read_133 : decode cX5_read 133 = .ok (.getfield 19, 3) := by decide +kernel
theorem dX5_read_136 : decode cX5_read 136 = .ok (.getfield 137, 3) := by decide +kernel
theorem dX5_read_139 : decode cX5_read 139 = .ok (.aload 5, 2) := by decide +kernel
theorem dX5_read_141 : decode cX5_read 141 = .ok (.getfield 276, 3) := by decide +kernel
theorem dX5_read_144 : decode cX5_read 144 = .ok (.iload_n 3, 1) := by decide +kernel
theorem dX5_read_145 : decode cX5_read 145 = .ok (.iconst 2, 1) := by decide +kernel
theorem dX5_read_146 : decode cX5_read 146 = .ok (.iload 8, 2) := by decide +kernel
theorem dX5_read_148 : decode cX5_read 148 = .ok (.imul, 1) := by decide +kernel
theorem dX5_read_149 : decode cX5_read 149 = .ok (.iadd, 1) := by decide +kernel
theorem dX5_read_150 : decode cX5_read 150 = .ok (.iaload, 1) := by decide +kernel
theorem dX5_read_151 : decode cX5_read 151 = .ok (.aload 5, 2) := by decide +kernel
theorem dX5_read_153 : decode cX5_read 153 = .ok (.getfield 276, 3) := by decide +kernel
theorem dX5_read_156 : decode cX5_read 156 = .ok (.iload_n 3, 1) := by decide +kernel
theorem dX5_read_157 : decode cX5_read 157 = .ok (.iconst 2, 1) := by decide +kernel
theorem dX5_read_158 : decode cX5_read 158 = .ok (.iload 8, 2) := by decide +kernel
theorem dX5_read_160 : decode cX5_read 160 = .ok (.imul, 1) := by decide +kernel
theorem dX5_read_161 : decode cX5_read 161 = .ok (.iadd, 1) := by decide +kernel
theorem dX5_read_162 : decode cX5_read 162 = .ok (.iconst 1, 1) := by decide +kernel
theorem dX5_read_163 : decode cX5_read 163 = .ok (.iadd, 1) := by decide +kernel
theorem dX5_read_164 : decode cX5_read 164 = .ok (.iaload, 1) := by decide +kernel
theorem dX5_read_165 : decode cX5_read 165 = .ok (.iastore, 1) := by decide +kernel
theorem dX5_read_166 : decode cX5_read 166 = .ok (.iinc 8 1, 3) := by decide +kernel
theorem dX5_read_169 : decode cX5_read 169 = .ok (.goto (-44), 3) := by decide +kernel
theorem dX5_read_172 : decode cX5_read 172 = .ok (.aload_n 0, 1) := by decide +kernel
theorem dX5_read_173 : decode cX5_read 173 = .ok (.iload 6, 2) := by decide +kernel
theorem dX5_read_175 : decode cX5_read 175 = .ok (.putfield 279, 3) := by decide +kernel
theorem dX5_read_178 : decode cX5_read 178 = .ok (.iload 7, 2) := by decide +kernel
theorem dX5_read_180 : decode cX5_read 180 = .ok (.ireturn, 1) := by decide +kernel
theorem dX5_torn_0 : decode cX5_torn 0 = .ok (.aload_n 0, 1) := by decide +kernel
theorem dX5_torn_1 : decode cX5_torn 1 = .ok (.getfield 279, 3) := by decide +kernel
theorem dX5_torn_4 : decode cX5_torn 4 = .ok (.ireturn, 1) := by decide +kernel
theorem dX5_count_0 : decode cX5_count 0 = .ok (.iload_n 1, 1) := by decide +kernel
theorem dX5_count_1 : decode cX5_count 1 = .ok (.tableswitch 131 0 5 #[39, 50, 80, 88, 115, 123], 39) := by decide +kernel
theorem dX5_count_40 : decode cX5_count 40 = .ok (.aload_n 0, 1) := by decide +kernel
theorem dX5_count_41 : decode cX5_count 41 = .ok (.getfield 19, 3) := by decide +kernel
theorem dX5_count_44 : decode cX5_count 44 = .ok (.getfield 226, 3) := by decide +kernel
theorem dX5_count_47 : decode cX5_count 47 = .ok (.getfield 230, 3) := by decide +kernel
theorem dX5_count_50 : decode cX5_count 50 = .ok (.ireturn, 1) := by decide +kernel
theorem dX5_count_51 : decode cX5_count 51 = .ok (.aload_n 0, 1) := by decide +kernel
theorem dX5_count_52 : decode cX5_count 52 = .ok (.getfield 37, 3) := by decide +kernel
theorem dX5_count_55 : decode cX5_count 55 = .ok (.iconst 0, 1) := by decide +kernel
theorem dX5_count_56 : decode cX5_count 56 = .ok (.baload, 1) := by decide +kernel
theorem dX5_count_57 : decode cX5_count 57 = .ok (.ifCond .eq 7, 3) := by decide +kernel
theorem dX5_count_60 : decode cX5_count 60 = .ok (.iconst 1, 1) := by decide +kernel
theorem dX5_count_61 : decode cX5_count 61 = .ok (.goto 4, 3) := by decide +kernel
theorem dX5_count_64 : decode cX5_count 64 = .ok (.iconst 0, 1) := by decide +kernel
theorem dX5_count_65 : decode cX5_count 65 = .ok (.aload_n 0, 1) := by decide +kernel
theorem dX5_count_66 : decode cX5_count 66 = .ok (.getfield 37, 3) := by decide +kernel
theorem dX5_count_69 : decode cX5_count 69 = .ok (.iconst 1, 1) := by decide +kernel
theorem dX5_count_70 : decode cX5_count 70 = .ok (.baload, 1) := by decide +kernel
theorem dX5_count_71 : decode cX5_count 71 = .ok (.ifCond .eq 7, 3) := by decide +kernel
theorem dX5_count_74 : decode cX5_count 74 = .ok (.iconst 1, 1) := by decide +kernel
theorem dX5_count_75 : decode cX5_count 75 = .ok (.goto 4, 3) := by decide +kernel
theorem dX5_count_78 : decode cX5_count 78 = .ok (.iconst 0, 1) := by decide +kernel
theorem dX5_count_79 : decode cX5_count 79 = .ok (.iadd, 1) := by decide +kernel
theorem dX5_count_80 : decode cX5_count 80 = .ok (.ireturn, 1) := by decide +kernel
theorem dX5_count_81 : decode cX5_count 81 = .ok (.aload_n 0, 1) := by decide +kernel
theorem dX5_count_82 : decode cX5_count 82 = .ok (.getfield 10, 3) := by decide +kernel
theorem dX5_count_85 : decode cX5_count 85 = .ok (.getfield 62, 3) := by decide +kernel
theorem dX5_count_88 : decode cX5_count 88 = .ok (.ireturn, 1) := by decide +kernel
theorem dX5_count_89 : decode cX5_count 89 = .ok (.aload_n 0, 1) := by decide +kernel
theorem dX5_count_90 : decode cX5_count 90 = .ok (.getfield 43, 3) := by decide +kernel
theorem dX5_count_93 : decode cX5_count 93 = .ok (.iconst 0, 1) := by decide +kernel
theorem dX5_count_94 : decode cX5_count 94 = .ok (.aaload, 1) := by decide +kernel
theorem dX5_count_95 : decode cX5_count 95 = .ok (.getfield 282, 3) := by decide +kernel
theorem dX5_count_98 : decode cX5_count 98 = .ok (.ifCond .eq 15, 3) := by decide +kernel
theorem dX5_count_101 : decode cX5_count 101 = .ok (.aload_n 0, 1) := by decide +kernel
theorem dX5_count_102 : decode cX5_count 102 = .ok (.getfield 43, 3) := by decide +kernel
theorem dX5_count_105 : decode cX5_count 105 = .ok (.iconst 0, 1) := by decide +kernel
theorem dX5_count_106 : decode cX5_count 106 = .ok (.aaload, 1) := by decide +kernel
theorem dX5_count_107 : decode cX5_count 107 = .ok (.getfield 286, 3) := by decide +kernel
theorem dX5_count_110 : decode cX5_count 110 = .ok (.goto 5, 3) := by decide +kernel
theorem dX5_count_113 : decode cX5_count 113 = .ok (.bipush (-4), 2) := by decide +kernel
theorem dX5_count_115 : decode cX5_count 115 = .ok (.ireturn, 1) := by decide +kernel
theorem dX5_count_116 : decode cX5_count 116 = .ok (.aload_n 0, 1) := by decide +kernel
theorem dX5_count_117 : decode cX5_count 117 = .ok (.getfield 19, 3) := by decide +kernel
theorem dX5_count_120 : decode cX5_count 120 = .ok (.invokevirtual 287, 3) := by decide +kernel
theorem dX5_count_123 : decode cX5_count 123 = .ok (.ireturn, 1) := by decide +kernel
theorem dX5_count_124 : decode cX5_count 124 = .ok (.aload_n 0, 1) := by decide +kernel
theorem dX5_count_125 : decode cX5_count 125 = .ok (.getfield 19, 3) := by decide +kernel
theorem dX5_count_128 : decode cX5_count 128 = .ok (.invokevirtual 290, 3) := by decide +kernel
theorem dX5_count_131 : decode cX5_count 131 = .ok (.ireturn, 1) := by decide +kernel
theorem dX5_count_132 : decode cX5_count 132 = .ok (.iconst (-1), 1) := by decide +kernel
theorem dX5_count_133 : decode cX5_count 133 = .ok (.ireturn, 1) := by decide +kernel
theorem dX5_outside_0 : decode cX5_outside 0 = .ok (.iload_n 0, 1) := by decide +kernel
theorem dX5_outside_1 : decode cX5_outside 1 = .ok (.iload_n 1, 1) := by decide +kernel
theorem dX5_outside_2 : decode cX5_outside 2 = .ok (.if_icmp .lt 8, 3) := by decide +kernel
theorem dX5_outside_5 : decode cX5_outside 5 = .ok (.iload_n 0, 1) := by decide +kernel
theorem dX5_outside_6 : decode cX5_outside 6 = .ok (.iload_n 2, 1) := by decide +kernel
theorem dX5_outside_7 : decode cX5_outside 7 = .ok (.if_icmp .le 7, 3) := by decide +kernel
theorem dX5_outside_10 : decode cX5_outside 10 = .ok (.iconst 1, 1) := by decide +kernel
theorem dX5_outside_11 : decode cX5_outside 11 = .ok (.goto 4, 3) := by decide +kernel
theorem dX5_outside_14 : decode cX5_outside 14 = .ok (.iconst 0, 1) := by decide +kernel
theorem dX5_outside_15 : decode cX5_outside 15 = .ok (.ireturn, 1) := by decide +kernel
theorem dX5_noHead_0 : decode cX5_noHead 0 = .ok (.iload_n 1, 1) := by decide +kernel
theorem dX5_noHead_1 : decode cX5_noHead 1 = .ok (.iconst 0, 1) := by decide +kernel
theorem dX5_noHead_2 : decode cX5_noHead 2 = .ok (.aload_n 0, 1) := by decide +kernel
theorem dX5_noHead_3 : decode cX5_noHead 3 = .ok (.getfield 19, 3) := by decide +kernel
theorem dX5_noHead_6 : decode cX5_noHead 6 = .ok (.getfield 84, 3) := by decide +kernel
theorem dX5_noHead_9 : decode cX5_noHead 9 = .ok (.iconst 1, 1) := by decide +kernel
theorem dX5_noHead_10 : decode cX5_noHead 10 = .ok (.isub, 1) := by decide +kernel
theorem dX5_noHead_11 : decode cX5_noHead 11 = .ok (.invokestatic 58, 3) := by decide +kernel
theorem dX5_noHead_14 : decode cX5_noHead 14 = .ok (.ireturn, 1) := by decide +kernel
theorem dX5_noDot_0 : decode cX5_noDot 0 = .ok (.iload_n 0, 1) := by decide +kernel
theorem dX5_noDot_1 : decode cX5_noDot 1 = .ok (.iconst 0, 1) := by decide +kernel
theorem dX5_noDot_2 : decode cX5_noDot 2 = .ok (.bipush 7, 2) := by decide +kernel
theorem dX5_noDot_4 : decode cX5_noDot 4 = .ok (.invokestatic 58, 3) := by decide +kernel
theorem dX5_noDot_7 : decode cX5_noDot 7 = .ok (.ireturn, 1) := by decide +kernel
theorem dX5_noLine_0 : decode cX5_noLine 0 = .ok (.iload_n 1, 1) := by decide +kernel
theorem dX5_noLine_1 : decode cX5_noLine 1 = .ok (.iconst 0, 1) := by decide +kernel
theorem dX5_noLine_2 : decode cX5_noLine 2 = .ok (.aload_n 0, 1) := by decide +kernel
theorem dX5_noLine_3 : decode cX5_noLine 3 = .ok (.getfield 19, 3) := by decide +kernel
theorem dX5_noLine_6 : decode cX5_noLine 6 = .ok (.getfield 87, 3) := by decide +kernel
theorem dX5_noLine_9 : decode cX5_noLine 9 = .ok (.iconst 1, 1) := by decide +kernel
theorem dX5_noLine_10 : decode cX5_noLine 10 = .ok (.isub, 1) := by decide +kernel
theorem dX5_noLine_11 : decode cX5_noLine 11 = .ok (.invokestatic 58, 3) := by decide +kernel
theorem dX5_noLine_14 : decode cX5_noLine 14 = .ok (.ireturn, 1) := by decide +kernel
theorem dX5_noSheet_0 : decode cX5_noSheet 0 = .ok (.iload_n 0, 1) := by decide +kernel
theorem dX5_noSheet_1 : decode cX5_noSheet 1 = .ok (.iconst 0, 1) := by decide +kernel
theorem dX5_noSheet_2 : decode cX5_noSheet 2 = .ok (.iconst 3, 1) := by decide +kernel
theorem dX5_noSheet_3 : decode cX5_noSheet 3 = .ok (.invokestatic 58, 3) := by decide +kernel
theorem dX5_noSheet_6 : decode cX5_noSheet 6 = .ok (.ireturn, 1) := by decide +kernel
theorem dX5_lineRefused_0 : decode cX5_lineRefused 0 = .ok (.aload_n 0, 1) := by decide +kernel
theorem dX5_lineRefused_1 : decode cX5_lineRefused 1 = .ok (.iload_n 1, 1) := by decide +kernel
theorem dX5_lineRefused_2 : decode cX5_lineRefused 2 = .ok (.invokevirtual 134, 3) := by decide +kernel
theorem dX5_lineRefused_5 : decode cX5_lineRefused 5 = .ok (.ifCond .ne 14, 3) := by decide +kernel
theorem dX5_lineRefused_8 : decode cX5_lineRefused 8 = .ok (.iload_n 2, 1) := by decide +kernel
theorem dX5_lineRefused_9 : decode cX5_lineRefused 9 = .ok (.iconst 0, 1) := by decide +kernel
theorem dX5_lineRefused_10 : decode cX5_lineRefused 10 = .ok (.sipush 255, 3) := by decide +kernel
theorem dX5_lineRefused_13 : decode cX5_lineRefused 13 = .ok (.invokestatic 58, 3) := by decide +kernel
theorem dX5_lineRefused_16 : decode cX5_lineRefused 16 = .ok (.ifCond .eq 7, 3) := by decide +kernel
theorem dX5_lineRefused_19 : decode cX5_lineRefused 19 = .ok (.iconst 1, 1) := by decide +kernel
theorem dX5_lineRefused_20 : decode cX5_lineRefused 20 = .ok (.goto 4, 3) := by decide +kernel
theorem dX5_lineRefused_23 : decode cX5_lineRefused 23 = .ok (.iconst 0, 1) := by decide +kernel
theorem dX5_lineRefused_24 : decode cX5_lineRefused 24 = .ok (.ireturn, 1) := by decide +kernel
theorem dX5_badRows_0 : decode cX5_badRows 0 = .ok (.iload_n 0, 1) := by decide +kernel
theorem dX5_badRows_1 : decode cX5_badRows 1 = .ok (.iconst 0, 1) := by decide +kernel
theorem dX5_badRows_2 : decode cX5_badRows 2 = .ok (.bipush 60, 2) := by decide +kernel
theorem dX5_badRows_4 : decode cX5_badRows 4 = .ok (.invokestatic 58, 3) := by decide +kernel
theorem dX5_badRows_7 : decode cX5_badRows 7 = .ok (.ireturn, 1) := by decide +kernel
theorem dX5_badOdds_0 : decode cX5_badOdds 0 = .ok (.iload_n 0, 1) := by decide +kernel
theorem dX5_badOdds_1 : decode cX5_badOdds 1 = .ok (.iconst 0, 1) := by decide +kernel
theorem dX5_badOdds_2 : decode cX5_badOdds 2 = .ok (.bipush 10, 2) := by decide +kernel
theorem dX5_badOdds_4 : decode cX5_badOdds 4 = .ok (.invokestatic 58, 3) := by decide +kernel
theorem dX5_badOdds_7 : decode cX5_badOdds 7 = .ok (.ifCond .ne 22, 3) := by decide +kernel
theorem dX5_badOdds_10 : decode cX5_badOdds 10 = .ok (.iload_n 1, 1) := by decide +kernel
theorem dX5_badOdds_11 : decode cX5_badOdds 11 = .ok (.iconst 0, 1) := by decide +kernel
theorem dX5_badOdds_12 : decode cX5_badOdds 12 = .ok (.bipush 6, 2) := by decide +kernel
theorem dX5_badOdds_14 : decode cX5_badOdds 14 = .ok (.invokestatic 58, 3) := by decide +kernel
theorem dX5_badOdds_17 : decode cX5_badOdds 17 = .ok (.ifCond .ne 12, 3) := by decide +kernel
theorem dX5_badOdds_20 : decode cX5_badOdds 20 = .ok (.iload_n 2, 1) := by decide +kernel
theorem dX5_badOdds_21 : decode cX5_badOdds 21 = .ok (.iconst 0, 1) := by decide +kernel
theorem dX5_badOdds_22 : decode cX5_badOdds 22 = .ok (.iconst 1, 1) := by decide +kernel
theorem dX5_badOdds_23 : decode cX5_badOdds 23 = .ok (.invokestatic 58, 3) := by decide +kernel
theorem dX5_badOdds_26 : decode cX5_badOdds 26 = .ok (.ifCond .eq 7, 3) := by decide +kernel
theorem dX5_badOdds_29 : decode cX5_badOdds 29 = .ok (.iconst 1, 1) := by decide +kernel
theorem dX5_badOdds_30 : decode cX5_badOdds 30 = .ok (.goto 4, 3) := by decide +kernel
theorem dX5_badOdds_33 : decode cX5_badOdds 33 = .ok (.iconst 0, 1) := by decide +kernel
theorem dX5_badOdds_34 : decode cX5_badOdds 34 = .ok (.ireturn, 1) := by decide +kernel
theorem dX5_mostOf_0 : decode cX5_mostOf 0 = .ok (.iload_n 0, 1) := by decide +kernel
theorem dX5_mostOf_1 : decode cX5_mostOf 1 = .ok (.ifCond .ne 7, 3) := by decide +kernel
theorem dX5_mostOf_4 : decode cX5_mostOf 4 = .ok (.iconst 3, 1) := by decide +kernel
theorem dX5_mostOf_5 : decode cX5_mostOf 5 = .ok (.goto 5, 3) := by decide +kernel
theorem dX5_mostOf_8 : decode cX5_mostOf 8 = .ok (.bipush 30, 2) := by decide +kernel
theorem dX5_mostOf_10 : decode cX5_mostOf 10 = .ok (.ireturn, 1) := by decide +kernel
theorem dX5_burnLone_0 : decode cX5_burnLone 0 = .ok (.aload_n 0, 1) := by decide +kernel
theorem dX5_burnLone_1 : decode cX5_burnLone 1 = .ok (.getfield 29, 3) := by decide +kernel
theorem dX5_burnLone_4 : decode cX5_burnLone 4 = .ok (.aload_n 0, 1) := by decide +kernel
theorem dX5_burnLone_5 : decode cX5_burnLone 5 = .ok (.getfield 19, 3) := by decide +kernel
theorem dX5_burnLone_8 : decode cX5_burnLone 8 = .ok (.aload_n 0, 1) := by decide +kernel
theorem dX5_burnLone_9 : decode cX5_burnLone 9 = .ok (.getfield 19, 3) := by decide +kernel
theorem dX5_burnLone_12 : decode cX5_burnLone 12 = .ok (.iload_n 1, 1) := by decide +kernel
theorem dX5_burnLone_13 : decode cX5_burnLone 13 = .ok (.invokevirtual 100, 3) := by decide +kernel
theorem dX5_burnLone_16 : decode cX5_burnLone 16 = .ok (.aload_n 0, 1) := by decide +kernel
theorem dX5_burnLone_17 : decode cX5_burnLone 17 = .ok (.getfield 19, 3) := by decide +kernel
theorem dX5_burnLone_20 : decode cX5_burnLone 20 = .ok (.iload_n 1, 1) := by decide +kernel
theorem dX5_burnLone_21 : decode cX5_burnLone 21 = .ok (.iconst 1, 1) := by decide +kernel
theorem dX5_burnLone_22 : decode cX5_burnLone 22 = .ok (.iadd, 1) := by decide +kernel
theorem dX5_burnLone_23 : decode cX5_burnLone 23 = .ok (.invokevirtual 100, 3) := by decide +kernel
theorem dX5_burnLone_26 : decode cX5_burnLone 26 = .ok (.iload_n 2, 1) := by decide +kernel
theorem dX5_burnLone_27 : decode cX5_burnLone 27 = .ok (.invokevirtual 293, 3) := by decide +kernel
theorem dX5_burnLone_30 : decode cX5_burnLone 30 = .ok (.ireturn, 1) := by decide +kernel
theorem dX5_wrongOfLone_0 : decode cX5_wrongOfLone 0 = .ok (.iconst 0, 1) := by decide +kernel
theorem dX5_wrongOfLone_1 : decode cX5_wrongOfLone 1 = .ok (.istore_n 3, 1) := by decide +kernel
theorem dX5_wrongOfLone_2 : decode cX5_wrongOfLone 2 = .ok (.iconst 0, 1) := by decide +kernel
theorem dX5_wrongOfLone_3 : decode cX5_wrongOfLone 3 = .ok (.istore 4, 2) := by decide +kernel
theorem dX5_wrongOfLone_5 : decode cX5_wrongOfLone 5 = .ok (.iload 4, 2) := by decide +kernel
theorem dX5_wrongOfLone_7 : decode cX5_wrongOfLone 7 = .ok (.iload_n 1, 1) := by decide +kernel
theorem dX5_wrongOfLone_8 : decode cX5_wrongOfLone 8 = .ok (.if_icmp .ge 37, 3) := by decide +kernel
theorem dX5_wrongOfLone_11 : decode cX5_wrongOfLone 11 = .ok (.iload_n 3, 1) := by decide +kernel
theorem dX5_wrongOfLone_12 : decode cX5_wrongOfLone 12 = .ok (.iload_n 2, 1) := by decide +kernel
theorem dX5_wrongOfLone_13 : decode cX5_wrongOfLone 13 = .ok (.if_icmp .ge 32, 3) := by decide +kernel
theorem dX5_wrongOfLone_16 : decode cX5_wrongOfLone 16 = .ok (.iload_n 3, 1) := by decide +kernel
theorem dX5_wrongOfLone_17 : decode cX5_wrongOfLone 17 = .ok (.aload_n 0, 1) := by decide +kernel
theorem dX5_wrongOfLone_18 : decode cX5_wrongOfLone 18 = .ok (.iload 4, 2) := by decide +kernel
theorem dX5_wrongOfLone_20 : decode cX5_wrongOfLone 20 = .ok (.iconst 1, 1) := by decide +kernel
theorem dX5_wrongOfLone_21 : decode cX5_wrongOfLone 21 = .ok (.invokevirtual 179, 3) := by decide +kernel
theorem dX5_wrongOfLone_24 : decode cX5_wrongOfLone 24 = .ok (.aload_n 0, 1) := by decide +kernel
theorem dX5_wrongOfLone_25 : decode cX5_wrongOfLone 25 = .ok (.getfield 19, 3) := by decide +kernel
theorem dX5_wrongOfLone_28 : decode cX5_wrongOfLone 28 = .ok (.iload 4, 2) := by decide +kernel
theorem dX5_wrongOfLone_30 : decode cX5_wrongOfLone 30 = .ok (.invokevirtual 100, 3) := by decide +kernel
theorem dX5_wrongOfLone_33 : decode cX5_wrongOfLone 33 = .ok (.ixor, 1) := by decide +kernel
theorem dX5_wrongOfLone_34 : decode cX5_wrongOfLone 34 = .ok (.invokestatic 242, 3) := by decide +kernel
theorem dX5_wrongOfLone_37 : decode cX5_wrongOfLone 37 = .ok (.iadd, 1) := by decide +kernel
theorem dX5_wrongOfLone_38 : decode cX5_wrongOfLone 38 = .ok (.istore_n 3, 1) := by decide +kernel
theorem dX5_wrongOfLone_39 : decode cX5_wrongOfLone 39 = .ok (.iinc 4 1, 3) := by decide +kernel
theorem dX5_wrongOfLone_42 : decode cX5_wrongOfLone 42 = .ok (.goto (-37), 3) := by decide +kernel
theorem dX5_wrongOfLone_45 : decode cX5_wrongOfLone 45 = .ok (.iload_n 3, 1) := by decide +kernel
theorem dX5_wrongOfLone_46 : decode cX5_wrongOfLone 46 = .ok (.ireturn, 1) := by decide +kernel
theorem dX5_bestDrive_0 : decode cX5_bestDrive 0 = .ok (.aload_n 0, 1) := by decide +kernel
theorem dX5_bestDrive_1 : decode cX5_bestDrive 1 = .ok (.iload_n 1, 1) := by decide +kernel
theorem dX5_bestDrive_2 : decode cX5_bestDrive 2 = .ok (.invokevirtual 104, 3) := by decide +kernel
theorem dX5_bestDrive_5 : decode cX5_bestDrive 5 = .ok (.ifCond .ne 20, 3) := by decide +kernel
theorem dX5_bestDrive_8 : decode cX5_bestDrive 8 = .ok (.iload_n 3, 1) := by decide +kernel
theorem dX5_bestDrive_9 : decode cX5_bestDrive 9 = .ok (.invokestatic 157, 3) := by decide +kernel
theorem dX5_bestDrive_12 : decode cX5_bestDrive 12 = .ok (.ifCond .ne 13, 3) := by decide +kernel
theorem dX5_bestDrive_15 : decode cX5_bestDrive 15 = .ok (.iload 4, 2) := by decide +kernel
theorem dX5_bestDrive_17 : decode cX5_bestDrive 17 = .ok (.iconst 0, 1) := by decide +kernel
theorem dX5_bestDrive_18 : decode cX5_bestDrive 18 = .ok (.iconst 1, 1) := by decide +kernel
theorem dX5_bestDrive_19 : decode cX5_bestDrive 19 = .ok (.invokestatic 58, 3) := by decide +kernel
theorem dX5_bestDrive_22 : decode cX5_bestDrive 22 = .ok (.ifCond .eq 5, 3) := by decide +kernel
theorem dX5_bestDrive_25 : decode cX5_bestDrive 25 = .ok (.iconst (-1), 1) := by decide +kernel
theorem dX5_bestDrive_26 : decode cX5_bestDrive 26 = .ok (.ireturn, 1) := by decide +kernel
theorem dX5_bestDrive_27 : decode cX5_bestDrive 27 = .ok (.ldc 193, 2) := by decide +kernel
theorem dX5_bestDrive_29 : decode cX5_bestDrive 29 = .ok (.istore 5, 2) := by decide +kernel
theorem dX5_bestDrive_31 : decode cX5_bestDrive 31 = .ok (.iconst 0, 1) := by decide +kernel
theorem dX5_bestDrive_32 : decode cX5_bestDrive 32 = .ok (.istore 6, 2) := by decide +kernel
theorem dX5_bestDrive_34 : decode cX5_bestDrive 34 = .ok (.iconst 0, 1) := by decide +kernel
theorem dX5_bestDrive_35 : decode cX5_bestDrive 35 = .ok (.istore 7, 2) := by decide +kernel
theorem dX5_bestDrive_37 : decode cX5_bestDrive 37 = .ok (.iload 7, 2) := by decide +kernel
theorem dX5_bestDrive_39 : decode cX5_bestDrive 39 = .ok (.iload_n 2, 1) := by decide +kernel
theorem dX5_bestDrive_40 : decode cX5_bestDrive 40 = .ok (.invokestatic 140, 3) := by decide +kernel
theorem dX5_bestDrive_43 : decode cX5_bestDrive 43 = .ok (.if_icmp .gt 59, 3) := by decide +kernel
theorem dX5_bestDrive_46 : decode cX5_bestDrive 46 = .ok (.aload_n 0, 1) := by decide +kernel
theorem dX5_bestDrive_47 : decode cX5_bestDrive 47 = .ok (.getfield 29, 3) := by decide +kernel
theorem dX5_bestDrive_50 : decode cX5_bestDrive 50 = .ok (.aload_n 0, 1) := by decide +kernel
theorem dX5_bestDrive_51 : decode cX5_bestDrive 51 = .ok (.getfield 19, 3) := by decide +kernel
theorem dX5_bestDrive_54 : decode cX5_bestDrive 54 = .ok (.getfield 108, 3) := by decide +kernel
theorem dX5_bestDrive_57 : decode cX5_bestDrive 57 = .ok (.iload_n 1, 1) := by decide +kernel
theorem dX5_bestDrive_58 : decode cX5_bestDrive 58 = .ok (.aaload, 1) := by decide +kernel
theorem dX5_bestDrive_59 : decode cX5_bestDrive 59 = .ok (.invokevirtual 176, 3) := by decide +kernel
theorem dX5_bestDrive_62 : decode cX5_bestDrive 62 = .ok (.aload_n 0, 1) := by decide +kernel
theorem dX5_bestDrive_63 : decode cX5_bestDrive 63 = .ok (.getfield 29, 3) := by decide +kernel
theorem dX5_bestDrive_66 : decode cX5_bestDrive 66 = .ok (.iload_n 2, 1) := by decide +kernel
theorem dX5_bestDrive_67 : decode cX5_bestDrive 67 = .ok (.iload 7, 2) := by decide +kernel
theorem dX5_bestDrive_69 : decode cX5_bestDrive 69 = .ok (.invokevirtual 143, 3) := by decide +kernel
theorem dX5_bestDrive_72 : decode cX5_bestDrive 72 = .ok (.aload_n 0, 1) := by decide +kernel
theorem dX5_bestDrive_73 : decode cX5_bestDrive 73 = .ok (.iload_n 3, 1) := by decide +kernel
theorem dX5_bestDrive_74 : decode cX5_bestDrive 74 = .ok (.iload 5, 2) := by decide +kernel
theorem dX5_bestDrive_76 : decode cX5_bestDrive 76 = .ok (.invokevirtual 296, 3) := by decide +kernel
theorem dX5_bestDrive_79 : decode cX5_bestDrive 79 = .ok (.istore 8, 2) := by decide +kernel
theorem dX5_bestDrive_81 : decode cX5_bestDrive 81 = .ok (.iload 8, 2) := by decide +kernel
theorem dX5_bestDrive_83 : decode cX5_bestDrive 83 = .ok (.iload 5, 2) := by decide +kernel
theorem dX5_bestDrive_85 : decode cX5_bestDrive 85 = .ok (.if_icmp .ge 11, 3) := by decide +kernel
theorem dX5_bestDrive_88 : decode cX5_bestDrive 88 = .ok (.iload 8, 2) := by decide +kernel
theorem dX5_bestDrive_90 : decode cX5_bestDrive 90 = .ok (.istore 5, 2) := by decide +kernel
theorem dX5_bestDrive_92 : decode cX5_bestDrive 92 = .ok (.iload 7, 2) := by decide +kernel
theorem dX5_bestDrive_94 : decode cX5_bestDrive 94 = .ok (.istore 6, 2) := by decide +kernel
theorem dX5_bestDrive_96 : decode cX5_bestDrive 96 = .ok (.iinc 7 1, 3) := by decide +kernel
theorem dX5_bestDrive_99 : decode cX5_bestDrive 99 = .ok (.goto (-62), 3) := by decide +kernel
theorem dX5_bestDrive_102 : decode cX5_bestDrive 102 = .ok (.iload 4, 2) := by decide +kernel
theorem dX5_bestDrive_104 : decode cX5_bestDrive 104 = .ok (.ifCond .ne 8, 3) := by decide +kernel
theorem dX5_bestDrive_107 : decode cX5_bestDrive 107 = .ok (.iload 6, 2) := by decide +kernel
theorem dX5_bestDrive_109 : decode cX5_bestDrive 109 = .ok (.goto 5, 3) := by decide +kernel
theorem dX5_bestDrive_112 : decode cX5_bestDrive 112 = .ok (.iload 5, 2) := by decide +kernel
theorem dX5_bestDrive_114 : decode cX5_bestDrive 114 = .ok (.ireturn, 1) := by decide +kernel
theorem dX5_wrongInTrial_0 : decode cX5_wrongInTrial 0 = .ok (.iconst 0, 1) := by decide +kernel
theorem dX5_wrongInTrial_1 : decode cX5_wrongInTrial 1 = .ok (.istore_n 3, 1) := by decide +kernel
theorem dX5_wrongInTrial_2 : decode cX5_wrongInTrial 2 = .ok (.iconst 0, 1) := by decide +kernel
theorem dX5_wrongInTrial_3 : decode cX5_wrongInTrial 3 = .ok (.istore 4, 2) := by decide +kernel
theorem dX5_wrongInTrial_5 : decode cX5_wrongInTrial 5 = .ok (.iload 4, 2) := by decide +kernel
theorem dX5_wrongInTrial_7 : decode cX5_wrongInTrial 7 = .ok (.iload_n 1, 1) := by decide +kernel
theorem dX5_wrongInTrial_8 : decode cX5_wrongInTrial 8 = .ok (.if_icmp .ge 25, 3) := by decide +kernel
theorem dX5_wrongInTrial_11 : decode cX5_wrongInTrial 11 = .ok (.iload_n 3, 1) := by decide +kernel
theorem dX5_wrongInTrial_12 : decode cX5_wrongInTrial 12 = .ok (.iload_n 2, 1) := by decide +kernel
theorem dX5_wrongInTrial_13 : decode cX5_wrongInTrial 13 = .ok (.if_icmp .ge 20, 3) := by decide +kernel
theorem dX5_wrongInTrial_16 : decode cX5_wrongInTrial 16 = .ok (.iload_n 3, 1) := by decide +kernel
theorem dX5_wrongInTrial_17 : decode cX5_wrongInTrial 17 = .ok (.aload_n 0, 1) := by decide +kernel
theorem dX5_wrongInTrial_18 : decode cX5_wrongInTrial 18 = .ok (.getfield 23, 3) := by decide +kernel
theorem dX5_wrongInTrial_21 : decode cX5_wrongInTrial 21 = .ok (.iconst 1, 1) := by decide +kernel
theorem dX5_wrongInTrial_22 : decode cX5_wrongInTrial 22 = .ok (.invokevirtual 160, 3) := by decide +kernel
theorem dX5_wrongInTrial_25 : decode cX5_wrongInTrial 25 = .ok (.iadd, 1) := by decide +kernel
theorem dX5_wrongInTrial_26 : decode cX5_wrongInTrial 26 = .ok (.istore_n 3, 1) := by decide +kernel
theorem dX5_wrongInTrial_27 : decode cX5_wrongInTrial 27 = .ok (.iinc 4 1, 3) := by decide +kernel
theorem dX5_wrongInTrial_30 : decode cX5_wrongInTrial 30 = .ok (.goto (-25), 3) := by decide +kernel
theorem dX5_wrongInTrial_33 : decode cX5_wrongInTrial 33 = .ok (.iload_n 3, 1) := by decide +kernel
theorem dX5_wrongInTrial_34 : decode cX5_wrongInTrial 34 = .ok (.ireturn, 1) := by decide +kernel
theorem dX5_bestMark_0 : decode cX5_bestMark 0 = .ok (.aload_n 0, 1) := by decide +kernel
theorem dX5_bestMark_1 : decode cX5_bestMark 1 = .ok (.getfield 47, 3) := by decide +kernel
theorem dX5_bestMark_4 : decode cX5_bestMark 4 = .ok (.iconst 0, 1) := by decide +kernel
theorem dX5_bestMark_5 : decode cX5_bestMark 5 = .ok (.invokestatic 299, 3) := by decide +kernel
theorem dX5_bestMark_8 : decode cX5_bestMark 8 = .ok (.aload_n 0, 1) := by decide +kernel
theorem dX5_bestMark_9 : decode cX5_bestMark 9 = .ok (.getfield 23, 3) := by decide +kernel
theorem dX5_bestMark_12 : decode cX5_bestMark 12 = .ok (.aload_n 0, 1) := by decide +kernel
theorem dX5_bestMark_13 : decode cX5_bestMark 13 = .ok (.getfield 19, 3) := by decide +kernel
theorem dX5_bestMark_16 : decode cX5_bestMark 16 = .ok (.invokevirtual 80, 3) := by decide +kernel
theorem dX5_bestMark_19 : decode cX5_bestMark 19 = .ok (.iconst 0, 1) := by decide +kernel
theorem dX5_bestMark_20 : decode cX5_bestMark 20 = .ok (.istore_n 3, 1) := by decide +kernel
theorem dX5_bestMark_21 : decode cX5_bestMark 21 = .ok (.iload_n 3, 1) := by decide +kernel
theorem dX5_bestMark_22 : decode cX5_bestMark 22 = .ok (.iload_n 1, 1) := by decide +kernel
theorem dX5_bestMark_23 : decode cX5_bestMark 23 = .ok (.if_icmp .ge 61, 3) := by decide +kernel
theorem dX5_bestMark_26 : decode cX5_bestMark 26 = .ok (.aload_n 0, 1) := by decide +kernel
theorem dX5_bestMark_27 : decode cX5_bestMark 27 = .ok (.getfield 23, 3) := by decide +kernel
theorem dX5_bestMark_30 : decode cX5_bestMark 30 = .ok (.iconst 1, 1) := by decide +kernel
theorem dX5_bestMark_31 : decode cX5_bestMark 31 = .ok (.invokevirtual 160, 3) := by decide +kernel
theorem dX5_bestMark_34 : decode cX5_bestMark 34 = .ok (.pop, 1) := by decide +kernel
theorem dX5_bestMark_35 : decode cX5_bestMark 35 = .ok (.iconst 0, 1) := by decide +kernel
theorem dX5_bestMark_36 : decode cX5_bestMark 36 = .ok (.istore 4, 2) := by decide +kernel
theorem dX5_bestMark_38 : decode cX5_bestMark 38 = .ok (.iload 4, 2) := by decide +kernel
theorem dX5_bestMark_40 : decode cX5_bestMark 40 = .ok (.aload_n 0, 1) := by decide +kernel
theorem dX5_bestMark_41 : decode cX5_bestMark 41 = .ok (.getfield 23, 3) := by decide +kernel
theorem dX5_bestMark_44 : decode cX5_bestMark 44 = .ok (.getfield 84, 3) := by decide +kernel
theorem dX5_bestMark_47 : decode cX5_bestMark 47 = .ok (.if_icmp .ge 31, 3) := by decide +kernel
theorem dX5_bestMark_50 : decode cX5_bestMark 50 = .ok (.aload_n 0, 1) := by decide +kernel
theorem dX5_bestMark_51 : decode cX5_bestMark 51 = .ok (.aload_n 0, 1) := by decide +kernel
theorem dX5_bestMark_52 : decode cX5_bestMark 52 = .ok (.getfield 23, 3) := by decide +kernel
theorem dX5_bestMark_55 : decode cX5_bestMark 55 = .ok (.getfield 108, 3) := by decide +kernel
theorem dX5_bestMark_58 : decode cX5_bestMark 58 = .ok (.iload 4, 2) := by decide +kernel
theorem dX5_bestMark_60 : decode cX5_bestMark 60 = .ok (.aaload, 1) := by decide +kernel
theorem dX5_bestMark_61 : decode cX5_bestMark 61 = .ok (.aload_n 0, 1) := by decide +kernel
theorem dX5_bestMark_62 : decode cX5_bestMark 62 = .ok (.getfield 19, 3) := by decide +kernel
theorem dX5_bestMark_65 : decode cX5_bestMark 65 = .ok (.iload_n 3, 1) := by decide +kernel
theorem dX5_bestMark_66 : decode cX5_bestMark 66 = .ok (.invokevirtual 100, 3) := by decide +kernel
theorem dX5_bestMark_69 : decode cX5_bestMark 69 = .ok (.invokevirtual 305, 3) := by decide +kernel
theorem dX5_bestMark_72 : decode cX5_bestMark 72 = .ok (.iinc 4 1, 3) := by decide +kernel
theorem dX5_bestMark_75 : decode cX5_bestMark 75 = .ok (.goto (-37), 3) := by decide +kernel
theorem dX5_bestMark_78 : decode cX5_bestMark 78 = .ok (.iinc 3 1, 3) := by decide +kernel
theorem dX5_bestMark_81 : decode cX5_bestMark 81 = .ok (.goto (-60), 3) := by decide +kernel
theorem dX5_bestMark_84 : decode cX5_bestMark 84 = .ok (.ldc 193, 2) := by decide +kernel
theorem dX5_bestMark_86 : decode cX5_bestMark 86 = .ok (.istore_n 3, 1) := by decide +kernel
theorem dX5_bestMark_87 : decode cX5_bestMark 87 = .ok (.iconst 0, 1) := by decide +kernel
theorem dX5_bestMark_88 : decode cX5_bestMark 88 = .ok (.istore 4, 2) := by decide +kernel
theorem dX5_bestMark_90 : decode cX5_bestMark 90 = .ok (.iconst 0, 1) := by decide +kernel
theorem dX5_bestMark_91 : decode cX5_bestMark 91 = .ok (.istore 5, 2) := by decide +kernel
theorem dX5_bestMark_93 : decode cX5_bestMark 93 = .ok (.iconst 1, 1) := by decide +kernel
theorem dX5_bestMark_94 : decode cX5_bestMark 94 = .ok (.istore 6, 2) := by decide +kernel
theorem dX5_bestMark_96 : decode cX5_bestMark 96 = .ok (.iload 6, 2) := by decide +kernel
theorem dX5_bestMark_98 : decode cX5_bestMark 98 = .ok (.bipush 60, 2) := by decide +kernel
theorem dX5_bestMark_100 : decode cX5_bestMark 100 = .ok (.if_icmp .gt 34, 3) := by decide +kernel
theorem dX5_bestMark_103 : decode cX5_bestMark 103 = .ok (.iload 5, 2) := by decide +kernel
theorem dX5_bestMark_105 : decode cX5_bestMark 105 = .ok (.aload_n 0, 1) := by decide +kernel
theorem dX5_bestMark_106 : decode cX5_bestMark 106 = .ok (.getfield 47, 3) := by decide +kernel
theorem dX5_bestMark_109 : decode cX5_bestMark 109 = .ok (.iload 6, 2) := by decide +kernel
theorem dX5_bestMark_111 : decode cX5_bestMark 111 = .ok (.iaload, 1) := by decide +kernel
theorem dX5_bestMark_112 : decode cX5_bestMark 112 = .ok (.iadd, 1) := by decide +kernel
theorem dX5_bestMark_113 : decode cX5_bestMark 113 = .ok (.istore 5, 2) := by decide +kernel
theorem dX5_bestMark_115 : decode cX5_bestMark 115 = .ok (.iload 5, 2) := by decide +kernel
theorem dX5_bestMark_117 : decode cX5_bestMark 117 = .ok (.iload_n 3, 1) := by decide +kernel
theorem dX5_bestMark_118 : decode cX5_bestMark 118 = .ok (.if_icmp .ge 10, 3) := by decide +kernel
theorem dX5_bestMark_121 : decode cX5_bestMark 121 = .ok (.iload 5, 2) := by decide +kernel
theorem dX5_bestMark_123 : decode cX5_bestMark 123 = .ok (.istore_n 3, 1) := by decide +kernel
theorem dX5_bestMark_124 : decode cX5_bestMark 124 = .ok (.iload 6, 2) := by decide +kernel
theorem dX5_bestMark_126 : decode cX5_bestMark 126 = .ok (.istore 4, 2) := by decide +kernel
theorem dX5_bestMark_128 : decode cX5_bestMark 128 = .ok (.iinc 6 1, 3) := by decide +kernel
theorem dX5_bestMark_131 : decode cX5_bestMark 131 = .ok (.goto (-35), 3) := by decide +kernel
theorem dX5_bestMark_134 : decode cX5_bestMark 134 = .ok (.iload_n 2, 1) := by decide +kernel
theorem dX5_bestMark_135 : decode cX5_bestMark 135 = .ok (.ifCond .ne 8, 3) := by decide +kernel
theorem dX5_bestMark_138 : decode cX5_bestMark 138 = .ok (.iload 4, 2) := by decide +kernel
theorem dX5_bestMark_140 : decode cX5_bestMark 140 = .ok (.goto 4, 3) := by decide +kernel
theorem dX5_bestMark_143 : decode cX5_bestMark 143 = .ok (.iload_n 3, 1) := by decide +kernel
theorem dX5_bestMark_144 : decode cX5_bestMark 144 = .ok (.ireturn, 1) := by decide +kernel
theorem dX5_stepMarks_0 : decode cX5_stepMarks 0 = .ok (.iconst 0, 1) := by decide +kernel
theorem dX5_stepMarks_1 : decode cX5_stepMarks 1 = .ok (.istore_n 3, 1) := by decide +kernel
theorem dX5_stepMarks_2 : decode cX5_stepMarks 2 = .ok (.iload_n 3, 1) := by decide +kernel
theorem dX5_stepMarks_3 : decode cX5_stepMarks 3 = .ok (.bipush 8, 2) := by decide +kernel
theorem dX5_stepMarks_5 : decode cX5_stepMarks 5 = .ok (.if_icmp .ge 68, 3) := by decide +kernel
theorem dX5_stepMarks_8 : decode cX5_stepMarks 8 = .ok (.aload_n 1, 1) := by decide +kernel
theorem dX5_stepMarks_9 : decode cX5_stepMarks 9 = .ok (.getfield 309, 3) := by decide +kernel
theorem dX5_stepMarks_12 : decode cX5_stepMarks 12 = .ok (.iload_n 3, 1) := by decide +kernel
theorem dX5_stepMarks_13 : decode cX5_stepMarks 13 = .ok (.iaload, 1) := by decide +kernel
theorem dX5_stepMarks_14 : decode cX5_stepMarks 14 = .ok (.bipush 60, 2) := by decide +kernel
theorem dX5_stepMarks_16 : decode cX5_stepMarks 16 = .ok (.invokestatic 312, 3) := by decide +kernel
theorem dX5_stepMarks_19 : decode cX5_stepMarks 19 = .ok (.iconst 1, 1) := by decide +kernel
theorem dX5_stepMarks_20 : decode cX5_stepMarks 20 = .ok (.iadd, 1) := by decide +kernel
theorem dX5_stepMarks_21 : decode cX5_stepMarks 21 = .ok (.istore 4, 2) := by decide +kernel
theorem dX5_stepMarks_23 : decode cX5_stepMarks 23 = .ok (.iload_n 2, 1) := by decide +kernel
theorem dX5_stepMarks_24 : decode cX5_stepMarks 24 = .ok (.iload_n 3, 1) := by decide +kernel
theorem dX5_stepMarks_25 : decode cX5_stepMarks 25 = .ok (.ishr, 1) := by decide +kernel
theorem dX5_stepMarks_26 : decode cX5_stepMarks 26 = .ok (.iconst 1, 1) := by decide +kernel
theorem dX5_stepMarks_27 : decode cX5_stepMarks 27 = .ok (.iand, 1) := by decide +kernel
theorem dX5_stepMarks_28 : decode cX5_stepMarks 28 = .ok (.iconst 1, 1) := by decide +kernel
theorem dX5_stepMarks_29 : decode cX5_stepMarks 29 = .ok (.if_icmp .ne 17, 3) := by decide +kernel
theorem dX5_stepMarks_32 : decode cX5_stepMarks 32 = .ok (.aload_n 0, 1) := by decide +kernel
theorem dX5_stepMarks_33 : decode cX5_stepMarks 33 = .ok (.getfield 47, 3) := by decide +kernel
theorem dX5_stepMarks_36 : decode cX5_stepMarks 36 = .ok (.iload 4, 2) := by decide +kernel
theorem dX5_stepMarks_38 : decode cX5_stepMarks 38 = .ok (.dup2, 1) := by decide +kernel
theorem dX5_stepMarks_39 : decode cX5_stepMarks 39 = .ok (.iaload, 1) := by decide +kernel
theorem dX5_stepMarks_40 : decode cX5_stepMarks 40 = .ok (.iconst 1, 1) := by decide +kernel
theorem dX5_stepMarks_41 : decode cX5_stepMarks 41 = .ok (.iadd, 1) := by decide +kernel
theorem dX5_stepMarks_42 : decode cX5_stepMarks 42 = .ok (.iastore, 1) := by decide +kernel
theorem dX5_stepMarks_43 : decode cX5_stepMarks 43 = .ok (.goto 24, 3) := by decide +kernel
theorem dX5_stepMarks_46 : decode cX5_stepMarks 46 = .ok (.aload_n 0, 1) := by decide +kernel
theorem dX5_stepMarks_47 : decode cX5_stepMarks 47 = .ok (.getfield 47, 3) := by decide +kernel
theorem dX5_stepMarks_50 : decode cX5_stepMarks 50 = .ok (.iconst 1, 1) := by decide +kernel
theorem dX5_stepMarks_51 : decode cX5_stepMarks 51 = .ok (.dup2, 1) := by decide +kernel
theorem dX5_stepMarks_52 : decode cX5_stepMarks 52 = .ok (.iaload, 1) := by decide +kernel
theorem dX5_stepMarks_53 : decode cX5_stepMarks 53 = .ok (.iconst 1, 1) := by decide +kernel
theorem dX5_stepMarks_54 : decode cX5_stepMarks 54 = .ok (.iadd, 1) := by decide +kernel
theorem dX5_stepMarks_55 : decode cX5_stepMarks 55 = .ok (.iastore, 1) := by decide +kernel
theorem dX5_stepMarks_56 : decode cX5_stepMarks 56 = .ok (.aload_n 0, 1) := by decide +kernel
theorem dX5_stepMarks_57 : decode cX5_stepMarks 57 = .ok (.getfield 47, 3) := by decide +kernel
theorem dX5_stepMarks_60 : decode cX5_stepMarks 60 = .ok (.iload 4, 2) := by decide +kernel
theorem dX5_stepMarks_62 : decode cX5_stepMarks 62 = .ok (.dup2, 1) := by decide +kernel
theorem dX5_stepMarks_63 : decode cX5_stepMarks 63 = .ok (.iaload, 1) := by decide +kernel
theorem dX5_stepMarks_64 : decode cX5_stepMarks 64 = .ok (.iconst 1, 1) := by decide +kernel
theorem dX5_stepMarks_65 : decode cX5_stepMarks 65 = .ok (.isub, 1) := by decide +kernel
theorem dX5_stepMarks_66 : decode cX5_stepMarks 66 = .ok (.iastore, 1) := by decide +kernel
theorem dX5_stepMarks_67 : decode cX5_stepMarks 67 = .ok (.iinc 3 1, 3) := by decide +kernel
theorem dX5_stepMarks_70 : decode cX5_stepMarks 70 = .ok (.goto (-68), 3) := by decide +kernel
theorem dX5_stepMarks_73 : decode cX5_stepMarks 73 = .ok (.return_, 1) := by decide +kernel
theorem dX5_bestCool_0 : decode cX5_bestCool 0 = .ok (.ldc 193, 2) := by decide +kernel
theorem dX5_bestCool_2 : decode cX5_bestCool 2 = .ok (.istore_n 3, 1) := by decide +kernel
theorem dX5_bestCool_3 : decode cX5_bestCool 3 = .ok (.iconst 0, 1) := by decide +kernel
theorem dX5_bestCool_4 : decode cX5_bestCool 4 = .ok (.istore 4, 2) := by decide +kernel
theorem dX5_bestCool_6 : decode cX5_bestCool 6 = .ok (.iconst 0, 1) := by decide +kernel
theorem dX5_bestCool_7 : decode cX5_bestCool 7 = .ok (.istore 5, 2) := by decide +kernel
theorem dX5_bestCool_9 : decode cX5_bestCool 9 = .ok (.iload 5, 2) := by decide +kernel
theorem dX5_bestCool_11 : decode cX5_bestCool 11 = .ok (.bipush 9, 2) := by decide +kernel
theorem dX5_bestCool_13 : decode cX5_bestCool 13 = .ok (.if_icmp .gt 52, 3) := by decide +kernel
theorem dX5_bestCool_16 : decode cX5_bestCool 16 = .ok (.aload_n 0, 1) := by decide +kernel
theorem dX5_bestCool_17 : decode cX5_bestCool 17 = .ok (.getfield 23, 3) := by decide +kernel
theorem dX5_bestCool_20 : decode cX5_bestCool 20 = .ok (.aload_n 0, 1) := by decide +kernel
theorem dX5_bestCool_21 : decode cX5_bestCool 21 = .ok (.getfield 19, 3) := by decide +kernel
theorem dX5_bestCool_24 : decode cX5_bestCool 24 = .ok (.invokevirtual 80, 3) := by decide +kernel
theorem dX5_bestCool_27 : decode cX5_bestCool 27 = .ok (.aload_n 0, 1) := by decide +kernel
theorem dX5_bestCool_28 : decode cX5_bestCool 28 = .ok (.getfield 23, 3) := by decide +kernel
theorem dX5_bestCool_31 : decode cX5_bestCool 31 = .ok (.getfield 93, 3) := by decide +kernel
theorem dX5_bestCool_34 : decode cX5_bestCool 34 = .ok (.iconst 1, 1) := by decide +kernel
theorem dX5_bestCool_35 : decode cX5_bestCool 35 = .ok (.iload 5, 2) := by decide +kernel
theorem dX5_bestCool_37 : decode cX5_bestCool 37 = .ok (.iastore, 1) := by decide +kernel
theorem dX5_bestCool_38 : decode cX5_bestCool 38 = .ok (.aload_n 0, 1) := by decide +kernel
theorem dX5_bestCool_39 : decode cX5_bestCool 39 = .ok (.iload_n 1, 1) := by decide +kernel
theorem dX5_bestCool_40 : decode cX5_bestCool 40 = .ok (.iload_n 3, 1) := by decide +kernel
theorem dX5_bestCool_41 : decode cX5_bestCool 41 = .ok (.invokevirtual 194, 3) := by decide +kernel
theorem dX5_bestCool_44 : decode cX5_bestCool 44 = .ok (.istore 6, 2) := by decide +kernel
theorem dX5_bestCool_46 : decode cX5_bestCool 46 = .ok (.iload 6, 2) := by decide +kernel
theorem dX5_bestCool_48 : decode cX5_bestCool 48 = .ok (.iload_n 3, 1) := by decide +kernel
theorem dX5_bestCool_49 : decode cX5_bestCool 49 = .ok (.if_icmp .ge 10, 3) := by decide +kernel
theorem dX5_bestCool_52 : decode cX5_bestCool 52 = .ok (.iload 6, 2) := by decide +kernel
theorem dX5_bestCool_54 : decode cX5_bestCool 54 = .ok (.istore_n 3, 1) := by decide +kernel
theorem dX5_bestCool_55 : decode cX5_bestCool 55 = .ok (.iload 5, 2) := by decide +kernel
theorem dX5_bestCool_57 : decode cX5_bestCool 57 = .ok (.istore 4, 2) := by decide +kernel
theorem dX5_bestCool_59 : decode cX5_bestCool 59 = .ok (.iinc 5 1, 3) := by decide +kernel
theorem dX5_bestCool_62 : decode cX5_bestCool 62 = .ok (.goto (-53), 3) := by decide +kernel
theorem dX5_bestCool_65 : decode cX5_bestCool 65 = .ok (.iload_n 2, 1) := by decide +kernel
theorem dX5_bestCool_66 : decode cX5_bestCool 66 = .ok (.ifCond .ne 8, 3) := by decide +kernel
theorem dX5_bestCool_69 : decode cX5_bestCool 69 = .ok (.iload 4, 2) := by decide +kernel
theorem dX5_bestCool_71 : decode cX5_bestCool 71 = .ok (.goto 4, 3) := by decide +kernel
theorem dX5_bestCool_74 : decode cX5_bestCool 74 = .ok (.iload_n 3, 1) := by decide +kernel
theorem dX5_bestCool_75 : decode cX5_bestCool 75 = .ok (.ireturn, 1) := by decide +kernel
theorem dX5_wrongIfSwapped_0 : decode cX5_wrongIfSwapped 0 = .ok (.aload_n 0, 1) := by decide +kernel
theorem dX5_wrongIfSwapped_1 : decode cX5_wrongIfSwapped 1 = .ok (.getfield 19, 3) := by decide +kernel
theorem dX5_wrongIfSwapped_4 : decode cX5_wrongIfSwapped 4 = .ok (.getfield 137, 3) := by decide +kernel
theorem dX5_wrongIfSwapped_7 : decode cX5_wrongIfSwapped 7 = .ok (.iload_n 1, 1) := by decide +kernel
theorem dX5_wrongIfSwapped_8 : decode cX5_wrongIfSwapped 8 = .ok (.iaload, 1) := by decide +kernel
theorem dX5_wrongIfSwapped_9 : decode cX5_wrongIfSwapped 9 = .ok (.aload_n 0, 1) := by decide +kernel
theorem dX5_wrongIfSwapped_10 : decode cX5_wrongIfSwapped 10 = .ok (.getfield 19, 3) := by decide +kernel
theorem dX5_wrongIfSwapped_13 : decode cX5_wrongIfSwapped 13 = .ok (.getfield 137, 3) := by decide +kernel
theorem dX5_wrongIfSwapped_16 : decode cX5_wrongIfSwapped 16 = .ok (.iload_n 2, 1) := by decide +kernel
theorem dX5_wrongIfSwapped_17 : decode cX5_wrongIfSwapped 17 = .ok (.iaload, 1) := by decide +kernel
theorem dX5_wrongIfSwapped_18 : decode cX5_wrongIfSwapped 18 = .ok (.if_icmp .ne 6, 3) := by decide +kernel
theorem dX5_wrongIfSwapped_21 : decode cX5_wrongIfSwapped 21 = .ok (.iload 4, 2) := by decide +kernel
theorem dX5_wrongIfSwapped_23 : decode cX5_wrongIfSwapped 23 = .ok (.ireturn, 1) := by decide +kernel
theorem dX5_wrongIfSwapped_24 : decode cX5_wrongIfSwapped 24 = .ok (.aload_n 0, 1) := by decide +kernel
theorem dX5_wrongIfSwapped_25 : decode cX5_wrongIfSwapped 25 = .ok (.getfield 23, 3) := by decide +kernel
theorem dX5_wrongIfSwapped_28 : decode cX5_wrongIfSwapped 28 = .ok (.aload_n 0, 1) := by decide +kernel
theorem dX5_wrongIfSwapped_29 : decode cX5_wrongIfSwapped 29 = .ok (.getfield 19, 3) := by decide +kernel
theorem dX5_wrongIfSwapped_32 : decode cX5_wrongIfSwapped 32 = .ok (.invokevirtual 80, 3) := by decide +kernel
theorem dX5_wrongIfSwapped_35 : decode cX5_wrongIfSwapped 35 = .ok (.aload_n 0, 1) := by decide +kernel
theorem dX5_wrongIfSwapped_36 : decode cX5_wrongIfSwapped 36 = .ok (.getfield 23, 3) := by decide +kernel
theorem dX5_wrongIfSwapped_39 : decode cX5_wrongIfSwapped 39 = .ok (.getfield 137, 3) := by decide +kernel
theorem dX5_wrongIfSwapped_42 : decode cX5_wrongIfSwapped 42 = .ok (.iload_n 1, 1) := by decide +kernel
theorem dX5_wrongIfSwapped_43 : decode cX5_wrongIfSwapped 43 = .ok (.aload_n 0, 1) := by decide +kernel
theorem dX5_wrongIfSwapped_44 : decode cX5_wrongIfSwapped 44 = .ok (.getfield 19, 3) := by decide +kernel
theorem dX5_wrongIfSwapped_47 : decode cX5_wrongIfSwapped 47 = .ok (.getfield 137, 3) := by decide +kernel
theorem dX5_wrongIfSwapped_50 : decode cX5_wrongIfSwapped 50 = .ok (.iload_n 2, 1) := by decide +kernel
theorem dX5_wrongIfSwapped_51 : decode cX5_wrongIfSwapped 51 = .ok (.iaload, 1) := by decide +kernel
theorem dX5_wrongIfSwapped_52 : decode cX5_wrongIfSwapped 52 = .ok (.iastore, 1) := by decide +kernel
theorem dX5_wrongIfSwapped_53 : decode cX5_wrongIfSwapped 53 = .ok (.aload_n 0, 1) := by decide +kernel
theorem dX5_wrongIfSwapped_54 : decode cX5_wrongIfSwapped 54 = .ok (.getfield 23, 3) := by decide +kernel
theorem dX5_wrongIfSwapped_57 : decode cX5_wrongIfSwapped 57 = .ok (.getfield 137, 3) := by decide +kernel
theorem dX5_wrongIfSwapped_60 : decode cX5_wrongIfSwapped 60 = .ok (.iload_n 2, 1) := by decide +kernel
theorem dX5_wrongIfSwapped_61 : decode cX5_wrongIfSwapped 61 = .ok (.aload_n 0, 1) := by decide +kernel
theorem dX5_wrongIfSwapped_62 : decode cX5_wrongIfSwapped 62 = .ok (.getfield 19, 3) := by decide +kernel
theorem dX5_wrongIfSwapped_65 : decode cX5_wrongIfSwapped 65 = .ok (.getfield 137, 3) := by decide +kernel
theorem dX5_wrongIfSwapped_68 : decode cX5_wrongIfSwapped 68 = .ok (.iload_n 1, 1) := by decide +kernel
theorem dX5_wrongIfSwapped_69 : decode cX5_wrongIfSwapped 69 = .ok (.iaload, 1) := by decide +kernel
theorem dX5_wrongIfSwapped_70 : decode cX5_wrongIfSwapped 70 = .ok (.iastore, 1) := by decide +kernel
theorem dX5_wrongIfSwapped_71 : decode cX5_wrongIfSwapped 71 = .ok (.aload_n 0, 1) := by decide +kernel
theorem dX5_wrongIfSwapped_72 : decode cX5_wrongIfSwapped 72 = .ok (.iload_n 3, 1) := by decide +kernel
theorem dX5_wrongIfSwapped_73 : decode cX5_wrongIfSwapped 73 = .ok (.iload 4, 2) := by decide +kernel
theorem dX5_wrongIfSwapped_75 : decode cX5_wrongIfSwapped 75 = .ok (.invokevirtual 194, 3) := by decide +kernel
theorem dX5_wrongIfSwapped_78 : decode cX5_wrongIfSwapped 78 = .ok (.ireturn, 1) := by decide +kernel
theorem dX5_wrongIfResting_0 : decode cX5_wrongIfResting 0 = .ok (.aload_n 0, 1) := by decide +kernel
theorem dX5_wrongIfResting_1 : decode cX5_wrongIfResting 1 = .ok (.getfield 23, 3) := by decide +kernel
theorem dX5_wrongIfResting_4 : decode cX5_wrongIfResting 4 = .ok (.aload_n 0, 1) := by decide +kernel
theorem dX5_wrongIfResting_5 : decode cX5_wrongIfResting 5 = .ok (.getfield 19, 3) := by decide +kernel
theorem dX5_wrongIfResting_8 : decode cX5_wrongIfResting 8 = .ok (.invokevirtual 80, 3) := by decide +kernel
theorem dX5_wrongIfResting_11 : decode cX5_wrongIfResting 11 = .ok (.iconst 0, 1) := by decide +kernel
theorem dX5_wrongIfResting_12 : decode cX5_wrongIfResting 12 = .ok (.istore 4, 2) := by decide +kernel
theorem dX5_wrongIfResting_14 : decode cX5_wrongIfResting 14 = .ok (.iconst 0, 1) := by decide +kernel
theorem dX5_wrongIfResting_15 : decode cX5_wrongIfResting 15 = .ok (.istore 5, 2) := by decide +kernel
theorem dX5_wrongIfResting_17 : decode cX5_wrongIfResting 17 = .ok (.iload 5, 2) := by decide +kernel
theorem dX5_wrongIfResting_19 : decode cX5_wrongIfResting 19 = .ok (.iload_n 2, 1) := by decide +kernel
theorem dX5_wrongIfResting_20 : decode cX5_wrongIfResting 20 = .ok (.if_icmp .ge 59, 3) := by decide +kernel
theorem dX5_wrongIfResting_23 : decode cX5_wrongIfResting 23 = .ok (.iload 4, 2) := by decide +kernel
theorem dX5_wrongIfResting_25 : decode cX5_wrongIfResting 25 = .ok (.iload_n 3, 1) := by decide +kernel
theorem dX5_wrongIfResting_26 : decode cX5_wrongIfResting 26 = .ok (.if_icmp .ge 53, 3) := by decide +kernel
theorem dX5_wrongIfResting_29 : decode cX5_wrongIfResting 29 = .ok (.aload_n 0, 1) := by decide +kernel
theorem dX5_wrongIfResting_30 : decode cX5_wrongIfResting 30 = .ok (.getfield 23, 3) := by decide +kernel
theorem dX5_wrongIfResting_33 : decode cX5_wrongIfResting 33 = .ok (.iconst 0, 1) := by decide +kernel
theorem dX5_wrongIfResting_34 : decode cX5_wrongIfResting 34 = .ok (.invokevirtual 315, 3) := by decide +kernel
theorem dX5_wrongIfResting_37 : decode cX5_wrongIfResting 37 = .ok (.iload_n 1, 1) := by decide +kernel
theorem dX5_wrongIfResting_38 : decode cX5_wrongIfResting 38 = .ok (.if_icmp .ne 7, 3) := by decide +kernel
theorem dX5_wrongIfResting_41 : decode cX5_wrongIfResting 41 = .ok (.iconst 1, 1) := by decide +kernel
theorem dX5_wrongIfResting_42 : decode cX5_wrongIfResting 42 = .ok (.goto 4, 3) := by decide +kernel
theorem dX5_wrongIfResting_45 : decode cX5_wrongIfResting 45 = .ok (.iconst 0, 1) := by decide +kernel
theorem dX5_wrongIfResting_46 : decode cX5_wrongIfResting 46 = .ok (.istore 6, 2) := by decide +kernel
theorem dX5_wrongIfResting_48 : decode cX5_wrongIfResting 48 = .ok (.iload 4, 2) := by decide +kernel
theorem dX5_wrongIfResting_50 : decode cX5_wrongIfResting 50 = .ok (.aload_n 0, 1) := by decide +kernel
theorem dX5_wrongIfResting_51 : decode cX5_wrongIfResting 51 = .ok (.getfield 23, 3) := by decide +kernel
theorem dX5_wrongIfResting_54 : decode cX5_wrongIfResting 54 = .ok (.iconst 1, 1) := by decide +kernel
theorem dX5_wrongIfResting_55 : decode cX5_wrongIfResting 55 = .ok (.invokevirtual 160, 3) := by decide +kernel
theorem dX5_wrongIfResting_58 : decode cX5_wrongIfResting 58 = .ok (.iadd, 1) := by decide +kernel
theorem dX5_wrongIfResting_59 : decode cX5_wrongIfResting 59 = .ok (.istore 4, 2) := by decide +kernel
theorem dX5_wrongIfResting_61 : decode cX5_wrongIfResting 61 = .ok (.iload 6, 2) := by decide +kernel
theorem dX5_wrongIfResting_63 : decode cX5_wrongIfResting 63 = .ok (.ifCond .eq 10, 3) := by decide +kernel
theorem dX5_wrongIfResting_66 : decode cX5_wrongIfResting 66 = .ok (.aload_n 0, 1) := by decide +kernel
theorem dX5_wrongIfResting_67 : decode cX5_wrongIfResting 67 = .ok (.getfield 23, 3) := by decide +kernel
theorem dX5_wrongIfResting_70 : decode cX5_wrongIfResting 70 = .ok (.invokevirtual 318, 3) := by decide +kernel
theorem dX5_wrongIfResting_73 : decode cX5_wrongIfResting 73 = .ok (.iinc 5 1, 3) := by decide +kernel
theorem dX5_wrongIfResting_76 : decode cX5_wrongIfResting 76 = .ok (.goto (-59), 3) := by decide +kernel
theorem dX5_wrongIfResting_79 : decode cX5_wrongIfResting 79 = .ok (.iload 4, 2) := by decide +kernel
theorem dX5_wrongIfResting_81 : decode cX5_wrongIfResting 81 = .ok (.ireturn, 1) := by decide +kernel
theorem dX5_raised_0 : decode cX5_raised 0 = .ok (.lconst 1, 1) := by decide +kernel
theorem dX5_raised_1 : decode cX5_raised 1 = .ok (.lstore_n 2, 1) := by decide +kernel
theorem dX5_raised_2 : decode cX5_raised 2 = .ok (.iconst 0, 1) := by decide +kernel
theorem dX5_raised_3 : decode cX5_raised 3 = .ok (.istore 4, 2) := by decide +kernel
theorem dX5_raised_5 : decode cX5_raised 5 = .ok (.iload 4, 2) := by decide +kernel
theorem dX5_raised_7 : decode cX5_raised 7 = .ok (.iload_n 1, 1) := by decide +kernel
theorem dX5_raised_8 : decode cX5_raised 8 = .ok (.if_icmp .ge 14, 3) := by decide +kernel
theorem dX5_raised_11 : decode cX5_raised 11 = .ok (.lload_n 2, 1) := by decide +kernel
theorem dX5_raised_12 : decode cX5_raised 12 = .ok (.iload_n 0, 1) := by decide +kernel
theorem dX5_raised_13 : decode cX5_raised 13 = .ok (.i2l, 1) := by decide +kernel
theorem dX5_raised_14 : decode cX5_raised 14 = .ok (.lmul, 1) := by decide +kernel
theorem dX5_raised_15 : decode cX5_raised 15 = .ok (.lstore_n 2, 1) := by decide +kernel
theorem dX5_raised_16 : decode cX5_raised 16 = .ok (.iinc 4 1, 3) := by decide +kernel
theorem dX5_raised_19 : decode cX5_raised 19 = .ok (.goto (-14), 3) := by decide +kernel
theorem dX5_raised_22 : decode cX5_raised 22 = .ok (.lload_n 2, 1) := by decide +kernel
theorem dX5_raised_23 : decode cX5_raised 23 = .ok (.lreturn, 1) := by decide +kernel
theorem dX5_weightOf_0 : decode cX5_weightOf 0 = .ok (.iload_n 0, 1) := by decide +kernel
theorem dX5_weightOf_1 : decode cX5_weightOf 1 = .ok (.invokestatic 242, 3) := by decide +kernel
theorem dX5_weightOf_4 : decode cX5_weightOf 4 = .ok (.istore_n 3, 1) := by decide +kernel
theorem dX5_weightOf_5 : decode cX5_weightOf 5 = .ok (.iload_n 1, 1) := by decide +kernel
theorem dX5_weightOf_6 : decode cX5_weightOf 6 = .ok (.iload_n 3, 1) := by decide +kernel
theorem dX5_weightOf_7 : decode cX5_weightOf 7 = .ok (.invokestatic 208, 3) := by decide +kernel
theorem dX5_weightOf_10 : decode cX5_weightOf 10 = .ok (.bipush 10, 2) := by decide +kernel
theorem dX5_weightOf_12 : decode cX5_weightOf 12 = .ok (.iload_n 1, 1) := by decide +kernel
theorem dX5_weightOf_13 : decode cX5_weightOf 13 = .ok (.isub, 1) := by decide +kernel
theorem dX5_weightOf_14 : decode cX5_weightOf 14 = .ok (.iload_n 2, 1) := by decide +kernel
theorem dX5_weightOf_15 : decode cX5_weightOf 15 = .ok (.iload_n 3, 1) := by decide +kernel
theorem dX5_weightOf_16 : decode cX5_weightOf 16 = .ok (.isub, 1) := by decide +kernel
theorem dX5_weightOf_17 : decode cX5_weightOf 17 = .ok (.invokestatic 208, 3) := by decide +kernel
theorem dX5_weightOf_20 : decode cX5_weightOf 20 = .ok (.lmul, 1) := by decide +kernel
theorem dX5_weightOf_21 : decode cX5_weightOf 21 = .ok (.lreturn, 1) := by decide +kernel
theorem dX5_loneIsRight_0 : decode cX5_loneIsRight 0 = .ok (.aload_n 0, 1) := by decide +kernel
theorem dX5_loneIsRight_1 : decode cX5_loneIsRight 1 = .ok (.getfield 29, 3) := by decide +kernel
theorem dX5_loneIsRight_4 : decode cX5_loneIsRight 4 = .ok (.aload_n 0, 1) := by decide +kernel
theorem dX5_loneIsRight_5 : decode cX5_loneIsRight 5 = .ok (.getfield 19, 3) := by decide +kernel
theorem dX5_loneIsRight_8 : decode cX5_loneIsRight 8 = .ok (.getfield 108, 3) := by decide +kernel
theorem dX5_loneIsRight_11 : decode cX5_loneIsRight 11 = .ok (.iload_n 1, 1) := by decide +kernel
theorem dX5_loneIsRight_12 : decode cX5_loneIsRight 12 = .ok (.aaload, 1) := by decide +kernel
theorem dX5_loneIsRight_13 : decode cX5_loneIsRight 13 = .ok (.invokevirtual 176, 3) := by decide +kernel
theorem dX5_loneIsRight_16 : decode cX5_loneIsRight 16 = .ok (.iconst 0, 1) := by decide +kernel
theorem dX5_loneIsRight_17 : decode cX5_loneIsRight 17 = .ok (.istore 4, 2) := by decide +kernel
theorem dX5_loneIsRight_19 : decode cX5_loneIsRight 19 = .ok (.iload 4, 2) := by decide +kernel
theorem dX5_loneIsRight_21 : decode cX5_loneIsRight 21 = .ok (.iload_n 2, 1) := by decide +kernel
theorem dX5_loneIsRight_22 : decode cX5_loneIsRight 22 = .ok (.if_icmp .ge 43, 3) := by decide +kernel
theorem dX5_loneIsRight_25 : decode cX5_loneIsRight 25 = .ok (.aload_n 0, 1) := by decide +kernel
theorem dX5_loneIsRight_26 : decode cX5_loneIsRight 26 = .ok (.iload 4, 2) := by decide +kernel
theorem dX5_loneIsRight_28 : decode cX5_loneIsRight 28 = .ok (.iload_n 3, 1) := by decide +kernel
theorem dX5_loneIsRight_29 : decode cX5_loneIsRight 29 = .ok (.iload 4, 2) := by decide +kernel
theorem dX5_loneIsRight_31 : decode cX5_loneIsRight 31 = .ok (.ishr, 1) := by decide +kernel
theorem dX5_loneIsRight_32 : decode cX5_loneIsRight 32 = .ok (.iconst 1, 1) := by decide +kernel
theorem dX5_loneIsRight_33 : decode cX5_loneIsRight 33 = .ok (.iand, 1) := by decide +kernel
theorem dX5_loneIsRight_34 : decode cX5_loneIsRight 34 = .ok (.ifCond .ne 7, 3) := by decide +kernel
theorem dX5_loneIsRight_37 : decode cX5_loneIsRight 37 = .ok (.iconst 1, 1) := by decide +kernel
theorem dX5_loneIsRight_38 : decode cX5_loneIsRight 38 = .ok (.goto 4, 3) := by decide +kernel
theorem dX5_loneIsRight_41 : decode cX5_loneIsRight 41 = .ok (.iconst 0, 1) := by decide +kernel
theorem dX5_loneIsRight_42 : decode cX5_loneIsRight 42 = .ok (.invokevirtual 179, 3) := by decide +kernel
theorem dX5_loneIsRight_45 : decode cX5_loneIsRight 45 = .ok (.aload_n 0, 1) := by decide +kernel
theorem dX5_loneIsRight_46 : decode cX5_loneIsRight 46 = .ok (.getfield 19, 3) := by decide +kernel
theorem dX5_loneIsRight_49 : decode cX5_loneIsRight 49 = .ok (.iload 4, 2) := by decide +kernel
theorem dX5_loneIsRight_51 : decode cX5_loneIsRight 51 = .ok (.invokevirtual 100, 3) := by decide +kernel
theorem dX5_loneIsRight_54 : decode cX5_loneIsRight 54 = .ok (.if_icmp .eq 5, 3) := by decide +kernel
theorem dX5_loneIsRight_57 : decode cX5_loneIsRight 57 = .ok (.iconst 0, 1) := by decide +kernel
theorem dX5_loneIsRight_58 : decode cX5_loneIsRight 58 = .ok (.ireturn, 1) := by decide +kernel
theorem dX5_loneIsRight_59 : decode cX5_loneIsRight 59 = .ok (.iinc 4 1, 3) := by decide +kernel
theorem dX5_loneIsRight_62 : decode cX5_loneIsRight 62 = .ok (.goto (-43), 3) := by decide +kernel
theorem dX5_loneIsRight_65 : decode cX5_loneIsRight 65 = .ok (.iconst 1, 1) := by decide +kernel
theorem dX5_loneIsRight_66 : decode cX5_loneIsRight 66 = .ok (.ireturn, 1) := by decide +kernel
theorem dX5_wrongWithout_0 : decode cX5_wrongWithout 0 = .ok (.aload_n 0, 1) := by decide +kernel
theorem dX5_wrongWithout_1 : decode cX5_wrongWithout 1 = .ok (.getfield 23, 3) := by decide +kernel
theorem dX5_wrongWithout_4 : decode cX5_wrongWithout 4 = .ok (.aload_n 0, 1) := by decide +kernel
theorem dX5_wrongWithout_5 : decode cX5_wrongWithout 5 = .ok (.getfield 19, 3) := by decide +kernel
theorem dX5_wrongWithout_8 : decode cX5_wrongWithout 8 = .ok (.invokevirtual 80, 3) := by decide +kernel
theorem dX5_wrongWithout_11 : decode cX5_wrongWithout 11 = .ok (.iconst 0, 1) := by decide +kernel
theorem dX5_wrongWithout_12 : decode cX5_wrongWithout 12 = .ok (.istore_n 3, 1) := by decide +kernel
theorem dX5_wrongWithout_13 : decode cX5_wrongWithout 13 = .ok (.iconst 0, 1) := by decide +kernel
theorem dX5_wrongWithout_14 : decode cX5_wrongWithout 14 = .ok (.istore 4, 2) := by decide +kernel
theorem dX5_wrongWithout_16 : decode cX5_wrongWithout 16 = .ok (.iload 4, 2) := by decide +kernel
theorem dX5_wrongWithout_18 : decode cX5_wrongWithout 18 = .ok (.iload_n 1, 1) := by decide +kernel
theorem dX5_wrongWithout_19 : decode cX5_wrongWithout 19 = .ok (.if_icmp .ge 33, 3) := by decide +kernel
theorem dX5_wrongWithout_22 : decode cX5_wrongWithout 22 = .ok (.iload_n 3, 1) := by decide +kernel
theorem dX5_wrongWithout_23 : decode cX5_wrongWithout 23 = .ok (.aload_n 0, 1) := by decide +kernel
theorem dX5_wrongWithout_24 : decode cX5_wrongWithout 24 = .ok (.getfield 23, 3) := by decide +kernel
theorem dX5_wrongWithout_27 : decode cX5_wrongWithout 27 = .ok (.iload_n 2, 1) := by decide +kernel
theorem dX5_wrongWithout_28 : decode cX5_wrongWithout 28 = .ok (.iload 4, 2) := by decide +kernel
theorem dX5_wrongWithout_30 : decode cX5_wrongWithout 30 = .ok (.ishr, 1) := by decide +kernel
theorem dX5_wrongWithout_31 : decode cX5_wrongWithout 31 = .ok (.iconst 1, 1) := by decide +kernel
theorem dX5_wrongWithout_32 : decode cX5_wrongWithout 32 = .ok (.iand, 1) := by decide +kernel
theorem dX5_wrongWithout_33 : decode cX5_wrongWithout 33 = .ok (.ifCond .ne 7, 3) := by decide +kernel
theorem dX5_wrongWithout_36 : decode cX5_wrongWithout 36 = .ok (.iconst 1, 1) := by decide +kernel
theorem dX5_wrongWithout_37 : decode cX5_wrongWithout 37 = .ok (.goto 4, 3) := by decide +kernel
theorem dX5_wrongWithout_40 : decode cX5_wrongWithout 40 = .ok (.iconst 0, 1) := by decide +kernel
theorem dX5_wrongWithout_41 : decode cX5_wrongWithout 41 = .ok (.invokevirtual 160, 3) := by decide +kernel
theorem dX5_wrongWithout_44 : decode cX5_wrongWithout 44 = .ok (.iadd, 1) := by decide +kernel
theorem dX5_wrongWithout_45 : decode cX5_wrongWithout 45 = .ok (.istore_n 3, 1) := by decide +kernel
theorem dX5_wrongWithout_46 : decode cX5_wrongWithout 46 = .ok (.iinc 4 1, 3) := by decide +kernel
theorem dX5_wrongWithout_49 : decode cX5_wrongWithout 49 = .ok (.goto (-33), 3) := by decide +kernel
theorem dX5_wrongWithout_52 : decode cX5_wrongWithout 52 = .ok (.iload_n 3, 1) := by decide +kernel
theorem dX5_wrongWithout_53 : decode cX5_wrongWithout 53 = .ok (.ireturn, 1) := by decide +kernel
theorem dX5_part_0 : decode cX5_part 0 = .ok (.lload_n 2, 1) := by decide +kernel
theorem dX5_part_1 : decode cX5_part 1 = .ok (.lstore 5, 2) := by decide +kernel
theorem dX5_part_3 : decode cX5_part 3 = .ok (.lload_n 0, 1) := by decide +kernel
theorem dX5_part_4 : decode cX5_part 4 = .ok (.lstore 7, 2) := by decide +kernel
theorem dX5_part_6 : decode cX5_part 6 = .ok (.iconst 0, 1) := by decide +kernel
theorem dX5_part_7 : decode cX5_part 7 = .ok (.istore 9, 2) := by decide +kernel
theorem dX5_part_9 : decode cX5_part 9 = .ok (.iload 9, 2) := by decide +kernel
theorem dX5_part_11 : decode cX5_part 11 = .ok (.sipush 200, 3) := by decide +kernel
theorem dX5_part_14 : decode cX5_part 14 = .ok (.if_icmp .ge 31, 3) := by decide +kernel
theorem dX5_part_17 : decode cX5_part 17 = .ok (.lload 7, 2) := by decide +kernel
theorem dX5_part_19 : decode cX5_part 19 = .ok (.lconst 0, 1) := by decide +kernel
theorem dX5_part_20 : decode cX5_part 20 = .ok (.lcmp, 1) := by decide +kernel
theorem dX5_part_21 : decode cX5_part 21 = .ok (.ifCond .eq 24, 3) := by decide +kernel
theorem dX5_part_24 : decode cX5_part 24 = .ok (.lload 5, 2) := by decide +kernel
theorem dX5_part_26 : decode cX5_part 26 = .ok (.lload 7, 2) := by decide +kernel
theorem dX5_part_28 : decode cX5_part 28 = .ok (.lrem, 1) := by decide +kernel
theorem dX5_part_29 : decode cX5_part 29 = .ok (.lstore 10, 2) := by decide +kernel
theorem dX5_part_31 : decode cX5_part 31 = .ok (.lload 7, 2) := by decide +kernel
theorem dX5_part_33 : decode cX5_part 33 = .ok (.lstore 5, 2) := by decide +kernel
theorem dX5_part_35 : decode cX5_part 35 = .ok (.lload 10, 2) := by decide +kernel
theorem dX5_part_37 : decode cX5_part 37 = .ok (.lstore 7, 2) := by decide +kernel
theorem dX5_part_39 : decode cX5_part 39 = .ok (.iinc 9 1, 3) := by decide +kernel
theorem dX5_part_42 : decode cX5_part 42 = .ok (.goto (-33), 3) := by decide +kernel
theorem dX5_part_45 : decode cX5_part 45 = .ok (.iload 4, 2) := by decide +kernel
theorem dX5_part_47 : decode cX5_part 47 = .ok (.ifCond .ne 7, 3) := by decide +kernel
theorem dX5_part_50 : decode cX5_part 50 = .ok (.lload_n 0, 1) := by decide +kernel
theorem dX5_part_51 : decode cX5_part 51 = .ok (.goto 4, 3) := by decide +kernel
theorem dX5_part_54 : decode cX5_part 54 = .ok (.lload_n 2, 1) := by decide +kernel
theorem dX5_part_55 : decode cX5_part 55 = .ok (.lload 5, 2) := by decide +kernel
theorem dX5_part_57 : decode cX5_part 57 = .ok (.ldiv, 1) := by decide +kernel
theorem dX5_part_58 : decode cX5_part 58 = .ok (.lreturn, 1) := by decide +kernel
theorem dX5_asSeenBy_0 : decode cX5_asSeenBy 0 = .ok (.aload_n 0, 1) := by decide +kernel
theorem dX5_asSeenBy_1 : decode cX5_asSeenBy 1 = .ok (.iload_n 1, 1) := by decide +kernel
theorem dX5_asSeenBy_2 : decode cX5_asSeenBy 2 = .ok (.invokevirtual 321, 3) := by decide +kernel
theorem dX5_asSeenBy_5 : decode cX5_asSeenBy 5 = .ok (.ifCond .ne 5, 3) := by decide +kernel
theorem dX5_asSeenBy_8 : decode cX5_asSeenBy 8 = .ok (.iconst 0, 1) := by decide +kernel
theorem dX5_asSeenBy_9 : decode cX5_asSeenBy 9 = .ok (.ireturn, 1) := by decide +kernel
theorem dX5_asSeenBy_10 : decode cX5_asSeenBy 10 = .ok (.iconst 0, 1) := by decide +kernel
theorem dX5_asSeenBy_11 : decode cX5_asSeenBy 11 = .ok (.istore_n 3, 1) := by decide +kernel
theorem dX5_asSeenBy_12 : decode cX5_asSeenBy 12 = .ok (.iconst 0, 1) := by decide +kernel
theorem dX5_asSeenBy_13 : decode cX5_asSeenBy 13 = .ok (.istore 4, 2) := by decide +kernel
theorem dX5_asSeenBy_15 : decode cX5_asSeenBy 15 = .ok (.iload 4, 2) := by decide +kernel
theorem dX5_asSeenBy_17 : decode cX5_asSeenBy 17 = .ok (.iload_n 2, 1) := by decide +kernel
theorem dX5_asSeenBy_18 : decode cX5_asSeenBy 18 = .ok (.invokestatic 140, 3) := by decide +kernel
theorem dX5_asSeenBy_21 : decode cX5_asSeenBy 21 = .ok (.if_icmp .gt 71, 3) := by decide +kernel
theorem dX5_asSeenBy_24 : decode cX5_asSeenBy 24 = .ok (.aload_n 0, 1) := by decide +kernel
theorem dX5_asSeenBy_25 : decode cX5_asSeenBy 25 = .ok (.getfield 29, 3) := by decide +kernel
theorem dX5_asSeenBy_28 : decode cX5_asSeenBy 28 = .ok (.aload_n 0, 1) := by decide +kernel
theorem dX5_asSeenBy_29 : decode cX5_asSeenBy 29 = .ok (.getfield 19, 3) := by decide +kernel
theorem dX5_asSeenBy_32 : decode cX5_asSeenBy 32 = .ok (.getfield 108, 3) := by decide +kernel
theorem dX5_asSeenBy_35 : decode cX5_asSeenBy 35 = .ok (.iload_n 1, 1) := by decide +kernel
theorem dX5_asSeenBy_36 : decode cX5_asSeenBy 36 = .ok (.aaload, 1) := by decide +kernel
theorem dX5_asSeenBy_37 : decode cX5_asSeenBy 37 = .ok (.invokevirtual 176, 3) := by decide +kernel
theorem dX5_asSeenBy_40 : decode cX5_asSeenBy 40 = .ok (.aload_n 0, 1) := by decide +kernel
theorem dX5_asSeenBy_41 : decode cX5_asSeenBy 41 = .ok (.getfield 29, 3) := by decide +kernel
theorem dX5_asSeenBy_44 : decode cX5_asSeenBy 44 = .ok (.iload_n 2, 1) := by decide +kernel
theorem dX5_asSeenBy_45 : decode cX5_asSeenBy 45 = .ok (.iload 4, 2) := by decide +kernel
theorem dX5_asSeenBy_47 : decode cX5_asSeenBy 47 = .ok (.invokevirtual 143, 3) := by decide +kernel
theorem dX5_asSeenBy_50 : decode cX5_asSeenBy 50 = .ok (.aload_n 0, 1) := by decide +kernel
theorem dX5_asSeenBy_51 : decode cX5_asSeenBy 51 = .ok (.iload 4, 2) := by decide +kernel
theorem dX5_asSeenBy_53 : decode cX5_asSeenBy 53 = .ok (.invokevirtual 324, 3) := by decide +kernel
theorem dX5_asSeenBy_56 : decode cX5_asSeenBy 56 = .ok (.aload_n 0, 1) := by decide +kernel
theorem dX5_asSeenBy_57 : decode cX5_asSeenBy 57 = .ok (.getfield 19, 3) := by decide +kernel
theorem dX5_asSeenBy_60 : decode cX5_asSeenBy 60 = .ok (.getfield 226, 3) := by decide +kernel
theorem dX5_asSeenBy_63 : decode cX5_asSeenBy 63 = .ok (.iload_n 1, 1) := by decide +kernel
theorem dX5_asSeenBy_64 : decode cX5_asSeenBy 64 = .ok (.aload_n 0, 1) := by decide +kernel
theorem dX5_asSeenBy_65 : decode cX5_asSeenBy 65 = .ok (.getfield 51, 3) := by decide +kernel
theorem dX5_asSeenBy_68 : decode cX5_asSeenBy 68 = .ok (.iload 4, 2) := by decide +kernel
theorem dX5_asSeenBy_70 : decode cX5_asSeenBy 70 = .ok (.bipush 41, 2) := by decide +kernel
theorem dX5_asSeenBy_72 : decode cX5_asSeenBy 72 = .ok (.imul, 1) := by decide +kernel
theorem dX5_asSeenBy_73 : decode cX5_asSeenBy 73 = .ok (.invokevirtual 328, 3) := by decide +kernel
theorem dX5_asSeenBy_76 : decode cX5_asSeenBy 76 = .ok (.ifCond .eq 10, 3) := by decide +kernel
theorem dX5_asSeenBy_79 : decode cX5_asSeenBy 79 = .ok (.iload_n 3, 1) := by decide +kernel
theorem dX5_asSeenBy_80 : decode cX5_asSeenBy 80 = .ok (.iconst 1, 1) := by decide +kernel
theorem dX5_asSeenBy_81 : decode cX5_asSeenBy 81 = .ok (.iload 4, 2) := by decide +kernel
theorem dX5_asSeenBy_83 : decode cX5_asSeenBy 83 = .ok (.ishl, 1) := by decide +kernel
theorem dX5_asSeenBy_84 : decode cX5_asSeenBy 84 = .ok (.ior, 1) := by decide +kernel
theorem dX5_asSeenBy_85 : decode cX5_asSeenBy 85 = .ok (.istore_n 3, 1) := by decide +kernel
theorem dX5_asSeenBy_86 : decode cX5_asSeenBy 86 = .ok (.iinc 4 1, 3) := by decide +kernel
theorem dX5_asSeenBy_89 : decode cX5_asSeenBy 89 = .ok (.goto (-74), 3) := by decide +kernel
theorem dX5_asSeenBy_92 : decode cX5_asSeenBy 92 = .ok (.iload_n 3, 1) := by decide +kernel
theorem dX5_asSeenBy_93 : decode cX5_asSeenBy 93 = .ok (.ireturn, 1) := by decide +kernel
theorem dX5_othersAsSeen_0 : decode cX5_othersAsSeen 0 = .ok (.iconst 0, 1) := by decide +kernel
theorem dX5_othersAsSeen_1 : decode cX5_othersAsSeen 1 = .ok (.istore_n 2, 1) := by decide +kernel
theorem dX5_othersAsSeen_2 : decode cX5_othersAsSeen 2 = .ok (.iload_n 2, 1) := by decide +kernel
theorem dX5_othersAsSeen_3 : decode cX5_othersAsSeen 3 = .ok (.aload_n 0, 1) := by decide +kernel
theorem dX5_othersAsSeen_4 : decode cX5_othersAsSeen 4 = .ok (.getfield 19, 3) := by decide +kernel
theorem dX5_othersAsSeen_7 : decode cX5_othersAsSeen 7 = .ok (.getfield 84, 3) := by decide +kernel
theorem dX5_othersAsSeen_10 : decode cX5_othersAsSeen 10 = .ok (.if_icmp .ge 70, 3) := by decide +kernel
theorem dX5_othersAsSeen_13 : decode cX5_othersAsSeen 13 = .ok (.iload_n 2, 1) := by decide +kernel
theorem dX5_othersAsSeen_14 : decode cX5_othersAsSeen 14 = .ok (.iload_n 1, 1) := by decide +kernel
theorem dX5_othersAsSeen_15 : decode cX5_othersAsSeen 15 = .ok (.if_icmp .eq 59, 3) := by decide +kernel
theorem dX5_othersAsSeen_18 : decode cX5_othersAsSeen 18 = .ok (.aload_n 0, 1) := by decide +kernel
theorem dX5_othersAsSeen_19 : decode cX5_othersAsSeen 19 = .ok (.getfield 19, 3) := by decide +kernel
theorem dX5_othersAsSeen_22 : decode cX5_othersAsSeen 22 = .ok (.getfield 226, 3) := by decide +kernel
theorem dX5_othersAsSeen_25 : decode cX5_othersAsSeen 25 = .ok (.iload_n 2, 1) := by decide +kernel
theorem dX5_othersAsSeen_26 : decode cX5_othersAsSeen 26 = .ok (.invokevirtual 332, 3) := by decide +kernel
theorem dX5_othersAsSeen_29 : decode cX5_othersAsSeen 29 = .ok (.ifCond .eq 45, 3) := by decide +kernel
theorem dX5_othersAsSeen_32 : decode cX5_othersAsSeen 32 = .ok (.aload_n 0, 1) := by decide +kernel
theorem dX5_othersAsSeen_33 : decode cX5_othersAsSeen 33 = .ok (.getfield 29, 3) := by decide +kernel
theorem dX5_othersAsSeen_36 : decode cX5_othersAsSeen 36 = .ok (.aload_n 0, 1) := by decide +kernel
theorem dX5_othersAsSeen_37 : decode cX5_othersAsSeen 37 = .ok (.getfield 19, 3) := by decide +kernel
theorem dX5_othersAsSeen_40 : decode cX5_othersAsSeen 40 = .ok (.getfield 108, 3) := by decide +kernel
theorem dX5_othersAsSeen_43 : decode cX5_othersAsSeen 43 = .ok (.iload_n 2, 1) := by decide +kernel
theorem dX5_othersAsSeen_44 : decode cX5_othersAsSeen 44 = .ok (.aaload, 1) := by decide +kernel
theorem dX5_othersAsSeen_45 : decode cX5_othersAsSeen 45 = .ok (.invokevirtual 176, 3) := by decide +kernel
theorem dX5_othersAsSeen_48 : decode cX5_othersAsSeen 48 = .ok (.aload_n 0, 1) := by decide +kernel
theorem dX5_othersAsSeen_49 : decode cX5_othersAsSeen 49 = .ok (.iconst 0, 1) := by decide +kernel
theorem dX5_othersAsSeen_50 : decode cX5_othersAsSeen 50 = .ok (.invokevirtual 324, 3) := by decide +kernel
theorem dX5_othersAsSeen_53 : decode cX5_othersAsSeen 53 = .ok (.aload_n 0, 1) := by decide +kernel
theorem dX5_othersAsSeen_54 : decode cX5_othersAsSeen 54 = .ok (.getfield 19, 3) := by decide +kernel
theorem dX5_othersAsSeen_57 : decode cX5_othersAsSeen 57 = .ok (.getfield 226, 3) := by decide +kernel
theorem dX5_othersAsSeen_60 : decode cX5_othersAsSeen 60 = .ok (.iload_n 2, 1) := by decide +kernel
theorem dX5_othersAsSeen_61 : decode cX5_othersAsSeen 61 = .ok (.aload_n 0, 1) := by decide +kernel
theorem dX5_othersAsSeen_62 : decode cX5_othersAsSeen 62 = .ok (.getfield 51, 3) := by decide +kernel
theorem dX5_othersAsSeen_65 : decode cX5_othersAsSeen 65 = .ok (.iconst 0, 1) := by decide +kernel
theorem dX5_othersAsSeen_66 : decode cX5_othersAsSeen 66 = .ok (.invokevirtual 328, 3) := by decide +kernel
theorem dX5_othersAsSeen_69 : decode cX5_othersAsSeen 69 = .ok (.ifCond .ne 5, 3) := by decide +kernel
theorem dX5_othersAsSeen_72 : decode cX5_othersAsSeen 72 = .ok (.iconst 0, 1) := by decide +kernel
theorem dX5_othersAsSeen_73 : decode cX5_othersAsSeen 73 = .ok (.ireturn, 1) := by decide +kernel
theorem dX5_othersAsSeen_74 : decode cX5_othersAsSeen 74 = .ok (.iinc 2 1, 3) := by decide +kernel
theorem dX5_othersAsSeen_77 : decode cX5_othersAsSeen 77 = .ok (.goto (-75), 3) := by decide +kernel
theorem dX5_othersAsSeen_80 : decode cX5_othersAsSeen 80 = .ok (.iconst 1, 1) := by decide +kernel
theorem dX5_othersAsSeen_81 : decode cX5_othersAsSeen 81 = .ok (.ireturn, 1) := by decide +kernel
theorem dX5_noteLooks_0 : decode cX5_noteLooks 0 = .ok (.iconst 0, 1) := by decide +kernel
theorem dX5_noteLooks_1 : decode cX5_noteLooks 1 = .ok (.istore_n 2, 1) := by decide +kernel
theorem dX5_noteLooks_2 : decode cX5_noteLooks 2 = .ok (.iload_n 2, 1) := by decide +kernel
theorem dX5_noteLooks_3 : decode cX5_noteLooks 3 = .ok (.bipush 41, 2) := by decide +kernel
theorem dX5_noteLooks_5 : decode cX5_noteLooks 5 = .ok (.if_icmp .ge 50, 3) := by decide +kernel
theorem dX5_noteLooks_8 : decode cX5_noteLooks 8 = .ok (.aload_n 0, 1) := by decide +kernel
theorem dX5_noteLooks_9 : decode cX5_noteLooks 9 = .ok (.getfield 51, 3) := by decide +kernel
theorem dX5_noteLooks_12 : decode cX5_noteLooks 12 = .ok (.iload_n 1, 1) := by decide +kernel
theorem dX5_noteLooks_13 : decode cX5_noteLooks 13 = .ok (.bipush 41, 2) := by decide +kernel
theorem dX5_noteLooks_15 : decode cX5_noteLooks 15 = .ok (.imul, 1) := by decide +kernel
theorem dX5_noteLooks_16 : decode cX5_noteLooks 16 = .ok (.iload_n 2, 1) := by decide +kernel
theorem dX5_noteLooks_17 : decode cX5_noteLooks 17 = .ok (.iadd, 1) := by decide +kernel
theorem dX5_noteLooks_18 : decode cX5_noteLooks 18 = .ok (.aload_n 0, 1) := by decide +kernel
theorem dX5_noteLooks_19 : decode cX5_noteLooks 19 = .ok (.getfield 29, 3) := by decide +kernel
theorem dX5_noteLooks_22 : decode cX5_noteLooks 22 = .ok (.aload_n 0, 1) := by decide +kernel
theorem dX5_noteLooks_23 : decode cX5_noteLooks 23 = .ok (.getfield 19, 3) := by decide +kernel
theorem dX5_noteLooks_26 : decode cX5_noteLooks 26 = .ok (.aload_n 0, 1) := by decide +kernel
theorem dX5_noteLooks_27 : decode cX5_noteLooks 27 = .ok (.getfield 19, 3) := by decide +kernel
theorem dX5_noteLooks_30 : decode cX5_noteLooks 30 = .ok (.iload_n 2, 1) := by decide +kernel
theorem dX5_noteLooks_31 : decode cX5_noteLooks 31 = .ok (.invokevirtual 100, 3) := by decide +kernel
theorem dX5_noteLooks_34 : decode cX5_noteLooks 34 = .ok (.aload_n 0, 1) := by decide +kernel
theorem dX5_noteLooks_35 : decode cX5_noteLooks 35 = .ok (.getfield 19, 3) := by decide +kernel
theorem dX5_noteLooks_38 : decode cX5_noteLooks 38 = .ok (.iload_n 2, 1) := by decide +kernel
theorem dX5_noteLooks_39 : decode cX5_noteLooks 39 = .ok (.iconst 1, 1) := by decide +kernel
theorem dX5_noteLooks_40 : decode cX5_noteLooks 40 = .ok (.iadd, 1) := by decide +kernel
theorem dX5_noteLooks_41 : decode cX5_noteLooks 41 = .ok (.invokevirtual 100, 3) := by decide +kernel
theorem dX5_noteLooks_44 : decode cX5_noteLooks 44 = .ok (.iconst 1, 1) := by decide +kernel
theorem dX5_noteLooks_45 : decode cX5_noteLooks 45 = .ok (.invokevirtual 293, 3) := by decide +kernel
theorem dX5_noteLooks_48 : decode cX5_noteLooks 48 = .ok (.iastore, 1) := by decide +kernel
theorem dX5_noteLooks_49 : decode cX5_noteLooks 49 = .ok (.iinc 2 1, 3) := by decide +kernel
theorem dX5_noteLooks_52 : decode cX5_noteLooks 52 = .ok (.goto (-50), 3) := by decide +kernel
theorem dX5_noteLooks_55 : decode cX5_noteLooks 55 = .ok (.return_, 1) := by decide +kernel
theorem dX5_leftAtWorst_0 : decode cX5_leftAtWorst 0 = .ok (.aload_n 0, 1) := by decide +kernel
theorem dX5_leftAtWorst_1 : decode cX5_leftAtWorst 1 = .ok (.getfield 54, 3) := by decide +kernel
theorem dX5_leftAtWorst_4 : decode cX5_leftAtWorst 4 = .ok (.iconst 0, 1) := by decide +kernel
theorem dX5_leftAtWorst_5 : decode cX5_leftAtWorst 5 = .ok (.invokestatic 299, 3) := by decide +kernel
theorem dX5_leftAtWorst_8 : decode cX5_leftAtWorst 8 = .ok (.iconst 0, 1) := by decide +kernel
theorem dX5_leftAtWorst_9 : decode cX5_leftAtWorst 9 = .ok (.istore_n 3, 1) := by decide +kernel
theorem dX5_leftAtWorst_10 : decode cX5_leftAtWorst 10 = .ok (.iconst 0, 1) := by decide +kernel
theorem dX5_leftAtWorst_11 : decode cX5_leftAtWorst 11 = .ok (.istore 4, 2) := by decide +kernel
theorem dX5_leftAtWorst_13 : decode cX5_leftAtWorst 13 = .ok (.iload 4, 2) := by decide +kernel
theorem dX5_leftAtWorst_15 : decode cX5_leftAtWorst 15 = .ok (.bipush 30, 2) := by decide +kernel
theorem dX5_leftAtWorst_17 : decode cX5_leftAtWorst 17 = .ok (.if_icmp .gt 56, 3) := by decide +kernel
theorem dX5_leftAtWorst_20 : decode cX5_leftAtWorst 20 = .ok (.iload_n 1, 1) := by decide +kernel
theorem dX5_leftAtWorst_21 : decode cX5_leftAtWorst 21 = .ok (.iload 4, 2) := by decide +kernel
theorem dX5_leftAtWorst_23 : decode cX5_leftAtWorst 23 = .ok (.ishr, 1) := by decide +kernel
theorem dX5_leftAtWorst_24 : decode cX5_leftAtWorst 24 = .ok (.iconst 1, 1) := by decide +kernel
theorem dX5_leftAtWorst_25 : decode cX5_leftAtWorst 25 = .ok (.iand, 1) := by decide +kernel
theorem dX5_leftAtWorst_26 : decode cX5_leftAtWorst 26 = .ok (.iconst 1, 1) := by decide +kernel
theorem dX5_leftAtWorst_27 : decode cX5_leftAtWorst 27 = .ok (.if_icmp .ne 40, 3) := by decide +kernel
theorem dX5_leftAtWorst_30 : decode cX5_leftAtWorst 30 = .ok (.aload_n 0, 1) := by decide +kernel
theorem dX5_leftAtWorst_31 : decode cX5_leftAtWorst 31 = .ok (.getfield 51, 3) := by decide +kernel
theorem dX5_leftAtWorst_34 : decode cX5_leftAtWorst 34 = .ok (.iload 4, 2) := by decide +kernel
theorem dX5_leftAtWorst_36 : decode cX5_leftAtWorst 36 = .ok (.bipush 41, 2) := by decide +kernel
theorem dX5_leftAtWorst_38 : decode cX5_leftAtWorst 38 = .ok (.imul, 1) := by decide +kernel
theorem dX5_leftAtWorst_39 : decode cX5_leftAtWorst 39 = .ok (.iload_n 2, 1) := by decide +kernel
theorem dX5_leftAtWorst_40 : decode cX5_leftAtWorst 40 = .ok (.iadd, 1) := by decide +kernel
theorem dX5_leftAtWorst_41 : decode cX5_leftAtWorst 41 = .ok (.iaload, 1) := by decide +kernel
theorem dX5_leftAtWorst_42 : decode cX5_leftAtWorst 42 = .ok (.istore 5, 2) := by decide +kernel
theorem dX5_leftAtWorst_44 : decode cX5_leftAtWorst 44 = .ok (.aload_n 0, 1) := by decide +kernel
theorem dX5_leftAtWorst_45 : decode cX5_leftAtWorst 45 = .ok (.getfield 54, 3) := by decide +kernel
theorem dX5_leftAtWorst_48 : decode cX5_leftAtWorst 48 = .ok (.iload 5, 2) := by decide +kernel
theorem dX5_leftAtWorst_50 : decode cX5_leftAtWorst 50 = .ok (.dup2, 1) := by decide +kernel
theorem dX5_leftAtWorst_51 : decode cX5_leftAtWorst 51 = .ok (.iaload, 1) := by decide +kernel
theorem dX5_leftAtWorst_52 : decode cX5_leftAtWorst 52 = .ok (.iconst 1, 1) := by decide +kernel
theorem dX5_leftAtWorst_53 : decode cX5_leftAtWorst 53 = .ok (.iadd, 1) := by decide +kernel
theorem dX5_leftAtWorst_54 : decode cX5_leftAtWorst 54 = .ok (.iastore, 1) := by decide +kernel
theorem dX5_leftAtWorst_55 : decode cX5_leftAtWorst 55 = .ok (.iload_n 3, 1) := by decide +kernel
theorem dX5_leftAtWorst_56 : decode cX5_leftAtWorst 56 = .ok (.aload_n 0, 1) := by decide +kernel
theorem dX5_leftAtWorst_57 : decode cX5_leftAtWorst 57 = .ok (.getfield 54, 3) := by decide +kernel
theorem dX5_leftAtWorst_60 : decode cX5_leftAtWorst 60 = .ok (.iload 5, 2) := by decide +kernel
theorem dX5_leftAtWorst_62 : decode cX5_leftAtWorst 62 = .ok (.iaload, 1) := by decide +kernel
theorem dX5_leftAtWorst_63 : decode cX5_leftAtWorst 63 = .ok (.invokestatic 170, 3) := by decide +kernel
theorem dX5_leftAtWorst_66 : decode cX5_leftAtWorst 66 = .ok (.istore_n 3, 1) := by decide +kernel
theorem dX5_leftAtWorst_67 : decode cX5_leftAtWorst 67 = .ok (.iinc 4 1, 3) := by decide +kernel
theorem dX5_leftAtWorst_70 : decode cX5_leftAtWorst 70 = .ok (.goto (-57), 3) := by decide +kernel
theorem dX5_leftAtWorst_73 : decode cX5_leftAtWorst 73 = .ok (.iload_n 3, 1) := by decide +kernel
theorem dX5_leftAtWorst_74 : decode cX5_leftAtWorst 74 = .ok (.ireturn, 1) := by decide +kernel
end
section
theorem dX6_init_0 : decode cX6_init 0 = .ok (.aload_n 0, 1) := by decide +kernel
theorem dX6_init_1 : decode cX6_init 1 = .ok (.invokespecial 1, 3) := by decide +kernel
theorem dX6_init_4 : decode cX6_init 4 = .ok (.aload_n 0, 1) := by decide +kernel
theorem dX6_init_5 : decode cX6_init 5 = .ok (.sipush 210, 3) := by decide +kernel
theorem dX6_init_8 : decode cX6_init 8 = .ok (.newarray .int, 2) := by decide +kernel
theorem dX6_init_10 : decode cX6_init 10 = .ok (.putfield 7, 3) := by decide +kernel
theorem dX6_init_13 : decode cX6_init 13 = .ok (.aload_n 0, 1) := by decide +kernel
theorem dX6_init_14 : decode cX6_init 14 = .ok (.bipush 70, 2) := by decide +kernel
theorem dX6_init_16 : decode cX6_init 16 = .ok (.newarray .int, 2) := by decide +kernel
theorem dX6_init_18 : decode cX6_init 18 = .ok (.putfield 13, 3) := by decide +kernel
theorem dX6_init_21 : decode cX6_init 21 = .ok (.aload_n 0, 1) := by decide +kernel
theorem dX6_init_22 : decode cX6_init 22 = .ok (.iconst 2, 1) := by decide +kernel
theorem dX6_init_23 : decode cX6_init 23 = .ok (.newarray .boolean, 2) := by decide +kernel
theorem dX6_init_25 : decode cX6_init 25 = .ok (.putfield 16, 3) := by decide +kernel
theorem dX6_init_28 : decode cX6_init 28 = .ok (.aload_n 0, 1) := by decide +kernel
theorem dX6_init_29 : decode cX6_init 29 = .ok (.bipush 70, 2) := by decide +kernel
theorem dX6_init_31 : decode cX6_init 31 = .ok (.newarray .int, 2) := by decide +kernel
theorem dX6_init_33 : decode cX6_init 33 = .ok (.putfield 20, 3) := by decide +kernel
theorem dX6_init_36 : decode cX6_init 36 = .ok (.aload_n 0, 1) := by decide +kernel
theorem dX6_init_37 : decode cX6_init 37 = .ok (.iconst 4, 1) := by decide +kernel
theorem dX6_init_38 : decode cX6_init 38 = .ok (.newarray .boolean, 2) := by decide +kernel
theorem dX6_init_40 : decode cX6_init 40 = .ok (.putfield 23, 3) := by decide +kernel
theorem dX6_init_43 : decode cX6_init 43 = .ok (.aload_n 0, 1) := by decide +kernel
theorem dX6_init_44 : decode cX6_init 44 = .ok (.sipush 160, 3) := by decide +kernel
theorem dX6_init_47 : decode cX6_init 47 = .ok (.newarray .int, 2) := by decide +kernel
theorem dX6_init_49 : decode cX6_init 49 = .ok (.putfield 26, 3) := by decide +kernel
theorem dX6_init_52 : decode cX6_init 52 = .ok (.aload_n 0, 1) := by decide +kernel
theorem dX6_init_53 : decode cX6_init 53 = .ok (.iconst 3, 1) := by decide +kernel
theorem dX6_init_54 : decode cX6_init 54 = .ok (.newarray .int, 2) := by decide +kernel
theorem dX6_init_56 : decode cX6_init 56 = .ok (.putfield 29, 3) := by decide +kernel
theorem dX6_init_59 : decode cX6_init 59 = .ok (.aload_n 0, 1) := by decide +kernel
theorem dX6_init_60 : decode cX6_init 60 = .ok (.iconst 3, 1) := by decide +kernel
theorem dX6_init_61 : decode cX6_init 61 = .ok (.newarray .int, 2) := by decide +kernel
theorem dX6_init_63 : decode cX6_init 63 = .ok (.putfield 32, 3) := by decide +kernel
theorem dX6_init_66 : decode cX6_init 66 = .ok (.aload_n 0, 1) := by decide +kernel
theorem dX6_init_67 : decode cX6_init 67 = .ok (.bipush 8, 2) := by decide +kernel
theorem dX6_init_69 : decode cX6_init 69 = .ok (.newarray .int, 2) := by decide +kernel
theorem dX6_init_71 : decode cX6_init 71 = .ok (.putfield 35, 3) := by decide +kernel
theorem dX6_init_74 : decode cX6_init 74 = .ok (.aload_n 0, 1) := by decide +kernel
theorem dX6_init_75 : decode cX6_init 75 = .ok (.bipush 8, 2) := by decide +kernel
theorem dX6_init_77 : decode cX6_init 77 = .ok (.newarray .int, 2) := by decide +kernel
theorem dX6_init_79 : decode cX6_init 79 = .ok (.putfield 38, 3) := by decide +kernel
theorem dX6_init_82 : decode cX6_init 82 = .ok (.aload_n 0, 1) := by decide +kernel
theorem dX6_init_83 : decode cX6_init 83 = .ok (.bipush 123, 2) := by decide +kernel
theorem dX6_init_85 : decode cX6_init 85 = .ok (.newarray .int, 2) := by decide +kernel
theorem dX6_init_87 : decode cX6_init 87 = .ok (.putfield 41, 3) := by decide +kernel
theorem dX6_init_90 : decode cX6_init 90 = .ok (.aload_n 0, 1) := by decide +kernel
theorem dX6_init_91 : decode cX6_init 91 = .ok (.sipush 1271, 3) := by decide +kernel
theorem dX6_init_94 : decode cX6_init 94 = .ok (.newarray .int, 2) := by decide +kernel
theorem dX6_init_96 : decode cX6_init 96 = .ok (.putfield 44, 3) := by decide +kernel
theorem dX6_init_99 : decode cX6_init 99 = .ok (.aload_n 0, 1) := by decide +kernel
theorem dX6_init_100 : decode cX6_init 100 = .ok (.iconst 4, 1) := by decide +kernel
theorem dX6_init_101 : decode cX6_init 101 = .ok (.newarray .int, 2) := by decide +kernel
theorem dX6_init_103 : decode cX6_init 103 = .ok (.putfield 47, 3) := by decide +kernel
theorem dX6_init_106 : decode cX6_init 106 = .ok (.aload_n 0, 1) := by decide +kernel
theorem dX6_init_107 : decode cX6_init 107 = .ok (.iconst 4, 1) := by decide +kernel
theorem dX6_init_108 : decode cX6_init 108 = .ok (.newarray .int, 2) := by decide +kernel
theorem dX6_init_110 : decode cX6_init 110 = .ok (.putfield 50, 3) := by decide +kernel
theorem dX6_init_113 : decode cX6_init 113 = .ok (.aload_n 0, 1) := by decide +kernel
theorem dX6_init_114 : decode cX6_init 114 = .ok (.sipush 160, 3) := by decide +kernel
theorem dX6_init_117 : decode cX6_init 117 = .ok (.newarray .int, 2) := by decide +kernel
theorem dX6_init_119 : decode cX6_init 119 = .ok (.putfield 53, 3) := by decide +kernel
theorem dX6_init_122 : decode cX6_init 122 = .ok (.aload_n 0, 1) := by decide +kernel
theorem dX6_init_123 : decode cX6_init 123 = .ok (.bipush 70, 2) := by decide +kernel
theorem dX6_init_125 : decode cX6_init 125 = .ok (.newarray .int, 2) := by decide +kernel
theorem dX6_init_127 : decode cX6_init 127 = .ok (.putfield 56, 3) := by decide +kernel
theorem dX6_init_130 : decode cX6_init 130 = .ok (.iconst 0, 1) := by decide +kernel
theorem dX6_init_131 : decode cX6_init 131 = .ok (.istore_n 1, 1) := by decide +kernel
theorem dX6_init_132 : decode cX6_init 132 = .ok (.iload_n 1, 1) := by decide +kernel
theorem dX6_init_133 : decode cX6_init 133 = .ok (.iconst 4, 1) := by decide +kernel
theorem dX6_init_134 : decode cX6_init 134 = .ok (.if_icmp .ge 17, 3) := by decide +kernel
theorem dX6_init_137 : decode cX6_init 137 = .ok (.aload_n 0, 1) := by decide +kernel
theorem dX6_init_138 : decode cX6_init 138 = .ok (.getfield 47, 3) := by decide +kernel
theorem dX6_init_141 : decode cX6_init 141 = .ok (.iload_n 1, 1) := by decide +kernel
theorem dX6_init_142 : decode cX6_init 142 = .ok (.bipush (-4), 2) := by decide +kernel
theorem dX6_init_144 : decode cX6_init 144 = .ok (.iastore, 1) := by decide +kernel
theorem dX6_init_145 : decode cX6_init 145 = .ok (.iinc 1 1, 3) := by decide +kernel
theorem dX6_init_148 : decode cX6_init 148 = .ok (.goto (-16), 3) := by decide +kernel
theorem dX6_init_151 : decode cX6_init 151 = .ok (.aload_n 0, 1) := by decide +kernel
theorem dX6_init_152 : decode cX6_init 152 = .ok (.invokevirtual 59, 3) := by decide +kernel
theorem dX6_init_155 : decode cX6_init 155 = .ok (.aload_n 0, 1) := by decide +kernel
theorem dX6_init_156 : decode cX6_init 156 = .ok (.invokevirtual 62, 3) := by decide +kernel
theorem dX6_init_159 : decode cX6_init 159 = .ok (.return_, 1) := by decide +kernel
theorem dX6_in_0 : decode cX6_in 0 = .ok (.lload_n 0, 1) := by decide +kernel
theorem dX6_in_1 : decode cX6_in 1 = .ok (.lload_n 2, 1) := by decide +kernel
theorem dX6_in_2 : decode cX6_in 2 = .ok (.lcmp, 1) := by decide +kernel
theorem dX6_in_3 : decode cX6_in 3 = .ok (.ifCond .lt 14, 3) := by decide +kernel
theorem dX6_in_6 : decode cX6_in 6 = .ok (.lload_n 0, 1) := by decide +kernel
theorem dX6_in_7 : decode cX6_in 7 = .ok (.lload 4, 2) := by decide +kernel
theorem dX6_in_9 : decode cX6_in 9 = .ok (.lcmp, 1) := by decide +kernel
theorem dX6_in_10 : decode cX6_in 10 = .ok (.ifCond .gt 7, 3) := by decide +kernel
theorem dX6_in_13 : decode cX6_in 13 = .ok (.iconst 1, 1) := by decide +kernel
theorem dX6_in_14 : decode cX6_in 14 = .ok (.goto 4, 3) := by decide +kernel
theorem dX6_in_17 : decode cX6_in 17 = .ok (.iconst 0, 1) := by decide +kernel
theorem dX6_in_18 : decode cX6_in 18 = .ok (.ireturn, 1) := by decide +kernel
theorem dX6_flag_0 : decode cX6_flag 0 = .ok (.iload_n 0, 1) := by decide +kernel
theorem dX6_flag_1 : decode cX6_flag 1 = .ok (.ifCond .eq 7, 3) := by decide +kernel
theorem dX6_flag_4 : decode cX6_flag 4 = .ok (.iconst 1, 1) := by decide +kernel
theorem dX6_flag_5 : decode cX6_flag 5 = .ok (.goto 4, 3) := by decide +kernel
theorem dX6_flag_8 : decode cX6_flag 8 = .ok (.iconst 0, 1) := by decide +kernel
theorem dX6_flag_9 : decode cX6_flag 9 = .ok (.ireturn, 1) := by decide +kernel
theorem dX6_within_0 : decode cX6_within 0 = .ok (.iload_n 0, 1) := by decide +kernel
theorem dX6_within_1 : decode cX6_within 1 = .ok (.ifCond .ge 7, 3) := by decide +kernel
theorem dX6_within_4 : decode cX6_within 4 = .ok (.iconst 0, 1) := by decide +kernel
theorem dX6_within_5 : decode cX6_within 5 = .ok (.goto 13, 3) := by decide +kernel
theorem dX6_within_8 : decode cX6_within 8 = .ok (.iload_n 0, 1) := by decide +kernel
theorem dX6_within_9 : decode cX6_within 9 = .ok (.iload_n 1, 1) := by decide +kernel
theorem dX6_within_10 : decode cX6_within 10 = .ok (.if_icmp .le 7, 3) := by decide +kernel
theorem dX6_within_13 : decode cX6_within 13 = .ok (.iload_n 1, 1) := by decide +kernel
theorem dX6_within_14 : decode cX6_within 14 = .ok (.goto 4, 3) := by decide +kernel
theorem dX6_within_17 : decode cX6_within 17 = .ok (.iload_n 0, 1) := by decide +kernel
theorem dX6_within_18 : decode cX6_within 18 = .ok (.ireturn, 1) := by decide +kernel
theorem dX6_bitsOf_0 : decode cX6_bitsOf 0 = .ok (.iconst 0, 1) := by decide +kernel
theorem dX6_bitsOf_1 : decode cX6_bitsOf 1 = .ok (.istore_n 1, 1) := by decide +kernel
theorem dX6_bitsOf_2 : decode cX6_bitsOf 2 = .ok (.iconst 0, 1) := by decide +kernel
theorem dX6_bitsOf_3 : decode cX6_bitsOf 3 = .ok (.istore_n 2, 1) := by decide +kernel
theorem dX6_bitsOf_4 : decode cX6_bitsOf 4 = .ok (.iload_n 2, 1) := by decide +kernel
theorem dX6_bitsOf_5 : decode cX6_bitsOf 5 = .ok (.bipush 8, 2) := by decide +kernel
theorem dX6_bitsOf_7 : decode cX6_bitsOf 7 = .ok (.if_icmp .ge 17, 3) := by decide +kernel
theorem dX6_bitsOf_10 : decode cX6_bitsOf 10 = .ok (.iload_n 1, 1) := by decide +kernel
theorem dX6_bitsOf_11 : decode cX6_bitsOf 11 = .ok (.iload_n 0, 1) := by decide +kernel
theorem dX6_bitsOf_12 : decode cX6_bitsOf 12 = .ok (.iload_n 2, 1) := by decide +kernel
theorem dX6_bitsOf_13 : decode cX6_bitsOf 13 = .ok (.ishr, 1) := by decide +kernel
theorem dX6_bitsOf_14 : decode cX6_bitsOf 14 = .ok (.iconst 1, 1) := by decide +kernel
theorem dX6_bitsOf_15 : decode cX6_bitsOf 15 = .ok (.iand, 1) := by decide +kernel
theorem dX6_bitsOf_16 : decode cX6_bitsOf 16 = .ok (.iadd, 1) := by decide +kernel
theorem dX6_bitsOf_17 : decode cX6_bitsOf 17 = .ok (.istore_n 1, 1) := by decide +kernel
theorem dX6_bitsOf_18 : decode cX6_bitsOf 18 = .ok (.iinc 2 1, 3) := by decide +kernel
theorem dX6_bitsOf_21 : decode cX6_bitsOf 21 = .ok (.goto (-17), 3) := by decide +kernel
theorem dX6_bitsOf_24 : decode cX6_bitsOf 24 = .ok (.iload_n 1, 1) := by decide +kernel
theorem dX6_bitsOf_25 : decode cX6_bitsOf 25 = .ok (.ireturn, 1) := by decide +kernel
theorem dX6_firstDraft_0 : decode cX6_firstDraft 0 = .ok (.iconst 0, 1) := by decide +kernel
theorem dX6_firstDraft_1 : decode cX6_firstDraft 1 = .ok (.istore_n 1, 1) := by decide +kernel
theorem dX6_firstDraft_2 : decode cX6_firstDraft 2 = .ok (.iload_n 1, 1) := by decide +kernel
theorem dX6_firstDraft_3 : decode cX6_firstDraft 3 = .ok (.bipush 70, 2) := by decide +kernel
theorem dX6_firstDraft_5 : decode cX6_firstDraft 5 = .ok (.if_icmp .ge 16, 3) := by decide +kernel
theorem dX6_firstDraft_8 : decode cX6_firstDraft 8 = .ok (.aload_n 0, 1) := by decide +kernel
theorem dX6_firstDraft_9 : decode cX6_firstDraft 9 = .ok (.getfield 20, 3) := by decide +kernel
theorem dX6_firstDraft_12 : decode cX6_firstDraft 12 = .ok (.iload_n 1, 1) := by decide +kernel
theorem dX6_firstDraft_13 : decode cX6_firstDraft 13 = .ok (.iconst 0, 1) := by decide +kernel
theorem dX6_firstDraft_14 : decode cX6_firstDraft 14 = .ok (.iastore, 1) := by decide +kernel
theorem dX6_firstDraft_15 : decode cX6_firstDraft 15 = .ok (.iinc 1 1, 3) := by decide +kernel
theorem dX6_firstDraft_18 : decode cX6_firstDraft 18 = .ok (.goto (-16), 3) := by decide +kernel
theorem dX6_firstDraft_21 : decode cX6_firstDraft 21 = .ok (.iconst 0, 1) := by decide +kernel
theorem dX6_firstDraft_22 : decode cX6_firstDraft 22 = .ok (.istore_n 1, 1) := by decide +kernel
theorem dX6_firstDraft_23 : decode cX6_firstDraft 23 = .ok (.iload_n 1, 1) := by decide +kernel
theorem dX6_firstDraft_24 : decode cX6_firstDraft 24 = .ok (.iconst 4, 1) := by decide +kernel
theorem dX6_firstDraft_25 : decode cX6_firstDraft 25 = .ok (.if_icmp .ge 16, 3) := by decide +kernel
theorem dX6_firstDraft_28 : decode cX6_firstDraft 28 = .ok (.aload_n 0, 1) := by decide +kernel
theorem dX6_firstDraft_29 : decode cX6_firstDraft 29 = .ok (.getfield 23, 3) := by decide +kernel
theorem dX6_firstDraft_32 : decode cX6_firstDraft 32 = .ok (.iload_n 1, 1) := by decide +kernel
theorem dX6_firstDraft_33 : decode cX6_firstDraft 33 = .ok (.iconst 0, 1) := by decide +kernel
theorem dX6_firstDraft_34 : decode cX6_firstDraft 34 = .ok (.bastore, 1) := by decide +kernel
theorem dX6_firstDraft_35 : decode cX6_firstDraft 35 = .ok (.iinc 1 1, 3) := by decide +kernel
theorem dX6_firstDraft_38 : decode cX6_firstDraft 38 = .ok (.goto (-15), 3) := by decide +kernel
theorem dX6_firstDraft_41 : decode cX6_firstDraft 41 = .ok (.aload_n 0, 1) := by decide +kernel
theorem dX6_firstDraft_42 : decode cX6_firstDraft 42 = .ok (.getfield 20, 3) := by decide +kernel
theorem dX6_firstDraft_45 : decode cX6_firstDraft 45 = .ok (.bipush 34, 2) := by decide +kernel
theorem dX6_firstDraft_47 : decode cX6_firstDraft 47 = .ok (.bipush 20, 2) := by decide +kernel
theorem dX6_firstDraft_49 : decode cX6_firstDraft 49 = .ok (.iastore, 1) := by decide +kernel
theorem dX6_firstDraft_50 : decode cX6_firstDraft 50 = .ok (.aload_n 0, 1) := by decide +kernel
theorem dX6_firstDraft_51 : decode cX6_firstDraft 51 = .ok (.getfield 20, 3) := by decide +kernel
theorem dX6_firstDraft_54 : decode cX6_firstDraft 54 = .ok (.bipush 35, 2) := by decide +kernel
theorem dX6_firstDraft_56 : decode cX6_firstDraft 56 = .ok (.iconst 3, 1) := by decide +kernel
theorem dX6_firstDraft_57 : decode cX6_firstDraft 57 = .ok (.iastore, 1) := by decide +kernel
theorem dX6_firstDraft_58 : decode cX6_firstDraft 58 = .ok (.return_, 1) := by decide +kernel
theorem dX6_keepDraft_0 : decode cX6_keepDraft 0 = .ok (.iconst 0, 1) := by decide +kernel
theorem dX6_keepDraft_1 : decode cX6_keepDraft 1 = .ok (.istore_n 1, 1) := by decide +kernel
theorem dX6_keepDraft_2 : decode cX6_keepDraft 2 = .ok (.iload_n 1, 1) := by decide +kernel
theorem dX6_keepDraft_3 : decode cX6_keepDraft 3 = .ok (.bipush 70, 2) := by decide +kernel
theorem dX6_keepDraft_5 : decode cX6_keepDraft 5 = .ok (.if_icmp .ge 21, 3) := by decide +kernel
theorem dX6_keepDraft_8 : decode cX6_keepDraft 8 = .ok (.aload_n 0, 1) := by decide +kernel
theorem dX6_keepDraft_9 : decode cX6_keepDraft 9 = .ok (.getfield 7, 3) := by decide +kernel
theorem dX6_keepDraft_12 : decode cX6_keepDraft 12 = .ok (.iload_n 1, 1) := by decide +kernel
theorem dX6_keepDraft_13 : decode cX6_keepDraft 13 = .ok (.aload_n 0, 1) := by decide +kernel
theorem dX6_keepDraft_14 : decode cX6_keepDraft 14 = .ok (.getfield 20, 3) := by decide +kernel
theorem dX6_keepDraft_17 : decode cX6_keepDraft 17 = .ok (.iload_n 1, 1) := by decide +kernel
theorem dX6_keepDraft_18 : decode cX6_keepDraft 18 = .ok (.iaload, 1) := by decide +kernel
theorem dX6_keepDraft_19 : decode cX6_keepDraft 19 = .ok (.iastore, 1) := by decide +kernel
theorem dX6_keepDraft_20 : decode cX6_keepDraft 20 = .ok (.iinc 1 1, 3) := by decide +kernel
theorem dX6_keepDraft_23 : decode cX6_keepDraft 23 = .ok (.goto (-21), 3) := by decide +kernel
theorem dX6_keepDraft_26 : decode cX6_keepDraft 26 = .ok (.aload_n 0, 1) := by decide +kernel
theorem dX6_keepDraft_27 : decode cX6_keepDraft 27 = .ok (.getfield 16, 3) := by decide +kernel
theorem dX6_keepDraft_30 : decode cX6_keepDraft 30 = .ok (.iconst 0, 1) := by decide +kernel
theorem dX6_keepDraft_31 : decode cX6_keepDraft 31 = .ok (.iconst 0, 1) := by decide +kernel
theorem dX6_keepDraft_32 : decode cX6_keepDraft 32 = .ok (.bastore, 1) := by decide +kernel
theorem dX6_keepDraft_33 : decode cX6_keepDraft 33 = .ok (.aload_n 0, 1) := by decide +kernel
theorem dX6_keepDraft_34 : decode cX6_keepDraft 34 = .ok (.getfield 16, 3) := by decide +kernel
theorem dX6_keepDraft_37 : decode cX6_keepDraft 37 = .ok (.iconst 1, 1) := by decide +kernel
theorem dX6_keepDraft_38 : decode cX6_keepDraft 38 = .ok (.iconst 0, 1) := by decide +kernel
theorem dX6_keepDraft_39 : decode cX6_keepDraft 39 = .ok (.bastore, 1) := by decide +kernel
theorem dX6_keepDraft_40 : decode cX6_keepDraft 40 = .ok (.return_, 1) := by decide +kernel
theorem dX6_feed_0 : decode cX6_feed 0 = .ok (.iload_n 1, 1) := by decide +kernel
theorem dX6_feed_1 : decode cX6_feed 1 = .ok (.i2l, 1) := by decide +kernel
theorem dX6_feed_2 : decode cX6_feed 2 = .ok (.lconst 0, 1) := by decide +kernel
theorem dX6_feed_3 : decode cX6_feed 3 = .ok (.ldc2_w 65, 3) := by decide +kernel
theorem dX6_feed_6 : decode cX6_feed 6 = .ok (.invokestatic 67, 3) := by decide +kernel
theorem dX6_feed_9 : decode cX6_feed 9 = .ok (.ifCond .ne 5, 3) := by decide +kernel
theorem dX6_feed_12 : decode cX6_feed 12 = .ok (.iconst (-1), 1) := by decide +kernel
theorem dX6_feed_13 : decode cX6_feed 13 = .ok (.ireturn, 1) := by decide +kernel
theorem dX6_feed_14 : decode cX6_feed 14 = .ok (.aload_n 0, 1) := by decide +kernel
theorem dX6_feed_15 : decode cX6_feed 15 = .ok (.getfield 71, 3) := by decide +kernel
theorem dX6_feed_18 : decode cX6_feed 18 = .ok (.sipush 160, 3) := by decide +kernel
theorem dX6_feed_21 : decode cX6_feed 21 = .ok (.if_icmp .ne 6, 3) := by decide +kernel
theorem dX6_feed_24 : decode cX6_feed 24 = .ok (.bipush (-3), 2) := by decide +kernel
theorem dX6_feed_26 : decode cX6_feed 26 = .ok (.ireturn, 1) := by decide +kernel
theorem dX6_feed_27 : decode cX6_feed 27 = .ok (.aload_n 0, 1) := by decide +kernel
theorem dX6_feed_28 : decode cX6_feed 28 = .ok (.getfield 26, 3) := by decide +kernel
theorem dX6_feed_31 : decode cX6_feed 31 = .ok (.aload_n 0, 1) := by decide +kernel
theorem dX6_feed_32 : decode cX6_feed 32 = .ok (.getfield 71, 3) := by decide +kernel
theorem dX6_feed_35 : decode cX6_feed 35 = .ok (.iload_n 1, 1) := by decide +kernel
theorem dX6_feed_36 : decode cX6_feed 36 = .ok (.iastore, 1) := by decide +kernel
theorem dX6_feed_37 : decode cX6_feed 37 = .ok (.aload_n 0, 1) := by decide +kernel
theorem dX6_feed_38 : decode cX6_feed 38 = .ok (.dup, 1) := by decide +kernel
theorem dX6_feed_39 : decode cX6_feed 39 = .ok (.getfield 71, 3) := by decide +kernel
theorem dX6_feed_42 : decode cX6_feed 42 = .ok (.iconst 1, 1) := by decide +kernel
theorem dX6_feed_43 : decode cX6_feed 43 = .ok (.iadd, 1) := by decide +kernel
theorem dX6_feed_44 : decode cX6_feed 44 = .ok (.putfield 71, 3) := by decide +kernel
theorem dX6_feed_47 : decode cX6_feed 47 = .ok (.aload_n 0, 1) := by decide +kernel
theorem dX6_feed_48 : decode cX6_feed 48 = .ok (.getfield 71, 3) := by decide +kernel
theorem dX6_feed_51 : decode cX6_feed 51 = .ok (.ireturn, 1) := by decide +kernel
theorem dX6_end_0 : decode cX6_end 0 = .ok (.iload_n 1, 1) := by decide +kernel
theorem dX6_end_1 : decode cX6_end 1 = .ok (.i2l, 1) := by decide +kernel
theorem dX6_end_2 : decode cX6_end 2 = .ok (.lconst 0, 1) := by decide +kernel
theorem dX6_end_3 : decode cX6_end 3 = .ok (.aload_n 0, 1) := by decide +kernel
theorem dX6_end_4 : decode cX6_end 4 = .ok (.getfield 71, 3) := by decide +kernel
theorem dX6_end_7 : decode cX6_end 7 = .ok (.i2l, 1) := by decide +kernel
theorem dX6_end_8 : decode cX6_end 8 = .ok (.invokestatic 67, 3) := by decide +kernel
theorem dX6_end_11 : decode cX6_end 11 = .ok (.ifCond .ne 5, 3) := by decide +kernel
theorem dX6_end_14 : decode cX6_end 14 = .ok (.iconst (-1), 1) := by decide +kernel
theorem dX6_end_15 : decode cX6_end 15 = .ok (.ireturn, 1) := by decide +kernel
theorem dX6_end_16 : decode cX6_end 16 = .ok (.aload_n 0, 1) := by decide +kernel
theorem dX6_end_17 : decode cX6_end 17 = .ok (.getfield 71, 3) := by decide +kernel
theorem dX6_end_20 : decode cX6_end 20 = .ok (.istore_n 2, 1) := by decide +kernel
theorem dX6_end_21 : decode cX6_end 21 = .ok (.aload_n 0, 1) := by decide +kernel
theorem dX6_end_22 : decode cX6_end 22 = .ok (.iload_n 1, 1) := by decide +kernel
theorem dX6_end_23 : decode cX6_end 23 = .ok (.putfield 71, 3) := by decide +kernel
theorem dX6_end_26 : decode cX6_end 26 = .ok (.iload_n 2, 1) := by decide +kernel
theorem dX6_end_27 : decode cX6_end 27 = .ok (.ireturn, 1) := by decide +kernel
theorem dX6_requires_0 : decode cX6_requires 0 = .ok (.iload_n 1, 1) := by decide +kernel
theorem dX6_requires_1 : decode cX6_requires 1 = .ok (.ifCond .ne 23, 3) := by decide +kernel
theorem dX6_requires_4 : decode cX6_requires 4 = .ok (.aload_n 0, 1) := by decide +kernel
theorem dX6_requires_5 : decode cX6_requires 5 = .ok (.getfield 75, 3) := by decide +kernel
theorem dX6_requires_8 : decode cX6_requires 8 = .ok (.ifCond .ne 16, 3) := by decide +kernel
theorem dX6_requires_11 : decode cX6_requires 11 = .ok (.aload_n 0, 1) := by decide +kernel
theorem dX6_requires_12 : decode cX6_requires 12 = .ok (.iload_n 2, 1) := by decide +kernel
theorem dX6_requires_13 : decode cX6_requires 13 = .ok (.putfield 75, 3) := by decide +kernel
theorem dX6_requires_16 : decode cX6_requires 16 = .ok (.aload_n 0, 1) := by decide +kernel
theorem dX6_requires_17 : decode cX6_requires 17 = .ok (.aload_n 0, 1) := by decide +kernel
theorem dX6_requires_18 : decode cX6_requires 18 = .ok (.getfield 78, 3) := by decide +kernel
theorem dX6_requires_21 : decode cX6_requires 21 = .ok (.putfield 81, 3) := by decide +kernel
theorem dX6_requires_24 : decode cX6_requires 24 = .ok (.return_, 1) := by decide +kernel
theorem dX6_byteAt_0 : decode cX6_byteAt 0 = .ok (.iload_n 1, 1) := by decide +kernel
theorem dX6_byteAt_1 : decode cX6_byteAt 1 = .ok (.aload_n 0, 1) := by decide +kernel
theorem dX6_byteAt_2 : decode cX6_byteAt 2 = .ok (.getfield 71, 3) := by decide +kernel
theorem dX6_byteAt_5 : decode cX6_byteAt 5 = .ok (.if_icmp .ge 12, 3) := by decide +kernel
theorem dX6_byteAt_8 : decode cX6_byteAt 8 = .ok (.aload_n 0, 1) := by decide +kernel
theorem dX6_byteAt_9 : decode cX6_byteAt 9 = .ok (.getfield 26, 3) := by decide +kernel
theorem dX6_byteAt_12 : decode cX6_byteAt 12 = .ok (.iload_n 1, 1) := by decide +kernel
theorem dX6_byteAt_13 : decode cX6_byteAt 13 = .ok (.iaload, 1) := by decide +kernel
theorem dX6_byteAt_14 : decode cX6_byteAt 14 = .ok (.goto 4, 3) := by decide +kernel
theorem dX6_byteAt_17 : decode cX6_byteAt 17 = .ok (.iconst (-1), 1) := by decide +kernel
theorem dX6_byteAt_18 : decode cX6_byteAt 18 = .ok (.ireturn, 1) := by decide +kernel
theorem dX6_is_0 : decode cX6_is 0 = .ok (.aload_n 0, 1) := by decide +kernel
theorem dX6_is_1 : decode cX6_is 1 = .ok (.getfield 84, 3) := by decide +kernel
theorem dX6_is_4 : decode cX6_is 4 = .ok (.aload_n 0, 1) := by decide +kernel
theorem dX6_is_5 : decode cX6_is 5 = .ok (.getfield 78, 3) := by decide +kernel
theorem dX6_is_8 : decode cX6_is 8 = .ok (.isub, 1) := by decide +kernel
theorem dX6_is_9 : decode cX6_is 9 = .ok (.iload_n 1, 1) := by decide +kernel
theorem dX6_is_10 : decode cX6_is 10 = .ok (.if_icmp .ne 63, 3) := by decide +kernel
theorem dX6_is_13 : decode cX6_is 13 = .ok (.aload_n 0, 1) := by decide +kernel
theorem dX6_is_14 : decode cX6_is 14 = .ok (.aload_n 0, 1) := by decide +kernel
theorem dX6_is_15 : decode cX6_is 15 = .ok (.getfield 78, 3) := by decide +kernel
theorem dX6_is_18 : decode cX6_is 18 = .ok (.invokevirtual 87, 3) := by decide +kernel
theorem dX6_is_21 : decode cX6_is 21 = .ok (.iload_n 2, 1) := by decide +kernel
theorem dX6_is_22 : decode cX6_is 22 = .ok (.if_icmp .ne 51, 3) := by decide +kernel
theorem dX6_is_25 : decode cX6_is 25 = .ok (.aload_n 0, 1) := by decide +kernel
theorem dX6_is_26 : decode cX6_is 26 = .ok (.aload_n 0, 1) := by decide +kernel
theorem dX6_is_27 : decode cX6_is 27 = .ok (.getfield 78, 3) := by decide +kernel
theorem dX6_is_30 : decode cX6_is 30 = .ok (.iconst 1, 1) := by decide +kernel
theorem dX6_is_31 : decode cX6_is 31 = .ok (.iadd, 1) := by decide +kernel
theorem dX6_is_32 : decode cX6_is 32 = .ok (.invokevirtual 87, 3) := by decide +kernel
theorem dX6_is_35 : decode cX6_is 35 = .ok (.iload_n 3, 1) := by decide +kernel
theorem dX6_is_36 : decode cX6_is 36 = .ok (.if_icmp .ne 37, 3) := by decide +kernel
theorem dX6_is_39 : decode cX6_is 39 = .ok (.aload_n 0, 1) := by decide +kernel
theorem dX6_is_40 : decode cX6_is 40 = .ok (.aload_n 0, 1) := by decide +kernel
theorem dX6_is_41 : decode cX6_is 41 = .ok (.getfield 78, 3) := by decide +kernel
theorem dX6_is_44 : decode cX6_is 44 = .ok (.iconst 2, 1) := by decide +kernel
theorem dX6_is_45 : decode cX6_is 45 = .ok (.iadd, 1) := by decide +kernel
theorem dX6_is_46 : decode cX6_is 46 = .ok (.invokevirtual 87, 3) := by decide +kernel
theorem dX6_is_49 : decode cX6_is 49 = .ok (.iload 4, 2) := by decide +kernel
theorem dX6_is_51 : decode cX6_is 51 = .ok (.if_icmp .ne 22, 3) := by decide +kernel
theorem dX6_is_54 : decode cX6_is 54 = .ok (.aload_n 0, 1) := by decide +kernel
theorem dX6_is_55 : decode cX6_is 55 = .ok (.aload_n 0, 1) := by decide +kernel
theorem dX6_is_56 : decode cX6_is 56 = .ok (.getfield 78, 3) := by decide +kernel
theorem dX6_is_59 : decode cX6_is 59 = .ok (.iconst 3, 1) := by decide +kernel
theorem dX6_is_60 : decode cX6_is 60 = .ok (.iadd, 1) := by decide +kernel
theorem dX6_is_61 : decode cX6_is 61 = .ok (.invokevirtual 87, 3) := by decide +kernel
theorem dX6_is_64 : decode cX6_is 64 = .ok (.iload 5, 2) := by decide +kernel
theorem dX6_is_66 : decode cX6_is 66 = .ok (.if_icmp .ne 7, 3) := by decide +kernel
theorem dX6_is_69 : decode cX6_is 69 = .ok (.iconst 1, 1) := by decide +kernel
theorem dX6_is_70 : decode cX6_is 70 = .ok (.goto 4, 3) := by decide +kernel
theorem dX6_is_73 : decode cX6_is 73 = .ok (.iconst 0, 1) := by decide +kernel
theorem dX6_is_74 : decode cX6_is 74 = .ok (.ireturn, 1) := by decide +kernel
theorem dX6_endsIn_0 : decode cX6_endsIn 0 = .ok (.aload_n 0, 1) := by decide +kernel
theorem dX6_endsIn_1 : decode cX6_endsIn 1 = .ok (.aload_n 0, 1) := by decide +kernel
theorem dX6_endsIn_2 : decode cX6_endsIn 2 = .ok (.getfield 78, 3) := by decide +kernel
theorem dX6_endsIn_5 : decode cX6_endsIn 5 = .ok (.iconst 4, 1) := by decide +kernel
theorem dX6_endsIn_6 : decode cX6_endsIn 6 = .ok (.iadd, 1) := by decide +kernel
theorem dX6_endsIn_7 : decode cX6_endsIn 7 = .ok (.invokevirtual 87, 3) := by decide +kernel
theorem dX6_endsIn_10 : decode cX6_endsIn 10 = .ok (.iload_n 1, 1) := by decide +kernel
theorem dX6_endsIn_11 : decode cX6_endsIn 11 = .ok (.if_icmp .ne 25, 3) := by decide +kernel
theorem dX6_endsIn_14 : decode cX6_endsIn 14 = .ok (.iload_n 2, 1) := by decide +kernel
theorem dX6_endsIn_15 : decode cX6_endsIn 15 = .ok (.ifCond .eq 17, 3) := by decide +kernel
theorem dX6_endsIn_18 : decode cX6_endsIn 18 = .ok (.aload_n 0, 1) := by decide +kernel
theorem dX6_endsIn_19 : decode cX6_endsIn 19 = .ok (.aload_n 0, 1) := by decide +kernel
theorem dX6_endsIn_20 : decode cX6_endsIn 20 = .ok (.getfield 78, 3) := by decide +kernel
theorem dX6_endsIn_23 : decode cX6_endsIn 23 = .ok (.iconst 5, 1) := by decide +kernel
theorem dX6_endsIn_24 : decode cX6_endsIn 24 = .ok (.iadd, 1) := by decide +kernel
theorem dX6_endsIn_25 : decode cX6_endsIn 25 = .ok (.invokevirtual 87, 3) := by decide +kernel
theorem dX6_endsIn_28 : decode cX6_endsIn 28 = .ok (.iload_n 2, 1) := by decide +kernel
theorem dX6_endsIn_29 : decode cX6_endsIn 29 = .ok (.if_icmp .ne 7, 3) := by decide +kernel
theorem dX6_endsIn_32 : decode cX6_endsIn 32 = .ok (.iconst 1, 1) := by decide +kernel
theorem dX6_endsIn_33 : decode cX6_endsIn 33 = .ok (.goto 4, 3) := by decide +kernel
theorem dX6_endsIn_36 : decode cX6_endsIn 36 = .ok (.iconst 0, 1) := by decide +kernel
theorem dX6_endsIn_37 : decode cX6_endsIn 37 = .ok (.ireturn, 1) := by decide +kernel
theorem dX6_lineNow_0 : decode cX6_lineNow 0 = .ok (.aload_n 0, 1) := by decide +kernel
theorem dX6_lineNow_1 : decode cX6_lineNow 1 = .ok (.iconst 5, 1) := by decide +kernel
theorem dX6_lineNow_2 : decode cX6_lineNow 2 = .ok (.bipush 112, 2) := by decide +kernel
theorem dX6_lineNow_4 : decode cX6_lineNow 4 = .ok (.bipush 108, 2) := by decide +kernel
theorem dX6_lineNow_6 : decode cX6_lineNow 6 = .ok (.bipush 97, 2) := by decide +kernel
theorem dX6_lineNow_8 : decode cX6_lineNow 8 = .ok (.bipush 105, 2) := by decide +kernel
theorem dX6_lineNow_10 : decode cX6_lineNow 10 = .ok (.invokevirtual 91, 3) := by decide +kernel
theorem dX6_lineNow_13 : decode cX6_lineNow 13 = .ok (.ifCond .eq 15, 3) := by decide +kernel
theorem dX6_lineNow_16 : decode cX6_lineNow 16 = .ok (.aload_n 0, 1) := by decide +kernel
theorem dX6_lineNow_17 : decode cX6_lineNow 17 = .ok (.bipush 110, 2) := by decide +kernel
theorem dX6_lineNow_19 : decode cX6_lineNow 19 = .ok (.iconst 0, 1) := by decide +kernel
theorem dX6_lineNow_20 : decode cX6_lineNow 20 = .ok (.invokevirtual 95, 3) := by decide +kernel
theorem dX6_lineNow_23 : decode cX6_lineNow 23 = .ok (.ifCond .eq 5, 3) := by decide +kernel
theorem dX6_lineNow_26 : decode cX6_lineNow 26 = .ok (.iconst 0, 1) := by decide +kernel
theorem dX6_lineNow_27 : decode cX6_lineNow 27 = .ok (.ireturn, 1) := by decide +kernel
theorem dX6_lineNow_28 : decode cX6_lineNow 28 = .ok (.aload_n 0, 1) := by decide +kernel
theorem dX6_lineNow_29 : decode cX6_lineNow 29 = .ok (.iconst 5, 1) := by decide +kernel
theorem dX6_lineNow_30 : decode cX6_lineNow 30 = .ok (.bipush 115, 2) := by decide +kernel
theorem dX6_lineNow_32 : decode cX6_lineNow 32 = .ok (.bipush 97, 2) := by decide +kernel
theorem dX6_lineNow_34 : decode cX6_lineNow 34 = .ok (.bipush 118, 2) := by decide +kernel
theorem dX6_lineNow_36 : decode cX6_lineNow 36 = .ok (.bipush 101, 2) := by decide +kernel
theorem dX6_lineNow_38 : decode cX6_lineNow 38 = .ok (.invokevirtual 91, 3) := by decide +kernel
theorem dX6_lineNow_41 : decode cX6_lineNow 41 = .ok (.ifCond .eq 15, 3) := by decide +kernel
theorem dX6_lineNow_44 : decode cX6_lineNow 44 = .ok (.aload_n 0, 1) := by decide +kernel
theorem dX6_lineNow_45 : decode cX6_lineNow 45 = .ok (.bipush 114, 2) := by decide +kernel
theorem dX6_lineNow_47 : decode cX6_lineNow 47 = .ok (.iconst 0, 1) := by decide +kernel
theorem dX6_lineNow_48 : decode cX6_lineNow 48 = .ok (.invokevirtual 95, 3) := by decide +kernel
theorem dX6_lineNow_51 : decode cX6_lineNow 51 = .ok (.ifCond .eq 5, 3) := by decide +kernel
theorem dX6_lineNow_54 : decode cX6_lineNow 54 = .ok (.iconst 1, 1) := by decide +kernel
theorem dX6_lineNow_55 : decode cX6_lineNow 55 = .ok (.ireturn, 1) := by decide +kernel
theorem dX6_lineNow_56 : decode cX6_lineNow 56 = .ok (.aload_n 0, 1) := by decide +kernel
theorem dX6_lineNow_57 : decode cX6_lineNow 57 = .ok (.iconst 4, 1) := by decide +kernel
theorem dX6_lineNow_58 : decode cX6_lineNow 58 = .ok (.bipush 119, 2) := by decide +kernel
theorem dX6_lineNow_60 : decode cX6_lineNow 60 = .ok (.bipush 97, 2) := by decide +kernel
theorem dX6_lineNow_62 : decode cX6_lineNow 62 = .ok (.bipush 114, 2) := by decide +kernel
theorem dX6_lineNow_64 : decode cX6_lineNow 64 = .ok (.bipush 121, 2) := by decide +kernel
theorem dX6_lineNow_66 : decode cX6_lineNow 66 = .ok (.invokevirtual 91, 3) := by decide +kernel
theorem dX6_lineNow_69 : decode cX6_lineNow 69 = .ok (.ifCond .eq 5, 3) := by decide +kernel
theorem dX6_lineNow_72 : decode cX6_lineNow 72 = .ok (.iconst 2, 1) := by decide +kernel
theorem dX6_lineNow_73 : decode cX6_lineNow 73 = .ok (.ireturn, 1) := by decide +kernel
theorem dX6_lineNow_74 : decode cX6_lineNow 74 = .ok (.aload_n 0, 1) := by decide +kernel
theorem dX6_lineNow_75 : decode cX6_lineNow 75 = .ok (.iconst 5, 1) := by decide +kernel
theorem dX6_lineNow_76 : decode cX6_lineNow 76 = .ok (.bipush 101, 2) := by decide +kernel
theorem dX6_lineNow_78 : decode cX6_lineNow 78 = .ok (.bipush 97, 2) := by decide +kernel
theorem dX6_lineNow_80 : decode cX6_lineNow 80 = .ok (.bipush 114, 2) := by decide +kernel
theorem dX6_lineNow_82 : decode cX6_lineNow 82 = .ok (.bipush 108, 2) := by decide +kernel
theorem dX6_lineNow_84 : decode cX6_lineNow 84 = .ok (.invokevirtual 91, 3) := by decide +kernel
theorem dX6_lineNow_87 : decode cX6_lineNow 87 = .ok (.ifCond .eq 15, 3) := by decide +kernel
theorem dX6_lineNow_90 : decode cX6_lineNow 90 = .ok (.aload_n 0, 1) := by decide +kernel
theorem dX6_lineNow_91 : decode cX6_lineNow 91 = .ok (.bipush 121, 2) := by decide +kernel
theorem dX6_lineNow_93 : decode cX6_lineNow 93 = .ok (.iconst 0, 1) := by decide +kernel
theorem dX6_lineNow_94 : decode cX6_lineNow 94 = .ok (.invokevirtual 95, 3) := by decide +kernel
theorem dX6_lineNow_97 : decode cX6_lineNow 97 = .ok (.ifCond .eq 5, 3) := by decide +kernel
theorem dX6_lineNow_100 : decode cX6_lineNow 100 = .ok (.iconst 3, 1) := by decide +kernel
theorem dX6_lineNow_101 : decode cX6_lineNow 101 = .ok (.ireturn, 1) := by decide +kernel
theorem dX6_lineNow_102 : decode cX6_lineNow 102 = .ok (.aload_n 0, 1) := by decide +kernel
theorem dX6_lineNow_103 : decode cX6_lineNow 103 = .ok (.iconst 4, 1) := by decide +kernel
theorem dX6_lineNow_104 : decode cX6_lineNow 104 = .ok (.bipush 109, 2) := by decide +kernel
theorem dX6_lineNow_106 : decode cX6_lineNow 106 = .ok (.bipush 97, 2) := by decide +kernel
theorem dX6_lineNow_108 : decode cX6_lineNow 108 = .ok (.bipush 114, 2) := by decide +kernel
theorem dX6_lineNow_110 : decode cX6_lineNow 110 = .ok (.bipush 107, 2) := by decide +kernel
theorem dX6_lineNow_112 : decode cX6_lineNow 112 = .ok (.invokevirtual 91, 3) := by decide +kernel
theorem dX6_lineNow_115 : decode cX6_lineNow 115 = .ok (.ifCond .eq 5, 3) := by decide +kernel
theorem dX6_lineNow_118 : decode cX6_lineNow 118 = .ok (.iconst 4, 1) := by decide +kernel
theorem dX6_lineNow_119 : decode cX6_lineNow 119 = .ok (.ireturn, 1) := by decide +kernel
theorem dX6_lineNow_120 : decode cX6_lineNow 120 = .ok (.aload_n 0, 1) := by decide +kernel
theorem dX6_lineNow_121 : decode cX6_lineNow 121 = .ok (.iconst 4, 1) := by decide +kernel
theorem dX6_lineNow_122 : decode cX6_lineNow 122 = .ok (.bipush 99, 2) := by decide +kernel
theorem dX6_lineNow_124 : decode cX6_lineNow 124 = .ok (.bipush 111, 2) := by decide +kernel
theorem dX6_lineNow_126 : decode cX6_lineNow 126 = .ok (.bipush 111, 2) := by decide +kernel
theorem dX6_lineNow_128 : decode cX6_lineNow 128 = .ok (.bipush 108, 2) := by decide +kernel
theorem dX6_lineNow_130 : decode cX6_lineNow 130 = .ok (.invokevirtual 91, 3) := by decide +kernel
theorem dX6_lineNow_133 : decode cX6_lineNow 133 = .ok (.ifCond .eq 5, 3) := by decide +kernel
theorem dX6_lineNow_136 : decode cX6_lineNow 136 = .ok (.iconst 5, 1) := by decide +kernel
theorem dX6_lineNow_137 : decode cX6_lineNow 137 = .ok (.ireturn, 1) := by decide +kernel
theorem dX6_lineNow_138 : decode cX6_lineNow 138 = .ok (.aload_n 0, 1) := by decide +kernel
theorem dX6_lineNow_139 : decode cX6_lineNow 139 = .ok (.bipush 6, 2) := by decide +kernel
theorem dX6_lineNow_141 : decode cX6_lineNow 141 = .ok (.bipush 115, 2) := by decide +kernel
theorem dX6_lineNow_143 : decode cX6_lineNow 143 = .ok (.bipush 112, 2) := by decide +kernel
theorem dX6_lineNow_145 : decode cX6_lineNow 145 = .ok (.bipush 114, 2) := by decide +kernel
theorem dX6_lineNow_147 : decode cX6_lineNow 147 = .ok (.bipush 101, 2) := by decide +kernel
theorem dX6_lineNow_149 : decode cX6_lineNow 149 = .ok (.invokevirtual 91, 3) := by decide +kernel
theorem dX6_lineNow_152 : decode cX6_lineNow 152 = .ok (.ifCond .eq 17, 3) := by decide +kernel
theorem dX6_lineNow_155 : decode cX6_lineNow 155 = .ok (.aload_n 0, 1) := by decide +kernel
theorem dX6_lineNow_156 : decode cX6_lineNow 156 = .ok (.bipush 97, 2) := by decide +kernel
theorem dX6_lineNow_158 : decode cX6_lineNow 158 = .ok (.bipush 100, 2) := by decide +kernel
theorem dX6_lineNow_160 : decode cX6_lineNow 160 = .ok (.invokevirtual 95, 3) := by decide +kernel
theorem dX6_lineNow_163 : decode cX6_lineNow 163 = .ok (.ifCond .eq 6, 3) := by decide +kernel
theorem dX6_lineNow_166 : decode cX6_lineNow 166 = .ok (.bipush 6, 2) := by decide +kernel
theorem dX6_lineNow_168 : decode cX6_lineNow 168 = .ok (.ireturn, 1) := by decide +kernel
theorem dX6_lineNow_169 : decode cX6_lineNow 169 = .ok (.aload_n 0, 1) := by decide +kernel
theorem dX6_lineNow_170 : decode cX6_lineNow 170 = .ok (.iconst 5, 1) := by decide +kernel
theorem dX6_lineNow_171 : decode cX6_lineNow 171 = .ok (.bipush 108, 2) := by decide +kernel
theorem dX6_lineNow_173 : decode cX6_lineNow 173 = .ok (.bipush 105, 2) := by decide +kernel
theorem dX6_lineNow_175 : decode cX6_lineNow 175 = .ok (.bipush 110, 2) := by decide +kernel
theorem dX6_lineNow_177 : decode cX6_lineNow 177 = .ok (.bipush 101, 2) := by decide +kernel
theorem dX6_lineNow_179 : decode cX6_lineNow 179 = .ok (.invokevirtual 91, 3) := by decide +kernel
theorem dX6_lineNow_182 : decode cX6_lineNow 182 = .ok (.ifCond .eq 18, 3) := by decide +kernel
theorem dX6_lineNow_185 : decode cX6_lineNow 185 = .ok (.aload_n 0, 1) := by decide +kernel
theorem dX6_lineNow_186 : decode cX6_lineNow 186 = .ok (.bipush 115, 2) := by decide +kernel
theorem dX6_lineNow_188 : decode cX6_lineNow 188 = .ok (.iconst 0, 1) := by decide +kernel
theorem dX6_lineNow_189 : decode cX6_lineNow 189 = .ok (.invokevirtual 95, 3) := by decide +kernel
theorem dX6_lineNow_192 : decode cX6_lineNow 192 = .ok (.ifCond .eq 8, 3) := by decide +kernel
theorem dX6_lineNow_195 : decode cX6_lineNow 195 = .ok (.bipush 7, 2) := by decide +kernel
theorem dX6_lineNow_197 : decode cX6_lineNow 197 = .ok (.goto 5, 3) := by decide +kernel
theorem dX6_lineNow_200 : decode cX6_lineNow 200 = .ok (.bipush (-4), 2) := by decide +kernel
theorem dX6_lineNow_202 : decode cX6_lineNow 202 = .ok (.ireturn, 1) := by decide +kernel
theorem dX6_reads_0 : decode cX6_reads 0 = .ok (.aload_n 0, 1) := by decide +kernel
theorem dX6_reads_1 : decode cX6_reads 1 = .ok (.getfield 75, 3) := by decide +kernel
theorem dX6_reads_4 : decode cX6_reads 4 = .ok (.ifCond .le 4, 3) := by decide +kernel
theorem dX6_reads_7 : decode cX6_reads 7 = .ok (.return_, 1) := by decide +kernel
theorem dX6_reads_8 : decode cX6_reads 8 = .ok (.aload_n 0, 1) := by decide +kernel
theorem dX6_reads_9 : decode cX6_reads 9 = .ok (.aload_n 0, 1) := by decide +kernel
theorem dX6_reads_10 : decode cX6_reads 10 = .ok (.getfield 84, 3) := by decide +kernel
theorem dX6_reads_13 : decode cX6_reads 13 = .ok (.invokevirtual 87, 3) := by decide +kernel
theorem dX6_reads_16 : decode cX6_reads 16 = .ok (.bipush 32, 2) := by decide +kernel
theorem dX6_reads_18 : decode cX6_reads 18 = .ok (.if_icmp .ne 16, 3) := by decide +kernel
theorem dX6_reads_21 : decode cX6_reads 21 = .ok (.aload_n 0, 1) := by decide +kernel
theorem dX6_reads_22 : decode cX6_reads 22 = .ok (.dup, 1) := by decide +kernel
theorem dX6_reads_23 : decode cX6_reads 23 = .ok (.getfield 84, 3) := by decide +kernel
theorem dX6_reads_26 : decode cX6_reads 26 = .ok (.iconst 1, 1) := by decide +kernel
theorem dX6_reads_27 : decode cX6_reads 27 = .ok (.iadd, 1) := by decide +kernel
theorem dX6_reads_28 : decode cX6_reads 28 = .ok (.putfield 84, 3) := by decide +kernel
theorem dX6_reads_31 : decode cX6_reads 31 = .ok (.goto (-23), 3) := by decide +kernel
theorem dX6_reads_34 : decode cX6_reads 34 = .ok (.aload_n 0, 1) := by decide +kernel
theorem dX6_reads_35 : decode cX6_reads 35 = .ok (.aload_n 0, 1) := by decide +kernel
theorem dX6_reads_36 : decode cX6_reads 36 = .ok (.getfield 84, 3) := by decide +kernel
theorem dX6_reads_39 : decode cX6_reads 39 = .ok (.putfield 78, 3) := by decide +kernel
theorem dX6_reads_42 : decode cX6_reads 42 = .ok (.aload_n 0, 1) := by decide +kernel
theorem dX6_reads_43 : decode cX6_reads 43 = .ok (.aload_n 0, 1) := by decide +kernel
theorem dX6_reads_44 : decode cX6_reads 44 = .ok (.getfield 84, 3) := by decide +kernel
theorem dX6_reads_47 : decode cX6_reads 47 = .ok (.invokevirtual 87, 3) := by decide +kernel
theorem dX6_reads_50 : decode cX6_reads 50 = .ok (.istore_n 1, 1) := by decide +kernel
theorem dX6_reads_51 : decode cX6_reads 51 = .ok (.iload_n 1, 1) := by decide +kernel
theorem dX6_reads_52 : decode cX6_reads 52 = .ok (.ifCond .ge 11, 3) := by decide +kernel
theorem dX6_reads_55 : decode cX6_reads 55 = .ok (.aload_n 0, 1) := by decide +kernel
theorem dX6_reads_56 : decode cX6_reads 56 = .ok (.iconst 0, 1) := by decide +kernel
theorem dX6_reads_57 : decode cX6_reads 57 = .ok (.putfield 99, 3) := by decide +kernel
theorem dX6_reads_60 : decode cX6_reads 60 = .ok (.goto 214, 3) := by decide +kernel
theorem dX6_reads_63 : decode cX6_reads 63 = .ok (.iload_n 1, 1) := by decide +kernel
theorem dX6_reads_64 : decode cX6_reads 64 = .ok (.i2l, 1) := by decide +kernel
theorem dX6_reads_65 : decode cX6_reads 65 = .ok (.ldc2_w 102, 3) := by decide +kernel
theorem dX6_reads_68 : decode cX6_reads 68 = .ok (.ldc2_w 104, 3) := by decide +kernel
theorem dX6_reads_71 : decode cX6_reads 71 = .ok (.invokestatic 67, 3) := by decide +kernel
theorem dX6_reads_74 : decode cX6_reads 74 = .ok (.ifCond .eq 42, 3) := by decide +kernel
theorem dX6_reads_77 : decode cX6_reads 77 = .ok (.aload_n 0, 1) := by decide +kernel
theorem dX6_reads_78 : decode cX6_reads 78 = .ok (.iconst 1, 1) := by decide +kernel
theorem dX6_reads_79 : decode cX6_reads 79 = .ok (.putfield 99, 3) := by decide +kernel
theorem dX6_reads_82 : decode cX6_reads 82 = .ok (.aload_n 0, 1) := by decide +kernel
theorem dX6_reads_83 : decode cX6_reads 83 = .ok (.aload_n 0, 1) := by decide +kernel
theorem dX6_reads_84 : decode cX6_reads 84 = .ok (.getfield 84, 3) := by decide +kernel
theorem dX6_reads_87 : decode cX6_reads 87 = .ok (.invokevirtual 87, 3) := by decide +kernel
theorem dX6_reads_90 : decode cX6_reads 90 = .ok (.i2l, 1) := by decide +kernel
theorem dX6_reads_91 : decode cX6_reads 91 = .ok (.ldc2_w 102, 3) := by decide +kernel
theorem dX6_reads_94 : decode cX6_reads 94 = .ok (.ldc2_w 104, 3) := by decide +kernel
theorem dX6_reads_97 : decode cX6_reads 97 = .ok (.invokestatic 67, 3) := by decide +kernel
theorem dX6_reads_100 : decode cX6_reads 100 = .ok (.ifCond .eq 174, 3) := by decide +kernel
theorem dX6_reads_103 : decode cX6_reads 103 = .ok (.aload_n 0, 1) := by decide +kernel
theorem dX6_reads_104 : decode cX6_reads 104 = .ok (.dup, 1) := by decide +kernel
theorem dX6_reads_105 : decode cX6_reads 105 = .ok (.getfield 84, 3) := by decide +kernel
theorem dX6_reads_108 : decode cX6_reads 108 = .ok (.iconst 1, 1) := by decide +kernel
theorem dX6_reads_109 : decode cX6_reads 109 = .ok (.iadd, 1) := by decide +kernel
theorem dX6_reads_110 : decode cX6_reads 110 = .ok (.putfield 84, 3) := by decide +kernel
theorem dX6_reads_113 : decode cX6_reads 113 = .ok (.goto (-31), 3) := by decide +kernel
theorem dX6_reads_116 : decode cX6_reads 116 = .ok (.iload_n 1, 1) := by decide +kernel
theorem dX6_reads_117 : decode cX6_reads 117 = .ok (.i2l, 1) := by decide +kernel
theorem dX6_reads_118 : decode cX6_reads 118 = .ok (.ldc2_w 106, 3) := by decide +kernel
theorem dX6_reads_121 : decode cX6_reads 121 = .ok (.ldc2_w 108, 3) := by decide +kernel
theorem dX6_reads_124 : decode cX6_reads 124 = .ok (.invokestatic 67, 3) := by decide +kernel
theorem dX6_reads_127 : decode cX6_reads 127 = .ok (.ifCond .eq 116, 3) := by decide +kernel
theorem dX6_reads_130 : decode cX6_reads 130 = .ok (.aload_n 0, 1) := by decide +kernel
theorem dX6_reads_131 : decode cX6_reads 131 = .ok (.iconst 2, 1) := by decide +kernel
theorem dX6_reads_132 : decode cX6_reads 132 = .ok (.putfield 99, 3) := by decide +kernel
theorem dX6_reads_135 : decode cX6_reads 135 = .ok (.aload_n 0, 1) := by decide +kernel
theorem dX6_reads_136 : decode cX6_reads 136 = .ok (.iconst 0, 1) := by decide +kernel
theorem dX6_reads_137 : decode cX6_reads 137 = .ok (.putfield 110, 3) := by decide +kernel
theorem dX6_reads_140 : decode cX6_reads 140 = .ok (.aload_n 0, 1) := by decide +kernel
theorem dX6_reads_141 : decode cX6_reads 141 = .ok (.aload_n 0, 1) := by decide +kernel
theorem dX6_reads_142 : decode cX6_reads 142 = .ok (.getfield 84, 3) := by decide +kernel
theorem dX6_reads_145 : decode cX6_reads 145 = .ok (.invokevirtual 87, 3) := by decide +kernel
theorem dX6_reads_148 : decode cX6_reads 148 = .ok (.i2l, 1) := by decide +kernel
theorem dX6_reads_149 : decode cX6_reads 149 = .ok (.ldc2_w 106, 3) := by decide +kernel
theorem dX6_reads_152 : decode cX6_reads 152 = .ok (.ldc2_w 108, 3) := by decide +kernel
theorem dX6_reads_155 : decode cX6_reads 155 = .ok (.invokestatic 67, 3) := by decide +kernel
theorem dX6_reads_158 : decode cX6_reads 158 = .ok (.ifCond .eq 59, 3) := by decide +kernel
theorem dX6_reads_161 : decode cX6_reads 161 = .ok (.aload_n 0, 1) := by decide +kernel
theorem dX6_reads_162 : decode cX6_reads 162 = .ok (.aload_n 0, 1) := by decide +kernel
theorem dX6_reads_163 : decode cX6_reads 163 = .ok (.getfield 84, 3) := by decide +kernel
theorem dX6_reads_166 : decode cX6_reads 166 = .ok (.aload_n 0, 1) := by decide +kernel
theorem dX6_reads_167 : decode cX6_reads 167 = .ok (.getfield 78, 3) := by decide +kernel
theorem dX6_reads_170 : decode cX6_reads 170 = .ok (.isub, 1) := by decide +kernel
theorem dX6_reads_171 : decode cX6_reads 171 = .ok (.iconst 3, 1) := by decide +kernel
theorem dX6_reads_172 : decode cX6_reads 172 = .ok (.if_icmp .ge 25, 3) := by decide +kernel
theorem dX6_reads_175 : decode cX6_reads 175 = .ok (.bipush 10, 2) := by decide +kernel
theorem dX6_reads_177 : decode cX6_reads 177 = .ok (.aload_n 0, 1) := by decide +kernel
theorem dX6_reads_178 : decode cX6_reads 178 = .ok (.getfield 110, 3) := by decide +kernel
theorem dX6_reads_181 : decode cX6_reads 181 = .ok (.imul, 1) := by decide +kernel
theorem dX6_reads_182 : decode cX6_reads 182 = .ok (.aload_n 0, 1) := by decide +kernel
theorem dX6_reads_183 : decode cX6_reads 183 = .ok (.aload_n 0, 1) := by decide +kernel
theorem dX6_reads_184 : decode cX6_reads 184 = .ok (.getfield 84, 3) := by decide +kernel
theorem dX6_reads_187 : decode cX6_reads 187 = .ok (.invokevirtual 87, 3) := by decide +kernel
theorem dX6_reads_190 : decode cX6_reads 190 = .ok (.iadd, 1) := by decide +kernel
theorem dX6_reads_191 : decode cX6_reads 191 = .ok (.bipush 48, 2) := by decide +kernel
theorem dX6_reads_193 : decode cX6_reads 193 = .ok (.isub, 1) := by decide +kernel
theorem dX6_reads_194 : decode cX6_reads 194 = .ok (.goto 7, 3) := by decide +kernel
theorem dX6_reads_197 : decode cX6_reads 197 = .ok (.aload_n 0, 1) := by decide +kernel
theorem dX6_reads_198 : decode cX6_reads 198 = .ok (.getfield 110, 3) := by decide +kernel
theorem dX6_reads_201 : decode cX6_reads 201 = .ok (.putfield 110, 3) := by decide +kernel
theorem dX6_reads_204 : decode cX6_reads 204 = .ok (.aload_n 0, 1) := by decide +kernel
theorem dX6_reads_205 : decode cX6_reads 205 = .ok (.dup, 1) := by decide +kernel
theorem dX6_reads_206 : decode cX6_reads 206 = .ok (.getfield 84, 3) := by decide +kernel
theorem dX6_reads_209 : decode cX6_reads 209 = .ok (.iconst 1, 1) := by decide +kernel
theorem dX6_reads_210 : decode cX6_reads 210 = .ok (.iadd, 1) := by decide +kernel
theorem dX6_reads_211 : decode cX6_reads 211 = .ok (.putfield 84, 3) := by decide +kernel
theorem dX6_reads_214 : decode cX6_reads 214 = .ok (.goto (-74), 3) := by decide +kernel
theorem dX6_reads_217 : decode cX6_reads 217 = .ok (.aload_n 0, 1) := by decide +kernel
theorem dX6_reads_218 : decode cX6_reads 218 = .ok (.aload_n 0, 1) := by decide +kernel
theorem dX6_reads_219 : decode cX6_reads 219 = .ok (.getfield 84, 3) := by decide +kernel
theorem dX6_reads_222 : decode cX6_reads 222 = .ok (.aload_n 0, 1) := by decide +kernel
theorem dX6_reads_223 : decode cX6_reads 223 = .ok (.getfield 78, 3) := by decide +kernel
theorem dX6_reads_226 : decode cX6_reads 226 = .ok (.isub, 1) := by decide +kernel
theorem dX6_reads_227 : decode cX6_reads 227 = .ok (.iconst 3, 1) := by decide +kernel
theorem dX6_reads_228 : decode cX6_reads 228 = .ok (.if_icmp .gt 7, 3) := by decide +kernel
theorem dX6_reads_231 : decode cX6_reads 231 = .ok (.iconst 1, 1) := by decide +kernel
theorem dX6_reads_232 : decode cX6_reads 232 = .ok (.goto 4, 3) := by decide +kernel
theorem dX6_reads_235 : decode cX6_reads 235 = .ok (.iconst 0, 1) := by decide +kernel
theorem dX6_reads_236 : decode cX6_reads 236 = .ok (.iconst 1, 1) := by decide +kernel
theorem dX6_reads_237 : decode cX6_reads 237 = .ok (.invokevirtual 113, 3) := by decide +kernel
theorem dX6_reads_240 : decode cX6_reads 240 = .ok (.goto 34, 3) := by decide +kernel
theorem dX6_reads_243 : decode cX6_reads 243 = .ok (.aload_n 0, 1) := by decide +kernel
theorem dX6_reads_244 : decode cX6_reads 244 = .ok (.iconst 3, 1) := by decide +kernel
theorem dX6_reads_245 : decode cX6_reads 245 = .ok (.putfield 99, 3) := by decide +kernel
theorem dX6_reads_248 : decode cX6_reads 248 = .ok (.aload_n 0, 1) := by decide +kernel
theorem dX6_reads_249 : decode cX6_reads 249 = .ok (.iload_n 1, 1) := by decide +kernel
theorem dX6_reads_250 : decode cX6_reads 250 = .ok (.bipush 59, 2) := by decide +kernel
theorem dX6_reads_252 : decode cX6_reads 252 = .ok (.if_icmp .ne 7, 3) := by decide +kernel
theorem dX6_reads_255 : decode cX6_reads 255 = .ok (.iconst 1, 1) := by decide +kernel
theorem dX6_reads_256 : decode cX6_reads 256 = .ok (.goto 4, 3) := by decide +kernel
theorem dX6_reads_259 : decode cX6_reads 259 = .ok (.iconst 0, 1) := by decide +kernel
theorem dX6_reads_260 : decode cX6_reads 260 = .ok (.iconst 1, 1) := by decide +kernel
theorem dX6_reads_261 : decode cX6_reads 261 = .ok (.invokevirtual 113, 3) := by decide +kernel
theorem dX6_reads_264 : decode cX6_reads 264 = .ok (.aload_n 0, 1) := by decide +kernel
theorem dX6_reads_265 : decode cX6_reads 265 = .ok (.dup, 1) := by decide +kernel
theorem dX6_reads_266 : decode cX6_reads 266 = .ok (.getfield 84, 3) := by decide +kernel
theorem dX6_reads_269 : decode cX6_reads 269 = .ok (.iconst 1, 1) := by decide +kernel
theorem dX6_reads_270 : decode cX6_reads 270 = .ok (.iadd, 1) := by decide +kernel
theorem dX6_reads_271 : decode cX6_reads 271 = .ok (.putfield 84, 3) := by decide +kernel
theorem dX6_reads_274 : decode cX6_reads 274 = .ok (.return_, 1) := by decide +kernel
theorem dX6_readNumber_0 : decode cX6_readNumber 0 = .ok (.aload_n 0, 1) := by decide +kernel
theorem dX6_readNumber_1 : decode cX6_readNumber 1 = .ok (.getfield 75, 3) := by decide +kernel
theorem dX6_readNumber_4 : decode cX6_readNumber 4 = .ok (.ifCond .ne 21, 3) := by decide +kernel
theorem dX6_readNumber_7 : decode cX6_readNumber 7 = .ok (.aload_n 0, 1) := by decide +kernel
theorem dX6_readNumber_8 : decode cX6_readNumber 8 = .ok (.aload_n 0, 1) := by decide +kernel
theorem dX6_readNumber_9 : decode cX6_readNumber 9 = .ok (.getfield 99, 3) := by decide +kernel
theorem dX6_readNumber_12 : decode cX6_readNumber 12 = .ok (.iconst 2, 1) := by decide +kernel
theorem dX6_readNumber_13 : decode cX6_readNumber 13 = .ok (.if_icmp .ne 7, 3) := by decide +kernel
theorem dX6_readNumber_16 : decode cX6_readNumber 16 = .ok (.iconst 1, 1) := by decide +kernel
theorem dX6_readNumber_17 : decode cX6_readNumber 17 = .ok (.goto 4, 3) := by decide +kernel
theorem dX6_readNumber_20 : decode cX6_readNumber 20 = .ok (.iconst 0, 1) := by decide +kernel
theorem dX6_readNumber_21 : decode cX6_readNumber 21 = .ok (.iconst 2, 1) := by decide +kernel
theorem dX6_readNumber_22 : decode cX6_readNumber 22 = .ok (.invokevirtual 113, 3) := by decide +kernel
theorem dX6_readNumber_25 : decode cX6_readNumber 25 = .ok (.aload_n 0, 1) := by decide +kernel
theorem dX6_readNumber_26 : decode cX6_readNumber 26 = .ok (.getfield 75, 3) := by decide +kernel
theorem dX6_readNumber_29 : decode cX6_readNumber 29 = .ok (.ifCond .ne 20, 3) := by decide +kernel
theorem dX6_readNumber_32 : decode cX6_readNumber 32 = .ok (.aload_n 0, 1) := by decide +kernel
theorem dX6_readNumber_33 : decode cX6_readNumber 33 = .ok (.aload_n 0, 1) := by decide +kernel
theorem dX6_readNumber_34 : decode cX6_readNumber 34 = .ok (.getfield 110, 3) := by decide +kernel
theorem dX6_readNumber_37 : decode cX6_readNumber 37 = .ok (.i2l, 1) := by decide +kernel
theorem dX6_readNumber_38 : decode cX6_readNumber 38 = .ok (.iload_n 1, 1) := by decide +kernel
theorem dX6_readNumber_39 : decode cX6_readNumber 39 = .ok (.i2l, 1) := by decide +kernel
theorem dX6_readNumber_40 : decode cX6_readNumber 40 = .ok (.iload_n 2, 1) := by decide +kernel
theorem dX6_readNumber_41 : decode cX6_readNumber 41 = .ok (.i2l, 1) := by decide +kernel
theorem dX6_readNumber_42 : decode cX6_readNumber 42 = .ok (.invokestatic 67, 3) := by decide +kernel
theorem dX6_readNumber_45 : decode cX6_readNumber 45 = .ok (.iconst 3, 1) := by decide +kernel
theorem dX6_readNumber_46 : decode cX6_readNumber 46 = .ok (.invokevirtual 113, 3) := by decide +kernel
theorem dX6_readNumber_49 : decode cX6_readNumber 49 = .ok (.aload_n 0, 1) := by decide +kernel
theorem dX6_readNumber_50 : decode cX6_readNumber 50 = .ok (.getfield 75, 3) := by decide +kernel
theorem dX6_readNumber_53 : decode cX6_readNumber 53 = .ok (.ifCond .ne 10, 3) := by decide +kernel
theorem dX6_readNumber_56 : decode cX6_readNumber 56 = .ok (.aload_n 0, 1) := by decide +kernel
theorem dX6_readNumber_57 : decode cX6_readNumber 57 = .ok (.getfield 110, 3) := by decide +kernel
theorem dX6_readNumber_60 : decode cX6_readNumber 60 = .ok (.goto 4, 3) := by decide +kernel
theorem dX6_readNumber_63 : decode cX6_readNumber 63 = .ok (.iconst 0, 1) := by decide +kernel
theorem dX6_readNumber_64 : decode cX6_readNumber 64 = .ok (.istore_n 3, 1) := by decide +kernel
theorem dX6_readNumber_65 : decode cX6_readNumber 65 = .ok (.aload_n 0, 1) := by decide +kernel
theorem dX6_readNumber_66 : decode cX6_readNumber 66 = .ok (.invokevirtual 117, 3) := by decide +kernel
theorem dX6_readNumber_69 : decode cX6_readNumber 69 = .ok (.iload_n 3, 1) := by decide +kernel
theorem dX6_readNumber_70 : decode cX6_readNumber 70 = .ok (.ireturn, 1) := by decide +kernel
theorem dX6_readLines_0 : decode cX6_readLines 0 = .ok (.aload_n 0, 1) := by decide +kernel
theorem dX6_readLines_1 : decode cX6_readLines 1 = .ok (.getfield 20, 3) := by decide +kernel
theorem dX6_readLines_4 : decode cX6_readLines 4 = .ok (.bipush 37, 2) := by decide +kernel
theorem dX6_readLines_6 : decode cX6_readLines 6 = .ok (.aload_n 0, 1) := by decide +kernel
theorem dX6_readLines_7 : decode cX6_readLines 7 = .ok (.iconst 0, 1) := by decide +kernel
theorem dX6_readLines_8 : decode cX6_readLines 8 = .ok (.sipush 255, 3) := by decide +kernel
theorem dX6_readLines_11 : decode cX6_readLines 11 = .ok (.invokevirtual 120, 3) := by decide +kernel
theorem dX6_readLines_14 : decode cX6_readLines 14 = .ok (.iastore, 1) := by decide +kernel
theorem dX6_readLines_15 : decode cX6_readLines 15 = .ok (.aload_n 0, 1) := by decide +kernel
theorem dX6_readLines_16 : decode cX6_readLines 16 = .ok (.getfield 20, 3) := by decide +kernel
theorem dX6_readLines_19 : decode cX6_readLines 19 = .ok (.bipush 49, 2) := by decide +kernel
theorem dX6_readLines_21 : decode cX6_readLines 21 = .ok (.iconst 1, 1) := by decide +kernel
theorem dX6_readLines_22 : decode cX6_readLines 22 = .ok (.iastore, 1) := by decide +kernel
theorem dX6_readLines_23 : decode cX6_readLines 23 = .ok (.aload_n 0, 1) := by decide +kernel
theorem dX6_readLines_24 : decode cX6_readLines 24 = .ok (.getfield 75, 3) := by decide +kernel
theorem dX6_readLines_27 : decode cX6_readLines 27 = .ok (.ifCond .ne 77, 3) := by decide +kernel
theorem dX6_readLines_30 : decode cX6_readLines 30 = .ok (.aload_n 0, 1) := by decide +kernel
theorem dX6_readLines_31 : decode cX6_readLines 31 = .ok (.getfield 99, 3) := by decide +kernel
theorem dX6_readLines_34 : decode cX6_readLines 34 = .ok (.iconst 2, 1) := by decide +kernel
theorem dX6_readLines_35 : decode cX6_readLines 35 = .ok (.if_icmp .ne 69, 3) := by decide +kernel
theorem dX6_readLines_38 : decode cX6_readLines 38 = .ok (.aload_n 0, 1) := by decide +kernel
theorem dX6_readLines_39 : decode cX6_readLines 39 = .ok (.aload_n 0, 1) := by decide +kernel
theorem dX6_readLines_40 : decode cX6_readLines 40 = .ok (.getfield 20, 3) := by decide +kernel
theorem dX6_readLines_43 : decode cX6_readLines 43 = .ok (.bipush 49, 2) := by decide +kernel
theorem dX6_readLines_45 : decode cX6_readLines 45 = .ok (.iaload, 1) := by decide +kernel
theorem dX6_readLines_46 : decode cX6_readLines 46 = .ok (.bipush 12, 2) := by decide +kernel
theorem dX6_readLines_48 : decode cX6_readLines 48 = .ok (.if_icmp .ge 7, 3) := by decide +kernel
theorem dX6_readLines_51 : decode cX6_readLines 51 = .ok (.iconst 1, 1) := by decide +kernel
theorem dX6_readLines_52 : decode cX6_readLines 52 = .ok (.goto 4, 3) := by decide +kernel
theorem dX6_readLines_55 : decode cX6_readLines 55 = .ok (.iconst 0, 1) := by decide +kernel
theorem dX6_readLines_56 : decode cX6_readLines 56 = .ok (.iconst 5, 1) := by decide +kernel
theorem dX6_readLines_57 : decode cX6_readLines 57 = .ok (.invokevirtual 113, 3) := by decide +kernel
theorem dX6_readLines_60 : decode cX6_readLines 60 = .ok (.aload_n 0, 1) := by decide +kernel
theorem dX6_readLines_61 : decode cX6_readLines 61 = .ok (.getfield 75, 3) := by decide +kernel
theorem dX6_readLines_64 : decode cX6_readLines 64 = .ok (.ifCond .ne (-41), 3) := by decide +kernel
theorem dX6_readLines_67 : decode cX6_readLines 67 = .ok (.aload_n 0, 1) := by decide +kernel
theorem dX6_readLines_68 : decode cX6_readLines 68 = .ok (.getfield 20, 3) := by decide +kernel
theorem dX6_readLines_71 : decode cX6_readLines 71 = .ok (.bipush 37, 2) := by decide +kernel
theorem dX6_readLines_73 : decode cX6_readLines 73 = .ok (.aload_n 0, 1) := by decide +kernel
theorem dX6_readLines_74 : decode cX6_readLines 74 = .ok (.getfield 20, 3) := by decide +kernel
theorem dX6_readLines_77 : decode cX6_readLines 77 = .ok (.bipush 49, 2) := by decide +kernel
theorem dX6_readLines_79 : decode cX6_readLines 79 = .ok (.iaload, 1) := by decide +kernel
theorem dX6_readLines_80 : decode cX6_readLines 80 = .ok (.iadd, 1) := by decide +kernel
theorem dX6_readLines_81 : decode cX6_readLines 81 = .ok (.aload_n 0, 1) := by decide +kernel
theorem dX6_readLines_82 : decode cX6_readLines 82 = .ok (.iconst 0, 1) := by decide +kernel
theorem dX6_readLines_83 : decode cX6_readLines 83 = .ok (.sipush 255, 3) := by decide +kernel
theorem dX6_readLines_86 : decode cX6_readLines 86 = .ok (.invokevirtual 120, 3) := by decide +kernel
theorem dX6_readLines_89 : decode cX6_readLines 89 = .ok (.iastore, 1) := by decide +kernel
theorem dX6_readLines_90 : decode cX6_readLines 90 = .ok (.aload_n 0, 1) := by decide +kernel
theorem dX6_readLines_91 : decode cX6_readLines 91 = .ok (.getfield 20, 3) := by decide +kernel
theorem dX6_readLines_94 : decode cX6_readLines 94 = .ok (.bipush 49, 2) := by decide +kernel
theorem dX6_readLines_96 : decode cX6_readLines 96 = .ok (.dup2, 1) := by decide +kernel
theorem dX6_readLines_97 : decode cX6_readLines 97 = .ok (.iaload, 1) := by decide +kernel
theorem dX6_readLines_98 : decode cX6_readLines 98 = .ok (.iconst 1, 1) := by decide +kernel
theorem dX6_readLines_99 : decode cX6_readLines 99 = .ok (.iadd, 1) := by decide +kernel
theorem dX6_readLines_100 : decode cX6_readLines 100 = .ok (.iastore, 1) := by decide +kernel
theorem dX6_readLines_101 : decode cX6_readLines 101 = .ok (.goto (-78), 3) := by decide +kernel
theorem dX6_readLines_104 : decode cX6_readLines 104 = .ok (.return_, 1) := by decide +kernel
theorem dX6_mostOf_0 : decode cX6_mostOf 0 = .ok (.iload_n 0, 1) := by decide +kernel
theorem dX6_mostOf_1 : decode cX6_mostOf 1 = .ok (.ifCond .ne 8, 3) := by decide +kernel
theorem dX6_mostOf_4 : decode cX6_mostOf 4 = .ok (.bipush 60, 2) := by decide +kernel
theorem dX6_mostOf_6 : decode cX6_mostOf 6 = .ok (.goto 14, 3) := by decide +kernel
theorem dX6_mostOf_9 : decode cX6_mostOf 9 = .ok (.iload_n 0, 1) := by decide +kernel
theorem dX6_mostOf_10 : decode cX6_mostOf 10 = .ok (.iconst 1, 1) := by decide +kernel
theorem dX6_mostOf_11 : decode cX6_mostOf 11 = .ok (.if_icmp .ne 8, 3) := by decide +kernel
theorem dX6_mostOf_14 : decode cX6_mostOf 14 = .ok (.bipush 9, 2) := by decide +kernel
theorem dX6_mostOf_16 : decode cX6_mostOf 16 = .ok (.goto 4, 3) := by decide +kernel
theorem dX6_mostOf_19 : decode cX6_mostOf 19 = .ok (.iconst 3, 1) := by decide +kernel
theorem dX6_mostOf_20 : decode cX6_mostOf 20 = .ok (.ireturn, 1) := by decide +kernel
theorem dX6_lowOf_0 : decode cX6_lowOf 0 = .ok (.iload_n 0, 1) := by decide +kernel
theorem dX6_lowOf_1 : decode cX6_lowOf 1 = .ok (.ifCond .ne 7, 3) := by decide +kernel
theorem dX6_lowOf_4 : decode cX6_lowOf 4 = .ok (.iconst 1, 1) := by decide +kernel
theorem dX6_lowOf_5 : decode cX6_lowOf 5 = .ok (.goto 4, 3) := by decide +kernel
theorem dX6_lowOf_8 : decode cX6_lowOf 8 = .ok (.iconst 0, 1) := by decide +kernel
theorem dX6_lowOf_9 : decode cX6_lowOf 9 = .ok (.ireturn, 1) := by decide +kernel
theorem dX6_readLineOf_0 : decode cX6_readLineOf 0 = .ok (.iload_n 1, 1) := by decide +kernel
theorem dX6_readLineOf_1 : decode cX6_readLineOf 1 = .ok (.bipush 7, 2) := by decide +kernel
theorem dX6_readLineOf_3 : decode cX6_readLineOf 3 = .ok (.if_icmp .ne 10, 3) := by decide +kernel
theorem dX6_readLineOf_6 : decode cX6_readLineOf 6 = .ok (.aload_n 0, 1) := by decide +kernel
theorem dX6_readLineOf_7 : decode cX6_readLineOf 7 = .ok (.invokevirtual 124, 3) := by decide +kernel
theorem dX6_readLineOf_10 : decode cX6_readLineOf 10 = .ok (.goto 91, 3) := by decide +kernel
theorem dX6_readLineOf_13 : decode cX6_readLineOf 13 = .ok (.iload_n 1, 1) := by decide +kernel
theorem dX6_readLineOf_14 : decode cX6_readLineOf 14 = .ok (.iconst 4, 1) := by decide +kernel
theorem dX6_readLineOf_15 : decode cX6_readLineOf 15 = .ok (.if_icmp .lt 33, 3) := by decide +kernel
theorem dX6_readLineOf_18 : decode cX6_readLineOf 18 = .ok (.aload_n 0, 1) := by decide +kernel
theorem dX6_readLineOf_19 : decode cX6_readLineOf 19 = .ok (.getfield 20, 3) := by decide +kernel
theorem dX6_readLineOf_22 : decode cX6_readLineOf 22 = .ok (.bipush 34, 2) := by decide +kernel
theorem dX6_readLineOf_24 : decode cX6_readLineOf 24 = .ok (.iload_n 1, 1) := by decide +kernel
theorem dX6_readLineOf_25 : decode cX6_readLineOf 25 = .ok (.iadd, 1) := by decide +kernel
theorem dX6_readLineOf_26 : decode cX6_readLineOf 26 = .ok (.iconst 4, 1) := by decide +kernel
theorem dX6_readLineOf_27 : decode cX6_readLineOf 27 = .ok (.isub, 1) := by decide +kernel
theorem dX6_readLineOf_28 : decode cX6_readLineOf 28 = .ok (.aload_n 0, 1) := by decide +kernel
theorem dX6_readLineOf_29 : decode cX6_readLineOf 29 = .ok (.iload_n 1, 1) := by decide +kernel
theorem dX6_readLineOf_30 : decode cX6_readLineOf 30 = .ok (.iconst 4, 1) := by decide +kernel
theorem dX6_readLineOf_31 : decode cX6_readLineOf 31 = .ok (.isub, 1) := by decide +kernel
theorem dX6_readLineOf_32 : decode cX6_readLineOf 32 = .ok (.invokestatic 127, 3) := by decide +kernel
theorem dX6_readLineOf_35 : decode cX6_readLineOf 35 = .ok (.iload_n 1, 1) := by decide +kernel
theorem dX6_readLineOf_36 : decode cX6_readLineOf 36 = .ok (.iconst 4, 1) := by decide +kernel
theorem dX6_readLineOf_37 : decode cX6_readLineOf 37 = .ok (.isub, 1) := by decide +kernel
theorem dX6_readLineOf_38 : decode cX6_readLineOf 38 = .ok (.invokestatic 130, 3) := by decide +kernel
theorem dX6_readLineOf_41 : decode cX6_readLineOf 41 = .ok (.invokevirtual 120, 3) := by decide +kernel
theorem dX6_readLineOf_44 : decode cX6_readLineOf 44 = .ok (.iastore, 1) := by decide +kernel
theorem dX6_readLineOf_45 : decode cX6_readLineOf 45 = .ok (.goto 56, 3) := by decide +kernel
theorem dX6_readLineOf_48 : decode cX6_readLineOf 48 = .ok (.aload_n 0, 1) := by decide +kernel
theorem dX6_readLineOf_49 : decode cX6_readLineOf 49 = .ok (.getfield 20, 3) := by decide +kernel
theorem dX6_readLineOf_52 : decode cX6_readLineOf 52 = .ok (.bipush 11, 2) := by decide +kernel
theorem dX6_readLineOf_54 : decode cX6_readLineOf 54 = .ok (.aload_n 0, 1) := by decide +kernel
theorem dX6_readLineOf_55 : decode cX6_readLineOf 55 = .ok (.getfield 20, 3) := by decide +kernel
theorem dX6_readLineOf_58 : decode cX6_readLineOf 58 = .ok (.bipush 33, 2) := by decide +kernel
theorem dX6_readLineOf_60 : decode cX6_readLineOf 60 = .ok (.iaload, 1) := by decide +kernel
theorem dX6_readLineOf_61 : decode cX6_readLineOf 61 = .ok (.imul, 1) := by decide +kernel
theorem dX6_readLineOf_62 : decode cX6_readLineOf 62 = .ok (.iconst 0, 1) := by decide +kernel
theorem dX6_readLineOf_63 : decode cX6_readLineOf 63 = .ok (.iadd, 1) := by decide +kernel
theorem dX6_readLineOf_64 : decode cX6_readLineOf 64 = .ok (.iload_n 1, 1) := by decide +kernel
theorem dX6_readLineOf_65 : decode cX6_readLineOf 65 = .ok (.iastore, 1) := by decide +kernel
theorem dX6_readLineOf_66 : decode cX6_readLineOf 66 = .ok (.aload_n 0, 1) := by decide +kernel
theorem dX6_readLineOf_67 : decode cX6_readLineOf 67 = .ok (.getfield 20, 3) := by decide +kernel
theorem dX6_readLineOf_70 : decode cX6_readLineOf 70 = .ok (.bipush 11, 2) := by decide +kernel
theorem dX6_readLineOf_72 : decode cX6_readLineOf 72 = .ok (.aload_n 0, 1) := by decide +kernel
theorem dX6_readLineOf_73 : decode cX6_readLineOf 73 = .ok (.getfield 20, 3) := by decide +kernel
theorem dX6_readLineOf_76 : decode cX6_readLineOf 76 = .ok (.bipush 33, 2) := by decide +kernel
theorem dX6_readLineOf_78 : decode cX6_readLineOf 78 = .ok (.iaload, 1) := by decide +kernel
theorem dX6_readLineOf_79 : decode cX6_readLineOf 79 = .ok (.imul, 1) := by decide +kernel
theorem dX6_readLineOf_80 : decode cX6_readLineOf 80 = .ok (.iconst 1, 1) := by decide +kernel
theorem dX6_readLineOf_81 : decode cX6_readLineOf 81 = .ok (.iadd, 1) := by decide +kernel
theorem dX6_readLineOf_82 : decode cX6_readLineOf 82 = .ok (.aload_n 0, 1) := by decide +kernel
theorem dX6_readLineOf_83 : decode cX6_readLineOf 83 = .ok (.iconst 0, 1) := by decide +kernel
theorem dX6_readLineOf_84 : decode cX6_readLineOf 84 = .ok (.bipush 30, 2) := by decide +kernel
theorem dX6_readLineOf_86 : decode cX6_readLineOf 86 = .ok (.invokevirtual 120, 3) := by decide +kernel
theorem dX6_readLineOf_89 : decode cX6_readLineOf 89 = .ok (.iastore, 1) := by decide +kernel
theorem dX6_readLineOf_90 : decode cX6_readLineOf 90 = .ok (.aload_n 0, 1) := by decide +kernel
theorem dX6_readLineOf_91 : decode cX6_readLineOf 91 = .ok (.getfield 20, 3) := by decide +kernel
theorem dX6_readLineOf_94 : decode cX6_readLineOf 94 = .ok (.bipush 33, 2) := by decide +kernel
theorem dX6_readLineOf_96 : decode cX6_readLineOf 96 = .ok (.dup2, 1) := by decide +kernel
theorem dX6_readLineOf_97 : decode cX6_readLineOf 97 = .ok (.iaload, 1) := by decide +kernel
theorem dX6_readLineOf_98 : decode cX6_readLineOf 98 = .ok (.iconst 1, 1) := by decide +kernel
theorem dX6_readLineOf_99 : decode cX6_readLineOf 99 = .ok (.iadd, 1) := by decide +kernel
theorem dX6_readLineOf_100 : decode cX6_readLineOf 100 = .ok (.iastore, 1) := by decide +kernel
theorem dX6_readLineOf_101 : decode cX6_readLineOf 101 = .ok (.return_, 1) := by decide +kernel
theorem dX6_readLine_0 : decode cX6_readLine 0 = .ok (.aload_n 0, 1) := by decide +kernel
theorem dX6_readLine_1 : decode cX6_readLine 1 = .ok (.getfield 99, 3) := by decide +kernel
theorem dX6_readLine_4 : decode cX6_readLine 4 = .ok (.iconst 1, 1) := by decide +kernel
theorem dX6_readLine_5 : decode cX6_readLine 5 = .ok (.if_icmp .ne 10, 3) := by decide +kernel
theorem dX6_readLine_8 : decode cX6_readLine 8 = .ok (.aload_n 0, 1) := by decide +kernel
theorem dX6_readLine_9 : decode cX6_readLine 9 = .ok (.invokevirtual 133, 3) := by decide +kernel
theorem dX6_readLine_12 : decode cX6_readLine 12 = .ok (.goto 5, 3) := by decide +kernel
theorem dX6_readLine_15 : decode cX6_readLine 15 = .ok (.bipush (-4), 2) := by decide +kernel
theorem dX6_readLine_17 : decode cX6_readLine 17 = .ok (.istore_n 1, 1) := by decide +kernel
theorem dX6_readLine_18 : decode cX6_readLine 18 = .ok (.aload_n 0, 1) := by decide +kernel
theorem dX6_readLine_19 : decode cX6_readLine 19 = .ok (.iload_n 1, 1) := by decide +kernel
theorem dX6_readLine_20 : decode cX6_readLine 20 = .ok (.bipush (-4), 2) := by decide +kernel
theorem dX6_readLine_22 : decode cX6_readLine 22 = .ok (.if_icmp .eq 7, 3) := by decide +kernel
theorem dX6_readLine_25 : decode cX6_readLine 25 = .ok (.iconst 1, 1) := by decide +kernel
theorem dX6_readLine_26 : decode cX6_readLine 26 = .ok (.goto 4, 3) := by decide +kernel
theorem dX6_readLine_29 : decode cX6_readLine 29 = .ok (.iconst 0, 1) := by decide +kernel
theorem dX6_readLine_30 : decode cX6_readLine 30 = .ok (.iconst 2, 1) := by decide +kernel
theorem dX6_readLine_31 : decode cX6_readLine 31 = .ok (.invokevirtual 113, 3) := by decide +kernel
theorem dX6_readLine_34 : decode cX6_readLine 34 = .ok (.aload_n 0, 1) := by decide +kernel
theorem dX6_readLine_35 : decode cX6_readLine 35 = .ok (.iload_n 1, 1) := by decide +kernel
theorem dX6_readLine_36 : decode cX6_readLine 36 = .ok (.iconst 4, 1) := by decide +kernel
theorem dX6_readLine_37 : decode cX6_readLine 37 = .ok (.if_icmp .ge 14, 3) := by decide +kernel
theorem dX6_readLine_40 : decode cX6_readLine 40 = .ok (.aload_n 0, 1) := by decide +kernel
theorem dX6_readLine_41 : decode cX6_readLine 41 = .ok (.getfield 20, 3) := by decide +kernel
theorem dX6_readLine_44 : decode cX6_readLine 44 = .ok (.bipush 33, 2) := by decide +kernel
theorem dX6_readLine_46 : decode cX6_readLine 46 = .ok (.iaload, 1) := by decide +kernel
theorem dX6_readLine_47 : decode cX6_readLine 47 = .ok (.iconst 3, 1) := by decide +kernel
theorem dX6_readLine_48 : decode cX6_readLine 48 = .ok (.if_icmp .ge 7, 3) := by decide +kernel
theorem dX6_readLine_51 : decode cX6_readLine 51 = .ok (.iconst 1, 1) := by decide +kernel
theorem dX6_readLine_52 : decode cX6_readLine 52 = .ok (.goto 4, 3) := by decide +kernel
theorem dX6_readLine_55 : decode cX6_readLine 55 = .ok (.iconst 0, 1) := by decide +kernel
theorem dX6_readLine_56 : decode cX6_readLine 56 = .ok (.iconst 5, 1) := by decide +kernel
theorem dX6_readLine_57 : decode cX6_readLine 57 = .ok (.invokevirtual 113, 3) := by decide +kernel
theorem dX6_readLine_60 : decode cX6_readLine 60 = .ok (.iload_n 1, 1) := by decide +kernel
theorem dX6_readLine_61 : decode cX6_readLine 61 = .ok (.iconst 4, 1) := by decide +kernel
theorem dX6_readLine_62 : decode cX6_readLine 62 = .ok (.if_icmp .lt 33, 3) := by decide +kernel
theorem dX6_readLine_65 : decode cX6_readLine 65 = .ok (.aload_n 0, 1) := by decide +kernel
theorem dX6_readLine_66 : decode cX6_readLine 66 = .ok (.aload_n 0, 1) := by decide +kernel
theorem dX6_readLine_67 : decode cX6_readLine 67 = .ok (.getfield 23, 3) := by decide +kernel
theorem dX6_readLine_70 : decode cX6_readLine 70 = .ok (.iload_n 1, 1) := by decide +kernel
theorem dX6_readLine_71 : decode cX6_readLine 71 = .ok (.iconst 4, 1) := by decide +kernel
theorem dX6_readLine_72 : decode cX6_readLine 72 = .ok (.isub, 1) := by decide +kernel
theorem dX6_readLine_73 : decode cX6_readLine 73 = .ok (.baload, 1) := by decide +kernel
theorem dX6_readLine_74 : decode cX6_readLine 74 = .ok (.ifCond .ne 7, 3) := by decide +kernel
theorem dX6_readLine_77 : decode cX6_readLine 77 = .ok (.iconst 1, 1) := by decide +kernel
theorem dX6_readLine_78 : decode cX6_readLine 78 = .ok (.goto 4, 3) := by decide +kernel
theorem dX6_readLine_81 : decode cX6_readLine 81 = .ok (.iconst 0, 1) := by decide +kernel
theorem dX6_readLine_82 : decode cX6_readLine 82 = .ok (.iconst 4, 1) := by decide +kernel
theorem dX6_readLine_83 : decode cX6_readLine 83 = .ok (.invokevirtual 113, 3) := by decide +kernel
theorem dX6_readLine_86 : decode cX6_readLine 86 = .ok (.aload_n 0, 1) := by decide +kernel
theorem dX6_readLine_87 : decode cX6_readLine 87 = .ok (.getfield 23, 3) := by decide +kernel
theorem dX6_readLine_90 : decode cX6_readLine 90 = .ok (.iload_n 1, 1) := by decide +kernel
theorem dX6_readLine_91 : decode cX6_readLine 91 = .ok (.iconst 4, 1) := by decide +kernel
theorem dX6_readLine_92 : decode cX6_readLine 92 = .ok (.isub, 1) := by decide +kernel
theorem dX6_readLine_93 : decode cX6_readLine 93 = .ok (.iconst 1, 1) := by decide +kernel
theorem dX6_readLine_94 : decode cX6_readLine 94 = .ok (.bastore, 1) := by decide +kernel
theorem dX6_readLine_95 : decode cX6_readLine 95 = .ok (.aload_n 0, 1) := by decide +kernel
theorem dX6_readLine_96 : decode cX6_readLine 96 = .ok (.invokevirtual 117, 3) := by decide +kernel
theorem dX6_readLine_99 : decode cX6_readLine 99 = .ok (.aload_n 0, 1) := by decide +kernel
theorem dX6_readLine_100 : decode cX6_readLine 100 = .ok (.getfield 75, 3) := by decide +kernel
theorem dX6_readLine_103 : decode cX6_readLine 103 = .ok (.ifCond .le 4, 3) := by decide +kernel
theorem dX6_readLine_106 : decode cX6_readLine 106 = .ok (.return_, 1) := by decide +kernel
theorem dX6_readLine_107 : decode cX6_readLine 107 = .ok (.aload_n 0, 1) := by decide +kernel
theorem dX6_readLine_108 : decode cX6_readLine 108 = .ok (.iload_n 1, 1) := by decide +kernel
theorem dX6_readLine_109 : decode cX6_readLine 109 = .ok (.invokevirtual 137, 3) := by decide +kernel
theorem dX6_readLine_112 : decode cX6_readLine 112 = .ok (.aload_n 0, 1) := by decide +kernel
theorem dX6_readLine_113 : decode cX6_readLine 113 = .ok (.getfield 75, 3) := by decide +kernel
theorem dX6_readLine_116 : decode cX6_readLine 116 = .ok (.ifCond .ne 21, 3) := by decide +kernel
theorem dX6_readLine_119 : decode cX6_readLine 119 = .ok (.aload_n 0, 1) := by decide +kernel
theorem dX6_readLine_120 : decode cX6_readLine 120 = .ok (.aload_n 0, 1) := by decide +kernel
theorem dX6_readLine_121 : decode cX6_readLine 121 = .ok (.getfield 99, 3) := by decide +kernel
theorem dX6_readLine_124 : decode cX6_readLine 124 = .ok (.iconst 3, 1) := by decide +kernel
theorem dX6_readLine_125 : decode cX6_readLine 125 = .ok (.if_icmp .ne 7, 3) := by decide +kernel
theorem dX6_readLine_128 : decode cX6_readLine 128 = .ok (.iconst 1, 1) := by decide +kernel
theorem dX6_readLine_129 : decode cX6_readLine 129 = .ok (.goto 4, 3) := by decide +kernel
theorem dX6_readLine_132 : decode cX6_readLine 132 = .ok (.iconst 0, 1) := by decide +kernel
theorem dX6_readLine_133 : decode cX6_readLine 133 = .ok (.iconst 2, 1) := by decide +kernel
theorem dX6_readLine_134 : decode cX6_readLine 134 = .ok (.invokevirtual 113, 3) := by decide +kernel
theorem dX6_readLine_137 : decode cX6_readLine 137 = .ok (.aload_n 0, 1) := by decide +kernel
theorem dX6_readLine_138 : decode cX6_readLine 138 = .ok (.invokevirtual 117, 3) := by decide +kernel
theorem dX6_readLine_141 : decode cX6_readLine 141 = .ok (.return_, 1) := by decide +kernel
theorem dX6_text_0 : decode cX6_text 0 = .ok (.iconst 0, 1) := by decide +kernel
theorem dX6_text_1 : decode cX6_text 1 = .ok (.istore_n 1, 1) := by decide +kernel
theorem dX6_text_2 : decode cX6_text 2 = .ok (.aload_n 0, 1) := by decide +kernel
theorem dX6_text_3 : decode cX6_text 3 = .ok (.iconst 0, 1) := by decide +kernel
theorem dX6_text_4 : decode cX6_text 4 = .ok (.putfield 75, 3) := by decide +kernel
theorem dX6_text_7 : decode cX6_text 7 = .ok (.aload_n 0, 1) := by decide +kernel
theorem dX6_text_8 : decode cX6_text 8 = .ok (.iconst 0, 1) := by decide +kernel
theorem dX6_text_9 : decode cX6_text 9 = .ok (.putfield 84, 3) := by decide +kernel
theorem dX6_text_12 : decode cX6_text 12 = .ok (.aload_n 0, 1) := by decide +kernel
theorem dX6_text_13 : decode cX6_text 13 = .ok (.invokevirtual 59, 3) := by decide +kernel
theorem dX6_text_16 : decode cX6_text 16 = .ok (.aload_n 0, 1) := by decide +kernel
theorem dX6_text_17 : decode cX6_text 17 = .ok (.invokevirtual 117, 3) := by decide +kernel
theorem dX6_text_20 : decode cX6_text 20 = .ok (.aload_n 0, 1) := by decide +kernel
theorem dX6_text_21 : decode cX6_text 21 = .ok (.getfield 75, 3) := by decide +kernel
theorem dX6_text_24 : decode cX6_text 24 = .ok (.ifCond .ne 20, 3) := by decide +kernel
theorem dX6_text_27 : decode cX6_text 27 = .ok (.aload_n 0, 1) := by decide +kernel
theorem dX6_text_28 : decode cX6_text 28 = .ok (.getfield 99, 3) := by decide +kernel
theorem dX6_text_31 : decode cX6_text 31 = .ok (.ifCond .eq 13, 3) := by decide +kernel
theorem dX6_text_34 : decode cX6_text 34 = .ok (.aload_n 0, 1) := by decide +kernel
theorem dX6_text_35 : decode cX6_text 35 = .ok (.invokevirtual 141, 3) := by decide +kernel
theorem dX6_text_38 : decode cX6_text 38 = .ok (.iinc 1 1, 3) := by decide +kernel
theorem dX6_text_41 : decode cX6_text 41 = .ok (.goto (-21), 3) := by decide +kernel
theorem dX6_text_44 : decode cX6_text 44 = .ok (.aload_n 0, 1) := by decide +kernel
theorem dX6_text_45 : decode cX6_text 45 = .ok (.iconst 0, 1) := by decide +kernel
theorem dX6_text_46 : decode cX6_text 46 = .ok (.putfield 71, 3) := by decide +kernel
theorem dX6_text_49 : decode cX6_text 49 = .ok (.aload_n 0, 1) := by decide +kernel
theorem dX6_text_50 : decode cX6_text 50 = .ok (.getfield 75, 3) := by decide +kernel
theorem dX6_text_53 : decode cX6_text 53 = .ok (.ifCond .le 11, 3) := by decide +kernel
theorem dX6_text_56 : decode cX6_text 56 = .ok (.bipush (-10), 2) := by decide +kernel
theorem dX6_text_58 : decode cX6_text 58 = .ok (.aload_n 0, 1) := by decide +kernel
theorem dX6_text_59 : decode cX6_text 59 = .ok (.getfield 81, 3) := by decide +kernel
theorem dX6_text_62 : decode cX6_text 62 = .ok (.isub, 1) := by decide +kernel
theorem dX6_text_63 : decode cX6_text 63 = .ok (.ireturn, 1) := by decide +kernel
theorem dX6_text_64 : decode cX6_text 64 = .ok (.aload_n 0, 1) := by decide +kernel
theorem dX6_text_65 : decode cX6_text 65 = .ok (.invokevirtual 62, 3) := by decide +kernel
theorem dX6_text_68 : decode cX6_text 68 = .ok (.iload_n 1, 1) := by decide +kernel
theorem dX6_text_69 : decode cX6_text 69 = .ok (.ireturn, 1) := by decide +kernel
theorem dX6_fault_0 : decode cX6_fault 0 = .ok (.aload_n 0, 1) := by decide +kernel
theorem dX6_fault_1 : decode cX6_fault 1 = .ok (.getfield 75, 3) := by decide +kernel
theorem dX6_fault_4 : decode cX6_fault 4 = .ok (.ireturn, 1) := by decide +kernel
theorem dX6_isHead_0 : decode cX6_isHead 0 = .ok (.iload_n 1, 1) := by decide +kernel
theorem dX6_isHead_1 : decode cX6_isHead 1 = .ok (.i2l, 1) := by decide +kernel
theorem dX6_isHead_2 : decode cX6_isHead 2 = .ok (.lconst 0, 1) := by decide +kernel
theorem dX6_isHead_3 : decode cX6_isHead 3 = .ok (.aload_n 0, 1) := by decide +kernel
theorem dX6_isHead_4 : decode cX6_isHead 4 = .ok (.getfield 7, 3) := by decide +kernel
theorem dX6_isHead_7 : decode cX6_isHead 7 = .ok (.bipush 33, 2) := by decide +kernel
theorem dX6_isHead_9 : decode cX6_isHead 9 = .ok (.iaload, 1) := by decide +kernel
theorem dX6_isHead_10 : decode cX6_isHead 10 = .ok (.iconst 1, 1) := by decide +kernel
theorem dX6_isHead_11 : decode cX6_isHead 11 = .ok (.isub, 1) := by decide +kernel
theorem dX6_isHead_12 : decode cX6_isHead 12 = .ok (.i2l, 1) := by decide +kernel
theorem dX6_isHead_13 : decode cX6_isHead 13 = .ok (.invokestatic 67, 3) := by decide +kernel
theorem dX6_isHead_16 : decode cX6_isHead 16 = .ok (.ireturn, 1) := by decide +kernel
theorem dX6_isDot_0 : decode cX6_isDot 0 = .ok (.iload_n 0, 1) := by decide +kernel
theorem dX6_isDot_1 : decode cX6_isDot 1 = .ok (.i2l, 1) := by decide +kernel
theorem dX6_isDot_2 : decode cX6_isDot 2 = .ok (.lconst 0, 1) := by decide +kernel
theorem dX6_isDot_3 : decode cX6_isDot 3 = .ok (.ldc2_w 144, 3) := by decide +kernel
theorem dX6_isDot_6 : decode cX6_isDot 6 = .ok (.invokestatic 67, 3) := by decide +kernel
theorem dX6_isDot_9 : decode cX6_isDot 9 = .ok (.ireturn, 1) := by decide +kernel
theorem dX6_isLine_0 : decode cX6_isLine 0 = .ok (.iload_n 1, 1) := by decide +kernel
theorem dX6_isLine_1 : decode cX6_isLine 1 = .ok (.i2l, 1) := by decide +kernel
theorem dX6_isLine_2 : decode cX6_isLine 2 = .ok (.lconst 0, 1) := by decide +kernel
theorem dX6_isLine_3 : decode cX6_isLine 3 = .ok (.aload_n 0, 1) := by decide +kernel
theorem dX6_isLine_4 : decode cX6_isLine 4 = .ok (.getfield 7, 3) := by decide +kernel
theorem dX6_isLine_7 : decode cX6_isLine 7 = .ok (.bipush 49, 2) := by decide +kernel
theorem dX6_isLine_9 : decode cX6_isLine 9 = .ok (.iaload, 1) := by decide +kernel
theorem dX6_isLine_10 : decode cX6_isLine 10 = .ok (.iconst 1, 1) := by decide +kernel
theorem dX6_isLine_11 : decode cX6_isLine 11 = .ok (.isub, 1) := by decide +kernel
theorem dX6_isLine_12 : decode cX6_isLine 12 = .ok (.i2l, 1) := by decide +kernel
theorem dX6_isLine_13 : decode cX6_isLine 13 = .ok (.invokestatic 67, 3) := by decide +kernel
theorem dX6_isLine_16 : decode cX6_isLine 16 = .ok (.ireturn, 1) := by decide +kernel
theorem dX6_isPart_0 : decode cX6_isPart 0 = .ok (.iload_n 0, 1) := by decide +kernel
theorem dX6_isPart_1 : decode cX6_isPart 1 = .ok (.i2l, 1) := by decide +kernel
theorem dX6_isPart_2 : decode cX6_isPart 2 = .ok (.lconst 0, 1) := by decide +kernel
theorem dX6_isPart_3 : decode cX6_isPart 3 = .ok (.lconst 1, 1) := by decide +kernel
theorem dX6_isPart_4 : decode cX6_isPart 4 = .ok (.invokestatic 67, 3) := by decide +kernel
theorem dX6_isPart_7 : decode cX6_isPart 7 = .ok (.ireturn, 1) := by decide +kernel
theorem dX6_starts_0 : decode cX6_starts 0 = .ok (.iconst 0, 1) := by decide +kernel
theorem dX6_starts_1 : decode cX6_starts 1 = .ok (.istore_n 1, 1) := by decide +kernel
theorem dX6_starts_2 : decode cX6_starts 2 = .ok (.iload_n 1, 1) := by decide +kernel
theorem dX6_starts_3 : decode cX6_starts 3 = .ok (.bipush 70, 2) := by decide +kernel
theorem dX6_starts_5 : decode cX6_starts 5 = .ok (.if_icmp .ge 21, 3) := by decide +kernel
theorem dX6_starts_8 : decode cX6_starts 8 = .ok (.aload_n 0, 1) := by decide +kernel
theorem dX6_starts_9 : decode cX6_starts 9 = .ok (.getfield 13, 3) := by decide +kernel
theorem dX6_starts_12 : decode cX6_starts 12 = .ok (.iload_n 1, 1) := by decide +kernel
theorem dX6_starts_13 : decode cX6_starts 13 = .ok (.aload_n 0, 1) := by decide +kernel
theorem dX6_starts_14 : decode cX6_starts 14 = .ok (.getfield 7, 3) := by decide +kernel
theorem dX6_starts_17 : decode cX6_starts 17 = .ok (.iload_n 1, 1) := by decide +kernel
theorem dX6_starts_18 : decode cX6_starts 18 = .ok (.iaload, 1) := by decide +kernel
theorem dX6_starts_19 : decode cX6_starts 19 = .ok (.iastore, 1) := by decide +kernel
theorem dX6_starts_20 : decode cX6_starts 20 = .ok (.iinc 1 1, 3) := by decide +kernel
theorem dX6_starts_23 : decode cX6_starts 23 = .ok (.goto (-21), 3) := by decide +kernel
theorem dX6_starts_26 : decode cX6_starts 26 = .ok (.iconst 0, 1) := by decide +kernel
theorem dX6_starts_27 : decode cX6_starts 27 = .ok (.istore_n 1, 1) := by decide +kernel
theorem dX6_starts_28 : decode cX6_starts 28 = .ok (.iload_n 1, 1) := by decide +kernel
theorem dX6_starts_29 : decode cX6_starts 29 = .ok (.iconst 3, 1) := by decide +kernel
theorem dX6_starts_30 : decode cX6_starts 30 = .ok (.if_icmp .ge 16, 3) := by decide +kernel
theorem dX6_starts_33 : decode cX6_starts 33 = .ok (.aload_n 0, 1) := by decide +kernel
theorem dX6_starts_34 : decode cX6_starts 34 = .ok (.getfield 29, 3) := by decide +kernel
theorem dX6_starts_37 : decode cX6_starts 37 = .ok (.iload_n 1, 1) := by decide +kernel
theorem dX6_starts_38 : decode cX6_starts 38 = .ok (.iconst 0, 1) := by decide +kernel
theorem dX6_starts_39 : decode cX6_starts 39 = .ok (.iastore, 1) := by decide +kernel
theorem dX6_starts_40 : decode cX6_starts 40 = .ok (.iinc 1 1, 3) := by decide +kernel
theorem dX6_starts_43 : decode cX6_starts 43 = .ok (.goto (-15), 3) := by decide +kernel
theorem dX6_starts_46 : decode cX6_starts 46 = .ok (.aload_n 0, 1) := by decide +kernel
theorem dX6_starts_47 : decode cX6_starts 47 = .ok (.bipush (-4), 2) := by decide +kernel
theorem dX6_starts_49 : decode cX6_starts 49 = .ok (.putfield 146, 3) := by decide +kernel
theorem dX6_starts_52 : decode cX6_starts 52 = .ok (.aload_n 0, 1) := by decide +kernel
theorem dX6_starts_53 : decode cX6_starts 53 = .ok (.iconst 0, 1) := by decide +kernel
theorem dX6_starts_54 : decode cX6_starts 54 = .ok (.putfield 149, 3) := by decide +kernel
theorem dX6_starts_57 : decode cX6_starts 57 = .ok (.aload_n 0, 1) := by decide +kernel
theorem dX6_starts_58 : decode cX6_starts 58 = .ok (.iconst 0, 1) := by decide +kernel
theorem dX6_starts_59 : decode cX6_starts 59 = .ok (.putfield 152, 3) := by decide +kernel
theorem dX6_starts_62 : decode cX6_starts 62 = .ok (.aload_n 0, 1) := by decide +kernel
theorem dX6_starts_63 : decode cX6_starts 63 = .ok (.iconst 0, 1) := by decide +kernel
theorem dX6_starts_64 : decode cX6_starts 64 = .ok (.putfield 155, 3) := by decide +kernel
theorem dX6_starts_67 : decode cX6_starts 67 = .ok (.aload_n 0, 1) := by decide +kernel
theorem dX6_starts_68 : decode cX6_starts 68 = .ok (.iconst 0, 1) := by decide +kernel
theorem dX6_starts_69 : decode cX6_starts 69 = .ok (.putfield 158, 3) := by decide +kernel
theorem dX6_starts_72 : decode cX6_starts 72 = .ok (.return_, 1) := by decide +kernel
theorem dX6_settles_0 : decode cX6_settles 0 = .ok (.iconst 0, 1) := by decide +kernel
theorem dX6_settles_1 : decode cX6_settles 1 = .ok (.istore_n 1, 1) := by decide +kernel
theorem dX6_settles_2 : decode cX6_settles 2 = .ok (.iload_n 1, 1) := by decide +kernel
theorem dX6_settles_3 : decode cX6_settles 3 = .ok (.bipush 70, 2) := by decide +kernel
theorem dX6_settles_5 : decode cX6_settles 5 = .ok (.if_icmp .ge 21, 3) := by decide +kernel
theorem dX6_settles_8 : decode cX6_settles 8 = .ok (.aload_n 0, 1) := by decide +kernel
theorem dX6_settles_9 : decode cX6_settles 9 = .ok (.getfield 7, 3) := by decide +kernel
theorem dX6_settles_12 : decode cX6_settles 12 = .ok (.iload_n 1, 1) := by decide +kernel
theorem dX6_settles_13 : decode cX6_settles 13 = .ok (.aload_n 0, 1) := by decide +kernel
theorem dX6_settles_14 : decode cX6_settles 14 = .ok (.getfield 13, 3) := by decide +kernel
theorem dX6_settles_17 : decode cX6_settles 17 = .ok (.iload_n 1, 1) := by decide +kernel
theorem dX6_settles_18 : decode cX6_settles 18 = .ok (.iaload, 1) := by decide +kernel
theorem dX6_settles_19 : decode cX6_settles 19 = .ok (.iastore, 1) := by decide +kernel
theorem dX6_settles_20 : decode cX6_settles 20 = .ok (.iinc 1 1, 3) := by decide +kernel
theorem dX6_settles_23 : decode cX6_settles 23 = .ok (.goto (-21), 3) := by decide +kernel
theorem dX6_settles_26 : decode cX6_settles 26 = .ok (.return_, 1) := by decide +kernel
theorem dX6_of_0 : decode cX6_of 0 = .ok (.aload_n 0, 1) := by decide +kernel
theorem dX6_of_1 : decode cX6_of 1 = .ok (.getfield 13, 3) := by decide +kernel
theorem dX6_of_4 : decode cX6_of 4 = .ok (.bipush 11, 2) := by decide +kernel
theorem dX6_of_6 : decode cX6_of 6 = .ok (.iload_n 1, 1) := by decide +kernel
theorem dX6_of_7 : decode cX6_of 7 = .ok (.imul, 1) := by decide +kernel
theorem dX6_of_8 : decode cX6_of 8 = .ok (.iload_n 2, 1) := by decide +kernel
theorem dX6_of_9 : decode cX6_of 9 = .ok (.iadd, 1) := by decide +kernel
theorem dX6_of_10 : decode cX6_of 10 = .ok (.iaload, 1) := by decide +kernel
theorem dX6_of_11 : decode cX6_of 11 = .ok (.ireturn, 1) := by decide +kernel
theorem dX6_heat_0 : decode cX6_heat 0 = .ok (.aload_n 0, 1) := by decide +kernel
theorem dX6_heat_1 : decode cX6_heat 1 = .ok (.getfield 13, 3) := by decide +kernel
theorem dX6_heat_4 : decode cX6_heat 4 = .ok (.bipush 11, 2) := by decide +kernel
theorem dX6_heat_6 : decode cX6_heat 6 = .ok (.iload_n 1, 1) := by decide +kernel
theorem dX6_heat_7 : decode cX6_heat 7 = .ok (.imul, 1) := by decide +kernel
theorem dX6_heat_8 : decode cX6_heat 8 = .ok (.iconst 3, 1) := by decide +kernel
theorem dX6_heat_9 : decode cX6_heat 9 = .ok (.iadd, 1) := by decide +kernel
theorem dX6_heat_10 : decode cX6_heat 10 = .ok (.iload_n 2, 1) := by decide +kernel
theorem dX6_heat_11 : decode cX6_heat 11 = .ok (.iadd, 1) := by decide +kernel
theorem dX6_heat_12 : decode cX6_heat 12 = .ok (.iaload, 1) := by decide +kernel
theorem dX6_heat_13 : decode cX6_heat 13 = .ok (.ireturn, 1) := by decide +kernel
theorem dX6_heatBecomes_0 : decode cX6_heatBecomes 0 = .ok (.aload_n 0, 1) := by decide +kernel
theorem dX6_heatBecomes_1 : decode cX6_heatBecomes 1 = .ok (.getfield 13, 3) := by decide +kernel
theorem dX6_heatBecomes_4 : decode cX6_heatBecomes 4 = .ok (.bipush 11, 2) := by decide +kernel
theorem dX6_heatBecomes_6 : decode cX6_heatBecomes 6 = .ok (.iload_n 1, 1) := by decide +kernel
theorem dX6_heatBecomes_7 : decode cX6_heatBecomes 7 = .ok (.imul, 1) := by decide +kernel
theorem dX6_heatBecomes_8 : decode cX6_heatBecomes 8 = .ok (.iconst 3, 1) := by decide +kernel
theorem dX6_heatBecomes_9 : decode cX6_heatBecomes 9 = .ok (.iadd, 1) := by decide +kernel
theorem dX6_heatBecomes_10 : decode cX6_heatBecomes 10 = .ok (.iload_n 2, 1) := by decide +kernel
theorem dX6_heatBecomes_11 : decode cX6_heatBecomes 11 = .ok (.iadd, 1) := by decide +kernel
theorem dX6_heatBecomes_12 : decode cX6_heatBecomes 12 = .ok (.iload_n 3, 1) := by decide +kernel
theorem dX6_heatBecomes_13 : decode cX6_heatBecomes 13 = .ok (.iastore, 1) := by decide +kernel
theorem dX6_heatBecomes_14 : decode cX6_heatBecomes 14 = .ok (.return_, 1) := by decide +kernel
theorem dX6_lineAt_0 : decode cX6_lineAt 0 = .ok (.aload_n 0, 1) := by decide +kernel
theorem dX6_lineAt_1 : decode cX6_lineAt 1 = .ok (.getfield 13, 3) := by decide +kernel
theorem dX6_lineAt_4 : decode cX6_lineAt 4 = .ok (.bipush 49, 2) := by decide +kernel
theorem dX6_lineAt_6 : decode cX6_lineAt 6 = .ok (.iaload, 1) := by decide +kernel
theorem dX6_lineAt_7 : decode cX6_lineAt 7 = .ok (.ifCond .ne 7, 3) := by decide +kernel
theorem dX6_lineAt_10 : decode cX6_lineAt 10 = .ok (.iconst 0, 1) := by decide +kernel
theorem dX6_lineAt_11 : decode cX6_lineAt 11 = .ok (.goto 20, 3) := by decide +kernel
theorem dX6_lineAt_14 : decode cX6_lineAt 14 = .ok (.aload_n 0, 1) := by decide +kernel
theorem dX6_lineAt_15 : decode cX6_lineAt 15 = .ok (.getfield 13, 3) := by decide +kernel
theorem dX6_lineAt_18 : decode cX6_lineAt 18 = .ok (.bipush 37, 2) := by decide +kernel
theorem dX6_lineAt_20 : decode cX6_lineAt 20 = .ok (.iload_n 1, 1) := by decide +kernel
theorem dX6_lineAt_21 : decode cX6_lineAt 21 = .ok (.aload_n 0, 1) := by decide +kernel
theorem dX6_lineAt_22 : decode cX6_lineAt 22 = .ok (.getfield 13, 3) := by decide +kernel
theorem dX6_lineAt_25 : decode cX6_lineAt 25 = .ok (.bipush 49, 2) := by decide +kernel
theorem dX6_lineAt_27 : decode cX6_lineAt 27 = .ok (.iaload, 1) := by decide +kernel
theorem dX6_lineAt_28 : decode cX6_lineAt 28 = .ok (.irem, 1) := by decide +kernel
theorem dX6_lineAt_29 : decode cX6_lineAt 29 = .ok (.iadd, 1) := by decide +kernel
theorem dX6_lineAt_30 : decode cX6_lineAt 30 = .ok (.iaload, 1) := by decide +kernel
theorem dX6_lineAt_31 : decode cX6_lineAt 31 = .ok (.ireturn, 1) := by decide +kernel
theorem dX6_isIn_0 : decode cX6_isIn 0 = .ok (.iload_n 0, 1) := by decide +kernel
theorem dX6_isIn_1 : decode cX6_isIn 1 = .ok (.iload_n 1, 1) := by decide +kernel
theorem dX6_isIn_2 : decode cX6_isIn 2 = .ok (.ishr, 1) := by decide +kernel
theorem dX6_isIn_3 : decode cX6_isIn 3 = .ok (.iconst 1, 1) := by decide +kernel
theorem dX6_isIn_4 : decode cX6_isIn 4 = .ok (.iand, 1) := by decide +kernel
theorem dX6_isIn_5 : decode cX6_isIn 5 = .ok (.iconst 1, 1) := by decide +kernel
theorem dX6_isIn_6 : decode cX6_isIn 6 = .ok (.if_icmp .ne 7, 3) := by decide +kernel
theorem dX6_isIn_9 : decode cX6_isIn 9 = .ok (.iconst 1, 1) := by decide +kernel
theorem dX6_isIn_10 : decode cX6_isIn 10 = .ok (.goto 4, 3) := by decide +kernel
theorem dX6_isIn_13 : decode cX6_isIn 13 = .ok (.iconst 0, 1) := by decide +kernel
theorem dX6_isIn_14 : decode cX6_isIn 14 = .ok (.ireturn, 1) := by decide +kernel
theorem dX6_gets_0 : decode cX6_gets 0 = .ok (.aload_n 0, 1) := by decide +kernel
theorem dX6_gets_1 : decode cX6_gets 1 = .ok (.iload_n 1, 1) := by decide +kernel
theorem dX6_gets_2 : decode cX6_gets 2 = .ok (.iconst 1, 1) := by decide +kernel
theorem dX6_gets_3 : decode cX6_gets 3 = .ok (.invokevirtual 161, 3) := by decide +kernel
theorem dX6_gets_6 : decode cX6_gets 6 = .ok (.istore 5, 2) := by decide +kernel
theorem dX6_gets_8 : decode cX6_gets 8 = .ok (.iload_n 3, 1) := by decide +kernel
theorem dX6_gets_9 : decode cX6_gets 9 = .ok (.iload_n 2, 1) := by decide +kernel
theorem dX6_gets_10 : decode cX6_gets 10 = .ok (.invokestatic 164, 3) := by decide +kernel
theorem dX6_gets_13 : decode cX6_gets 13 = .ok (.ifCond .eq 8, 3) := by decide +kernel
theorem dX6_gets_16 : decode cX6_gets 16 = .ok (.iload 5, 2) := by decide +kernel
theorem dX6_gets_18 : decode cX6_gets 18 = .ok (.goto 4, 3) := by decide +kernel
theorem dX6_gets_21 : decode cX6_gets 21 = .ok (.iconst 0, 1) := by decide +kernel
theorem dX6_gets_22 : decode cX6_gets 22 = .ok (.istore 6, 2) := by decide +kernel
theorem dX6_gets_24 : decode cX6_gets 24 = .ok (.aload_n 0, 1) := by decide +kernel
theorem dX6_gets_25 : decode cX6_gets 25 = .ok (.iload_n 1, 1) := by decide +kernel
theorem dX6_gets_26 : decode cX6_gets 26 = .ok (.iconst 0, 1) := by decide +kernel
theorem dX6_gets_27 : decode cX6_gets 27 = .ok (.invokevirtual 161, 3) := by decide +kernel
theorem dX6_gets_30 : decode cX6_gets 30 = .ok (.tableswitch 148 1 3 #[26, 43, 118], 26) := by decide +kernel
theorem dX6_gets_56 : decode cX6_gets 56 = .ok (.iload 6, 2) := by decide +kernel
theorem dX6_gets_58 : decode cX6_gets 58 = .ok (.aload_n 0, 1) := by decide +kernel
theorem dX6_gets_59 : decode cX6_gets 59 = .ok (.iload_n 1, 1) := by decide +kernel
theorem dX6_gets_60 : decode cX6_gets 60 = .ok (.iload_n 2, 1) := by decide +kernel
theorem dX6_gets_61 : decode cX6_gets 61 = .ok (.invokevirtual 167, 3) := by decide +kernel
theorem dX6_gets_64 : decode cX6_gets 64 = .ok (.iconst 4, 1) := by decide +kernel
theorem dX6_gets_65 : decode cX6_gets 65 = .ok (.idiv, 1) := by decide +kernel
theorem dX6_gets_66 : decode cX6_gets 66 = .ok (.isub, 1) := by decide +kernel
theorem dX6_gets_67 : decode cX6_gets 67 = .ok (.ldc 170, 2) := by decide +kernel
theorem dX6_gets_69 : decode cX6_gets 69 = .ok (.invokestatic 171, 3) := by decide +kernel
theorem dX6_gets_72 : decode cX6_gets 72 = .ok (.ireturn, 1) := by decide +kernel
theorem dX6_gets_73 : decode cX6_gets 73 = .ok (.iload_n 2, 1) := by decide +kernel
theorem dX6_gets_74 : decode cX6_gets 74 = .ok (.ifCond .le 33, 3) := by decide +kernel
theorem dX6_gets_77 : decode cX6_gets 77 = .ok (.iload_n 2, 1) := by decide +kernel
theorem dX6_gets_78 : decode cX6_gets 78 = .ok (.bipush 7, 2) := by decide +kernel
theorem dX6_gets_80 : decode cX6_gets 80 = .ok (.if_icmp .ge 27, 3) := by decide +kernel
theorem dX6_gets_83 : decode cX6_gets 83 = .ok (.iload_n 3, 1) := by decide +kernel
theorem dX6_gets_84 : decode cX6_gets 84 = .ok (.iload_n 2, 1) := by decide +kernel
theorem dX6_gets_85 : decode cX6_gets 85 = .ok (.iconst 1, 1) := by decide +kernel
theorem dX6_gets_86 : decode cX6_gets 86 = .ok (.isub, 1) := by decide +kernel
theorem dX6_gets_87 : decode cX6_gets 87 = .ok (.invokestatic 164, 3) := by decide +kernel
theorem dX6_gets_90 : decode cX6_gets 90 = .ok (.ifCond .eq 17, 3) := by decide +kernel
theorem dX6_gets_93 : decode cX6_gets 93 = .ok (.iload_n 3, 1) := by decide +kernel
theorem dX6_gets_94 : decode cX6_gets 94 = .ok (.iload_n 2, 1) := by decide +kernel
theorem dX6_gets_95 : decode cX6_gets 95 = .ok (.iconst 1, 1) := by decide +kernel
theorem dX6_gets_96 : decode cX6_gets 96 = .ok (.iadd, 1) := by decide +kernel
theorem dX6_gets_97 : decode cX6_gets 97 = .ok (.invokestatic 164, 3) := by decide +kernel
theorem dX6_gets_100 : decode cX6_gets 100 = .ok (.ifCond .eq 7, 3) := by decide +kernel
theorem dX6_gets_103 : decode cX6_gets 103 = .ok (.iconst 1, 1) := by decide +kernel
theorem dX6_gets_104 : decode cX6_gets 104 = .ok (.goto 4, 3) := by decide +kernel
theorem dX6_gets_107 : decode cX6_gets 107 = .ok (.iconst 0, 1) := by decide +kernel
theorem dX6_gets_108 : decode cX6_gets 108 = .ok (.istore 7, 2) := by decide +kernel
theorem dX6_gets_110 : decode cX6_gets 110 = .ok (.iload 6, 2) := by decide +kernel
theorem dX6_gets_112 : decode cX6_gets 112 = .ok (.aload_n 0, 1) := by decide +kernel
theorem dX6_gets_113 : decode cX6_gets 113 = .ok (.iload_n 1, 1) := by decide +kernel
theorem dX6_gets_114 : decode cX6_gets 114 = .ok (.iload_n 2, 1) := by decide +kernel
theorem dX6_gets_115 : decode cX6_gets 115 = .ok (.invokevirtual 167, 3) := by decide +kernel
theorem dX6_gets_118 : decode cX6_gets 118 = .ok (.iconst 4, 1) := by decide +kernel
theorem dX6_gets_119 : decode cX6_gets 119 = .ok (.idiv, 1) := by decide +kernel
theorem dX6_gets_120 : decode cX6_gets 120 = .ok (.isub, 1) := by decide +kernel
theorem dX6_gets_121 : decode cX6_gets 121 = .ok (.ldc 170, 2) := by decide +kernel
theorem dX6_gets_123 : decode cX6_gets 123 = .ok (.invokestatic 171, 3) := by decide +kernel
theorem dX6_gets_126 : decode cX6_gets 126 = .ok (.istore 8, 2) := by decide +kernel
theorem dX6_gets_128 : decode cX6_gets 128 = .ok (.iload 7, 2) := by decide +kernel
theorem dX6_gets_130 : decode cX6_gets 130 = .ok (.ifCond .eq 15, 3) := by decide +kernel
theorem dX6_gets_133 : decode cX6_gets 133 = .ok (.iload 8, 2) := by decide +kernel
theorem dX6_gets_135 : decode cX6_gets 135 = .ok (.iconst 2, 1) := by decide +kernel
theorem dX6_gets_136 : decode cX6_gets 136 = .ok (.isub, 1) := by decide +kernel
theorem dX6_gets_137 : decode cX6_gets 137 = .ok (.ldc 170, 2) := by decide +kernel
theorem dX6_gets_139 : decode cX6_gets 139 = .ok (.invokestatic 171, 3) := by decide +kernel
theorem dX6_gets_142 : decode cX6_gets 142 = .ok (.goto 5, 3) := by decide +kernel
theorem dX6_gets_145 : decode cX6_gets 145 = .ok (.iload 8, 2) := by decide +kernel
theorem dX6_gets_147 : decode cX6_gets 147 = .ok (.ireturn, 1) := by decide +kernel
theorem dX6_gets_148 : decode cX6_gets 148 = .ok (.iload_n 3, 1) := by decide +kernel
theorem dX6_gets_149 : decode cX6_gets 149 = .ok (.iload_n 2, 1) := by decide +kernel
theorem dX6_gets_150 : decode cX6_gets 150 = .ok (.invokestatic 164, 3) := by decide +kernel
theorem dX6_gets_153 : decode cX6_gets 153 = .ok (.ifCond .ne 22, 3) := by decide +kernel
theorem dX6_gets_156 : decode cX6_gets 156 = .ok (.iload 4, 2) := by decide +kernel
theorem dX6_gets_158 : decode cX6_gets 158 = .ok (.iload_n 2, 1) := by decide +kernel
theorem dX6_gets_159 : decode cX6_gets 159 = .ok (.invokestatic 164, 3) := by decide +kernel
theorem dX6_gets_162 : decode cX6_gets 162 = .ok (.ifCond .eq 13, 3) := by decide +kernel
theorem dX6_gets_165 : decode cX6_gets 165 = .ok (.iload 6, 2) := by decide +kernel
theorem dX6_gets_167 : decode cX6_gets 167 = .ok (.iload 5, 2) := by decide +kernel
theorem dX6_gets_169 : decode cX6_gets 169 = .ok (.iconst 3, 1) := by decide +kernel
theorem dX6_gets_170 : decode cX6_gets 170 = .ok (.idiv, 1) := by decide +kernel
theorem dX6_gets_171 : decode cX6_gets 171 = .ok (.iadd, 1) := by decide +kernel
theorem dX6_gets_172 : decode cX6_gets 172 = .ok (.goto 5, 3) := by decide +kernel
theorem dX6_gets_175 : decode cX6_gets 175 = .ok (.iload 6, 2) := by decide +kernel
theorem dX6_gets_177 : decode cX6_gets 177 = .ok (.ireturn, 1) := by decide +kernel
theorem dX6_gets_178 : decode cX6_gets 178 = .ok (.iload 6, 2) := by decide +kernel
theorem dX6_gets_180 : decode cX6_gets 180 = .ok (.ireturn, 1) := by decide +kernel
theorem dX6_blackOf_0 : decode cX6_blackOf 0 = .ok (.iconst 0, 1) := by decide +kernel
theorem dX6_blackOf_1 : decode cX6_blackOf 1 = .ok (.istore_n 2, 1) := by decide +kernel
theorem dX6_blackOf_2 : decode cX6_blackOf 2 = .ok (.iconst 0, 1) := by decide +kernel
theorem dX6_blackOf_3 : decode cX6_blackOf 3 = .ok (.istore_n 3, 1) := by decide +kernel
theorem dX6_blackOf_4 : decode cX6_blackOf 4 = .ok (.iload_n 3, 1) := by decide +kernel
theorem dX6_blackOf_5 : decode cX6_blackOf 5 = .ok (.bipush 8, 2) := by decide +kernel
theorem dX6_blackOf_7 : decode cX6_blackOf 7 = .ok (.if_icmp .ge 38, 3) := by decide +kernel
theorem dX6_blackOf_10 : decode cX6_blackOf 10 = .ok (.iload_n 2, 1) := by decide +kernel
theorem dX6_blackOf_11 : decode cX6_blackOf 11 = .ok (.aload_n 0, 1) := by decide +kernel
theorem dX6_blackOf_12 : decode cX6_blackOf 12 = .ok (.iload_n 1, 1) := by decide +kernel
theorem dX6_blackOf_13 : decode cX6_blackOf 13 = .ok (.iload_n 3, 1) := by decide +kernel
theorem dX6_blackOf_14 : decode cX6_blackOf 14 = .ok (.invokevirtual 167, 3) := by decide +kernel
theorem dX6_blackOf_17 : decode cX6_blackOf 17 = .ok (.aload_n 0, 1) := by decide +kernel
theorem dX6_blackOf_18 : decode cX6_blackOf 18 = .ok (.getfield 13, 3) := by decide +kernel
theorem dX6_blackOf_21 : decode cX6_blackOf 21 = .ok (.bipush 34, 2) := by decide +kernel
theorem dX6_blackOf_23 : decode cX6_blackOf 23 = .ok (.iaload, 1) := by decide +kernel
theorem dX6_blackOf_24 : decode cX6_blackOf 24 = .ok (.if_icmp .lt 7, 3) := by decide +kernel
theorem dX6_blackOf_27 : decode cX6_blackOf 27 = .ok (.iconst 1, 1) := by decide +kernel
theorem dX6_blackOf_28 : decode cX6_blackOf 28 = .ok (.goto 4, 3) := by decide +kernel
theorem dX6_blackOf_31 : decode cX6_blackOf 31 = .ok (.iconst 0, 1) := by decide +kernel
theorem dX6_blackOf_32 : decode cX6_blackOf 32 = .ok (.invokestatic 174, 3) := by decide +kernel
theorem dX6_blackOf_35 : decode cX6_blackOf 35 = .ok (.iload_n 3, 1) := by decide +kernel
theorem dX6_blackOf_36 : decode cX6_blackOf 36 = .ok (.ishl, 1) := by decide +kernel
theorem dX6_blackOf_37 : decode cX6_blackOf 37 = .ok (.ior, 1) := by decide +kernel
theorem dX6_blackOf_38 : decode cX6_blackOf 38 = .ok (.istore_n 2, 1) := by decide +kernel
theorem dX6_blackOf_39 : decode cX6_blackOf 39 = .ok (.iinc 3 1, 3) := by decide +kernel
theorem dX6_blackOf_42 : decode cX6_blackOf 42 = .ok (.goto (-38), 3) := by decide +kernel
theorem dX6_blackOf_45 : decode cX6_blackOf 45 = .ok (.iload_n 2, 1) := by decide +kernel
theorem dX6_blackOf_46 : decode cX6_blackOf 46 = .ok (.ireturn, 1) := by decide +kernel
theorem dX6_cools_0 : decode cX6_cools 0 = .ok (.iconst 0, 1) := by decide +kernel
theorem dX6_cools_1 : decode cX6_cools 1 = .ok (.istore_n 2, 1) := by decide +kernel
theorem dX6_cools_2 : decode cX6_cools 2 = .ok (.iload_n 2, 1) := by decide +kernel
theorem dX6_cools_3 : decode cX6_cools 3 = .ok (.bipush 8, 2) := by decide +kernel
theorem dX6_cools_5 : decode cX6_cools 5 = .ok (.if_icmp .ge 29, 3) := by decide +kernel
theorem dX6_cools_8 : decode cX6_cools 8 = .ok (.aload_n 0, 1) := by decide +kernel
theorem dX6_cools_9 : decode cX6_cools 9 = .ok (.getfield 38, 3) := by decide +kernel
theorem dX6_cools_12 : decode cX6_cools 12 = .ok (.iload_n 2, 1) := by decide +kernel
theorem dX6_cools_13 : decode cX6_cools 13 = .ok (.aload_n 0, 1) := by decide +kernel
theorem dX6_cools_14 : decode cX6_cools 14 = .ok (.iload_n 1, 1) := by decide +kernel
theorem dX6_cools_15 : decode cX6_cools 15 = .ok (.iload_n 2, 1) := by decide +kernel
theorem dX6_cools_16 : decode cX6_cools 16 = .ok (.invokevirtual 167, 3) := by decide +kernel
theorem dX6_cools_19 : decode cX6_cools 19 = .ok (.aload_n 0, 1) := by decide +kernel
theorem dX6_cools_20 : decode cX6_cools 20 = .ok (.getfield 13, 3) := by decide +kernel
theorem dX6_cools_23 : decode cX6_cools 23 = .ok (.bipush 35, 2) := by decide +kernel
theorem dX6_cools_25 : decode cX6_cools 25 = .ok (.iaload, 1) := by decide +kernel
theorem dX6_cools_26 : decode cX6_cools 26 = .ok (.isub, 1) := by decide +kernel
theorem dX6_cools_27 : decode cX6_cools 27 = .ok (.iastore, 1) := by decide +kernel
theorem dX6_cools_28 : decode cX6_cools 28 = .ok (.iinc 2 1, 3) := by decide +kernel
theorem dX6_cools_31 : decode cX6_cools 31 = .ok (.goto (-29), 3) := by decide +kernel
theorem dX6_cools_34 : decode cX6_cools 34 = .ok (.iconst 0, 1) := by decide +kernel
theorem dX6_cools_35 : decode cX6_cools 35 = .ok (.istore_n 2, 1) := by decide +kernel
theorem dX6_cools_36 : decode cX6_cools 36 = .ok (.iload_n 2, 1) := by decide +kernel
theorem dX6_cools_37 : decode cX6_cools 37 = .ok (.iconst 1, 1) := by decide +kernel
theorem dX6_cools_38 : decode cX6_cools 38 = .ok (.iadd, 1) := by decide +kernel
theorem dX6_cools_39 : decode cX6_cools 39 = .ok (.bipush 8, 2) := by decide +kernel
theorem dX6_cools_41 : decode cX6_cools 41 = .ok (.if_icmp .ge 58, 3) := by decide +kernel
theorem dX6_cools_44 : decode cX6_cools 44 = .ok (.aload_n 0, 1) := by decide +kernel
theorem dX6_cools_45 : decode cX6_cools 45 = .ok (.iload_n 1, 1) := by decide +kernel
theorem dX6_cools_46 : decode cX6_cools 46 = .ok (.iload_n 2, 1) := by decide +kernel
theorem dX6_cools_47 : decode cX6_cools 47 = .ok (.invokevirtual 167, 3) := by decide +kernel
theorem dX6_cools_50 : decode cX6_cools 50 = .ok (.aload_n 0, 1) := by decide +kernel
theorem dX6_cools_51 : decode cX6_cools 51 = .ok (.iload_n 1, 1) := by decide +kernel
theorem dX6_cools_52 : decode cX6_cools 52 = .ok (.iload_n 2, 1) := by decide +kernel
theorem dX6_cools_53 : decode cX6_cools 53 = .ok (.iconst 1, 1) := by decide +kernel
theorem dX6_cools_54 : decode cX6_cools 54 = .ok (.iadd, 1) := by decide +kernel
theorem dX6_cools_55 : decode cX6_cools 55 = .ok (.invokevirtual 167, 3) := by decide +kernel
theorem dX6_cools_58 : decode cX6_cools 58 = .ok (.isub, 1) := by decide +kernel
theorem dX6_cools_59 : decode cX6_cools 59 = .ok (.aload_n 0, 1) := by decide +kernel
theorem dX6_cools_60 : decode cX6_cools 60 = .ok (.getfield 13, 3) := by decide +kernel
theorem dX6_cools_63 : decode cX6_cools 63 = .ok (.bipush 36, 2) := by decide +kernel
theorem dX6_cools_65 : decode cX6_cools 65 = .ok (.iaload, 1) := by decide +kernel
theorem dX6_cools_66 : decode cX6_cools 66 = .ok (.imul, 1) := by decide +kernel
theorem dX6_cools_67 : decode cX6_cools 67 = .ok (.bipush 8, 2) := by decide +kernel
theorem dX6_cools_69 : decode cX6_cools 69 = .ok (.idiv, 1) := by decide +kernel
theorem dX6_cools_70 : decode cX6_cools 70 = .ok (.istore_n 3, 1) := by decide +kernel
theorem dX6_cools_71 : decode cX6_cools 71 = .ok (.aload_n 0, 1) := by decide +kernel
theorem dX6_cools_72 : decode cX6_cools 72 = .ok (.getfield 38, 3) := by decide +kernel
theorem dX6_cools_75 : decode cX6_cools 75 = .ok (.iload_n 2, 1) := by decide +kernel
theorem dX6_cools_76 : decode cX6_cools 76 = .ok (.dup2, 1) := by decide +kernel
theorem dX6_cools_77 : decode cX6_cools 77 = .ok (.iaload, 1) := by decide +kernel
theorem dX6_cools_78 : decode cX6_cools 78 = .ok (.iload_n 3, 1) := by decide +kernel
theorem dX6_cools_79 : decode cX6_cools 79 = .ok (.isub, 1) := by decide +kernel
theorem dX6_cools_80 : decode cX6_cools 80 = .ok (.iastore, 1) := by decide +kernel
theorem dX6_cools_81 : decode cX6_cools 81 = .ok (.aload_n 0, 1) := by decide +kernel
theorem dX6_cools_82 : decode cX6_cools 82 = .ok (.getfield 38, 3) := by decide +kernel
theorem dX6_cools_85 : decode cX6_cools 85 = .ok (.iload_n 2, 1) := by decide +kernel
theorem dX6_cools_86 : decode cX6_cools 86 = .ok (.iconst 1, 1) := by decide +kernel
theorem dX6_cools_87 : decode cX6_cools 87 = .ok (.iadd, 1) := by decide +kernel
theorem dX6_cools_88 : decode cX6_cools 88 = .ok (.dup2, 1) := by decide +kernel
theorem dX6_cools_89 : decode cX6_cools 89 = .ok (.iaload, 1) := by decide +kernel
theorem dX6_cools_90 : decode cX6_cools 90 = .ok (.iload_n 3, 1) := by decide +kernel
theorem dX6_cools_91 : decode cX6_cools 91 = .ok (.iadd, 1) := by decide +kernel
theorem dX6_cools_92 : decode cX6_cools 92 = .ok (.iastore, 1) := by decide +kernel
theorem dX6_cools_93 : decode cX6_cools 93 = .ok (.iinc 2 1, 3) := by decide +kernel
theorem dX6_cools_96 : decode cX6_cools 96 = .ok (.goto (-60), 3) := by decide +kernel
theorem dX6_cools_99 : decode cX6_cools 99 = .ok (.iconst 0, 1) := by decide +kernel
theorem dX6_cools_100 : decode cX6_cools 100 = .ok (.istore_n 2, 1) := by decide +kernel
theorem dX6_cools_101 : decode cX6_cools 101 = .ok (.iload_n 2, 1) := by decide +kernel
theorem dX6_cools_102 : decode cX6_cools 102 = .ok (.bipush 8, 2) := by decide +kernel
theorem dX6_cools_104 : decode cX6_cools 104 = .ok (.if_icmp .ge 26, 3) := by decide +kernel
theorem dX6_cools_107 : decode cX6_cools 107 = .ok (.aload_n 0, 1) := by decide +kernel
theorem dX6_cools_108 : decode cX6_cools 108 = .ok (.iload_n 1, 1) := by decide +kernel
theorem dX6_cools_109 : decode cX6_cools 109 = .ok (.iload_n 2, 1) := by decide +kernel
theorem dX6_cools_110 : decode cX6_cools 110 = .ok (.aload_n 0, 1) := by decide +kernel
theorem dX6_cools_111 : decode cX6_cools 111 = .ok (.getfield 38, 3) := by decide +kernel
theorem dX6_cools_114 : decode cX6_cools 114 = .ok (.iload_n 2, 1) := by decide +kernel
theorem dX6_cools_115 : decode cX6_cools 115 = .ok (.iaload, 1) := by decide +kernel
theorem dX6_cools_116 : decode cX6_cools 116 = .ok (.bipush 99, 2) := by decide +kernel
theorem dX6_cools_118 : decode cX6_cools 118 = .ok (.invokestatic 171, 3) := by decide +kernel
theorem dX6_cools_121 : decode cX6_cools 121 = .ok (.invokevirtual 178, 3) := by decide +kernel
theorem dX6_cools_124 : decode cX6_cools 124 = .ok (.iinc 2 1, 3) := by decide +kernel
theorem dX6_cools_127 : decode cX6_cools 127 = .ok (.goto (-26), 3) := by decide +kernel
theorem dX6_cools_130 : decode cX6_cools 130 = .ok (.return_, 1) := by decide +kernel
theorem dX6_headBurns_0 : decode cX6_headBurns 0 = .ok (.iconst 0, 1) := by decide +kernel
theorem dX6_headBurns_1 : decode cX6_headBurns 1 = .ok (.istore 5, 2) := by decide +kernel
theorem dX6_headBurns_3 : decode cX6_headBurns 3 = .ok (.iload 5, 2) := by decide +kernel
theorem dX6_headBurns_5 : decode cX6_headBurns 5 = .ok (.bipush 8, 2) := by decide +kernel
theorem dX6_headBurns_7 : decode cX6_headBurns 7 = .ok (.if_icmp .ge 34, 3) := by decide +kernel
theorem dX6_headBurns_10 : decode cX6_headBurns 10 = .ok (.aload_n 0, 1) := by decide +kernel
theorem dX6_headBurns_11 : decode cX6_headBurns 11 = .ok (.getfield 35, 3) := by decide +kernel
theorem dX6_headBurns_14 : decode cX6_headBurns 14 = .ok (.iload 5, 2) := by decide +kernel
theorem dX6_headBurns_16 : decode cX6_headBurns 16 = .ok (.iload 4, 2) := by decide +kernel
theorem dX6_headBurns_18 : decode cX6_headBurns 18 = .ok (.ifCond .eq 7, 3) := by decide +kernel
theorem dX6_headBurns_21 : decode cX6_headBurns 21 = .ok (.iconst 0, 1) := by decide +kernel
theorem dX6_headBurns_22 : decode cX6_headBurns 22 = .ok (.goto 12, 3) := by decide +kernel
theorem dX6_headBurns_25 : decode cX6_headBurns 25 = .ok (.aload_n 0, 1) := by decide +kernel
theorem dX6_headBurns_26 : decode cX6_headBurns 26 = .ok (.iload_n 1, 1) := by decide +kernel
theorem dX6_headBurns_27 : decode cX6_headBurns 27 = .ok (.iload 5, 2) := by decide +kernel
theorem dX6_headBurns_29 : decode cX6_headBurns 29 = .ok (.iload_n 2, 1) := by decide +kernel
theorem dX6_headBurns_30 : decode cX6_headBurns 30 = .ok (.iload_n 3, 1) := by decide +kernel
theorem dX6_headBurns_31 : decode cX6_headBurns 31 = .ok (.invokevirtual 182, 3) := by decide +kernel
theorem dX6_headBurns_34 : decode cX6_headBurns 34 = .ok (.iastore, 1) := by decide +kernel
theorem dX6_headBurns_35 : decode cX6_headBurns 35 = .ok (.iinc 5 1, 3) := by decide +kernel
theorem dX6_headBurns_38 : decode cX6_headBurns 38 = .ok (.goto (-35), 3) := by decide +kernel
theorem dX6_headBurns_41 : decode cX6_headBurns 41 = .ok (.iconst 0, 1) := by decide +kernel
theorem dX6_headBurns_42 : decode cX6_headBurns 42 = .ok (.istore 5, 2) := by decide +kernel
theorem dX6_headBurns_44 : decode cX6_headBurns 44 = .ok (.iload 5, 2) := by decide +kernel
theorem dX6_headBurns_46 : decode cX6_headBurns 46 = .ok (.bipush 8, 2) := by decide +kernel
theorem dX6_headBurns_48 : decode cX6_headBurns 48 = .ok (.if_icmp .ge 62, 3) := by decide +kernel
theorem dX6_headBurns_51 : decode cX6_headBurns 51 = .ok (.aload_n 0, 1) := by decide +kernel
theorem dX6_headBurns_52 : decode cX6_headBurns 52 = .ok (.iload_n 1, 1) := by decide +kernel
theorem dX6_headBurns_53 : decode cX6_headBurns 53 = .ok (.iload 5, 2) := by decide +kernel
theorem dX6_headBurns_55 : decode cX6_headBurns 55 = .ok (.invokevirtual 167, 3) := by decide +kernel
theorem dX6_headBurns_58 : decode cX6_headBurns 58 = .ok (.aload_n 0, 1) := by decide +kernel
theorem dX6_headBurns_59 : decode cX6_headBurns 59 = .ok (.getfield 35, 3) := by decide +kernel
theorem dX6_headBurns_62 : decode cX6_headBurns 62 = .ok (.iload 5, 2) := by decide +kernel
theorem dX6_headBurns_64 : decode cX6_headBurns 64 = .ok (.iaload, 1) := by decide +kernel
theorem dX6_headBurns_65 : decode cX6_headBurns 65 = .ok (.iadd, 1) := by decide +kernel
theorem dX6_headBurns_66 : decode cX6_headBurns 66 = .ok (.bipush 99, 2) := by decide +kernel
theorem dX6_headBurns_68 : decode cX6_headBurns 68 = .ok (.invokestatic 171, 3) := by decide +kernel
theorem dX6_headBurns_71 : decode cX6_headBurns 71 = .ok (.istore 6, 2) := by decide +kernel
theorem dX6_headBurns_73 : decode cX6_headBurns 73 = .ok (.aload_n 0, 1) := by decide +kernel
theorem dX6_headBurns_74 : decode cX6_headBurns 74 = .ok (.iload_n 1, 1) := by decide +kernel
theorem dX6_headBurns_75 : decode cX6_headBurns 75 = .ok (.iload 5, 2) := by decide +kernel
theorem dX6_headBurns_77 : decode cX6_headBurns 77 = .ok (.iload 6, 2) := by decide +kernel
theorem dX6_headBurns_79 : decode cX6_headBurns 79 = .ok (.invokevirtual 178, 3) := by decide +kernel
theorem dX6_headBurns_82 : decode cX6_headBurns 82 = .ok (.aload_n 0, 1) := by decide +kernel
theorem dX6_headBurns_83 : decode cX6_headBurns 83 = .ok (.iload 6, 2) := by decide +kernel
theorem dX6_headBurns_85 : decode cX6_headBurns 85 = .ok (.aload_n 0, 1) := by decide +kernel
theorem dX6_headBurns_86 : decode cX6_headBurns 86 = .ok (.getfield 155, 3) := by decide +kernel
theorem dX6_headBurns_89 : decode cX6_headBurns 89 = .ok (.if_icmp .le 8, 3) := by decide +kernel
theorem dX6_headBurns_92 : decode cX6_headBurns 92 = .ok (.iload 6, 2) := by decide +kernel
theorem dX6_headBurns_94 : decode cX6_headBurns 94 = .ok (.goto 7, 3) := by decide +kernel
theorem dX6_headBurns_97 : decode cX6_headBurns 97 = .ok (.aload_n 0, 1) := by decide +kernel
theorem dX6_headBurns_98 : decode cX6_headBurns 98 = .ok (.getfield 155, 3) := by decide +kernel
theorem dX6_headBurns_101 : decode cX6_headBurns 101 = .ok (.putfield 155, 3) := by decide +kernel
theorem dX6_headBurns_104 : decode cX6_headBurns 104 = .ok (.iinc 5 1, 3) := by decide +kernel
theorem dX6_headBurns_107 : decode cX6_headBurns 107 = .ok (.goto (-63), 3) := by decide +kernel
theorem dX6_headBurns_110 : decode cX6_headBurns 110 = .ok (.aload_n 0, 1) := by decide +kernel
theorem dX6_headBurns_111 : decode cX6_headBurns 111 = .ok (.getfield 32, 3) := by decide +kernel
theorem dX6_headBurns_114 : decode cX6_headBurns 114 = .ok (.iload_n 1, 1) := by decide +kernel
theorem dX6_headBurns_115 : decode cX6_headBurns 115 = .ok (.aload_n 0, 1) := by decide +kernel
theorem dX6_headBurns_116 : decode cX6_headBurns 116 = .ok (.iload_n 1, 1) := by decide +kernel
theorem dX6_headBurns_117 : decode cX6_headBurns 117 = .ok (.invokevirtual 186, 3) := by decide +kernel
theorem dX6_headBurns_120 : decode cX6_headBurns 120 = .ok (.iastore, 1) := by decide +kernel
theorem dX6_headBurns_121 : decode cX6_headBurns 121 = .ok (.aload_n 0, 1) := by decide +kernel
theorem dX6_headBurns_122 : decode cX6_headBurns 122 = .ok (.getfield 32, 3) := by decide +kernel
theorem dX6_headBurns_125 : decode cX6_headBurns 125 = .ok (.iload_n 1, 1) := by decide +kernel
theorem dX6_headBurns_126 : decode cX6_headBurns 126 = .ok (.iaload, 1) := by decide +kernel
theorem dX6_headBurns_127 : decode cX6_headBurns 127 = .ok (.iload_n 2, 1) := by decide +kernel
theorem dX6_headBurns_128 : decode cX6_headBurns 128 = .ok (.ixor, 1) := by decide +kernel
theorem dX6_headBurns_129 : decode cX6_headBurns 129 = .ok (.invokestatic 189, 3) := by decide +kernel
theorem dX6_headBurns_132 : decode cX6_headBurns 132 = .ok (.istore 5, 2) := by decide +kernel
theorem dX6_headBurns_134 : decode cX6_headBurns 134 = .ok (.aload_n 0, 1) := by decide +kernel
theorem dX6_headBurns_135 : decode cX6_headBurns 135 = .ok (.dup, 1) := by decide +kernel
theorem dX6_headBurns_136 : decode cX6_headBurns 136 = .ok (.getfield 152, 3) := by decide +kernel
theorem dX6_headBurns_139 : decode cX6_headBurns 139 = .ok (.aload_n 0, 1) := by decide +kernel
theorem dX6_headBurns_140 : decode cX6_headBurns 140 = .ok (.getfield 32, 3) := by decide +kernel
theorem dX6_headBurns_143 : decode cX6_headBurns 143 = .ok (.iload_n 1, 1) := by decide +kernel
theorem dX6_headBurns_144 : decode cX6_headBurns 144 = .ok (.iaload, 1) := by decide +kernel
theorem dX6_headBurns_145 : decode cX6_headBurns 145 = .ok (.invokestatic 189, 3) := by decide +kernel
theorem dX6_headBurns_148 : decode cX6_headBurns 148 = .ok (.iadd, 1) := by decide +kernel
theorem dX6_headBurns_149 : decode cX6_headBurns 149 = .ok (.putfield 152, 3) := by decide +kernel
theorem dX6_headBurns_152 : decode cX6_headBurns 152 = .ok (.aload_n 0, 1) := by decide +kernel
theorem dX6_headBurns_153 : decode cX6_headBurns 153 = .ok (.dup, 1) := by decide +kernel
theorem dX6_headBurns_154 : decode cX6_headBurns 154 = .ok (.getfield 149, 3) := by decide +kernel
theorem dX6_headBurns_157 : decode cX6_headBurns 157 = .ok (.iload 5, 2) := by decide +kernel
theorem dX6_headBurns_159 : decode cX6_headBurns 159 = .ok (.iadd, 1) := by decide +kernel
theorem dX6_headBurns_160 : decode cX6_headBurns 160 = .ok (.putfield 149, 3) := by decide +kernel
theorem dX6_headBurns_163 : decode cX6_headBurns 163 = .ok (.aload_n 0, 1) := by decide +kernel
theorem dX6_headBurns_164 : decode cX6_headBurns 164 = .ok (.getfield 29, 3) := by decide +kernel
theorem dX6_headBurns_167 : decode cX6_headBurns 167 = .ok (.iload_n 1, 1) := by decide +kernel
theorem dX6_headBurns_168 : decode cX6_headBurns 168 = .ok (.dup2, 1) := by decide +kernel
theorem dX6_headBurns_169 : decode cX6_headBurns 169 = .ok (.iaload, 1) := by decide +kernel
theorem dX6_headBurns_170 : decode cX6_headBurns 170 = .ok (.iload 5, 2) := by decide +kernel
theorem dX6_headBurns_172 : decode cX6_headBurns 172 = .ok (.iadd, 1) := by decide +kernel
theorem dX6_headBurns_173 : decode cX6_headBurns 173 = .ok (.iastore, 1) := by decide +kernel
theorem dX6_headBurns_174 : decode cX6_headBurns 174 = .ok (.aload_n 0, 1) := by decide +kernel
theorem dX6_headBurns_175 : decode cX6_headBurns 175 = .ok (.getfield 13, 3) := by decide +kernel
theorem dX6_headBurns_178 : decode cX6_headBurns 178 = .ok (.bipush 11, 2) := by decide +kernel
theorem dX6_headBurns_180 : decode cX6_headBurns 180 = .ok (.iload_n 1, 1) := by decide +kernel
theorem dX6_headBurns_181 : decode cX6_headBurns 181 = .ok (.imul, 1) := by decide +kernel
theorem dX6_headBurns_182 : decode cX6_headBurns 182 = .ok (.iconst 2, 1) := by decide +kernel
theorem dX6_headBurns_183 : decode cX6_headBurns 183 = .ok (.iadd, 1) := by decide +kernel
theorem dX6_headBurns_184 : decode cX6_headBurns 184 = .ok (.aload_n 0, 1) := by decide +kernel
theorem dX6_headBurns_185 : decode cX6_headBurns 185 = .ok (.iload_n 1, 1) := by decide +kernel
theorem dX6_headBurns_186 : decode cX6_headBurns 186 = .ok (.iconst 2, 1) := by decide +kernel
theorem dX6_headBurns_187 : decode cX6_headBurns 187 = .ok (.invokevirtual 161, 3) := by decide +kernel
theorem dX6_headBurns_190 : decode cX6_headBurns 190 = .ok (.iload 5, 2) := by decide +kernel
theorem dX6_headBurns_192 : decode cX6_headBurns 192 = .ok (.iadd, 1) := by decide +kernel
theorem dX6_headBurns_193 : decode cX6_headBurns 193 = .ok (.sipush 9999, 3) := by decide +kernel
theorem dX6_headBurns_196 : decode cX6_headBurns 196 = .ok (.invokestatic 171, 3) := by decide +kernel
theorem dX6_headBurns_199 : decode cX6_headBurns 199 = .ok (.iastore, 1) := by decide +kernel
theorem dX6_headBurns_200 : decode cX6_headBurns 200 = .ok (.aload_n 0, 1) := by decide +kernel
theorem dX6_headBurns_201 : decode cX6_headBurns 201 = .ok (.iload_n 1, 1) := by decide +kernel
theorem dX6_headBurns_202 : decode cX6_headBurns 202 = .ok (.invokevirtual 192, 3) := by decide +kernel
theorem dX6_headBurns_205 : decode cX6_headBurns 205 = .ok (.return_, 1) := by decide +kernel
theorem dX6_rowGoes_0 : decode cX6_rowGoes 0 = .ok (.aload_n 0, 1) := by decide +kernel
theorem dX6_rowGoes_1 : decode cX6_rowGoes 1 = .ok (.getfield 149, 3) := by decide +kernel
theorem dX6_rowGoes_4 : decode cX6_rowGoes 4 = .ok (.istore 4, 2) := by decide +kernel
theorem dX6_rowGoes_6 : decode cX6_rowGoes 6 = .ok (.iconst 0, 1) := by decide +kernel
theorem dX6_rowGoes_7 : decode cX6_rowGoes 7 = .ok (.istore 5, 2) := by decide +kernel
theorem dX6_rowGoes_9 : decode cX6_rowGoes 9 = .ok (.iload 5, 2) := by decide +kernel
theorem dX6_rowGoes_11 : decode cX6_rowGoes 11 = .ok (.aload_n 0, 1) := by decide +kernel
theorem dX6_rowGoes_12 : decode cX6_rowGoes 12 = .ok (.getfield 13, 3) := by decide +kernel
theorem dX6_rowGoes_15 : decode cX6_rowGoes 15 = .ok (.bipush 33, 2) := by decide +kernel
theorem dX6_rowGoes_17 : decode cX6_rowGoes 17 = .ok (.iaload, 1) := by decide +kernel
theorem dX6_rowGoes_18 : decode cX6_rowGoes 18 = .ok (.if_icmp .ge 18, 3) := by decide +kernel
theorem dX6_rowGoes_21 : decode cX6_rowGoes 21 = .ok (.aload_n 0, 1) := by decide +kernel
theorem dX6_rowGoes_22 : decode cX6_rowGoes 22 = .ok (.iload 5, 2) := by decide +kernel
theorem dX6_rowGoes_24 : decode cX6_rowGoes 24 = .ok (.iload_n 1, 1) := by decide +kernel
theorem dX6_rowGoes_25 : decode cX6_rowGoes 25 = .ok (.iload_n 2, 1) := by decide +kernel
theorem dX6_rowGoes_26 : decode cX6_rowGoes 26 = .ok (.iload_n 3, 1) := by decide +kernel
theorem dX6_rowGoes_27 : decode cX6_rowGoes 27 = .ok (.invokevirtual 195, 3) := by decide +kernel
theorem dX6_rowGoes_30 : decode cX6_rowGoes 30 = .ok (.iinc 5 1, 3) := by decide +kernel
theorem dX6_rowGoes_33 : decode cX6_rowGoes 33 = .ok (.goto (-24), 3) := by decide +kernel
theorem dX6_rowGoes_36 : decode cX6_rowGoes 36 = .ok (.aload_n 0, 1) := by decide +kernel
theorem dX6_rowGoes_37 : decode cX6_rowGoes 37 = .ok (.dup, 1) := by decide +kernel
theorem dX6_rowGoes_38 : decode cX6_rowGoes 38 = .ok (.getfield 158, 3) := by decide +kernel
theorem dX6_rowGoes_41 : decode cX6_rowGoes 41 = .ok (.aload_n 0, 1) := by decide +kernel
theorem dX6_rowGoes_42 : decode cX6_rowGoes 42 = .ok (.getfield 149, 3) := by decide +kernel
theorem dX6_rowGoes_45 : decode cX6_rowGoes 45 = .ok (.iload 4, 2) := by decide +kernel
theorem dX6_rowGoes_47 : decode cX6_rowGoes 47 = .ok (.if_icmp .le 7, 3) := by decide +kernel
theorem dX6_rowGoes_50 : decode cX6_rowGoes 50 = .ok (.iconst 1, 1) := by decide +kernel
theorem dX6_rowGoes_51 : decode cX6_rowGoes 51 = .ok (.goto 4, 3) := by decide +kernel
theorem dX6_rowGoes_54 : decode cX6_rowGoes 54 = .ok (.iconst 0, 1) := by decide +kernel
theorem dX6_rowGoes_55 : decode cX6_rowGoes 55 = .ok (.invokestatic 174, 3) := by decide +kernel
theorem dX6_rowGoes_58 : decode cX6_rowGoes 58 = .ok (.iadd, 1) := by decide +kernel
theorem dX6_rowGoes_59 : decode cX6_rowGoes 59 = .ok (.putfield 158, 3) := by decide +kernel
theorem dX6_rowGoes_62 : decode cX6_rowGoes 62 = .ok (.aload_n 0, 1) := by decide +kernel
theorem dX6_rowGoes_63 : decode cX6_rowGoes 63 = .ok (.getfield 146, 3) := by decide +kernel
theorem dX6_rowGoes_66 : decode cX6_rowGoes 66 = .ok (.bipush (-4), 2) := by decide +kernel
theorem dX6_rowGoes_68 : decode cX6_rowGoes 68 = .ok (.if_icmp .eq 71, 3) := by decide +kernel
theorem dX6_rowGoes_71 : decode cX6_rowGoes 71 = .ok (.aload_n 0, 1) := by decide +kernel
theorem dX6_rowGoes_72 : decode cX6_rowGoes 72 = .ok (.getfield 13, 3) := by decide +kernel
theorem dX6_rowGoes_75 : decode cX6_rowGoes 75 = .ok (.bipush 50, 2) := by decide +kernel
theorem dX6_rowGoes_77 : decode cX6_rowGoes 77 = .ok (.iaload, 1) := by decide +kernel
theorem dX6_rowGoes_78 : decode cX6_rowGoes 78 = .ok (.aload_n 0, 1) := by decide +kernel
theorem dX6_rowGoes_79 : decode cX6_rowGoes 79 = .ok (.getfield 13, 3) := by decide +kernel
theorem dX6_rowGoes_82 : decode cX6_rowGoes 82 = .ok (.bipush 49, 2) := by decide +kernel
theorem dX6_rowGoes_84 : decode cX6_rowGoes 84 = .ok (.iaload, 1) := by decide +kernel
theorem dX6_rowGoes_85 : decode cX6_rowGoes 85 = .ok (.irem, 1) := by decide +kernel
theorem dX6_rowGoes_86 : decode cX6_rowGoes 86 = .ok (.aload_n 0, 1) := by decide +kernel
theorem dX6_rowGoes_87 : decode cX6_rowGoes 87 = .ok (.getfield 146, 3) := by decide +kernel
theorem dX6_rowGoes_90 : decode cX6_rowGoes 90 = .ok (.if_icmp .ne 49, 3) := by decide +kernel
theorem dX6_rowGoes_93 : decode cX6_rowGoes 93 = .ok (.iconst 0, 1) := by decide +kernel
theorem dX6_rowGoes_94 : decode cX6_rowGoes 94 = .ok (.istore 5, 2) := by decide +kernel
theorem dX6_rowGoes_96 : decode cX6_rowGoes 96 = .ok (.iload 5, 2) := by decide +kernel
theorem dX6_rowGoes_98 : decode cX6_rowGoes 98 = .ok (.aload_n 0, 1) := by decide +kernel
theorem dX6_rowGoes_99 : decode cX6_rowGoes 99 = .ok (.getfield 13, 3) := by decide +kernel
theorem dX6_rowGoes_102 : decode cX6_rowGoes 102 = .ok (.bipush 33, 2) := by decide +kernel
theorem dX6_rowGoes_104 : decode cX6_rowGoes 104 = .ok (.iaload, 1) := by decide +kernel
theorem dX6_rowGoes_105 : decode cX6_rowGoes 105 = .ok (.if_icmp .ge 34, 3) := by decide +kernel
theorem dX6_rowGoes_108 : decode cX6_rowGoes 108 = .ok (.iconst 0, 1) := by decide +kernel
theorem dX6_rowGoes_109 : decode cX6_rowGoes 109 = .ok (.istore 6, 2) := by decide +kernel
theorem dX6_rowGoes_111 : decode cX6_rowGoes 111 = .ok (.iload 6, 2) := by decide +kernel
theorem dX6_rowGoes_113 : decode cX6_rowGoes 113 = .ok (.bipush 8, 2) := by decide +kernel
theorem dX6_rowGoes_115 : decode cX6_rowGoes 115 = .ok (.if_icmp .ge 18, 3) := by decide +kernel
theorem dX6_rowGoes_118 : decode cX6_rowGoes 118 = .ok (.aload_n 0, 1) := by decide +kernel
theorem dX6_rowGoes_119 : decode cX6_rowGoes 119 = .ok (.iload 5, 2) := by decide +kernel
theorem dX6_rowGoes_121 : decode cX6_rowGoes 121 = .ok (.iload 6, 2) := by decide +kernel
theorem dX6_rowGoes_123 : decode cX6_rowGoes 123 = .ok (.iconst 0, 1) := by decide +kernel
theorem dX6_rowGoes_124 : decode cX6_rowGoes 124 = .ok (.invokevirtual 178, 3) := by decide +kernel
theorem dX6_rowGoes_127 : decode cX6_rowGoes 127 = .ok (.iinc 6 1, 3) := by decide +kernel
theorem dX6_rowGoes_130 : decode cX6_rowGoes 130 = .ok (.goto (-19), 3) := by decide +kernel
theorem dX6_rowGoes_133 : decode cX6_rowGoes 133 = .ok (.iinc 5 1, 3) := by decide +kernel
theorem dX6_rowGoes_136 : decode cX6_rowGoes 136 = .ok (.goto (-40), 3) := by decide +kernel
theorem dX6_rowGoes_139 : decode cX6_rowGoes 139 = .ok (.aload_n 0, 1) := by decide +kernel
theorem dX6_rowGoes_140 : decode cX6_rowGoes 140 = .ok (.getfield 13, 3) := by decide +kernel
theorem dX6_rowGoes_143 : decode cX6_rowGoes 143 = .ok (.bipush 50, 2) := by decide +kernel
theorem dX6_rowGoes_145 : decode cX6_rowGoes 145 = .ok (.dup2, 1) := by decide +kernel
theorem dX6_rowGoes_146 : decode cX6_rowGoes 146 = .ok (.iaload, 1) := by decide +kernel
theorem dX6_rowGoes_147 : decode cX6_rowGoes 147 = .ok (.iconst 1, 1) := by decide +kernel
theorem dX6_rowGoes_148 : decode cX6_rowGoes 148 = .ok (.iadd, 1) := by decide +kernel
theorem dX6_rowGoes_149 : decode cX6_rowGoes 149 = .ok (.iastore, 1) := by decide +kernel
theorem dX6_rowGoes_150 : decode cX6_rowGoes 150 = .ok (.return_, 1) := by decide +kernel
theorem dX6_rowsGo_0 : decode cX6_rowsGo 0 = .ok (.iconst 0, 1) := by decide +kernel
theorem dX6_rowsGo_1 : decode cX6_rowsGo 1 = .ok (.istore_n 2, 1) := by decide +kernel
theorem dX6_rowsGo_2 : decode cX6_rowsGo 2 = .ok (.iload_n 2, 1) := by decide +kernel
theorem dX6_rowsGo_3 : decode cX6_rowsGo 3 = .ok (.iload_n 1, 1) := by decide +kernel
theorem dX6_rowsGo_4 : decode cX6_rowsGo 4 = .ok (.if_icmp .ge 38, 3) := by decide +kernel
theorem dX6_rowsGo_7 : decode cX6_rowsGo 7 = .ok (.aload_n 0, 1) := by decide +kernel
theorem dX6_rowsGo_8 : decode cX6_rowsGo 8 = .ok (.aload_n 0, 1) := by decide +kernel
theorem dX6_rowsGo_9 : decode cX6_rowsGo 9 = .ok (.aload_n 0, 1) := by decide +kernel
theorem dX6_rowsGo_10 : decode cX6_rowsGo 10 = .ok (.getfield 13, 3) := by decide +kernel
theorem dX6_rowsGo_13 : decode cX6_rowsGo 13 = .ok (.bipush 50, 2) := by decide +kernel
theorem dX6_rowsGo_15 : decode cX6_rowsGo 15 = .ok (.iaload, 1) := by decide +kernel
theorem dX6_rowsGo_16 : decode cX6_rowsGo 16 = .ok (.invokevirtual 199, 3) := by decide +kernel
theorem dX6_rowsGo_19 : decode cX6_rowsGo 19 = .ok (.aload_n 0, 1) := by decide +kernel
theorem dX6_rowsGo_20 : decode cX6_rowsGo 20 = .ok (.aload_n 0, 1) := by decide +kernel
theorem dX6_rowsGo_21 : decode cX6_rowsGo 21 = .ok (.getfield 13, 3) := by decide +kernel
theorem dX6_rowsGo_24 : decode cX6_rowsGo 24 = .ok (.bipush 50, 2) := by decide +kernel
theorem dX6_rowsGo_26 : decode cX6_rowsGo 26 = .ok (.iaload, 1) := by decide +kernel
theorem dX6_rowsGo_27 : decode cX6_rowsGo 27 = .ok (.iconst 1, 1) := by decide +kernel
theorem dX6_rowsGo_28 : decode cX6_rowsGo 28 = .ok (.iadd, 1) := by decide +kernel
theorem dX6_rowsGo_29 : decode cX6_rowsGo 29 = .ok (.invokevirtual 199, 3) := by decide +kernel
theorem dX6_rowsGo_32 : decode cX6_rowsGo 32 = .ok (.iconst 0, 1) := by decide +kernel
theorem dX6_rowsGo_33 : decode cX6_rowsGo 33 = .ok (.invokevirtual 202, 3) := by decide +kernel
theorem dX6_rowsGo_36 : decode cX6_rowsGo 36 = .ok (.iinc 2 1, 3) := by decide +kernel
theorem dX6_rowsGo_39 : decode cX6_rowsGo 39 = .ok (.goto (-37), 3) := by decide +kernel
theorem dX6_rowsGo_42 : decode cX6_rowsGo 42 = .ok (.return_, 1) := by decide +kernel
theorem dX6_wrongIn_0 : decode cX6_wrongIn 0 = .ok (.aload_n 0, 1) := by decide +kernel
theorem dX6_wrongIn_1 : decode cX6_wrongIn 1 = .ok (.iload_n 1, 1) := by decide +kernel
theorem dX6_wrongIn_2 : decode cX6_wrongIn 2 = .ok (.invokevirtual 206, 3) := by decide +kernel
theorem dX6_wrongIn_5 : decode cX6_wrongIn 5 = .ok (.aload_n 0, 1) := by decide +kernel
theorem dX6_wrongIn_6 : decode cX6_wrongIn 6 = .ok (.getfield 149, 3) := by decide +kernel
theorem dX6_wrongIn_9 : decode cX6_wrongIn 9 = .ok (.ireturn, 1) := by decide +kernel
theorem dX6_heatsOf_0 : decode cX6_heatsOf 0 = .ok (.iconst 0, 1) := by decide +kernel
theorem dX6_heatsOf_1 : decode cX6_heatsOf 1 = .ok (.istore_n 2, 1) := by decide +kernel
theorem dX6_heatsOf_2 : decode cX6_heatsOf 2 = .ok (.iconst 0, 1) := by decide +kernel
theorem dX6_heatsOf_3 : decode cX6_heatsOf 3 = .ok (.istore_n 3, 1) := by decide +kernel
theorem dX6_heatsOf_4 : decode cX6_heatsOf 4 = .ok (.iload_n 3, 1) := by decide +kernel
theorem dX6_heatsOf_5 : decode cX6_heatsOf 5 = .ok (.bipush 8, 2) := by decide +kernel
theorem dX6_heatsOf_7 : decode cX6_heatsOf 7 = .ok (.if_icmp .ge 18, 3) := by decide +kernel
theorem dX6_heatsOf_10 : decode cX6_heatsOf 10 = .ok (.iload_n 2, 1) := by decide +kernel
theorem dX6_heatsOf_11 : decode cX6_heatsOf 11 = .ok (.aload_n 0, 1) := by decide +kernel
theorem dX6_heatsOf_12 : decode cX6_heatsOf 12 = .ok (.iload_n 1, 1) := by decide +kernel
theorem dX6_heatsOf_13 : decode cX6_heatsOf 13 = .ok (.iload_n 3, 1) := by decide +kernel
theorem dX6_heatsOf_14 : decode cX6_heatsOf 14 = .ok (.invokevirtual 167, 3) := by decide +kernel
theorem dX6_heatsOf_17 : decode cX6_heatsOf 17 = .ok (.iadd, 1) := by decide +kernel
theorem dX6_heatsOf_18 : decode cX6_heatsOf 18 = .ok (.istore_n 2, 1) := by decide +kernel
theorem dX6_heatsOf_19 : decode cX6_heatsOf 19 = .ok (.iinc 3 1, 3) := by decide +kernel
theorem dX6_heatsOf_22 : decode cX6_heatsOf 22 = .ok (.goto (-18), 3) := by decide +kernel
theorem dX6_heatsOf_25 : decode cX6_heatsOf 25 = .ok (.iload_n 2, 1) := by decide +kernel
theorem dX6_heatsOf_26 : decode cX6_heatsOf 26 = .ok (.ireturn, 1) := by decide +kernel
theorem dX6_sumOf_0 : decode cX6_sumOf 0 = .ok (.iconst 0, 1) := by decide +kernel
theorem dX6_sumOf_1 : decode cX6_sumOf 1 = .ok (.istore_n 2, 1) := by decide +kernel
theorem dX6_sumOf_2 : decode cX6_sumOf 2 = .ok (.iconst 0, 1) := by decide +kernel
theorem dX6_sumOf_3 : decode cX6_sumOf 3 = .ok (.istore_n 3, 1) := by decide +kernel
theorem dX6_sumOf_4 : decode cX6_sumOf 4 = .ok (.iload_n 3, 1) := by decide +kernel
theorem dX6_sumOf_5 : decode cX6_sumOf 5 = .ok (.aload_n 0, 1) := by decide +kernel
theorem dX6_sumOf_6 : decode cX6_sumOf 6 = .ok (.getfield 13, 3) := by decide +kernel
theorem dX6_sumOf_9 : decode cX6_sumOf 9 = .ok (.bipush 33, 2) := by decide +kernel
theorem dX6_sumOf_11 : decode cX6_sumOf 11 = .ok (.iaload, 1) := by decide +kernel
theorem dX6_sumOf_12 : decode cX6_sumOf 12 = .ok (.if_icmp .ge 18, 3) := by decide +kernel
theorem dX6_sumOf_15 : decode cX6_sumOf 15 = .ok (.iload_n 2, 1) := by decide +kernel
theorem dX6_sumOf_16 : decode cX6_sumOf 16 = .ok (.aload_n 0, 1) := by decide +kernel
theorem dX6_sumOf_17 : decode cX6_sumOf 17 = .ok (.iload_n 3, 1) := by decide +kernel
theorem dX6_sumOf_18 : decode cX6_sumOf 18 = .ok (.iload_n 1, 1) := by decide +kernel
theorem dX6_sumOf_19 : decode cX6_sumOf 19 = .ok (.invokevirtual 161, 3) := by decide +kernel
theorem dX6_sumOf_22 : decode cX6_sumOf 22 = .ok (.iadd, 1) := by decide +kernel
theorem dX6_sumOf_23 : decode cX6_sumOf 23 = .ok (.istore_n 2, 1) := by decide +kernel
theorem dX6_sumOf_24 : decode cX6_sumOf 24 = .ok (.iinc 3 1, 3) := by decide +kernel
theorem dX6_sumOf_27 : decode cX6_sumOf 27 = .ok (.goto (-23), 3) := by decide +kernel
theorem dX6_sumOf_30 : decode cX6_sumOf 30 = .ok (.iload_n 2, 1) := by decide +kernel
theorem dX6_sumOf_31 : decode cX6_sumOf 31 = .ok (.ireturn, 1) := by decide +kernel
theorem dX6_rule_0 : decode cX6_rule 0 = .ok (.aload_n 0, 1) := by decide +kernel
theorem dX6_rule_1 : decode cX6_rule 1 = .ok (.invokevirtual 209, 3) := by decide +kernel
theorem dX6_rule_4 : decode cX6_rule 4 = .ok (.iload_n 1, 1) := by decide +kernel
theorem dX6_rule_5 : decode cX6_rule 5 = .ok (.tableswitch 101 0 7 #[47, 55, 63, 71, 71, 71, 83, 89], 47) := by decide +kernel
theorem dX6_rule_52 : decode cX6_rule 52 = .ok (.aload_n 0, 1) := by decide +kernel
theorem dX6_rule_53 : decode cX6_rule 53 = .ok (.getfield 7, 3) := by decide +kernel
theorem dX6_rule_56 : decode cX6_rule 56 = .ok (.bipush 33, 2) := by decide +kernel
theorem dX6_rule_58 : decode cX6_rule 58 = .ok (.iaload, 1) := by decide +kernel
theorem dX6_rule_59 : decode cX6_rule 59 = .ok (.ireturn, 1) := by decide +kernel
theorem dX6_rule_60 : decode cX6_rule 60 = .ok (.aload_n 0, 1) := by decide +kernel
theorem dX6_rule_61 : decode cX6_rule 61 = .ok (.getfield 7, 3) := by decide +kernel
theorem dX6_rule_64 : decode cX6_rule 64 = .ok (.bipush 49, 2) := by decide +kernel
theorem dX6_rule_66 : decode cX6_rule 66 = .ok (.iaload, 1) := by decide +kernel
theorem dX6_rule_67 : decode cX6_rule 67 = .ok (.ireturn, 1) := by decide +kernel
theorem dX6_rule_68 : decode cX6_rule 68 = .ok (.aload_n 0, 1) := by decide +kernel
theorem dX6_rule_69 : decode cX6_rule 69 = .ok (.getfield 7, 3) := by decide +kernel
theorem dX6_rule_72 : decode cX6_rule 72 = .ok (.bipush 50, 2) := by decide +kernel
theorem dX6_rule_74 : decode cX6_rule 74 = .ok (.iaload, 1) := by decide +kernel
theorem dX6_rule_75 : decode cX6_rule 75 = .ok (.ireturn, 1) := by decide +kernel
theorem dX6_rule_76 : decode cX6_rule 76 = .ok (.aload_n 0, 1) := by decide +kernel
theorem dX6_rule_77 : decode cX6_rule 77 = .ok (.getfield 7, 3) := by decide +kernel
theorem dX6_rule_80 : decode cX6_rule 80 = .ok (.bipush 34, 2) := by decide +kernel
theorem dX6_rule_82 : decode cX6_rule 82 = .ok (.iload_n 1, 1) := by decide +kernel
theorem dX6_rule_83 : decode cX6_rule 83 = .ok (.iadd, 1) := by decide +kernel
theorem dX6_rule_84 : decode cX6_rule 84 = .ok (.iconst 3, 1) := by decide +kernel
theorem dX6_rule_85 : decode cX6_rule 85 = .ok (.isub, 1) := by decide +kernel
theorem dX6_rule_86 : decode cX6_rule 86 = .ok (.iaload, 1) := by decide +kernel
theorem dX6_rule_87 : decode cX6_rule 87 = .ok (.ireturn, 1) := by decide +kernel
theorem dX6_rule_88 : decode cX6_rule 88 = .ok (.aload_n 0, 1) := by decide +kernel
theorem dX6_rule_89 : decode cX6_rule 89 = .ok (.iconst 2, 1) := by decide +kernel
theorem dX6_rule_90 : decode cX6_rule 90 = .ok (.invokevirtual 212, 3) := by decide +kernel
theorem dX6_rule_93 : decode cX6_rule 93 = .ok (.ireturn, 1) := by decide +kernel
theorem dX6_rule_94 : decode cX6_rule 94 = .ok (.aload_n 0, 1) := by decide +kernel
theorem dX6_rule_95 : decode cX6_rule 95 = .ok (.aload_n 0, 1) := by decide +kernel
theorem dX6_rule_96 : decode cX6_rule 96 = .ok (.getfield 13, 3) := by decide +kernel
theorem dX6_rule_99 : decode cX6_rule 99 = .ok (.bipush 50, 2) := by decide +kernel
theorem dX6_rule_101 : decode cX6_rule 101 = .ok (.iaload, 1) := by decide +kernel
theorem dX6_rule_102 : decode cX6_rule 102 = .ok (.invokevirtual 199, 3) := by decide +kernel
theorem dX6_rule_105 : decode cX6_rule 105 = .ok (.ireturn, 1) := by decide +kernel
theorem dX6_rule_106 : decode cX6_rule 106 = .ok (.iconst (-1), 1) := by decide +kernel
theorem dX6_rule_107 : decode cX6_rule 107 = .ok (.ireturn, 1) := by decide +kernel
theorem dX6_head_0 : decode cX6_head 0 = .ok (.aload_n 0, 1) := by decide +kernel
theorem dX6_head_1 : decode cX6_head 1 = .ok (.iload_n 1, 1) := by decide +kernel
theorem dX6_head_2 : decode cX6_head 2 = .ok (.invokevirtual 215, 3) := by decide +kernel
theorem dX6_head_5 : decode cX6_head 5 = .ok (.ifCond .eq 15, 3) := by decide +kernel
theorem dX6_head_8 : decode cX6_head 8 = .ok (.iload_n 2, 1) := by decide +kernel
theorem dX6_head_9 : decode cX6_head 9 = .ok (.i2l, 1) := by decide +kernel
theorem dX6_head_10 : decode cX6_head 10 = .ok (.lconst 0, 1) := by decide +kernel
theorem dX6_head_11 : decode cX6_head 11 = .ok (.ldc2_w 219, 3) := by decide +kernel
theorem dX6_head_14 : decode cX6_head 14 = .ok (.invokestatic 67, 3) := by decide +kernel
theorem dX6_head_17 : decode cX6_head 17 = .ok (.ifCond .ne 5, 3) := by decide +kernel
theorem dX6_head_20 : decode cX6_head 20 = .ok (.iconst (-1), 1) := by decide +kernel
theorem dX6_head_21 : decode cX6_head 21 = .ok (.ireturn, 1) := by decide +kernel
theorem dX6_head_22 : decode cX6_head 22 = .ok (.aload_n 0, 1) := by decide +kernel
theorem dX6_head_23 : decode cX6_head 23 = .ok (.invokevirtual 209, 3) := by decide +kernel
theorem dX6_head_26 : decode cX6_head 26 = .ok (.iload_n 2, 1) := by decide +kernel
theorem dX6_head_27 : decode cX6_head 27 = .ok (.iconst 3, 1) := by decide +kernel
theorem dX6_head_28 : decode cX6_head 28 = .ok (.if_icmp .ne 11, 3) := by decide +kernel
theorem dX6_head_31 : decode cX6_head 31 = .ok (.aload_n 0, 1) := by decide +kernel
theorem dX6_head_32 : decode cX6_head 32 = .ok (.iload_n 1, 1) := by decide +kernel
theorem dX6_head_33 : decode cX6_head 33 = .ok (.invokevirtual 221, 3) := by decide +kernel
theorem dX6_head_36 : decode cX6_head 36 = .ok (.goto 9, 3) := by decide +kernel
theorem dX6_head_39 : decode cX6_head 39 = .ok (.aload_n 0, 1) := by decide +kernel
theorem dX6_head_40 : decode cX6_head 40 = .ok (.iload_n 1, 1) := by decide +kernel
theorem dX6_head_41 : decode cX6_head 41 = .ok (.iload_n 2, 1) := by decide +kernel
theorem dX6_head_42 : decode cX6_head 42 = .ok (.invokevirtual 161, 3) := by decide +kernel
theorem dX6_head_45 : decode cX6_head 45 = .ok (.ireturn, 1) := by decide +kernel
theorem dX6_dot_0 : decode cX6_dot 0 = .ok (.aload_n 0, 1) := by decide +kernel
theorem dX6_dot_1 : decode cX6_dot 1 = .ok (.iload_n 1, 1) := by decide +kernel
theorem dX6_dot_2 : decode cX6_dot 2 = .ok (.invokevirtual 215, 3) := by decide +kernel
theorem dX6_dot_5 : decode cX6_dot 5 = .ok (.ifCond .eq 17, 3) := by decide +kernel
theorem dX6_dot_8 : decode cX6_dot 8 = .ok (.iload_n 2, 1) := by decide +kernel
theorem dX6_dot_9 : decode cX6_dot 9 = .ok (.invokestatic 224, 3) := by decide +kernel
theorem dX6_dot_12 : decode cX6_dot 12 = .ok (.ifCond .eq 10, 3) := by decide +kernel
theorem dX6_dot_15 : decode cX6_dot 15 = .ok (.iload_n 3, 1) := by decide +kernel
theorem dX6_dot_16 : decode cX6_dot 16 = .ok (.invokestatic 227, 3) := by decide +kernel
theorem dX6_dot_19 : decode cX6_dot 19 = .ok (.ifCond .ne 5, 3) := by decide +kernel
theorem dX6_dot_22 : decode cX6_dot 22 = .ok (.iconst (-1), 1) := by decide +kernel
theorem dX6_dot_23 : decode cX6_dot 23 = .ok (.ireturn, 1) := by decide +kernel
theorem dX6_dot_24 : decode cX6_dot 24 = .ok (.aload_n 0, 1) := by decide +kernel
theorem dX6_dot_25 : decode cX6_dot 25 = .ok (.invokevirtual 209, 3) := by decide +kernel
theorem dX6_dot_28 : decode cX6_dot 28 = .ok (.iload_n 3, 1) := by decide +kernel
theorem dX6_dot_29 : decode cX6_dot 29 = .ok (.ifCond .ne 12, 3) := by decide +kernel
theorem dX6_dot_32 : decode cX6_dot 32 = .ok (.aload_n 0, 1) := by decide +kernel
theorem dX6_dot_33 : decode cX6_dot 33 = .ok (.iload_n 1, 1) := by decide +kernel
theorem dX6_dot_34 : decode cX6_dot 34 = .ok (.iload_n 2, 1) := by decide +kernel
theorem dX6_dot_35 : decode cX6_dot 35 = .ok (.invokevirtual 167, 3) := by decide +kernel
theorem dX6_dot_38 : decode cX6_dot 38 = .ok (.goto 33, 3) := by decide +kernel
theorem dX6_dot_41 : decode cX6_dot 41 = .ok (.aload_n 0, 1) := by decide +kernel
theorem dX6_dot_42 : decode cX6_dot 42 = .ok (.iload_n 1, 1) := by decide +kernel
theorem dX6_dot_43 : decode cX6_dot 43 = .ok (.iload_n 2, 1) := by decide +kernel
theorem dX6_dot_44 : decode cX6_dot 44 = .ok (.aload_n 0, 1) := by decide +kernel
theorem dX6_dot_45 : decode cX6_dot 45 = .ok (.aload_n 0, 1) := by decide +kernel
theorem dX6_dot_46 : decode cX6_dot 46 = .ok (.getfield 13, 3) := by decide +kernel
theorem dX6_dot_49 : decode cX6_dot 49 = .ok (.bipush 50, 2) := by decide +kernel
theorem dX6_dot_51 : decode cX6_dot 51 = .ok (.iaload, 1) := by decide +kernel
theorem dX6_dot_52 : decode cX6_dot 52 = .ok (.invokevirtual 199, 3) := by decide +kernel
theorem dX6_dot_55 : decode cX6_dot 55 = .ok (.aload_n 0, 1) := by decide +kernel
theorem dX6_dot_56 : decode cX6_dot 56 = .ok (.aload_n 0, 1) := by decide +kernel
theorem dX6_dot_57 : decode cX6_dot 57 = .ok (.getfield 13, 3) := by decide +kernel
theorem dX6_dot_60 : decode cX6_dot 60 = .ok (.bipush 50, 2) := by decide +kernel
theorem dX6_dot_62 : decode cX6_dot 62 = .ok (.iaload, 1) := by decide +kernel
theorem dX6_dot_63 : decode cX6_dot 63 = .ok (.iconst 1, 1) := by decide +kernel
theorem dX6_dot_64 : decode cX6_dot 64 = .ok (.iadd, 1) := by decide +kernel
theorem dX6_dot_65 : decode cX6_dot 65 = .ok (.invokevirtual 199, 3) := by decide +kernel
theorem dX6_dot_68 : decode cX6_dot 68 = .ok (.invokevirtual 182, 3) := by decide +kernel
theorem dX6_dot_71 : decode cX6_dot 71 = .ok (.ireturn, 1) := by decide +kernel
theorem dX6_line_0 : decode cX6_line 0 = .ok (.aload_n 0, 1) := by decide +kernel
theorem dX6_line_1 : decode cX6_line 1 = .ok (.iload_n 1, 1) := by decide +kernel
theorem dX6_line_2 : decode cX6_line 2 = .ok (.invokevirtual 230, 3) := by decide +kernel
theorem dX6_line_5 : decode cX6_line 5 = .ok (.ifCond .eq 15, 3) := by decide +kernel
theorem dX6_line_8 : decode cX6_line 8 = .ok (.aload_n 0, 1) := by decide +kernel
theorem dX6_line_9 : decode cX6_line 9 = .ok (.getfield 7, 3) := by decide +kernel
theorem dX6_line_12 : decode cX6_line 12 = .ok (.bipush 37, 2) := by decide +kernel
theorem dX6_line_14 : decode cX6_line 14 = .ok (.iload_n 1, 1) := by decide +kernel
theorem dX6_line_15 : decode cX6_line 15 = .ok (.iadd, 1) := by decide +kernel
theorem dX6_line_16 : decode cX6_line 16 = .ok (.iaload, 1) := by decide +kernel
theorem dX6_line_17 : decode cX6_line 17 = .ok (.goto 4, 3) := by decide +kernel
theorem dX6_line_20 : decode cX6_line 20 = .ok (.iconst (-1), 1) := by decide +kernel
theorem dX6_line_21 : decode cX6_line 21 = .ok (.ireturn, 1) := by decide +kernel
theorem dX6_becomes_0 : decode cX6_becomes 0 = .ok (.aload_n 0, 1) := by decide +kernel
theorem dX6_becomes_1 : decode cX6_becomes 1 = .ok (.getfield 7, 3) := by decide +kernel
theorem dX6_becomes_4 : decode cX6_becomes 4 = .ok (.iload_n 1, 1) := by decide +kernel
theorem dX6_becomes_5 : decode cX6_becomes 5 = .ok (.iaload, 1) := by decide +kernel
theorem dX6_becomes_6 : decode cX6_becomes 6 = .ok (.istore_n 3, 1) := by decide +kernel
theorem dX6_becomes_7 : decode cX6_becomes 7 = .ok (.aload_n 0, 1) := by decide +kernel
theorem dX6_becomes_8 : decode cX6_becomes 8 = .ok (.getfield 7, 3) := by decide +kernel
theorem dX6_becomes_11 : decode cX6_becomes 11 = .ok (.iload_n 1, 1) := by decide +kernel
theorem dX6_becomes_12 : decode cX6_becomes 12 = .ok (.iload_n 2, 1) := by decide +kernel
theorem dX6_becomes_13 : decode cX6_becomes 13 = .ok (.iastore, 1) := by decide +kernel
theorem dX6_becomes_14 : decode cX6_becomes 14 = .ok (.iload_n 3, 1) := by decide +kernel
theorem dX6_becomes_15 : decode cX6_becomes 15 = .ok (.ireturn, 1) := by decide +kernel
theorem dX6_alter_0 : decode cX6_alter 0 = .ok (.iload_n 2, 1) := by decide +kernel
theorem dX6_alter_1 : decode cX6_alter 1 = .ok (.ifCond .ne 15, 3) := by decide +kernel
theorem dX6_alter_4 : decode cX6_alter 4 = .ok (.iload_n 3, 1) := by decide +kernel
theorem dX6_alter_5 : decode cX6_alter 5 = .ok (.i2l, 1) := by decide +kernel
theorem dX6_alter_6 : decode cX6_alter 6 = .ok (.lconst 0, 1) := by decide +kernel
theorem dX6_alter_7 : decode cX6_alter 7 = .ok (.ldc2_w 219, 3) := by decide +kernel
theorem dX6_alter_10 : decode cX6_alter 10 = .ok (.invokestatic 67, 3) := by decide +kernel
theorem dX6_alter_13 : decode cX6_alter 13 = .ok (.goto 25, 3) := by decide +kernel
theorem dX6_alter_16 : decode cX6_alter 16 = .ok (.iload_n 2, 1) := by decide +kernel
theorem dX6_alter_17 : decode cX6_alter 17 = .ok (.iconst 1, 1) := by decide +kernel
theorem dX6_alter_18 : decode cX6_alter 18 = .ok (.if_icmp .ne 19, 3) := by decide +kernel
theorem dX6_alter_21 : decode cX6_alter 21 = .ok (.iload_n 3, 1) := by decide +kernel
theorem dX6_alter_22 : decode cX6_alter 22 = .ok (.i2l, 1) := by decide +kernel
theorem dX6_alter_23 : decode cX6_alter 23 = .ok (.lconst 0, 1) := by decide +kernel
theorem dX6_alter_24 : decode cX6_alter 24 = .ok (.ldc2_w 233, 3) := by decide +kernel
theorem dX6_alter_27 : decode cX6_alter 27 = .ok (.invokestatic 67, 3) := by decide +kernel
theorem dX6_alter_30 : decode cX6_alter 30 = .ok (.ifCond .eq 7, 3) := by decide +kernel
theorem dX6_alter_33 : decode cX6_alter 33 = .ok (.iconst 1, 1) := by decide +kernel
theorem dX6_alter_34 : decode cX6_alter 34 = .ok (.goto 4, 3) := by decide +kernel
theorem dX6_alter_37 : decode cX6_alter 37 = .ok (.iconst 0, 1) := by decide +kernel
theorem dX6_alter_38 : decode cX6_alter 38 = .ok (.istore 4, 2) := by decide +kernel
theorem dX6_alter_40 : decode cX6_alter 40 = .ok (.aload_n 0, 1) := by decide +kernel
theorem dX6_alter_41 : decode cX6_alter 41 = .ok (.iload_n 1, 1) := by decide +kernel
theorem dX6_alter_42 : decode cX6_alter 42 = .ok (.invokevirtual 215, 3) := by decide +kernel
theorem dX6_alter_45 : decode cX6_alter 45 = .ok (.ifCond .eq 22, 3) := by decide +kernel
theorem dX6_alter_48 : decode cX6_alter 48 = .ok (.iload 4, 2) := by decide +kernel
theorem dX6_alter_50 : decode cX6_alter 50 = .ok (.ifCond .eq 17, 3) := by decide +kernel
theorem dX6_alter_53 : decode cX6_alter 53 = .ok (.aload_n 0, 1) := by decide +kernel
theorem dX6_alter_54 : decode cX6_alter 54 = .ok (.bipush 11, 2) := by decide +kernel
theorem dX6_alter_56 : decode cX6_alter 56 = .ok (.iload_n 1, 1) := by decide +kernel
theorem dX6_alter_57 : decode cX6_alter 57 = .ok (.imul, 1) := by decide +kernel
theorem dX6_alter_58 : decode cX6_alter 58 = .ok (.iload_n 2, 1) := by decide +kernel
theorem dX6_alter_59 : decode cX6_alter 59 = .ok (.iadd, 1) := by decide +kernel
theorem dX6_alter_60 : decode cX6_alter 60 = .ok (.iload_n 3, 1) := by decide +kernel
theorem dX6_alter_61 : decode cX6_alter 61 = .ok (.invokevirtual 235, 3) := by decide +kernel
theorem dX6_alter_64 : decode cX6_alter 64 = .ok (.goto 4, 3) := by decide +kernel
theorem dX6_alter_67 : decode cX6_alter 67 = .ok (.iconst (-1), 1) := by decide +kernel
theorem dX6_alter_68 : decode cX6_alter 68 = .ok (.ireturn, 1) := by decide +kernel
theorem dX6_tell_0 : decode cX6_tell 0 = .ok (.iload_n 1, 1) := by decide +kernel
theorem dX6_tell_1 : decode cX6_tell 1 = .ok (.i2l, 1) := by decide +kernel
theorem dX6_tell_2 : decode cX6_tell 2 = .ok (.lconst 0, 1) := by decide +kernel
theorem dX6_tell_3 : decode cX6_tell 3 = .ok (.ldc2_w 238, 3) := by decide +kernel
theorem dX6_tell_6 : decode cX6_tell 6 = .ok (.invokestatic 67, 3) := by decide +kernel
theorem dX6_tell_9 : decode cX6_tell 9 = .ok (.ifCond .eq 33, 3) := by decide +kernel
theorem dX6_tell_12 : decode cX6_tell 12 = .ok (.iload_n 2, 1) := by decide +kernel
theorem dX6_tell_13 : decode cX6_tell 13 = .ok (.i2l, 1) := by decide +kernel
theorem dX6_tell_14 : decode cX6_tell 14 = .ok (.iload_n 1, 1) := by decide +kernel
theorem dX6_tell_15 : decode cX6_tell 15 = .ok (.invokestatic 127, 3) := by decide +kernel
theorem dX6_tell_18 : decode cX6_tell 18 = .ok (.i2l, 1) := by decide +kernel
theorem dX6_tell_19 : decode cX6_tell 19 = .ok (.iload_n 1, 1) := by decide +kernel
theorem dX6_tell_20 : decode cX6_tell 20 = .ok (.invokestatic 130, 3) := by decide +kernel
theorem dX6_tell_23 : decode cX6_tell 23 = .ok (.i2l, 1) := by decide +kernel
theorem dX6_tell_24 : decode cX6_tell 24 = .ok (.invokestatic 67, 3) := by decide +kernel
theorem dX6_tell_27 : decode cX6_tell 27 = .ok (.ifCond .eq 15, 3) := by decide +kernel
theorem dX6_tell_30 : decode cX6_tell 30 = .ok (.aload_n 0, 1) := by decide +kernel
theorem dX6_tell_31 : decode cX6_tell 31 = .ok (.bipush 34, 2) := by decide +kernel
theorem dX6_tell_33 : decode cX6_tell 33 = .ok (.iload_n 1, 1) := by decide +kernel
theorem dX6_tell_34 : decode cX6_tell 34 = .ok (.iadd, 1) := by decide +kernel
theorem dX6_tell_35 : decode cX6_tell 35 = .ok (.iload_n 2, 1) := by decide +kernel
theorem dX6_tell_36 : decode cX6_tell 36 = .ok (.invokevirtual 235, 3) := by decide +kernel
theorem dX6_tell_39 : decode cX6_tell 39 = .ok (.goto 4, 3) := by decide +kernel
theorem dX6_tell_42 : decode cX6_tell 42 = .ok (.iconst (-1), 1) := by decide +kernel
theorem dX6_tell_43 : decode cX6_tell 43 = .ok (.ireturn, 1) := by decide +kernel
theorem dX6_warm_0 : decode cX6_warm 0 = .ok (.aload_n 0, 1) := by decide +kernel
theorem dX6_warm_1 : decode cX6_warm 1 = .ok (.iload_n 1, 1) := by decide +kernel
theorem dX6_warm_2 : decode cX6_warm 2 = .ok (.invokevirtual 215, 3) := by decide +kernel
theorem dX6_warm_5 : decode cX6_warm 5 = .ok (.ifCond .eq 38, 3) := by decide +kernel
theorem dX6_warm_8 : decode cX6_warm 8 = .ok (.iload_n 2, 1) := by decide +kernel
theorem dX6_warm_9 : decode cX6_warm 9 = .ok (.invokestatic 224, 3) := by decide +kernel
theorem dX6_warm_12 : decode cX6_warm 12 = .ok (.ifCond .eq 31, 3) := by decide +kernel
theorem dX6_warm_15 : decode cX6_warm 15 = .ok (.iload_n 3, 1) := by decide +kernel
theorem dX6_warm_16 : decode cX6_warm 16 = .ok (.i2l, 1) := by decide +kernel
theorem dX6_warm_17 : decode cX6_warm 17 = .ok (.lconst 0, 1) := by decide +kernel
end
section
theorem dX6_warm_18 : decode cX6_warm 18 = .ok (.ldc2_w 240, 3) := by decide +kernel
theorem dX6_warm_21 : decode cX6_warm 21 = .ok (.invokestatic 67, 3) := by decide +kernel
theorem dX6_warm_24 : decode cX6_warm 24 = .ok (.ifCond .eq 19, 3) := by decide +kernel
theorem dX6_warm_27 : decode cX6_warm 27 = .ok (.aload_n 0, 1) := by decide +kernel
theorem dX6_warm_28 : decode cX6_warm 28 = .ok (.bipush 11, 2) := by decide +kernel
theorem dX6_warm_30 : decode cX6_warm 30 = .ok (.iload_n 1, 1) := by decide +kernel
theorem dX6_warm_31 : decode cX6_warm 31 = .ok (.imul, 1) := by decide +kernel
theorem dX6_warm_32 : decode cX6_warm 32 = .ok (.iconst 3, 1) := by decide +kernel
theorem dX6_warm_33 : decode cX6_warm 33 = .ok (.iadd, 1) := by decide +kernel
theorem dX6_warm_34 : decode cX6_warm 34 = .ok (.iload_n 2, 1) := by decide +kernel
theorem dX6_warm_35 : decode cX6_warm 35 = .ok (.iadd, 1) := by decide +kernel
theorem dX6_warm_36 : decode cX6_warm 36 = .ok (.iload_n 3, 1) := by decide +kernel
theorem dX6_warm_37 : decode cX6_warm 37 = .ok (.invokevirtual 235, 3) := by decide +kernel
theorem dX6_warm_40 : decode cX6_warm 40 = .ok (.goto 4, 3) := by decide +kernel
theorem dX6_warm_43 : decode cX6_warm 43 = .ok (.iconst (-1), 1) := by decide +kernel
theorem dX6_warm_44 : decode cX6_warm 44 = .ok (.ireturn, 1) := by decide +kernel
theorem dX6_set_0 : decode cX6_set 0 = .ok (.aload_n 0, 1) := by decide +kernel
theorem dX6_set_1 : decode cX6_set 1 = .ok (.iload_n 1, 1) := by decide +kernel
theorem dX6_set_2 : decode cX6_set 2 = .ok (.invokevirtual 230, 3) := by decide +kernel
theorem dX6_set_5 : decode cX6_set 5 = .ok (.ifCond .eq 27, 3) := by decide +kernel
theorem dX6_set_8 : decode cX6_set 8 = .ok (.iload_n 2, 1) := by decide +kernel
theorem dX6_set_9 : decode cX6_set 9 = .ok (.i2l, 1) := by decide +kernel
theorem dX6_set_10 : decode cX6_set 10 = .ok (.lconst 0, 1) := by decide +kernel
theorem dX6_set_11 : decode cX6_set 11 = .ok (.ldc2_w 242, 3) := by decide +kernel
theorem dX6_set_14 : decode cX6_set 14 = .ok (.invokestatic 67, 3) := by decide +kernel
theorem dX6_set_17 : decode cX6_set 17 = .ok (.ifCond .eq 15, 3) := by decide +kernel
theorem dX6_set_20 : decode cX6_set 20 = .ok (.aload_n 0, 1) := by decide +kernel
theorem dX6_set_21 : decode cX6_set 21 = .ok (.bipush 37, 2) := by decide +kernel
theorem dX6_set_23 : decode cX6_set 23 = .ok (.iload_n 1, 1) := by decide +kernel
theorem dX6_set_24 : decode cX6_set 24 = .ok (.iadd, 1) := by decide +kernel
theorem dX6_set_25 : decode cX6_set 25 = .ok (.iload_n 2, 1) := by decide +kernel
theorem dX6_set_26 : decode cX6_set 26 = .ok (.invokevirtual 235, 3) := by decide +kernel
theorem dX6_set_29 : decode cX6_set 29 = .ok (.goto 4, 3) := by decide +kernel
theorem dX6_set_32 : decode cX6_set 32 = .ok (.iconst (-1), 1) := by decide +kernel
theorem dX6_set_33 : decode cX6_set 33 = .ok (.ireturn, 1) := by decide +kernel
theorem dX6_add_0 : decode cX6_add 0 = .ok (.iload_n 1, 1) := by decide +kernel
theorem dX6_add_1 : decode cX6_add 1 = .ok (.i2l, 1) := by decide +kernel
theorem dX6_add_2 : decode cX6_add 2 = .ok (.lconst 0, 1) := by decide +kernel
theorem dX6_add_3 : decode cX6_add 3 = .ok (.ldc2_w 242, 3) := by decide +kernel
theorem dX6_add_6 : decode cX6_add 6 = .ok (.invokestatic 67, 3) := by decide +kernel
theorem dX6_add_9 : decode cX6_add 9 = .ok (.ifCond .ne 5, 3) := by decide +kernel
theorem dX6_add_12 : decode cX6_add 12 = .ok (.iconst (-1), 1) := by decide +kernel
theorem dX6_add_13 : decode cX6_add 13 = .ok (.ireturn, 1) := by decide +kernel
theorem dX6_add_14 : decode cX6_add 14 = .ok (.aload_n 0, 1) := by decide +kernel
theorem dX6_add_15 : decode cX6_add 15 = .ok (.getfield 7, 3) := by decide +kernel
theorem dX6_add_18 : decode cX6_add 18 = .ok (.bipush 49, 2) := by decide +kernel
theorem dX6_add_20 : decode cX6_add 20 = .ok (.iaload, 1) := by decide +kernel
theorem dX6_add_21 : decode cX6_add 21 = .ok (.bipush 12, 2) := by decide +kernel
theorem dX6_add_23 : decode cX6_add 23 = .ok (.if_icmp .ne 6, 3) := by decide +kernel
theorem dX6_add_26 : decode cX6_add 26 = .ok (.bipush (-3), 2) := by decide +kernel
theorem dX6_add_28 : decode cX6_add 28 = .ok (.ireturn, 1) := by decide +kernel
theorem dX6_add_29 : decode cX6_add 29 = .ok (.aload_n 0, 1) := by decide +kernel
theorem dX6_add_30 : decode cX6_add 30 = .ok (.getfield 7, 3) := by decide +kernel
theorem dX6_add_33 : decode cX6_add 33 = .ok (.bipush 37, 2) := by decide +kernel
theorem dX6_add_35 : decode cX6_add 35 = .ok (.aload_n 0, 1) := by decide +kernel
theorem dX6_add_36 : decode cX6_add 36 = .ok (.getfield 7, 3) := by decide +kernel
theorem dX6_add_39 : decode cX6_add 39 = .ok (.bipush 49, 2) := by decide +kernel
theorem dX6_add_41 : decode cX6_add 41 = .ok (.iaload, 1) := by decide +kernel
theorem dX6_add_42 : decode cX6_add 42 = .ok (.iadd, 1) := by decide +kernel
theorem dX6_add_43 : decode cX6_add 43 = .ok (.iload_n 1, 1) := by decide +kernel
theorem dX6_add_44 : decode cX6_add 44 = .ok (.iastore, 1) := by decide +kernel
theorem dX6_add_45 : decode cX6_add 45 = .ok (.aload_n 0, 1) := by decide +kernel
theorem dX6_add_46 : decode cX6_add 46 = .ok (.getfield 7, 3) := by decide +kernel
theorem dX6_add_49 : decode cX6_add 49 = .ok (.bipush 49, 2) := by decide +kernel
theorem dX6_add_51 : decode cX6_add 51 = .ok (.dup2, 1) := by decide +kernel
theorem dX6_add_52 : decode cX6_add 52 = .ok (.iaload, 1) := by decide +kernel
theorem dX6_add_53 : decode cX6_add 53 = .ok (.iconst 1, 1) := by decide +kernel
theorem dX6_add_54 : decode cX6_add 54 = .ok (.iadd, 1) := by decide +kernel
theorem dX6_add_55 : decode cX6_add 55 = .ok (.iastore, 1) := by decide +kernel
theorem dX6_add_56 : decode cX6_add 56 = .ok (.aload_n 0, 1) := by decide +kernel
theorem dX6_add_57 : decode cX6_add 57 = .ok (.getfield 7, 3) := by decide +kernel
theorem dX6_add_60 : decode cX6_add 60 = .ok (.bipush 49, 2) := by decide +kernel
theorem dX6_add_62 : decode cX6_add 62 = .ok (.iaload, 1) := by decide +kernel
theorem dX6_add_63 : decode cX6_add 63 = .ok (.ireturn, 1) := by decide +kernel
theorem dX6_cut_0 : decode cX6_cut 0 = .ok (.iload_n 1, 1) := by decide +kernel
theorem dX6_cut_1 : decode cX6_cut 1 = .ok (.i2l, 1) := by decide +kernel
theorem dX6_cut_2 : decode cX6_cut 2 = .ok (.lconst 0, 1) := by decide +kernel
theorem dX6_cut_3 : decode cX6_cut 3 = .ok (.aload_n 0, 1) := by decide +kernel
theorem dX6_cut_4 : decode cX6_cut 4 = .ok (.getfield 7, 3) := by decide +kernel
theorem dX6_cut_7 : decode cX6_cut 7 = .ok (.bipush 49, 2) := by decide +kernel
theorem dX6_cut_9 : decode cX6_cut 9 = .ok (.iaload, 1) := by decide +kernel
theorem dX6_cut_10 : decode cX6_cut 10 = .ok (.i2l, 1) := by decide +kernel
theorem dX6_cut_11 : decode cX6_cut 11 = .ok (.invokestatic 67, 3) := by decide +kernel
theorem dX6_cut_14 : decode cX6_cut 14 = .ok (.ifCond .eq 13, 3) := by decide +kernel
theorem dX6_cut_17 : decode cX6_cut 17 = .ok (.aload_n 0, 1) := by decide +kernel
theorem dX6_cut_18 : decode cX6_cut 18 = .ok (.bipush 49, 2) := by decide +kernel
theorem dX6_cut_20 : decode cX6_cut 20 = .ok (.iload_n 1, 1) := by decide +kernel
theorem dX6_cut_21 : decode cX6_cut 21 = .ok (.invokevirtual 235, 3) := by decide +kernel
theorem dX6_cut_24 : decode cX6_cut 24 = .ok (.goto 4, 3) := by decide +kernel
theorem dX6_cut_27 : decode cX6_cut 27 = .ok (.iconst (-1), 1) := by decide +kernel
theorem dX6_cut_28 : decode cX6_cut 28 = .ok (.ireturn, 1) := by decide +kernel
theorem dX6_isFar_0 : decode cX6_isFar 0 = .ok (.iload_n 0, 1) := by decide +kernel
theorem dX6_isFar_1 : decode cX6_isFar 1 = .ok (.i2l, 1) := by decide +kernel
theorem dX6_isFar_2 : decode cX6_isFar 2 = .ok (.lconst 0, 1) := by decide +kernel
theorem dX6_isFar_3 : decode cX6_isFar 3 = .ok (.ldc2_w 244, 3) := by decide +kernel
theorem dX6_isFar_6 : decode cX6_isFar 6 = .ok (.invokestatic 67, 3) := by decide +kernel
theorem dX6_isFar_9 : decode cX6_isFar 9 = .ok (.ireturn, 1) := by decide +kernel
theorem dX6_burn_0 : decode cX6_burn 0 = .ok (.iload_n 1, 1) := by decide +kernel
theorem dX6_burn_1 : decode cX6_burn 1 = .ok (.invokestatic 246, 3) := by decide +kernel
theorem dX6_burn_4 : decode cX6_burn 4 = .ok (.ifCond .ne 5, 3) := by decide +kernel
theorem dX6_burn_7 : decode cX6_burn 7 = .ok (.iconst (-1), 1) := by decide +kernel
theorem dX6_burn_8 : decode cX6_burn 8 = .ok (.ireturn, 1) := by decide +kernel
theorem dX6_burn_9 : decode cX6_burn 9 = .ok (.aload_n 0, 1) := by decide +kernel
theorem dX6_burn_10 : decode cX6_burn 10 = .ok (.getfield 7, 3) := by decide +kernel
theorem dX6_burn_13 : decode cX6_burn 13 = .ok (.bipush 50, 2) := by decide +kernel
theorem dX6_burn_15 : decode cX6_burn 15 = .ok (.iaload, 1) := by decide +kernel
theorem dX6_burn_16 : decode cX6_burn 16 = .ok (.iload_n 1, 1) := by decide +kernel
theorem dX6_burn_17 : decode cX6_burn 17 = .ok (.iadd, 1) := by decide +kernel
theorem dX6_burn_18 : decode cX6_burn 18 = .ok (.sipush 9999, 3) := by decide +kernel
theorem dX6_burn_21 : decode cX6_burn 21 = .ok (.if_icmp .le 6, 3) := by decide +kernel
theorem dX6_burn_24 : decode cX6_burn 24 = .ok (.bipush (-3), 2) := by decide +kernel
theorem dX6_burn_26 : decode cX6_burn 26 = .ok (.ireturn, 1) := by decide +kernel
theorem dX6_burn_27 : decode cX6_burn 27 = .ok (.aload_n 0, 1) := by decide +kernel
theorem dX6_burn_28 : decode cX6_burn 28 = .ok (.invokevirtual 209, 3) := by decide +kernel
theorem dX6_burn_31 : decode cX6_burn 31 = .ok (.aload_n 0, 1) := by decide +kernel
theorem dX6_burn_32 : decode cX6_burn 32 = .ok (.iload_n 1, 1) := by decide +kernel
theorem dX6_burn_33 : decode cX6_burn 33 = .ok (.invokevirtual 206, 3) := by decide +kernel
theorem dX6_burn_36 : decode cX6_burn 36 = .ok (.aload_n 0, 1) := by decide +kernel
theorem dX6_burn_37 : decode cX6_burn 37 = .ok (.invokevirtual 249, 3) := by decide +kernel
theorem dX6_burn_40 : decode cX6_burn 40 = .ok (.aload_n 0, 1) := by decide +kernel
theorem dX6_burn_41 : decode cX6_burn 41 = .ok (.getfield 149, 3) := by decide +kernel
theorem dX6_burn_44 : decode cX6_burn 44 = .ok (.ireturn, 1) := by decide +kernel
theorem dX6_runs_0 : decode cX6_runs 0 = .ok (.iload_n 1, 1) := by decide +kernel
theorem dX6_runs_1 : decode cX6_runs 1 = .ok (.invokestatic 246, 3) := by decide +kernel
theorem dX6_runs_4 : decode cX6_runs 4 = .ok (.ifCond .eq 15, 3) := by decide +kernel
theorem dX6_runs_7 : decode cX6_runs 7 = .ok (.iload_n 2, 1) := by decide +kernel
theorem dX6_runs_8 : decode cX6_runs 8 = .ok (.i2l, 1) := by decide +kernel
theorem dX6_runs_9 : decode cX6_runs 9 = .ok (.lconst 0, 1) := by decide +kernel
theorem dX6_runs_10 : decode cX6_runs 10 = .ok (.ldc2_w 219, 3) := by decide +kernel
theorem dX6_runs_13 : decode cX6_runs 13 = .ok (.invokestatic 67, 3) := by decide +kernel
theorem dX6_runs_16 : decode cX6_runs 16 = .ok (.ifCond .ne 5, 3) := by decide +kernel
theorem dX6_runs_19 : decode cX6_runs 19 = .ok (.iconst (-1), 1) := by decide +kernel
theorem dX6_runs_20 : decode cX6_runs 20 = .ok (.ireturn, 1) := by decide +kernel
theorem dX6_runs_21 : decode cX6_runs 21 = .ok (.aload_n 0, 1) := by decide +kernel
theorem dX6_runs_22 : decode cX6_runs 22 = .ok (.invokevirtual 209, 3) := by decide +kernel
theorem dX6_runs_25 : decode cX6_runs 25 = .ok (.aload_n 0, 1) := by decide +kernel
theorem dX6_runs_26 : decode cX6_runs 26 = .ok (.iload_n 1, 1) := by decide +kernel
theorem dX6_runs_27 : decode cX6_runs 27 = .ok (.invokevirtual 206, 3) := by decide +kernel
theorem dX6_runs_30 : decode cX6_runs 30 = .ok (.iload_n 2, 1) := by decide +kernel
theorem dX6_runs_31 : decode cX6_runs 31 = .ok (.tableswitch 40 0 2 #[25, 30, 35], 25) := by decide +kernel
theorem dX6_runs_56 : decode cX6_runs 56 = .ok (.aload_n 0, 1) := by decide +kernel
theorem dX6_runs_57 : decode cX6_runs 57 = .ok (.getfield 149, 3) := by decide +kernel
theorem dX6_runs_60 : decode cX6_runs 60 = .ok (.ireturn, 1) := by decide +kernel
theorem dX6_runs_61 : decode cX6_runs 61 = .ok (.aload_n 0, 1) := by decide +kernel
theorem dX6_runs_62 : decode cX6_runs 62 = .ok (.getfield 152, 3) := by decide +kernel
theorem dX6_runs_65 : decode cX6_runs 65 = .ok (.ireturn, 1) := by decide +kernel
theorem dX6_runs_66 : decode cX6_runs 66 = .ok (.aload_n 0, 1) := by decide +kernel
theorem dX6_runs_67 : decode cX6_runs 67 = .ok (.getfield 155, 3) := by decide +kernel
theorem dX6_runs_70 : decode cX6_runs 70 = .ok (.ireturn, 1) := by decide +kernel
theorem dX6_runs_71 : decode cX6_runs 71 = .ok (.aload_n 0, 1) := by decide +kernel
theorem dX6_runs_72 : decode cX6_runs 72 = .ok (.getfield 158, 3) := by decide +kernel
theorem dX6_runs_75 : decode cX6_runs 75 = .ok (.ireturn, 1) := by decide +kernel
theorem dX6_black_0 : decode cX6_black 0 = .ok (.aload_n 0, 1) := by decide +kernel
theorem dX6_black_1 : decode cX6_black 1 = .ok (.iload_n 1, 1) := by decide +kernel
theorem dX6_black_2 : decode cX6_black 2 = .ok (.invokevirtual 215, 3) := by decide +kernel
theorem dX6_black_5 : decode cX6_black 5 = .ok (.ifCond .eq 10, 3) := by decide +kernel
theorem dX6_black_8 : decode cX6_black 8 = .ok (.iload_n 2, 1) := by decide +kernel
theorem dX6_black_9 : decode cX6_black 9 = .ok (.invokestatic 246, 3) := by decide +kernel
theorem dX6_black_12 : decode cX6_black 12 = .ok (.ifCond .ne 5, 3) := by decide +kernel
theorem dX6_black_15 : decode cX6_black 15 = .ok (.iconst (-1), 1) := by decide +kernel
theorem dX6_black_16 : decode cX6_black 16 = .ok (.ireturn, 1) := by decide +kernel
theorem dX6_black_17 : decode cX6_black 17 = .ok (.aload_n 0, 1) := by decide +kernel
theorem dX6_black_18 : decode cX6_black 18 = .ok (.invokevirtual 209, 3) := by decide +kernel
theorem dX6_black_21 : decode cX6_black 21 = .ok (.aload_n 0, 1) := by decide +kernel
theorem dX6_black_22 : decode cX6_black 22 = .ok (.iload_n 2, 1) := by decide +kernel
theorem dX6_black_23 : decode cX6_black 23 = .ok (.iconst 1, 1) := by decide +kernel
theorem dX6_black_24 : decode cX6_black 24 = .ok (.iadd, 1) := by decide +kernel
theorem dX6_black_25 : decode cX6_black 25 = .ok (.invokevirtual 206, 3) := by decide +kernel
theorem dX6_black_28 : decode cX6_black 28 = .ok (.aload_n 0, 1) := by decide +kernel
theorem dX6_black_29 : decode cX6_black 29 = .ok (.getfield 32, 3) := by decide +kernel
theorem dX6_black_32 : decode cX6_black 32 = .ok (.iload_n 1, 1) := by decide +kernel
theorem dX6_black_33 : decode cX6_black 33 = .ok (.iaload, 1) := by decide +kernel
theorem dX6_black_34 : decode cX6_black 34 = .ok (.ireturn, 1) := by decide +kernel
theorem dX6_ahead_0 : decode cX6_ahead 0 = .ok (.aload_n 0, 1) := by decide +kernel
theorem dX6_ahead_1 : decode cX6_ahead 1 = .ok (.iload_n 1, 1) := by decide +kernel
theorem dX6_ahead_2 : decode cX6_ahead 2 = .ok (.invokevirtual 215, 3) := by decide +kernel
theorem dX6_ahead_5 : decode cX6_ahead 5 = .ok (.ifCond .eq 17, 3) := by decide +kernel
theorem dX6_ahead_8 : decode cX6_ahead 8 = .ok (.iload_n 2, 1) := by decide +kernel
theorem dX6_ahead_9 : decode cX6_ahead 9 = .ok (.invokestatic 224, 3) := by decide +kernel
theorem dX6_ahead_12 : decode cX6_ahead 12 = .ok (.ifCond .eq 10, 3) := by decide +kernel
theorem dX6_ahead_15 : decode cX6_ahead 15 = .ok (.iload_n 3, 1) := by decide +kernel
theorem dX6_ahead_16 : decode cX6_ahead 16 = .ok (.invokestatic 246, 3) := by decide +kernel
theorem dX6_ahead_19 : decode cX6_ahead 19 = .ok (.ifCond .ne 5, 3) := by decide +kernel
theorem dX6_ahead_22 : decode cX6_ahead 22 = .ok (.iconst (-1), 1) := by decide +kernel
theorem dX6_ahead_23 : decode cX6_ahead 23 = .ok (.ireturn, 1) := by decide +kernel
theorem dX6_ahead_24 : decode cX6_ahead 24 = .ok (.aload_n 0, 1) := by decide +kernel
theorem dX6_ahead_25 : decode cX6_ahead 25 = .ok (.invokevirtual 209, 3) := by decide +kernel
theorem dX6_ahead_28 : decode cX6_ahead 28 = .ok (.aload_n 0, 1) := by decide +kernel
theorem dX6_ahead_29 : decode cX6_ahead 29 = .ok (.iload_n 3, 1) := by decide +kernel
theorem dX6_ahead_30 : decode cX6_ahead 30 = .ok (.invokevirtual 206, 3) := by decide +kernel
theorem dX6_ahead_33 : decode cX6_ahead 33 = .ok (.aload_n 0, 1) := by decide +kernel
theorem dX6_ahead_34 : decode cX6_ahead 34 = .ok (.iload_n 1, 1) := by decide +kernel
theorem dX6_ahead_35 : decode cX6_ahead 35 = .ok (.iload_n 2, 1) := by decide +kernel
theorem dX6_ahead_36 : decode cX6_ahead 36 = .ok (.invokevirtual 167, 3) := by decide +kernel
theorem dX6_ahead_39 : decode cX6_ahead 39 = .ok (.ireturn, 1) := by decide +kernel
theorem dX6_when_0 : decode cX6_when 0 = .ok (.aload_n 0, 1) := by decide +kernel
theorem dX6_when_1 : decode cX6_when 1 = .ok (.iload_n 1, 1) := by decide +kernel
theorem dX6_when_2 : decode cX6_when 2 = .ok (.invokevirtual 215, 3) := by decide +kernel
theorem dX6_when_5 : decode cX6_when 5 = .ok (.ifCond .ne 5, 3) := by decide +kernel
theorem dX6_when_8 : decode cX6_when 8 = .ok (.iconst (-1), 1) := by decide +kernel
theorem dX6_when_9 : decode cX6_when 9 = .ok (.ireturn, 1) := by decide +kernel
theorem dX6_when_10 : decode cX6_when 10 = .ok (.aload_n 0, 1) := by decide +kernel
theorem dX6_when_11 : decode cX6_when 11 = .ok (.invokevirtual 209, 3) := by decide +kernel
theorem dX6_when_14 : decode cX6_when 14 = .ok (.iconst 0, 1) := by decide +kernel
theorem dX6_when_15 : decode cX6_when 15 = .ok (.istore_n 2, 1) := by decide +kernel
theorem dX6_when_16 : decode cX6_when 16 = .ok (.iload_n 2, 1) := by decide +kernel
theorem dX6_when_17 : decode cX6_when 17 = .ok (.bipush 60, 2) := by decide +kernel
theorem dX6_when_19 : decode cX6_when 19 = .ok (.if_icmp .gt 25, 3) := by decide +kernel
theorem dX6_when_22 : decode cX6_when 22 = .ok (.aload_n 0, 1) := by decide +kernel
theorem dX6_when_23 : decode cX6_when 23 = .ok (.iconst 1, 1) := by decide +kernel
theorem dX6_when_24 : decode cX6_when 24 = .ok (.invokevirtual 206, 3) := by decide +kernel
theorem dX6_when_27 : decode cX6_when 27 = .ok (.aload_n 0, 1) := by decide +kernel
theorem dX6_when_28 : decode cX6_when 28 = .ok (.getfield 29, 3) := by decide +kernel
theorem dX6_when_31 : decode cX6_when 31 = .ok (.iload_n 1, 1) := by decide +kernel
theorem dX6_when_32 : decode cX6_when 32 = .ok (.iaload, 1) := by decide +kernel
theorem dX6_when_33 : decode cX6_when 33 = .ok (.ifCond .le 5, 3) := by decide +kernel
theorem dX6_when_36 : decode cX6_when 36 = .ok (.iload_n 2, 1) := by decide +kernel
theorem dX6_when_37 : decode cX6_when 37 = .ok (.ireturn, 1) := by decide +kernel
theorem dX6_when_38 : decode cX6_when 38 = .ok (.iinc 2 1, 3) := by decide +kernel
theorem dX6_when_41 : decode cX6_when 41 = .ok (.goto (-25), 3) := by decide +kernel
theorem dX6_when_44 : decode cX6_when 44 = .ok (.bipush (-4), 2) := by decide +kernel
theorem dX6_when_46 : decode cX6_when 46 = .ok (.ireturn, 1) := by decide +kernel
theorem dX6_startsJudging_0 : decode cX6_startsJudging 0 = .ok (.aload_n 0, 1) := by decide +kernel
theorem dX6_startsJudging_1 : decode cX6_startsJudging 1 = .ok (.bipush (-4), 2) := by decide +kernel
theorem dX6_startsJudging_3 : decode cX6_startsJudging 3 = .ok (.putfield 252, 3) := by decide +kernel
theorem dX6_startsJudging_6 : decode cX6_startsJudging 6 = .ok (.aload_n 0, 1) := by decide +kernel
theorem dX6_startsJudging_7 : decode cX6_startsJudging 7 = .ok (.iload_n 1, 1) := by decide +kernel
theorem dX6_startsJudging_8 : decode cX6_startsJudging 8 = .ok (.putfield 255, 3) := by decide +kernel
theorem dX6_startsJudging_11 : decode cX6_startsJudging 11 = .ok (.return_, 1) := by decide +kernel
theorem dX6_judges_0 : decode cX6_judges 0 = .ok (.iload_n 2, 1) := by decide +kernel
theorem dX6_judges_1 : decode cX6_judges 1 = .ok (.aload_n 0, 1) := by decide +kernel
theorem dX6_judges_2 : decode cX6_judges 2 = .ok (.getfield 255, 3) := by decide +kernel
theorem dX6_judges_5 : decode cX6_judges 5 = .ok (.if_icmp .ge 13, 3) := by decide +kernel
theorem dX6_judges_8 : decode cX6_judges 8 = .ok (.aload_n 0, 1) := by decide +kernel
theorem dX6_judges_9 : decode cX6_judges 9 = .ok (.iload_n 1, 1) := by decide +kernel
theorem dX6_judges_10 : decode cX6_judges 10 = .ok (.putfield 252, 3) := by decide +kernel
theorem dX6_judges_13 : decode cX6_judges 13 = .ok (.aload_n 0, 1) := by decide +kernel
theorem dX6_judges_14 : decode cX6_judges 14 = .ok (.iload_n 2, 1) := by decide +kernel
theorem dX6_judges_15 : decode cX6_judges 15 = .ok (.putfield 255, 3) := by decide +kernel
theorem dX6_judges_18 : decode cX6_judges 18 = .ok (.return_, 1) := by decide +kernel
theorem dX6_judged_0 : decode cX6_judged 0 = .ok (.aload_n 0, 1) := by decide +kernel
theorem dX6_judged_1 : decode cX6_judged 1 = .ok (.getfield 252, 3) := by decide +kernel
theorem dX6_judged_4 : decode cX6_judged 4 = .ok (.bipush (-4), 2) := by decide +kernel
theorem dX6_judged_6 : decode cX6_judged 6 = .ok (.if_icmp .ne 8, 3) := by decide +kernel
theorem dX6_judged_9 : decode cX6_judged 9 = .ok (.bipush (-4), 2) := by decide +kernel
theorem dX6_judged_11 : decode cX6_judged 11 = .ok (.goto 18, 3) := by decide +kernel
theorem dX6_judged_14 : decode cX6_judged 14 = .ok (.iload_n 1, 1) := by decide +kernel
theorem dX6_judged_15 : decode cX6_judged 15 = .ok (.ifCond .ne 10, 3) := by decide +kernel
theorem dX6_judged_18 : decode cX6_judged 18 = .ok (.aload_n 0, 1) := by decide +kernel
theorem dX6_judged_19 : decode cX6_judged 19 = .ok (.getfield 252, 3) := by decide +kernel
theorem dX6_judged_22 : decode cX6_judged 22 = .ok (.goto 7, 3) := by decide +kernel
theorem dX6_judged_25 : decode cX6_judged 25 = .ok (.aload_n 0, 1) := by decide +kernel
theorem dX6_judged_26 : decode cX6_judged 26 = .ok (.getfield 255, 3) := by decide +kernel
theorem dX6_judged_29 : decode cX6_judged 29 = .ok (.ireturn, 1) := by decide +kernel
theorem dX6_bestOf_0 : decode cX6_bestOf 0 = .ok (.aload_n 0, 1) := by decide +kernel
theorem dX6_bestOf_1 : decode cX6_bestOf 1 = .ok (.ldc 170, 2) := by decide +kernel
theorem dX6_bestOf_3 : decode cX6_bestOf 3 = .ok (.invokevirtual 258, 3) := by decide +kernel
theorem dX6_bestOf_6 : decode cX6_bestOf 6 = .ok (.iconst 0, 1) := by decide +kernel
theorem dX6_bestOf_7 : decode cX6_bestOf 7 = .ok (.istore 6, 2) := by decide +kernel
theorem dX6_bestOf_9 : decode cX6_bestOf 9 = .ok (.iload 6, 2) := by decide +kernel
theorem dX6_bestOf_11 : decode cX6_bestOf 11 = .ok (.iload_n 3, 1) := by decide +kernel
theorem dX6_bestOf_12 : decode cX6_bestOf 12 = .ok (.if_icmp .gt 44, 3) := by decide +kernel
theorem dX6_bestOf_15 : decode cX6_bestOf 15 = .ok (.aload_n 0, 1) := by decide +kernel
theorem dX6_bestOf_16 : decode cX6_bestOf 16 = .ok (.invokevirtual 209, 3) := by decide +kernel
theorem dX6_bestOf_19 : decode cX6_bestOf 19 = .ok (.aload_n 0, 1) := by decide +kernel
theorem dX6_bestOf_20 : decode cX6_bestOf 20 = .ok (.getfield 13, 3) := by decide +kernel
theorem dX6_bestOf_23 : decode cX6_bestOf 23 = .ok (.bipush 11, 2) := by decide +kernel
theorem dX6_bestOf_25 : decode cX6_bestOf 25 = .ok (.iload_n 1, 1) := by decide +kernel
theorem dX6_bestOf_26 : decode cX6_bestOf 26 = .ok (.imul, 1) := by decide +kernel
theorem dX6_bestOf_27 : decode cX6_bestOf 27 = .ok (.iload_n 2, 1) := by decide +kernel
theorem dX6_bestOf_28 : decode cX6_bestOf 28 = .ok (.iadd, 1) := by decide +kernel
theorem dX6_bestOf_29 : decode cX6_bestOf 29 = .ok (.iload 6, 2) := by decide +kernel
theorem dX6_bestOf_31 : decode cX6_bestOf 31 = .ok (.iastore, 1) := by decide +kernel
theorem dX6_bestOf_32 : decode cX6_bestOf 32 = .ok (.aload_n 0, 1) := by decide +kernel
theorem dX6_bestOf_33 : decode cX6_bestOf 33 = .ok (.iload 4, 2) := by decide +kernel
theorem dX6_bestOf_35 : decode cX6_bestOf 35 = .ok (.invokevirtual 206, 3) := by decide +kernel
theorem dX6_bestOf_38 : decode cX6_bestOf 38 = .ok (.aload_n 0, 1) := by decide +kernel
theorem dX6_bestOf_39 : decode cX6_bestOf 39 = .ok (.iload 6, 2) := by decide +kernel
theorem dX6_bestOf_41 : decode cX6_bestOf 41 = .ok (.aload_n 0, 1) := by decide +kernel
theorem dX6_bestOf_42 : decode cX6_bestOf 42 = .ok (.getfield 29, 3) := by decide +kernel
theorem dX6_bestOf_45 : decode cX6_bestOf 45 = .ok (.iload_n 1, 1) := by decide +kernel
theorem dX6_bestOf_46 : decode cX6_bestOf 46 = .ok (.iaload, 1) := by decide +kernel
theorem dX6_bestOf_47 : decode cX6_bestOf 47 = .ok (.invokevirtual 261, 3) := by decide +kernel
theorem dX6_bestOf_50 : decode cX6_bestOf 50 = .ok (.iinc 6 1, 3) := by decide +kernel
theorem dX6_bestOf_53 : decode cX6_bestOf 53 = .ok (.goto (-44), 3) := by decide +kernel
theorem dX6_bestOf_56 : decode cX6_bestOf 56 = .ok (.aload_n 0, 1) := by decide +kernel
theorem dX6_bestOf_57 : decode cX6_bestOf 57 = .ok (.iload 5, 2) := by decide +kernel
theorem dX6_bestOf_59 : decode cX6_bestOf 59 = .ok (.invokevirtual 265, 3) := by decide +kernel
theorem dX6_bestOf_62 : decode cX6_bestOf 62 = .ok (.ireturn, 1) := by decide +kernel
theorem dX6_power_0 : decode cX6_power 0 = .ok (.aload_n 0, 1) := by decide +kernel
theorem dX6_power_1 : decode cX6_power 1 = .ok (.iload_n 1, 1) := by decide +kernel
theorem dX6_power_2 : decode cX6_power 2 = .ok (.invokevirtual 215, 3) := by decide +kernel
theorem dX6_power_5 : decode cX6_power 5 = .ok (.ifCond .eq 30, 3) := by decide +kernel
theorem dX6_power_8 : decode cX6_power 8 = .ok (.iload_n 2, 1) := by decide +kernel
theorem dX6_power_9 : decode cX6_power 9 = .ok (.invokestatic 246, 3) := by decide +kernel
theorem dX6_power_12 : decode cX6_power 12 = .ok (.ifCond .eq 23, 3) := by decide +kernel
theorem dX6_power_15 : decode cX6_power 15 = .ok (.iload_n 3, 1) := by decide +kernel
theorem dX6_power_16 : decode cX6_power 16 = .ok (.invokestatic 227, 3) := by decide +kernel
theorem dX6_power_19 : decode cX6_power 19 = .ok (.ifCond .eq 16, 3) := by decide +kernel
theorem dX6_power_22 : decode cX6_power 22 = .ok (.aload_n 0, 1) := by decide +kernel
theorem dX6_power_23 : decode cX6_power 23 = .ok (.iload_n 1, 1) := by decide +kernel
theorem dX6_power_24 : decode cX6_power 24 = .ok (.iconst 1, 1) := by decide +kernel
theorem dX6_power_25 : decode cX6_power 25 = .ok (.bipush 30, 2) := by decide +kernel
theorem dX6_power_27 : decode cX6_power 27 = .ok (.iload_n 2, 1) := by decide +kernel
theorem dX6_power_28 : decode cX6_power 28 = .ok (.iload_n 3, 1) := by decide +kernel
theorem dX6_power_29 : decode cX6_power 29 = .ok (.invokevirtual 268, 3) := by decide +kernel
theorem dX6_power_32 : decode cX6_power 32 = .ok (.goto 4, 3) := by decide +kernel
theorem dX6_power_35 : decode cX6_power 35 = .ok (.iconst (-1), 1) := by decide +kernel
theorem dX6_power_36 : decode cX6_power 36 = .ok (.ireturn, 1) := by decide +kernel
theorem dX6_kind_0 : decode cX6_kind 0 = .ok (.aload_n 0, 1) := by decide +kernel
theorem dX6_kind_1 : decode cX6_kind 1 = .ok (.iload_n 1, 1) := by decide +kernel
theorem dX6_kind_2 : decode cX6_kind 2 = .ok (.invokevirtual 215, 3) := by decide +kernel
theorem dX6_kind_5 : decode cX6_kind 5 = .ok (.ifCond .eq 29, 3) := by decide +kernel
theorem dX6_kind_8 : decode cX6_kind 8 = .ok (.iload_n 2, 1) := by decide +kernel
theorem dX6_kind_9 : decode cX6_kind 9 = .ok (.invokestatic 246, 3) := by decide +kernel
theorem dX6_kind_12 : decode cX6_kind 12 = .ok (.ifCond .eq 22, 3) := by decide +kernel
theorem dX6_kind_15 : decode cX6_kind 15 = .ok (.iload_n 3, 1) := by decide +kernel
theorem dX6_kind_16 : decode cX6_kind 16 = .ok (.invokestatic 227, 3) := by decide +kernel
theorem dX6_kind_19 : decode cX6_kind 19 = .ok (.ifCond .eq 15, 3) := by decide +kernel
theorem dX6_kind_22 : decode cX6_kind 22 = .ok (.aload_n 0, 1) := by decide +kernel
theorem dX6_kind_23 : decode cX6_kind 23 = .ok (.iload_n 1, 1) := by decide +kernel
theorem dX6_kind_24 : decode cX6_kind 24 = .ok (.iconst 0, 1) := by decide +kernel
theorem dX6_kind_25 : decode cX6_kind 25 = .ok (.iconst 3, 1) := by decide +kernel
theorem dX6_kind_26 : decode cX6_kind 26 = .ok (.iload_n 2, 1) := by decide +kernel
theorem dX6_kind_27 : decode cX6_kind 27 = .ok (.iload_n 3, 1) := by decide +kernel
theorem dX6_kind_28 : decode cX6_kind 28 = .ok (.invokevirtual 268, 3) := by decide +kernel
theorem dX6_kind_31 : decode cX6_kind 31 = .ok (.goto 4, 3) := by decide +kernel
theorem dX6_kind_34 : decode cX6_kind 34 = .ok (.iconst (-1), 1) := by decide +kernel
theorem dX6_kind_35 : decode cX6_kind 35 = .ok (.ireturn, 1) := by decide +kernel
theorem dX6_best_0 : decode cX6_best 0 = .ok (.iload_n 1, 1) := by decide +kernel
theorem dX6_best_1 : decode cX6_best 1 = .ok (.invokestatic 227, 3) := by decide +kernel
theorem dX6_best_4 : decode cX6_best 4 = .ok (.ifCond .eq 17, 3) := by decide +kernel
theorem dX6_best_7 : decode cX6_best 7 = .ok (.iload_n 2, 1) := by decide +kernel
theorem dX6_best_8 : decode cX6_best 8 = .ok (.invokestatic 246, 3) := by decide +kernel
theorem dX6_best_11 : decode cX6_best 11 = .ok (.ifCond .eq 10, 3) := by decide +kernel
theorem dX6_best_14 : decode cX6_best 14 = .ok (.iload_n 3, 1) := by decide +kernel
theorem dX6_best_15 : decode cX6_best 15 = .ok (.invokestatic 227, 3) := by decide +kernel
theorem dX6_best_18 : decode cX6_best 18 = .ok (.ifCond .ne 5, 3) := by decide +kernel
theorem dX6_best_21 : decode cX6_best 21 = .ok (.iconst (-1), 1) := by decide +kernel
theorem dX6_best_22 : decode cX6_best 22 = .ok (.ireturn, 1) := by decide +kernel
theorem dX6_best_23 : decode cX6_best 23 = .ok (.aload_n 0, 1) := by decide +kernel
theorem dX6_best_24 : decode cX6_best 24 = .ok (.ldc 170, 2) := by decide +kernel
theorem dX6_best_26 : decode cX6_best 26 = .ok (.invokevirtual 258, 3) := by decide +kernel
theorem dX6_best_29 : decode cX6_best 29 = .ok (.iload_n 1, 1) := by decide +kernel
theorem dX6_best_30 : decode cX6_best 30 = .ok (.invokestatic 127, 3) := by decide +kernel
theorem dX6_best_33 : decode cX6_best 33 = .ok (.istore 4, 2) := by decide +kernel
theorem dX6_best_35 : decode cX6_best 35 = .ok (.iload 4, 2) := by decide +kernel
theorem dX6_best_37 : decode cX6_best 37 = .ok (.iload_n 1, 1) := by decide +kernel
theorem dX6_best_38 : decode cX6_best 38 = .ok (.invokestatic 130, 3) := by decide +kernel
theorem dX6_best_41 : decode cX6_best 41 = .ok (.if_icmp .gt 35, 3) := by decide +kernel
theorem dX6_best_44 : decode cX6_best 44 = .ok (.aload_n 0, 1) := by decide +kernel
theorem dX6_best_45 : decode cX6_best 45 = .ok (.invokevirtual 209, 3) := by decide +kernel
theorem dX6_best_48 : decode cX6_best 48 = .ok (.aload_n 0, 1) := by decide +kernel
theorem dX6_best_49 : decode cX6_best 49 = .ok (.getfield 13, 3) := by decide +kernel
theorem dX6_best_52 : decode cX6_best 52 = .ok (.bipush 34, 2) := by decide +kernel
theorem dX6_best_54 : decode cX6_best 54 = .ok (.iload_n 1, 1) := by decide +kernel
theorem dX6_best_55 : decode cX6_best 55 = .ok (.iadd, 1) := by decide +kernel
theorem dX6_best_56 : decode cX6_best 56 = .ok (.iload 4, 2) := by decide +kernel
theorem dX6_best_58 : decode cX6_best 58 = .ok (.iastore, 1) := by decide +kernel
theorem dX6_best_59 : decode cX6_best 59 = .ok (.aload_n 0, 1) := by decide +kernel
theorem dX6_best_60 : decode cX6_best 60 = .ok (.iload 4, 2) := by decide +kernel
theorem dX6_best_62 : decode cX6_best 62 = .ok (.aload_n 0, 1) := by decide +kernel
theorem dX6_best_63 : decode cX6_best 63 = .ok (.iload_n 2, 1) := by decide +kernel
theorem dX6_best_64 : decode cX6_best 64 = .ok (.invokevirtual 272, 3) := by decide +kernel
theorem dX6_best_67 : decode cX6_best 67 = .ok (.invokevirtual 261, 3) := by decide +kernel
theorem dX6_best_70 : decode cX6_best 70 = .ok (.iinc 4 1, 3) := by decide +kernel
theorem dX6_best_73 : decode cX6_best 73 = .ok (.goto (-38), 3) := by decide +kernel
theorem dX6_best_76 : decode cX6_best 76 = .ok (.aload_n 0, 1) := by decide +kernel
theorem dX6_best_77 : decode cX6_best 77 = .ok (.iload_n 3, 1) := by decide +kernel
theorem dX6_best_78 : decode cX6_best 78 = .ok (.invokevirtual 265, 3) := by decide +kernel
theorem dX6_best_81 : decode cX6_best 81 = .ok (.ireturn, 1) := by decide +kernel
theorem dX6_swap_0 : decode cX6_swap 0 = .ok (.iload_n 1, 1) := by decide +kernel
theorem dX6_swap_1 : decode cX6_swap 1 = .ok (.invokestatic 246, 3) := by decide +kernel
theorem dX6_swap_4 : decode cX6_swap 4 = .ok (.ifCond .eq 10, 3) := by decide +kernel
theorem dX6_swap_7 : decode cX6_swap 7 = .ok (.iload_n 2, 1) := by decide +kernel
theorem dX6_swap_8 : decode cX6_swap 8 = .ok (.invokestatic 227, 3) := by decide +kernel
theorem dX6_swap_11 : decode cX6_swap 11 = .ok (.ifCond .ne 5, 3) := by decide +kernel
theorem dX6_swap_14 : decode cX6_swap 14 = .ok (.iconst (-1), 1) := by decide +kernel
theorem dX6_swap_15 : decode cX6_swap 15 = .ok (.ireturn, 1) := by decide +kernel
theorem dX6_swap_16 : decode cX6_swap 16 = .ok (.aload_n 0, 1) := by decide +kernel
theorem dX6_swap_17 : decode cX6_swap 17 = .ok (.invokevirtual 209, 3) := by decide +kernel
theorem dX6_swap_20 : decode cX6_swap 20 = .ok (.aload_n 0, 1) := by decide +kernel
theorem dX6_swap_21 : decode cX6_swap 21 = .ok (.aload_n 0, 1) := by decide +kernel
theorem dX6_swap_22 : decode cX6_swap 22 = .ok (.iload_n 1, 1) := by decide +kernel
theorem dX6_swap_23 : decode cX6_swap 23 = .ok (.invokevirtual 272, 3) := by decide +kernel
theorem dX6_swap_26 : decode cX6_swap 26 = .ok (.invokevirtual 258, 3) := by decide +kernel
theorem dX6_swap_29 : decode cX6_swap 29 = .ok (.iconst 0, 1) := by decide +kernel
theorem dX6_swap_30 : decode cX6_swap 30 = .ok (.istore_n 3, 1) := by decide +kernel
theorem dX6_swap_31 : decode cX6_swap 31 = .ok (.iload_n 3, 1) := by decide +kernel
theorem dX6_swap_32 : decode cX6_swap 32 = .ok (.aload_n 0, 1) := by decide +kernel
theorem dX6_swap_33 : decode cX6_swap 33 = .ok (.getfield 7, 3) := by decide +kernel
theorem dX6_swap_36 : decode cX6_swap 36 = .ok (.bipush 49, 2) := by decide +kernel
theorem dX6_swap_38 : decode cX6_swap 38 = .ok (.iaload, 1) := by decide +kernel
theorem dX6_swap_39 : decode cX6_swap 39 = .ok (.if_icmp .ge 90, 3) := by decide +kernel
theorem dX6_swap_42 : decode cX6_swap 42 = .ok (.iload_n 3, 1) := by decide +kernel
theorem dX6_swap_43 : decode cX6_swap 43 = .ok (.iconst 1, 1) := by decide +kernel
theorem dX6_swap_44 : decode cX6_swap 44 = .ok (.iadd, 1) := by decide +kernel
theorem dX6_swap_45 : decode cX6_swap 45 = .ok (.istore 4, 2) := by decide +kernel
theorem dX6_swap_47 : decode cX6_swap 47 = .ok (.iload 4, 2) := by decide +kernel
theorem dX6_swap_49 : decode cX6_swap 49 = .ok (.aload_n 0, 1) := by decide +kernel
theorem dX6_swap_50 : decode cX6_swap 50 = .ok (.getfield 7, 3) := by decide +kernel
theorem dX6_swap_53 : decode cX6_swap 53 = .ok (.bipush 49, 2) := by decide +kernel
theorem dX6_swap_55 : decode cX6_swap 55 = .ok (.iaload, 1) := by decide +kernel
theorem dX6_swap_56 : decode cX6_swap 56 = .ok (.if_icmp .ge 67, 3) := by decide +kernel
theorem dX6_swap_59 : decode cX6_swap 59 = .ok (.aload_n 0, 1) := by decide +kernel
theorem dX6_swap_60 : decode cX6_swap 60 = .ok (.invokevirtual 209, 3) := by decide +kernel
theorem dX6_swap_63 : decode cX6_swap 63 = .ok (.aload_n 0, 1) := by decide +kernel
theorem dX6_swap_64 : decode cX6_swap 64 = .ok (.getfield 13, 3) := by decide +kernel
theorem dX6_swap_67 : decode cX6_swap 67 = .ok (.bipush 37, 2) := by decide +kernel
theorem dX6_swap_69 : decode cX6_swap 69 = .ok (.iload_n 3, 1) := by decide +kernel
theorem dX6_swap_70 : decode cX6_swap 70 = .ok (.iadd, 1) := by decide +kernel
theorem dX6_swap_71 : decode cX6_swap 71 = .ok (.aload_n 0, 1) := by decide +kernel
theorem dX6_swap_72 : decode cX6_swap 72 = .ok (.getfield 7, 3) := by decide +kernel
theorem dX6_swap_75 : decode cX6_swap 75 = .ok (.bipush 37, 2) := by decide +kernel
theorem dX6_swap_77 : decode cX6_swap 77 = .ok (.iload 4, 2) := by decide +kernel
theorem dX6_swap_79 : decode cX6_swap 79 = .ok (.iadd, 1) := by decide +kernel
theorem dX6_swap_80 : decode cX6_swap 80 = .ok (.iaload, 1) := by decide +kernel
theorem dX6_swap_81 : decode cX6_swap 81 = .ok (.iastore, 1) := by decide +kernel
theorem dX6_swap_82 : decode cX6_swap 82 = .ok (.aload_n 0, 1) := by decide +kernel
theorem dX6_swap_83 : decode cX6_swap 83 = .ok (.getfield 13, 3) := by decide +kernel
theorem dX6_swap_86 : decode cX6_swap 86 = .ok (.bipush 37, 2) := by decide +kernel
theorem dX6_swap_88 : decode cX6_swap 88 = .ok (.iload 4, 2) := by decide +kernel
theorem dX6_swap_90 : decode cX6_swap 90 = .ok (.iadd, 1) := by decide +kernel
theorem dX6_swap_91 : decode cX6_swap 91 = .ok (.aload_n 0, 1) := by decide +kernel
theorem dX6_swap_92 : decode cX6_swap 92 = .ok (.getfield 7, 3) := by decide +kernel
theorem dX6_swap_95 : decode cX6_swap 95 = .ok (.bipush 37, 2) := by decide +kernel
theorem dX6_swap_97 : decode cX6_swap 97 = .ok (.iload_n 3, 1) := by decide +kernel
theorem dX6_swap_98 : decode cX6_swap 98 = .ok (.iadd, 1) := by decide +kernel
theorem dX6_swap_99 : decode cX6_swap 99 = .ok (.iaload, 1) := by decide +kernel
theorem dX6_swap_100 : decode cX6_swap 100 = .ok (.iastore, 1) := by decide +kernel
theorem dX6_swap_101 : decode cX6_swap 101 = .ok (.aload_n 0, 1) := by decide +kernel
theorem dX6_swap_102 : decode cX6_swap 102 = .ok (.bipush 100, 2) := by decide +kernel
theorem dX6_swap_104 : decode cX6_swap 104 = .ok (.iload_n 3, 1) := by decide +kernel
theorem dX6_swap_105 : decode cX6_swap 105 = .ok (.imul, 1) := by decide +kernel
theorem dX6_swap_106 : decode cX6_swap 106 = .ok (.iload 4, 2) := by decide +kernel
theorem dX6_swap_108 : decode cX6_swap 108 = .ok (.iadd, 1) := by decide +kernel
theorem dX6_swap_109 : decode cX6_swap 109 = .ok (.aload_n 0, 1) := by decide +kernel
theorem dX6_swap_110 : decode cX6_swap 110 = .ok (.iload_n 1, 1) := by decide +kernel
theorem dX6_swap_111 : decode cX6_swap 111 = .ok (.invokevirtual 272, 3) := by decide +kernel
theorem dX6_swap_114 : decode cX6_swap 114 = .ok (.invokevirtual 261, 3) := by decide +kernel
theorem dX6_swap_117 : decode cX6_swap 117 = .ok (.iinc 4 1, 3) := by decide +kernel
theorem dX6_swap_120 : decode cX6_swap 120 = .ok (.goto (-73), 3) := by decide +kernel
theorem dX6_swap_123 : decode cX6_swap 123 = .ok (.iinc 3 1, 3) := by decide +kernel
theorem dX6_swap_126 : decode cX6_swap 126 = .ok (.goto (-95), 3) := by decide +kernel
theorem dX6_swap_129 : decode cX6_swap 129 = .ok (.aload_n 0, 1) := by decide +kernel
theorem dX6_swap_130 : decode cX6_swap 130 = .ok (.iload_n 2, 1) := by decide +kernel
theorem dX6_swap_131 : decode cX6_swap 131 = .ok (.invokevirtual 265, 3) := by decide +kernel
theorem dX6_swap_134 : decode cX6_swap 134 = .ok (.ireturn, 1) := by decide +kernel
theorem dX6_rest_0 : decode cX6_rest 0 = .ok (.iload_n 1, 1) := by decide +kernel
theorem dX6_rest_1 : decode cX6_rest 1 = .ok (.invokestatic 246, 3) := by decide +kernel
theorem dX6_rest_4 : decode cX6_rest 4 = .ok (.ifCond .eq 10, 3) := by decide +kernel
theorem dX6_rest_7 : decode cX6_rest 7 = .ok (.iload_n 2, 1) := by decide +kernel
theorem dX6_rest_8 : decode cX6_rest 8 = .ok (.invokestatic 227, 3) := by decide +kernel
theorem dX6_rest_11 : decode cX6_rest 11 = .ok (.ifCond .ne 5, 3) := by decide +kernel
theorem dX6_rest_14 : decode cX6_rest 14 = .ok (.iconst (-1), 1) := by decide +kernel
theorem dX6_rest_15 : decode cX6_rest 15 = .ok (.ireturn, 1) := by decide +kernel
theorem dX6_rest_16 : decode cX6_rest 16 = .ok (.aload_n 0, 1) := by decide +kernel
theorem dX6_rest_17 : decode cX6_rest 17 = .ok (.invokevirtual 209, 3) := by decide +kernel
theorem dX6_rest_20 : decode cX6_rest 20 = .ok (.aload_n 0, 1) := by decide +kernel
theorem dX6_rest_21 : decode cX6_rest 21 = .ok (.aload_n 0, 1) := by decide +kernel
theorem dX6_rest_22 : decode cX6_rest 22 = .ok (.iload_n 1, 1) := by decide +kernel
theorem dX6_rest_23 : decode cX6_rest 23 = .ok (.invokevirtual 272, 3) := by decide +kernel
theorem dX6_rest_26 : decode cX6_rest 26 = .ok (.invokevirtual 258, 3) := by decide +kernel
theorem dX6_rest_29 : decode cX6_rest 29 = .ok (.iconst 0, 1) := by decide +kernel
theorem dX6_rest_30 : decode cX6_rest 30 = .ok (.istore_n 3, 1) := by decide +kernel
theorem dX6_rest_31 : decode cX6_rest 31 = .ok (.iload_n 3, 1) := by decide +kernel
theorem dX6_rest_32 : decode cX6_rest 32 = .ok (.aload_n 0, 1) := by decide +kernel
theorem dX6_rest_33 : decode cX6_rest 33 = .ok (.getfield 7, 3) := by decide +kernel
theorem dX6_rest_36 : decode cX6_rest 36 = .ok (.bipush 49, 2) := by decide +kernel
theorem dX6_rest_38 : decode cX6_rest 38 = .ok (.iaload, 1) := by decide +kernel
theorem dX6_rest_39 : decode cX6_rest 39 = .ok (.if_icmp .ge 28, 3) := by decide +kernel
theorem dX6_rest_42 : decode cX6_rest 42 = .ok (.aload_n 0, 1) := by decide +kernel
theorem dX6_rest_43 : decode cX6_rest 43 = .ok (.invokevirtual 209, 3) := by decide +kernel
theorem dX6_rest_46 : decode cX6_rest 46 = .ok (.aload_n 0, 1) := by decide +kernel
theorem dX6_rest_47 : decode cX6_rest 47 = .ok (.iload_n 3, 1) := by decide +kernel
theorem dX6_rest_48 : decode cX6_rest 48 = .ok (.putfield 146, 3) := by decide +kernel
theorem dX6_rest_51 : decode cX6_rest 51 = .ok (.aload_n 0, 1) := by decide +kernel
theorem dX6_rest_52 : decode cX6_rest 52 = .ok (.iload_n 3, 1) := by decide +kernel
theorem dX6_rest_53 : decode cX6_rest 53 = .ok (.aload_n 0, 1) := by decide +kernel
theorem dX6_rest_54 : decode cX6_rest 54 = .ok (.iload_n 1, 1) := by decide +kernel
theorem dX6_rest_55 : decode cX6_rest 55 = .ok (.invokevirtual 272, 3) := by decide +kernel
theorem dX6_rest_58 : decode cX6_rest 58 = .ok (.invokevirtual 261, 3) := by decide +kernel
theorem dX6_rest_61 : decode cX6_rest 61 = .ok (.iinc 3 1, 3) := by decide +kernel
theorem dX6_rest_64 : decode cX6_rest 64 = .ok (.goto (-33), 3) := by decide +kernel
theorem dX6_rest_67 : decode cX6_rest 67 = .ok (.aload_n 0, 1) := by decide +kernel
theorem dX6_rest_68 : decode cX6_rest 68 = .ok (.iload_n 2, 1) := by decide +kernel
theorem dX6_rest_69 : decode cX6_rest 69 = .ok (.invokevirtual 265, 3) := by decide +kernel
theorem dX6_rest_72 : decode cX6_rest 72 = .ok (.ireturn, 1) := by decide +kernel
theorem dX6_common_0 : decode cX6_common 0 = .ok (.lload_n 0, 1) := by decide +kernel
theorem dX6_common_1 : decode cX6_common 1 = .ok (.lstore 4, 2) := by decide +kernel
theorem dX6_common_3 : decode cX6_common 3 = .ok (.lload_n 2, 1) := by decide +kernel
theorem dX6_common_4 : decode cX6_common 4 = .ok (.lstore 6, 2) := by decide +kernel
theorem dX6_common_6 : decode cX6_common 6 = .ok (.lload 6, 2) := by decide +kernel
theorem dX6_common_8 : decode cX6_common 8 = .ok (.lconst 0, 1) := by decide +kernel
theorem dX6_common_9 : decode cX6_common 9 = .ok (.lcmp, 1) := by decide +kernel
theorem dX6_common_10 : decode cX6_common 10 = .ok (.ifCond .eq 21, 3) := by decide +kernel
theorem dX6_common_13 : decode cX6_common 13 = .ok (.lload 4, 2) := by decide +kernel
theorem dX6_common_15 : decode cX6_common 15 = .ok (.lload 6, 2) := by decide +kernel
theorem dX6_common_17 : decode cX6_common 17 = .ok (.lrem, 1) := by decide +kernel
theorem dX6_common_18 : decode cX6_common 18 = .ok (.lstore 8, 2) := by decide +kernel
theorem dX6_common_20 : decode cX6_common 20 = .ok (.lload 6, 2) := by decide +kernel
theorem dX6_common_22 : decode cX6_common 22 = .ok (.lstore 4, 2) := by decide +kernel
theorem dX6_common_24 : decode cX6_common 24 = .ok (.lload 8, 2) := by decide +kernel
theorem dX6_common_26 : decode cX6_common 26 = .ok (.lstore 6, 2) := by decide +kernel
theorem dX6_common_28 : decode cX6_common 28 = .ok (.goto (-22), 3) := by decide +kernel
theorem dX6_common_31 : decode cX6_common 31 = .ok (.lload 4, 2) := by decide +kernel
theorem dX6_common_33 : decode cX6_common 33 = .ok (.lreturn, 1) := by decide +kernel
theorem dX6_lowest_0 : decode cX6_lowest 0 = .ok (.lload_n 2, 1) := by decide +kernel
theorem dX6_lowest_1 : decode cX6_lowest 1 = .ok (.lload_n 0, 1) := by decide +kernel
theorem dX6_lowest_2 : decode cX6_lowest 2 = .ok (.invokestatic 275, 3) := by decide +kernel
theorem dX6_lowest_5 : decode cX6_lowest 5 = .ok (.lstore 5, 2) := by decide +kernel
theorem dX6_lowest_7 : decode cX6_lowest 7 = .ok (.iload 4, 2) := by decide +kernel
theorem dX6_lowest_9 : decode cX6_lowest 9 = .ok (.ifCond .ne 10, 3) := by decide +kernel
theorem dX6_lowest_12 : decode cX6_lowest 12 = .ok (.lload_n 0, 1) := by decide +kernel
theorem dX6_lowest_13 : decode cX6_lowest 13 = .ok (.lload 5, 2) := by decide +kernel
theorem dX6_lowest_15 : decode cX6_lowest 15 = .ok (.ldiv, 1) := by decide +kernel
theorem dX6_lowest_16 : decode cX6_lowest 16 = .ok (.goto 7, 3) := by decide +kernel
theorem dX6_lowest_19 : decode cX6_lowest 19 = .ok (.lload_n 2, 1) := by decide +kernel
theorem dX6_lowest_20 : decode cX6_lowest 20 = .ok (.lload 5, 2) := by decide +kernel
theorem dX6_lowest_22 : decode cX6_lowest 22 = .ok (.ldiv, 1) := by decide +kernel
theorem dX6_lowest_23 : decode cX6_lowest 23 = .ok (.lreturn, 1) := by decide +kernel
theorem dX6_findOdds_0 : decode cX6_findOdds 0 = .ok (.aload_n 0, 1) := by decide +kernel
theorem dX6_findOdds_1 : decode cX6_findOdds 1 = .ok (.lconst 0, 1) := by decide +kernel
theorem dX6_findOdds_2 : decode cX6_findOdds 2 = .ok (.putfield 279, 3) := by decide +kernel
theorem dX6_findOdds_5 : decode cX6_findOdds 5 = .ok (.aload_n 0, 1) := by decide +kernel
theorem dX6_findOdds_6 : decode cX6_findOdds 6 = .ok (.lconst 0, 1) := by decide +kernel
theorem dX6_findOdds_7 : decode cX6_findOdds 7 = .ok (.putfield 283, 3) := by decide +kernel
theorem dX6_findOdds_10 : decode cX6_findOdds 10 = .ok (.aload_n 0, 1) := by decide +kernel
theorem dX6_findOdds_11 : decode cX6_findOdds 11 = .ok (.lconst 1, 1) := by decide +kernel
theorem dX6_findOdds_12 : decode cX6_findOdds 12 = .ok (.putfield 286, 3) := by decide +kernel
theorem dX6_findOdds_15 : decode cX6_findOdds 15 = .ok (.iconst 0, 1) := by decide +kernel
theorem dX6_findOdds_16 : decode cX6_findOdds 16 = .ok (.istore 4, 2) := by decide +kernel
theorem dX6_findOdds_18 : decode cX6_findOdds 18 = .ok (.iload 4, 2) := by decide +kernel
theorem dX6_findOdds_20 : decode cX6_findOdds 20 = .ok (.iload_n 3, 1) := by decide +kernel
theorem dX6_findOdds_21 : decode cX6_findOdds 21 = .ok (.if_icmp .ge 21, 3) := by decide +kernel
theorem dX6_findOdds_24 : decode cX6_findOdds 24 = .ok (.aload_n 0, 1) := by decide +kernel
theorem dX6_findOdds_25 : decode cX6_findOdds 25 = .ok (.dup, 1) := by decide +kernel
theorem dX6_findOdds_26 : decode cX6_findOdds 26 = .ok (.getfield 286, 3) := by decide +kernel
theorem dX6_findOdds_29 : decode cX6_findOdds 29 = .ok (.ldc2_w 289, 3) := by decide +kernel
theorem dX6_findOdds_32 : decode cX6_findOdds 32 = .ok (.lmul, 1) := by decide +kernel
theorem dX6_findOdds_33 : decode cX6_findOdds 33 = .ok (.putfield 286, 3) := by decide +kernel
theorem dX6_findOdds_36 : decode cX6_findOdds 36 = .ok (.iinc 4 1, 3) := by decide +kernel
theorem dX6_findOdds_39 : decode cX6_findOdds 39 = .ok (.goto (-21), 3) := by decide +kernel
theorem dX6_findOdds_42 : decode cX6_findOdds 42 = .ok (.iconst 0, 1) := by decide +kernel
theorem dX6_findOdds_43 : decode cX6_findOdds 43 = .ok (.istore 4, 2) := by decide +kernel
theorem dX6_findOdds_45 : decode cX6_findOdds 45 = .ok (.iload 4, 2) := by decide +kernel
theorem dX6_findOdds_47 : decode cX6_findOdds 47 = .ok (.iconst 1, 1) := by decide +kernel
theorem dX6_findOdds_48 : decode cX6_findOdds 48 = .ok (.iload_n 3, 1) := by decide +kernel
theorem dX6_findOdds_49 : decode cX6_findOdds 49 = .ok (.ishl, 1) := by decide +kernel
theorem dX6_findOdds_50 : decode cX6_findOdds 50 = .ok (.if_icmp .ge 146, 3) := by decide +kernel
theorem dX6_findOdds_53 : decode cX6_findOdds 53 = .ok (.lconst 1, 1) := by decide +kernel
theorem dX6_findOdds_54 : decode cX6_findOdds 54 = .ok (.lstore 5, 2) := by decide +kernel
theorem dX6_findOdds_56 : decode cX6_findOdds 56 = .ok (.aload_n 0, 1) := by decide +kernel
theorem dX6_findOdds_57 : decode cX6_findOdds 57 = .ok (.invokevirtual 209, 3) := by decide +kernel
theorem dX6_findOdds_60 : decode cX6_findOdds 60 = .ok (.iconst 0, 1) := by decide +kernel
theorem dX6_findOdds_61 : decode cX6_findOdds 61 = .ok (.istore 7, 2) := by decide +kernel
theorem dX6_findOdds_63 : decode cX6_findOdds 63 = .ok (.iload 7, 2) := by decide +kernel
theorem dX6_findOdds_65 : decode cX6_findOdds 65 = .ok (.iload_n 3, 1) := by decide +kernel
theorem dX6_findOdds_66 : decode cX6_findOdds 66 = .ok (.if_icmp .ge 77, 3) := by decide +kernel
theorem dX6_findOdds_69 : decode cX6_findOdds 69 = .ok (.iload 4, 2) := by decide +kernel
theorem dX6_findOdds_71 : decode cX6_findOdds 71 = .ok (.iload 7, 2) := by decide +kernel
theorem dX6_findOdds_73 : decode cX6_findOdds 73 = .ok (.ishr, 1) := by decide +kernel
theorem dX6_findOdds_74 : decode cX6_findOdds 74 = .ok (.iconst 1, 1) := by decide +kernel
theorem dX6_findOdds_75 : decode cX6_findOdds 75 = .ok (.iand, 1) := by decide +kernel
theorem dX6_findOdds_76 : decode cX6_findOdds 76 = .ok (.iconst 1, 1) := by decide +kernel
theorem dX6_findOdds_77 : decode cX6_findOdds 77 = .ok (.if_icmp .ne 7, 3) := by decide +kernel
theorem dX6_findOdds_80 : decode cX6_findOdds 80 = .ok (.iconst 1, 1) := by decide +kernel
theorem dX6_findOdds_81 : decode cX6_findOdds 81 = .ok (.goto 4, 3) := by decide +kernel
theorem dX6_findOdds_84 : decode cX6_findOdds 84 = .ok (.iconst 0, 1) := by decide +kernel
theorem dX6_findOdds_85 : decode cX6_findOdds 85 = .ok (.istore 8, 2) := by decide +kernel
theorem dX6_findOdds_87 : decode cX6_findOdds 87 = .ok (.lload 5, 2) := by decide +kernel
theorem dX6_findOdds_89 : decode cX6_findOdds 89 = .ok (.iload 8, 2) := by decide +kernel
theorem dX6_findOdds_91 : decode cX6_findOdds 91 = .ok (.ifCond .eq 8, 3) := by decide +kernel
theorem dX6_findOdds_94 : decode cX6_findOdds 94 = .ok (.iload_n 1, 1) := by decide +kernel
theorem dX6_findOdds_95 : decode cX6_findOdds 95 = .ok (.i2l, 1) := by decide +kernel
theorem dX6_findOdds_96 : decode cX6_findOdds 96 = .ok (.goto 8, 3) := by decide +kernel
theorem dX6_findOdds_99 : decode cX6_findOdds 99 = .ok (.bipush 10, 2) := by decide +kernel
theorem dX6_findOdds_101 : decode cX6_findOdds 101 = .ok (.iload_n 1, 1) := by decide +kernel
theorem dX6_findOdds_102 : decode cX6_findOdds 102 = .ok (.isub, 1) := by decide +kernel
theorem dX6_findOdds_103 : decode cX6_findOdds 103 = .ok (.i2l, 1) := by decide +kernel
theorem dX6_findOdds_104 : decode cX6_findOdds 104 = .ok (.lmul, 1) := by decide +kernel
theorem dX6_findOdds_105 : decode cX6_findOdds 105 = .ok (.lstore 5, 2) := by decide +kernel
theorem dX6_findOdds_107 : decode cX6_findOdds 107 = .ok (.aload_n 0, 1) := by decide +kernel
theorem dX6_findOdds_108 : decode cX6_findOdds 108 = .ok (.aload_n 0, 1) := by decide +kernel
theorem dX6_findOdds_109 : decode cX6_findOdds 109 = .ok (.aload_n 0, 1) := by decide +kernel
theorem dX6_findOdds_110 : decode cX6_findOdds 110 = .ok (.getfield 13, 3) := by decide +kernel
theorem dX6_findOdds_113 : decode cX6_findOdds 113 = .ok (.bipush 50, 2) := by decide +kernel
theorem dX6_findOdds_115 : decode cX6_findOdds 115 = .ok (.iaload, 1) := by decide +kernel
theorem dX6_findOdds_116 : decode cX6_findOdds 116 = .ok (.invokevirtual 199, 3) := by decide +kernel
theorem dX6_findOdds_119 : decode cX6_findOdds 119 = .ok (.aload_n 0, 1) := by decide +kernel
theorem dX6_findOdds_120 : decode cX6_findOdds 120 = .ok (.aload_n 0, 1) := by decide +kernel
theorem dX6_findOdds_121 : decode cX6_findOdds 121 = .ok (.getfield 13, 3) := by decide +kernel
theorem dX6_findOdds_124 : decode cX6_findOdds 124 = .ok (.bipush 50, 2) := by decide +kernel
theorem dX6_findOdds_126 : decode cX6_findOdds 126 = .ok (.iaload, 1) := by decide +kernel
theorem dX6_findOdds_127 : decode cX6_findOdds 127 = .ok (.iconst 1, 1) := by decide +kernel
theorem dX6_findOdds_128 : decode cX6_findOdds 128 = .ok (.iadd, 1) := by decide +kernel
theorem dX6_findOdds_129 : decode cX6_findOdds 129 = .ok (.invokevirtual 199, 3) := by decide +kernel
theorem dX6_findOdds_132 : decode cX6_findOdds 132 = .ok (.iload 8, 2) := by decide +kernel
theorem dX6_findOdds_134 : decode cX6_findOdds 134 = .ok (.invokevirtual 202, 3) := by decide +kernel
theorem dX6_findOdds_137 : decode cX6_findOdds 137 = .ok (.iinc 7 1, 3) := by decide +kernel
theorem dX6_findOdds_140 : decode cX6_findOdds 140 = .ok (.goto (-77), 3) := by decide +kernel
theorem dX6_findOdds_143 : decode cX6_findOdds 143 = .ok (.aload_n 0, 1) := by decide +kernel
theorem dX6_findOdds_144 : decode cX6_findOdds 144 = .ok (.dup, 1) := by decide +kernel
theorem dX6_findOdds_145 : decode cX6_findOdds 145 = .ok (.getfield 279, 3) := by decide +kernel
theorem dX6_findOdds_148 : decode cX6_findOdds 148 = .ok (.iload_n 2, 1) := by decide +kernel
theorem dX6_findOdds_149 : decode cX6_findOdds 149 = .ok (.bipush (-4), 2) := by decide +kernel
theorem dX6_findOdds_151 : decode cX6_findOdds 151 = .ok (.if_icmp .eq 17, 3) := by decide +kernel
theorem dX6_findOdds_154 : decode cX6_findOdds 154 = .ok (.aload_n 0, 1) := by decide +kernel
theorem dX6_findOdds_155 : decode cX6_findOdds 155 = .ok (.getfield 29, 3) := by decide +kernel
theorem dX6_findOdds_158 : decode cX6_findOdds 158 = .ok (.iload_n 2, 1) := by decide +kernel
theorem dX6_findOdds_159 : decode cX6_findOdds 159 = .ok (.iaload, 1) := by decide +kernel
theorem dX6_findOdds_160 : decode cX6_findOdds 160 = .ok (.ifCond .ne 8, 3) := by decide +kernel
theorem dX6_findOdds_163 : decode cX6_findOdds 163 = .ok (.lload 5, 2) := by decide +kernel
theorem dX6_findOdds_165 : decode cX6_findOdds 165 = .ok (.goto 4, 3) := by decide +kernel
theorem dX6_findOdds_168 : decode cX6_findOdds 168 = .ok (.lconst 0, 1) := by decide +kernel
theorem dX6_findOdds_169 : decode cX6_findOdds 169 = .ok (.ladd, 1) := by decide +kernel
theorem dX6_findOdds_170 : decode cX6_findOdds 170 = .ok (.putfield 279, 3) := by decide +kernel
theorem dX6_findOdds_173 : decode cX6_findOdds 173 = .ok (.aload_n 0, 1) := by decide +kernel
theorem dX6_findOdds_174 : decode cX6_findOdds 174 = .ok (.dup, 1) := by decide +kernel
theorem dX6_findOdds_175 : decode cX6_findOdds 175 = .ok (.getfield 283, 3) := by decide +kernel
theorem dX6_findOdds_178 : decode cX6_findOdds 178 = .ok (.lload 5, 2) := by decide +kernel
theorem dX6_findOdds_180 : decode cX6_findOdds 180 = .ok (.aload_n 0, 1) := by decide +kernel
theorem dX6_findOdds_181 : decode cX6_findOdds 181 = .ok (.getfield 149, 3) := by decide +kernel
theorem dX6_findOdds_184 : decode cX6_findOdds 184 = .ok (.i2l, 1) := by decide +kernel
theorem dX6_findOdds_185 : decode cX6_findOdds 185 = .ok (.lmul, 1) := by decide +kernel
theorem dX6_findOdds_186 : decode cX6_findOdds 186 = .ok (.ladd, 1) := by decide +kernel
theorem dX6_findOdds_187 : decode cX6_findOdds 187 = .ok (.putfield 283, 3) := by decide +kernel
theorem dX6_findOdds_190 : decode cX6_findOdds 190 = .ok (.iinc 4 1, 3) := by decide +kernel
theorem dX6_findOdds_193 : decode cX6_findOdds 193 = .ok (.goto (-148), 3) := by decide +kernel
theorem dX6_findOdds_196 : decode cX6_findOdds 196 = .ok (.return_, 1) := by decide +kernel
theorem dX6_luck_0 : decode cX6_luck 0 = .ok (.iload_n 1, 1) := by decide +kernel
theorem dX6_luck_1 : decode cX6_luck 1 = .ok (.i2l, 1) := by decide +kernel
theorem dX6_luck_2 : decode cX6_luck 2 = .ok (.lconst 0, 1) := by decide +kernel
theorem dX6_luck_3 : decode cX6_luck 3 = .ok (.ldc2_w 289, 3) := by decide +kernel
theorem dX6_luck_6 : decode cX6_luck 6 = .ok (.invokestatic 67, 3) := by decide +kernel
theorem dX6_luck_9 : decode cX6_luck 9 = .ok (.ifCond .eq 31, 3) := by decide +kernel
theorem dX6_luck_12 : decode cX6_luck 12 = .ok (.aload_n 0, 1) := by decide +kernel
theorem dX6_luck_13 : decode cX6_luck 13 = .ok (.iload_n 2, 1) := by decide +kernel
theorem dX6_luck_14 : decode cX6_luck 14 = .ok (.invokevirtual 215, 3) := by decide +kernel
theorem dX6_luck_17 : decode cX6_luck 17 = .ok (.ifCond .eq 23, 3) := by decide +kernel
theorem dX6_luck_20 : decode cX6_luck 20 = .ok (.iload_n 3, 1) := by decide +kernel
theorem dX6_luck_21 : decode cX6_luck 21 = .ok (.i2l, 1) := by decide +kernel
theorem dX6_luck_22 : decode cX6_luck 22 = .ok (.lconst 0, 1) := by decide +kernel
theorem dX6_luck_23 : decode cX6_luck 23 = .ok (.ldc2_w 291, 3) := by decide +kernel
theorem dX6_luck_26 : decode cX6_luck 26 = .ok (.invokestatic 67, 3) := by decide +kernel
theorem dX6_luck_29 : decode cX6_luck 29 = .ok (.ifCond .eq 11, 3) := by decide +kernel
theorem dX6_luck_32 : decode cX6_luck 32 = .ok (.iload 4, 2) := by decide +kernel
theorem dX6_luck_34 : decode cX6_luck 34 = .ok (.invokestatic 227, 3) := by decide +kernel
theorem dX6_luck_37 : decode cX6_luck 37 = .ok (.ifCond .ne 7, 3) := by decide +kernel
theorem dX6_luck_40 : decode cX6_luck 40 = .ok (.ldc2_w 293, 3) := by decide +kernel
theorem dX6_luck_43 : decode cX6_luck 43 = .ok (.lreturn, 1) := by decide +kernel
theorem dX6_luck_44 : decode cX6_luck 44 = .ok (.aload_n 0, 1) := by decide +kernel
theorem dX6_luck_45 : decode cX6_luck 45 = .ok (.iload_n 1, 1) := by decide +kernel
theorem dX6_luck_46 : decode cX6_luck 46 = .ok (.iload_n 2, 1) := by decide +kernel
theorem dX6_luck_47 : decode cX6_luck 47 = .ok (.iload_n 3, 1) := by decide +kernel
theorem dX6_luck_48 : decode cX6_luck 48 = .ok (.invokevirtual 295, 3) := by decide +kernel
theorem dX6_luck_51 : decode cX6_luck 51 = .ok (.aload_n 0, 1) := by decide +kernel
theorem dX6_luck_52 : decode cX6_luck 52 = .ok (.getfield 279, 3) := by decide +kernel
theorem dX6_luck_55 : decode cX6_luck 55 = .ok (.aload_n 0, 1) := by decide +kernel
theorem dX6_luck_56 : decode cX6_luck 56 = .ok (.getfield 286, 3) := by decide +kernel
theorem dX6_luck_59 : decode cX6_luck 59 = .ok (.iload 4, 2) := by decide +kernel
theorem dX6_luck_61 : decode cX6_luck 61 = .ok (.invokestatic 298, 3) := by decide +kernel
theorem dX6_luck_64 : decode cX6_luck 64 = .ok (.lreturn, 1) := by decide +kernel
theorem dX6_mean_0 : decode cX6_mean 0 = .ok (.iload_n 1, 1) := by decide +kernel
theorem dX6_mean_1 : decode cX6_mean 1 = .ok (.i2l, 1) := by decide +kernel
theorem dX6_mean_2 : decode cX6_mean 2 = .ok (.lconst 0, 1) := by decide +kernel
theorem dX6_mean_3 : decode cX6_mean 3 = .ok (.ldc2_w 289, 3) := by decide +kernel
theorem dX6_mean_6 : decode cX6_mean 6 = .ok (.invokestatic 67, 3) := by decide +kernel
theorem dX6_mean_9 : decode cX6_mean 9 = .ok (.ifCond .eq 22, 3) := by decide +kernel
theorem dX6_mean_12 : decode cX6_mean 12 = .ok (.iload_n 2, 1) := by decide +kernel
theorem dX6_mean_13 : decode cX6_mean 13 = .ok (.i2l, 1) := by decide +kernel
theorem dX6_mean_14 : decode cX6_mean 14 = .ok (.lconst 0, 1) := by decide +kernel
theorem dX6_mean_15 : decode cX6_mean 15 = .ok (.ldc2_w 291, 3) := by decide +kernel
theorem dX6_mean_18 : decode cX6_mean 18 = .ok (.invokestatic 67, 3) := by decide +kernel
theorem dX6_mean_21 : decode cX6_mean 21 = .ok (.ifCond .eq 10, 3) := by decide +kernel
theorem dX6_mean_24 : decode cX6_mean 24 = .ok (.iload_n 3, 1) := by decide +kernel
theorem dX6_mean_25 : decode cX6_mean 25 = .ok (.invokestatic 227, 3) := by decide +kernel
theorem dX6_mean_28 : decode cX6_mean 28 = .ok (.ifCond .ne 7, 3) := by decide +kernel
theorem dX6_mean_31 : decode cX6_mean 31 = .ok (.ldc2_w 293, 3) := by decide +kernel
theorem dX6_mean_34 : decode cX6_mean 34 = .ok (.lreturn, 1) := by decide +kernel
theorem dX6_mean_35 : decode cX6_mean 35 = .ok (.aload_n 0, 1) := by decide +kernel
theorem dX6_mean_36 : decode cX6_mean 36 = .ok (.iload_n 1, 1) := by decide +kernel
theorem dX6_mean_37 : decode cX6_mean 37 = .ok (.bipush (-4), 2) := by decide +kernel
theorem dX6_mean_39 : decode cX6_mean 39 = .ok (.iload_n 2, 1) := by decide +kernel
theorem dX6_mean_40 : decode cX6_mean 40 = .ok (.invokevirtual 295, 3) := by decide +kernel
theorem dX6_mean_43 : decode cX6_mean 43 = .ok (.aload_n 0, 1) := by decide +kernel
theorem dX6_mean_44 : decode cX6_mean 44 = .ok (.getfield 283, 3) := by decide +kernel
theorem dX6_mean_47 : decode cX6_mean 47 = .ok (.aload_n 0, 1) := by decide +kernel
theorem dX6_mean_48 : decode cX6_mean 48 = .ok (.getfield 286, 3) := by decide +kernel
theorem dX6_mean_51 : decode cX6_mean 51 = .ok (.iload_n 3, 1) := by decide +kernel
theorem dX6_mean_52 : decode cX6_mean 52 = .ok (.invokestatic 298, 3) := by decide +kernel
theorem dX6_mean_55 : decode cX6_mean 55 = .ok (.lreturn, 1) := by decide +kernel
theorem dX6_see_0 : decode cX6_see 0 = .ok (.iload_n 1, 1) := by decide +kernel
theorem dX6_see_1 : decode cX6_see 1 = .ok (.i2l, 1) := by decide +kernel
theorem dX6_see_2 : decode cX6_see 2 = .ok (.lconst 0, 1) := by decide +kernel
theorem dX6_see_3 : decode cX6_see 3 = .ok (.ldc2_w 302, 3) := by decide +kernel
theorem dX6_see_6 : decode cX6_see 6 = .ok (.invokestatic 67, 3) := by decide +kernel
theorem dX6_see_9 : decode cX6_see 9 = .ok (.ifCond .eq 23, 3) := by decide +kernel
theorem dX6_see_12 : decode cX6_see 12 = .ok (.aload_n 0, 1) := by decide +kernel
theorem dX6_see_13 : decode cX6_see 13 = .ok (.iload_n 2, 1) := by decide +kernel
theorem dX6_see_14 : decode cX6_see 14 = .ok (.invokevirtual 215, 3) := by decide +kernel
theorem dX6_see_17 : decode cX6_see 17 = .ok (.ifCond .eq 15, 3) := by decide +kernel
theorem dX6_see_20 : decode cX6_see 20 = .ok (.iload_n 3, 1) := by decide +kernel
theorem dX6_see_21 : decode cX6_see 21 = .ok (.i2l, 1) := by decide +kernel
theorem dX6_see_22 : decode cX6_see 22 = .ok (.lconst 0, 1) := by decide +kernel
theorem dX6_see_23 : decode cX6_see 23 = .ok (.ldc2_w 242, 3) := by decide +kernel
theorem dX6_see_26 : decode cX6_see 26 = .ok (.invokestatic 67, 3) := by decide +kernel
theorem dX6_see_29 : decode cX6_see 29 = .ok (.ifCond .ne 5, 3) := by decide +kernel
theorem dX6_see_32 : decode cX6_see 32 = .ok (.iconst (-1), 1) := by decide +kernel
theorem dX6_see_33 : decode cX6_see 33 = .ok (.ireturn, 1) := by decide +kernel
theorem dX6_see_34 : decode cX6_see 34 = .ok (.aload_n 0, 1) := by decide +kernel
theorem dX6_see_35 : decode cX6_see 35 = .ok (.getfield 7, 3) := by decide +kernel
theorem dX6_see_38 : decode cX6_see 38 = .ok (.bipush 51, 2) := by decide +kernel
theorem dX6_see_40 : decode cX6_see 40 = .ok (.iaload, 1) := by decide +kernel
theorem dX6_see_41 : decode cX6_see 41 = .ok (.bipush 6, 2) := by decide +kernel
theorem dX6_see_43 : decode cX6_see 43 = .ok (.if_icmp .ne 6, 3) := by decide +kernel
theorem dX6_see_46 : decode cX6_see 46 = .ok (.bipush (-3), 2) := by decide +kernel
theorem dX6_see_48 : decode cX6_see 48 = .ok (.ireturn, 1) := by decide +kernel
theorem dX6_see_49 : decode cX6_see 49 = .ok (.bipush 52, 2) := by decide +kernel
theorem dX6_see_51 : decode cX6_see 51 = .ok (.iconst 3, 1) := by decide +kernel
theorem dX6_see_52 : decode cX6_see 52 = .ok (.aload_n 0, 1) := by decide +kernel
theorem dX6_see_53 : decode cX6_see 53 = .ok (.getfield 7, 3) := by decide +kernel
theorem dX6_see_56 : decode cX6_see 56 = .ok (.bipush 51, 2) := by decide +kernel
theorem dX6_see_58 : decode cX6_see 58 = .ok (.iaload, 1) := by decide +kernel
theorem dX6_see_59 : decode cX6_see 59 = .ok (.imul, 1) := by decide +kernel
theorem dX6_see_60 : decode cX6_see 60 = .ok (.iadd, 1) := by decide +kernel
theorem dX6_see_61 : decode cX6_see 61 = .ok (.istore 4, 2) := by decide +kernel
theorem dX6_see_63 : decode cX6_see 63 = .ok (.aload_n 0, 1) := by decide +kernel
theorem dX6_see_64 : decode cX6_see 64 = .ok (.getfield 7, 3) := by decide +kernel
theorem dX6_see_67 : decode cX6_see 67 = .ok (.iload 4, 2) := by decide +kernel
theorem dX6_see_69 : decode cX6_see 69 = .ok (.iload_n 1, 1) := by decide +kernel
theorem dX6_see_70 : decode cX6_see 70 = .ok (.iastore, 1) := by decide +kernel
theorem dX6_see_71 : decode cX6_see 71 = .ok (.aload_n 0, 1) := by decide +kernel
theorem dX6_see_72 : decode cX6_see 72 = .ok (.getfield 7, 3) := by decide +kernel
theorem dX6_see_75 : decode cX6_see 75 = .ok (.iload 4, 2) := by decide +kernel
theorem dX6_see_77 : decode cX6_see 77 = .ok (.iconst 1, 1) := by decide +kernel
theorem dX6_see_78 : decode cX6_see 78 = .ok (.iadd, 1) := by decide +kernel
theorem dX6_see_79 : decode cX6_see 79 = .ok (.iload_n 2, 1) := by decide +kernel
theorem dX6_see_80 : decode cX6_see 80 = .ok (.iastore, 1) := by decide +kernel
theorem dX6_see_81 : decode cX6_see 81 = .ok (.aload_n 0, 1) := by decide +kernel
theorem dX6_see_82 : decode cX6_see 82 = .ok (.getfield 7, 3) := by decide +kernel
theorem dX6_see_85 : decode cX6_see 85 = .ok (.iload 4, 2) := by decide +kernel
theorem dX6_see_87 : decode cX6_see 87 = .ok (.iconst 2, 1) := by decide +kernel
theorem dX6_see_88 : decode cX6_see 88 = .ok (.iadd, 1) := by decide +kernel
theorem dX6_see_89 : decode cX6_see 89 = .ok (.iload_n 3, 1) := by decide +kernel
theorem dX6_see_90 : decode cX6_see 90 = .ok (.iastore, 1) := by decide +kernel
theorem dX6_see_91 : decode cX6_see 91 = .ok (.aload_n 0, 1) := by decide +kernel
theorem dX6_see_92 : decode cX6_see 92 = .ok (.getfield 7, 3) := by decide +kernel
theorem dX6_see_95 : decode cX6_see 95 = .ok (.bipush 51, 2) := by decide +kernel
theorem dX6_see_97 : decode cX6_see 97 = .ok (.dup2, 1) := by decide +kernel
theorem dX6_see_98 : decode cX6_see 98 = .ok (.iaload, 1) := by decide +kernel
theorem dX6_see_99 : decode cX6_see 99 = .ok (.iconst 1, 1) := by decide +kernel
theorem dX6_see_100 : decode cX6_see 100 = .ok (.iadd, 1) := by decide +kernel
theorem dX6_see_101 : decode cX6_see 101 = .ok (.iastore, 1) := by decide +kernel
theorem dX6_see_102 : decode cX6_see 102 = .ok (.aload_n 0, 1) := by decide +kernel
theorem dX6_see_103 : decode cX6_see 103 = .ok (.getfield 7, 3) := by decide +kernel
theorem dX6_see_106 : decode cX6_see 106 = .ok (.bipush 51, 2) := by decide +kernel
theorem dX6_see_108 : decode cX6_see 108 = .ok (.iaload, 1) := by decide +kernel
theorem dX6_see_109 : decode cX6_see 109 = .ok (.ireturn, 1) := by decide +kernel
theorem dX6_forget_0 : decode cX6_forget 0 = .ok (.iload_n 1, 1) := by decide +kernel
theorem dX6_forget_1 : decode cX6_forget 1 = .ok (.i2l, 1) := by decide +kernel
theorem dX6_forget_2 : decode cX6_forget 2 = .ok (.lconst 0, 1) := by decide +kernel
theorem dX6_forget_3 : decode cX6_forget 3 = .ok (.aload_n 0, 1) := by decide +kernel
theorem dX6_forget_4 : decode cX6_forget 4 = .ok (.getfield 7, 3) := by decide +kernel
theorem dX6_forget_7 : decode cX6_forget 7 = .ok (.bipush 51, 2) := by decide +kernel
theorem dX6_forget_9 : decode cX6_forget 9 = .ok (.iaload, 1) := by decide +kernel
theorem dX6_forget_10 : decode cX6_forget 10 = .ok (.i2l, 1) := by decide +kernel
theorem dX6_forget_11 : decode cX6_forget 11 = .ok (.invokestatic 67, 3) := by decide +kernel
theorem dX6_forget_14 : decode cX6_forget 14 = .ok (.ifCond .eq 13, 3) := by decide +kernel
theorem dX6_forget_17 : decode cX6_forget 17 = .ok (.aload_n 0, 1) := by decide +kernel
theorem dX6_forget_18 : decode cX6_forget 18 = .ok (.bipush 51, 2) := by decide +kernel
theorem dX6_forget_20 : decode cX6_forget 20 = .ok (.iload_n 1, 1) := by decide +kernel
theorem dX6_forget_21 : decode cX6_forget 21 = .ok (.invokevirtual 235, 3) := by decide +kernel
theorem dX6_forget_24 : decode cX6_forget 24 = .ok (.goto 4, 3) := by decide +kernel
theorem dX6_forget_27 : decode cX6_forget 27 = .ok (.iconst (-1), 1) := by decide +kernel
theorem dX6_forget_28 : decode cX6_forget 28 = .ok (.ireturn, 1) := by decide +kernel
theorem dX6_isSoWith_0 : decode cX6_isSoWith 0 = .ok (.aload_n 0, 1) := by decide +kernel
theorem dX6_isSoWith_1 : decode cX6_isSoWith 1 = .ok (.invokevirtual 209, 3) := by decide +kernel
theorem dX6_isSoWith_4 : decode cX6_isSoWith 4 = .ok (.aload_n 0, 1) := by decide +kernel
theorem dX6_isSoWith_5 : decode cX6_isSoWith 5 = .ok (.getfield 13, 3) := by decide +kernel
theorem dX6_isSoWith_8 : decode cX6_isSoWith 8 = .ok (.iload_n 1, 1) := by decide +kernel
theorem dX6_isSoWith_9 : decode cX6_isSoWith 9 = .ok (.iload_n 2, 1) := by decide +kernel
theorem dX6_isSoWith_10 : decode cX6_isSoWith 10 = .ok (.iastore, 1) := by decide +kernel
theorem dX6_isSoWith_11 : decode cX6_isSoWith 11 = .ok (.iconst 0, 1) := by decide +kernel
theorem dX6_isSoWith_12 : decode cX6_isSoWith 12 = .ok (.istore_n 3, 1) := by decide +kernel
theorem dX6_isSoWith_13 : decode cX6_isSoWith 13 = .ok (.iload_n 3, 1) := by decide +kernel
theorem dX6_isSoWith_14 : decode cX6_isSoWith 14 = .ok (.bipush 40, 2) := by decide +kernel
theorem dX6_isSoWith_16 : decode cX6_isSoWith 16 = .ok (.if_icmp .gt 53, 3) := by decide +kernel
theorem dX6_isSoWith_19 : decode cX6_isSoWith 19 = .ok (.aload_n 0, 1) := by decide +kernel
theorem dX6_isSoWith_20 : decode cX6_isSoWith 20 = .ok (.iconst 1, 1) := by decide +kernel
theorem dX6_isSoWith_21 : decode cX6_isSoWith 21 = .ok (.invokevirtual 206, 3) := by decide +kernel
theorem dX6_isSoWith_24 : decode cX6_isSoWith 24 = .ok (.iconst 0, 1) := by decide +kernel
theorem dX6_isSoWith_25 : decode cX6_isSoWith 25 = .ok (.istore 4, 2) := by decide +kernel
theorem dX6_isSoWith_27 : decode cX6_isSoWith 27 = .ok (.iload 4, 2) := by decide +kernel
theorem dX6_isSoWith_29 : decode cX6_isSoWith 29 = .ok (.aload_n 0, 1) := by decide +kernel
theorem dX6_isSoWith_30 : decode cX6_isSoWith 30 = .ok (.getfield 13, 3) := by decide +kernel
theorem dX6_isSoWith_33 : decode cX6_isSoWith 33 = .ok (.bipush 33, 2) := by decide +kernel
theorem dX6_isSoWith_35 : decode cX6_isSoWith 35 = .ok (.iaload, 1) := by decide +kernel
theorem dX6_isSoWith_36 : decode cX6_isSoWith 36 = .ok (.if_icmp .ge 27, 3) := by decide +kernel
theorem dX6_isSoWith_39 : decode cX6_isSoWith 39 = .ok (.aload_n 0, 1) := by decide +kernel
theorem dX6_isSoWith_40 : decode cX6_isSoWith 40 = .ok (.getfield 41, 3) := by decide +kernel
theorem dX6_isSoWith_43 : decode cX6_isSoWith 43 = .ok (.iconst 3, 1) := by decide +kernel
theorem dX6_isSoWith_44 : decode cX6_isSoWith 44 = .ok (.iload_n 3, 1) := by decide +kernel
theorem dX6_isSoWith_45 : decode cX6_isSoWith 45 = .ok (.imul, 1) := by decide +kernel
theorem dX6_isSoWith_46 : decode cX6_isSoWith 46 = .ok (.iload 4, 2) := by decide +kernel
theorem dX6_isSoWith_48 : decode cX6_isSoWith 48 = .ok (.iadd, 1) := by decide +kernel
theorem dX6_isSoWith_49 : decode cX6_isSoWith 49 = .ok (.aload_n 0, 1) := by decide +kernel
theorem dX6_isSoWith_50 : decode cX6_isSoWith 50 = .ok (.getfield 32, 3) := by decide +kernel
theorem dX6_isSoWith_53 : decode cX6_isSoWith 53 = .ok (.iload 4, 2) := by decide +kernel
theorem dX6_isSoWith_55 : decode cX6_isSoWith 55 = .ok (.iaload, 1) := by decide +kernel
theorem dX6_isSoWith_56 : decode cX6_isSoWith 56 = .ok (.iastore, 1) := by decide +kernel
theorem dX6_isSoWith_57 : decode cX6_isSoWith 57 = .ok (.iinc 4 1, 3) := by decide +kernel
theorem dX6_isSoWith_60 : decode cX6_isSoWith 60 = .ok (.goto (-33), 3) := by decide +kernel
theorem dX6_isSoWith_63 : decode cX6_isSoWith 63 = .ok (.iinc 3 1, 3) := by decide +kernel
theorem dX6_isSoWith_66 : decode cX6_isSoWith 66 = .ok (.goto (-53), 3) := by decide +kernel
theorem dX6_isSoWith_69 : decode cX6_isSoWith 69 = .ok (.iconst 1, 1) := by decide +kernel
theorem dX6_isSoWith_70 : decode cX6_isSoWith 70 = .ok (.istore_n 3, 1) := by decide +kernel
theorem dX6_isSoWith_71 : decode cX6_isSoWith 71 = .ok (.iconst 0, 1) := by decide +kernel
theorem dX6_isSoWith_72 : decode cX6_isSoWith 72 = .ok (.istore 4, 2) := by decide +kernel
theorem dX6_isSoWith_74 : decode cX6_isSoWith 74 = .ok (.iload 4, 2) := by decide +kernel
theorem dX6_isSoWith_76 : decode cX6_isSoWith 76 = .ok (.aload_n 0, 1) := by decide +kernel
theorem dX6_isSoWith_77 : decode cX6_isSoWith 77 = .ok (.getfield 7, 3) := by decide +kernel
theorem dX6_isSoWith_80 : decode cX6_isSoWith 80 = .ok (.bipush 51, 2) := by decide +kernel
theorem dX6_isSoWith_82 : decode cX6_isSoWith 82 = .ok (.iaload, 1) := by decide +kernel
theorem dX6_isSoWith_83 : decode cX6_isSoWith 83 = .ok (.if_icmp .ge 64, 3) := by decide +kernel
theorem dX6_isSoWith_86 : decode cX6_isSoWith 86 = .ok (.bipush 52, 2) := by decide +kernel
theorem dX6_isSoWith_88 : decode cX6_isSoWith 88 = .ok (.iconst 3, 1) := by decide +kernel
theorem dX6_isSoWith_89 : decode cX6_isSoWith 89 = .ok (.iload 4, 2) := by decide +kernel
theorem dX6_isSoWith_91 : decode cX6_isSoWith 91 = .ok (.imul, 1) := by decide +kernel
theorem dX6_isSoWith_92 : decode cX6_isSoWith 92 = .ok (.iadd, 1) := by decide +kernel
theorem dX6_isSoWith_93 : decode cX6_isSoWith 93 = .ok (.istore 5, 2) := by decide +kernel
theorem dX6_isSoWith_95 : decode cX6_isSoWith 95 = .ok (.iload_n 3, 1) := by decide +kernel
theorem dX6_isSoWith_96 : decode cX6_isSoWith 96 = .ok (.ifCond .eq 43, 3) := by decide +kernel
theorem dX6_isSoWith_99 : decode cX6_isSoWith 99 = .ok (.aload_n 0, 1) := by decide +kernel
theorem dX6_isSoWith_100 : decode cX6_isSoWith 100 = .ok (.getfield 41, 3) := by decide +kernel
theorem dX6_isSoWith_103 : decode cX6_isSoWith 103 = .ok (.iconst 3, 1) := by decide +kernel
theorem dX6_isSoWith_104 : decode cX6_isSoWith 104 = .ok (.aload_n 0, 1) := by decide +kernel
theorem dX6_isSoWith_105 : decode cX6_isSoWith 105 = .ok (.getfield 7, 3) := by decide +kernel
theorem dX6_isSoWith_108 : decode cX6_isSoWith 108 = .ok (.iload 5, 2) := by decide +kernel
theorem dX6_isSoWith_110 : decode cX6_isSoWith 110 = .ok (.iaload, 1) := by decide +kernel
theorem dX6_isSoWith_111 : decode cX6_isSoWith 111 = .ok (.imul, 1) := by decide +kernel
theorem dX6_isSoWith_112 : decode cX6_isSoWith 112 = .ok (.aload_n 0, 1) := by decide +kernel
theorem dX6_isSoWith_113 : decode cX6_isSoWith 113 = .ok (.getfield 7, 3) := by decide +kernel
theorem dX6_isSoWith_116 : decode cX6_isSoWith 116 = .ok (.iload 5, 2) := by decide +kernel
theorem dX6_isSoWith_118 : decode cX6_isSoWith 118 = .ok (.iconst 1, 1) := by decide +kernel
theorem dX6_isSoWith_119 : decode cX6_isSoWith 119 = .ok (.iadd, 1) := by decide +kernel
theorem dX6_isSoWith_120 : decode cX6_isSoWith 120 = .ok (.iaload, 1) := by decide +kernel
theorem dX6_isSoWith_121 : decode cX6_isSoWith 121 = .ok (.iadd, 1) := by decide +kernel
theorem dX6_isSoWith_122 : decode cX6_isSoWith 122 = .ok (.iaload, 1) := by decide +kernel
theorem dX6_isSoWith_123 : decode cX6_isSoWith 123 = .ok (.aload_n 0, 1) := by decide +kernel
theorem dX6_isSoWith_124 : decode cX6_isSoWith 124 = .ok (.getfield 7, 3) := by decide +kernel
theorem dX6_isSoWith_127 : decode cX6_isSoWith 127 = .ok (.iload 5, 2) := by decide +kernel
theorem dX6_isSoWith_129 : decode cX6_isSoWith 129 = .ok (.iconst 2, 1) := by decide +kernel
theorem dX6_isSoWith_130 : decode cX6_isSoWith 130 = .ok (.iadd, 1) := by decide +kernel
theorem dX6_isSoWith_131 : decode cX6_isSoWith 131 = .ok (.iaload, 1) := by decide +kernel
theorem dX6_isSoWith_132 : decode cX6_isSoWith 132 = .ok (.if_icmp .ne 7, 3) := by decide +kernel
theorem dX6_isSoWith_135 : decode cX6_isSoWith 135 = .ok (.iconst 1, 1) := by decide +kernel
theorem dX6_isSoWith_136 : decode cX6_isSoWith 136 = .ok (.goto 4, 3) := by decide +kernel
theorem dX6_isSoWith_139 : decode cX6_isSoWith 139 = .ok (.iconst 0, 1) := by decide +kernel
theorem dX6_isSoWith_140 : decode cX6_isSoWith 140 = .ok (.istore_n 3, 1) := by decide +kernel
theorem dX6_isSoWith_141 : decode cX6_isSoWith 141 = .ok (.iinc 4 1, 3) := by decide +kernel
theorem dX6_isSoWith_144 : decode cX6_isSoWith 144 = .ok (.goto (-70), 3) := by decide +kernel
theorem dX6_isSoWith_147 : decode cX6_isSoWith 147 = .ok (.iload_n 3, 1) := by decide +kernel
theorem dX6_isSoWith_148 : decode cX6_isSoWith 148 = .ok (.ireturn, 1) := by decide +kernel
theorem dX6_which_0 : decode cX6_which 0 = .ok (.aload_n 0, 1) := by decide +kernel
theorem dX6_which_1 : decode cX6_which 1 = .ok (.iload_n 1, 1) := by decide +kernel
theorem dX6_which_2 : decode cX6_which 2 = .ok (.invokevirtual 215, 3) := by decide +kernel
theorem dX6_which_5 : decode cX6_which 5 = .ok (.ifCond .ne 5, 3) := by decide +kernel
theorem dX6_which_8 : decode cX6_which 8 = .ok (.iconst (-1), 1) := by decide +kernel
theorem dX6_which_9 : decode cX6_which 9 = .ok (.ireturn, 1) := by decide +kernel
theorem dX6_which_10 : decode cX6_which 10 = .ok (.iconst 0, 1) := by decide +kernel
theorem dX6_which_11 : decode cX6_which 11 = .ok (.istore 4, 2) := by decide +kernel
theorem dX6_which_13 : decode cX6_which 13 = .ok (.iconst 0, 1) := by decide +kernel
theorem dX6_which_14 : decode cX6_which 14 = .ok (.istore 5, 2) := by decide +kernel
theorem dX6_which_16 : decode cX6_which 16 = .ok (.iload 5, 2) := by decide +kernel
theorem dX6_which_18 : decode cX6_which 18 = .ok (.iload_n 3, 1) := by decide +kernel
theorem dX6_which_19 : decode cX6_which 19 = .ok (.if_icmp .gt 32, 3) := by decide +kernel
theorem dX6_which_22 : decode cX6_which 22 = .ok (.iload 4, 2) := by decide +kernel
theorem dX6_which_24 : decode cX6_which 24 = .ok (.aload_n 0, 1) := by decide +kernel
theorem dX6_which_25 : decode cX6_which 25 = .ok (.bipush 11, 2) := by decide +kernel
theorem dX6_which_27 : decode cX6_which 27 = .ok (.iload_n 1, 1) := by decide +kernel
theorem dX6_which_28 : decode cX6_which 28 = .ok (.imul, 1) := by decide +kernel
theorem dX6_which_29 : decode cX6_which 29 = .ok (.iload_n 2, 1) := by decide +kernel
theorem dX6_which_30 : decode cX6_which 30 = .ok (.iadd, 1) := by decide +kernel
theorem dX6_which_31 : decode cX6_which 31 = .ok (.iload 5, 2) := by decide +kernel
theorem dX6_which_33 : decode cX6_which 33 = .ok (.invokevirtual 304, 3) := by decide +kernel
theorem dX6_which_36 : decode cX6_which 36 = .ok (.invokestatic 174, 3) := by decide +kernel
theorem dX6_which_39 : decode cX6_which 39 = .ok (.iload 5, 2) := by decide +kernel
theorem dX6_which_41 : decode cX6_which 41 = .ok (.ishl, 1) := by decide +kernel
theorem dX6_which_42 : decode cX6_which 42 = .ok (.ior, 1) := by decide +kernel
theorem dX6_which_43 : decode cX6_which 43 = .ok (.istore 4, 2) := by decide +kernel
theorem dX6_which_45 : decode cX6_which 45 = .ok (.iinc 5 1, 3) := by decide +kernel
theorem dX6_which_48 : decode cX6_which 48 = .ok (.goto (-32), 3) := by decide +kernel
theorem dX6_which_51 : decode cX6_which 51 = .ok (.iload 4, 2) := by decide +kernel
theorem dX6_which_53 : decode cX6_which 53 = .ok (.ireturn, 1) := by decide +kernel
theorem dX6_kinds_0 : decode cX6_kinds 0 = .ok (.aload_n 0, 1) := by decide +kernel
theorem dX6_kinds_1 : decode cX6_kinds 1 = .ok (.iload_n 1, 1) := by decide +kernel
theorem dX6_kinds_2 : decode cX6_kinds 2 = .ok (.iconst 0, 1) := by decide +kernel
theorem dX6_kinds_3 : decode cX6_kinds 3 = .ok (.iconst 3, 1) := by decide +kernel
theorem dX6_kinds_4 : decode cX6_kinds 4 = .ok (.invokevirtual 307, 3) := by decide +kernel
theorem dX6_kinds_7 : decode cX6_kinds 7 = .ok (.ireturn, 1) := by decide +kernel
theorem dX6_powers_0 : decode cX6_powers 0 = .ok (.aload_n 0, 1) := by decide +kernel
theorem dX6_powers_1 : decode cX6_powers 1 = .ok (.iload_n 1, 1) := by decide +kernel
theorem dX6_powers_2 : decode cX6_powers 2 = .ok (.iconst 1, 1) := by decide +kernel
theorem dX6_powers_3 : decode cX6_powers 3 = .ok (.bipush 30, 2) := by decide +kernel
theorem dX6_powers_5 : decode cX6_powers 5 = .ok (.invokevirtual 307, 3) := by decide +kernel
theorem dX6_powers_8 : decode cX6_powers 8 = .ok (.ireturn, 1) := by decide +kernel
theorem dX6_ask_0 : decode cX6_ask 0 = .ok (.aload_n 0, 1) := by decide +kernel
theorem dX6_ask_1 : decode cX6_ask 1 = .ok (.iload_n 1, 1) := by decide +kernel
theorem dX6_ask_2 : decode cX6_ask 2 = .ok (.invokevirtual 215, 3) := by decide +kernel
theorem dX6_ask_5 : decode cX6_ask 5 = .ok (.ifCond .eq 10, 3) := by decide +kernel
theorem dX6_ask_8 : decode cX6_ask 8 = .ok (.iload_n 2, 1) := by decide +kernel
theorem dX6_ask_9 : decode cX6_ask 9 = .ok (.invokestatic 227, 3) := by decide +kernel
theorem dX6_ask_12 : decode cX6_ask 12 = .ok (.ifCond .ne 5, 3) := by decide +kernel
theorem dX6_ask_15 : decode cX6_ask 15 = .ok (.iconst (-1), 1) := by decide +kernel
theorem dX6_ask_16 : decode cX6_ask 16 = .ok (.ireturn, 1) := by decide +kernel
theorem dX6_ask_17 : decode cX6_ask 17 = .ok (.iconst 0, 1) := by decide +kernel
theorem dX6_ask_18 : decode cX6_ask 18 = .ok (.istore_n 3, 1) := by decide +kernel
theorem dX6_ask_19 : decode cX6_ask 19 = .ok (.iconst 0, 1) := by decide +kernel
theorem dX6_ask_20 : decode cX6_ask 20 = .ok (.istore 4, 2) := by decide +kernel
theorem dX6_ask_22 : decode cX6_ask 22 = .ok (.iload 4, 2) := by decide +kernel
theorem dX6_ask_24 : decode cX6_ask 24 = .ok (.bipush 30, 2) := by decide +kernel
theorem dX6_ask_26 : decode cX6_ask 26 = .ok (.if_icmp .gt 66, 3) := by decide +kernel
theorem dX6_ask_29 : decode cX6_ask 29 = .ok (.aload_n 0, 1) := by decide +kernel
theorem dX6_ask_30 : decode cX6_ask 30 = .ok (.bipush 11, 2) := by decide +kernel
theorem dX6_ask_32 : decode cX6_ask 32 = .ok (.iload_n 1, 1) := by decide +kernel
theorem dX6_ask_33 : decode cX6_ask 33 = .ok (.imul, 1) := by decide +kernel
theorem dX6_ask_34 : decode cX6_ask 34 = .ok (.iconst 1, 1) := by decide +kernel
theorem dX6_ask_35 : decode cX6_ask 35 = .ok (.iadd, 1) := by decide +kernel
theorem dX6_ask_36 : decode cX6_ask 36 = .ok (.iload 4, 2) := by decide +kernel
theorem dX6_ask_38 : decode cX6_ask 38 = .ok (.invokevirtual 304, 3) := by decide +kernel
theorem dX6_ask_41 : decode cX6_ask 41 = .ok (.ifCond .eq 45, 3) := by decide +kernel
theorem dX6_ask_44 : decode cX6_ask 44 = .ok (.iconst 0, 1) := by decide +kernel
theorem dX6_ask_45 : decode cX6_ask 45 = .ok (.istore 5, 2) := by decide +kernel
theorem dX6_ask_47 : decode cX6_ask 47 = .ok (.iload 5, 2) := by decide +kernel
theorem dX6_ask_49 : decode cX6_ask 49 = .ok (.bipush 40, 2) := by decide +kernel
theorem dX6_ask_51 : decode cX6_ask 51 = .ok (.if_icmp .gt 32, 3) := by decide +kernel
theorem dX6_ask_54 : decode cX6_ask 54 = .ok (.aload_n 0, 1) := by decide +kernel
theorem dX6_ask_55 : decode cX6_ask 55 = .ok (.getfield 44, 3) := by decide +kernel
theorem dX6_ask_58 : decode cX6_ask 58 = .ok (.bipush 41, 2) := by decide +kernel
theorem dX6_ask_60 : decode cX6_ask 60 = .ok (.iload_n 3, 1) := by decide +kernel
theorem dX6_ask_61 : decode cX6_ask 61 = .ok (.imul, 1) := by decide +kernel
theorem dX6_ask_62 : decode cX6_ask 62 = .ok (.iload 5, 2) := by decide +kernel
theorem dX6_ask_64 : decode cX6_ask 64 = .ok (.iadd, 1) := by decide +kernel
theorem dX6_ask_65 : decode cX6_ask 65 = .ok (.aload_n 0, 1) := by decide +kernel
theorem dX6_ask_66 : decode cX6_ask 66 = .ok (.getfield 41, 3) := by decide +kernel
theorem dX6_ask_69 : decode cX6_ask 69 = .ok (.iconst 3, 1) := by decide +kernel
theorem dX6_ask_70 : decode cX6_ask 70 = .ok (.iload 5, 2) := by decide +kernel
theorem dX6_ask_72 : decode cX6_ask 72 = .ok (.imul, 1) := by decide +kernel
theorem dX6_ask_73 : decode cX6_ask 73 = .ok (.iload_n 1, 1) := by decide +kernel
theorem dX6_ask_74 : decode cX6_ask 74 = .ok (.iadd, 1) := by decide +kernel
theorem dX6_ask_75 : decode cX6_ask 75 = .ok (.iaload, 1) := by decide +kernel
theorem dX6_ask_76 : decode cX6_ask 76 = .ok (.iastore, 1) := by decide +kernel
theorem dX6_ask_77 : decode cX6_ask 77 = .ok (.iinc 5 1, 3) := by decide +kernel
theorem dX6_ask_80 : decode cX6_ask 80 = .ok (.goto (-33), 3) := by decide +kernel
theorem dX6_ask_83 : decode cX6_ask 83 = .ok (.iinc 3 1, 3) := by decide +kernel
theorem dX6_ask_86 : decode cX6_ask 86 = .ok (.iinc 4 1, 3) := by decide +kernel
theorem dX6_ask_89 : decode cX6_ask 89 = .ok (.goto (-67), 3) := by decide +kernel
theorem dX6_ask_92 : decode cX6_ask 92 = .ok (.aload_n 0, 1) := by decide +kernel
theorem dX6_ask_93 : decode cX6_ask 93 = .ok (.iload_n 3, 1) := by decide +kernel
theorem dX6_ask_94 : decode cX6_ask 94 = .ok (.invokevirtual 258, 3) := by decide +kernel
theorem dX6_ask_97 : decode cX6_ask 97 = .ok (.iconst 0, 1) := by decide +kernel
theorem dX6_ask_98 : decode cX6_ask 98 = .ok (.istore 4, 2) := by decide +kernel
theorem dX6_ask_100 : decode cX6_ask 100 = .ok (.iload 4, 2) := by decide +kernel
theorem dX6_ask_102 : decode cX6_ask 102 = .ok (.bipush 40, 2) := by decide +kernel
theorem dX6_ask_104 : decode cX6_ask 104 = .ok (.if_icmp .gt 111, 3) := by decide +kernel
theorem dX6_ask_107 : decode cX6_ask 107 = .ok (.iconst 0, 1) := by decide +kernel
theorem dX6_ask_108 : decode cX6_ask 108 = .ok (.istore 5, 2) := by decide +kernel
theorem dX6_ask_110 : decode cX6_ask 110 = .ok (.iconst 0, 1) := by decide +kernel
theorem dX6_ask_111 : decode cX6_ask 111 = .ok (.istore 6, 2) := by decide +kernel
theorem dX6_ask_113 : decode cX6_ask 113 = .ok (.iload 6, 2) := by decide +kernel
theorem dX6_ask_115 : decode cX6_ask 115 = .ok (.iload_n 3, 1) := by decide +kernel
theorem dX6_ask_116 : decode cX6_ask 116 = .ok (.if_icmp .ge 85, 3) := by decide +kernel
theorem dX6_ask_119 : decode cX6_ask 119 = .ok (.iconst 0, 1) := by decide +kernel
theorem dX6_ask_120 : decode cX6_ask 120 = .ok (.istore 7, 2) := by decide +kernel
theorem dX6_ask_122 : decode cX6_ask 122 = .ok (.iconst 0, 1) := by decide +kernel
theorem dX6_ask_123 : decode cX6_ask 123 = .ok (.istore 8, 2) := by decide +kernel
theorem dX6_ask_125 : decode cX6_ask 125 = .ok (.iload 8, 2) := by decide +kernel
theorem dX6_ask_127 : decode cX6_ask 127 = .ok (.iload_n 3, 1) := by decide +kernel
theorem dX6_ask_128 : decode cX6_ask 128 = .ok (.if_icmp .ge 51, 3) := by decide +kernel
theorem dX6_ask_131 : decode cX6_ask 131 = .ok (.iload 7, 2) := by decide +kernel
theorem dX6_ask_133 : decode cX6_ask 133 = .ok (.aload_n 0, 1) := by decide +kernel
theorem dX6_ask_134 : decode cX6_ask 134 = .ok (.getfield 44, 3) := by decide +kernel
theorem dX6_ask_137 : decode cX6_ask 137 = .ok (.bipush 41, 2) := by decide +kernel
theorem dX6_ask_139 : decode cX6_ask 139 = .ok (.iload 6, 2) := by decide +kernel
theorem dX6_ask_141 : decode cX6_ask 141 = .ok (.imul, 1) := by decide +kernel
theorem dX6_ask_142 : decode cX6_ask 142 = .ok (.iload 4, 2) := by decide +kernel
theorem dX6_ask_144 : decode cX6_ask 144 = .ok (.iadd, 1) := by decide +kernel
theorem dX6_ask_145 : decode cX6_ask 145 = .ok (.iaload, 1) := by decide +kernel
theorem dX6_ask_146 : decode cX6_ask 146 = .ok (.aload_n 0, 1) := by decide +kernel
theorem dX6_ask_147 : decode cX6_ask 147 = .ok (.getfield 44, 3) := by decide +kernel
theorem dX6_ask_150 : decode cX6_ask 150 = .ok (.bipush 41, 2) := by decide +kernel
theorem dX6_ask_152 : decode cX6_ask 152 = .ok (.iload 8, 2) := by decide +kernel
theorem dX6_ask_154 : decode cX6_ask 154 = .ok (.imul, 1) := by decide +kernel
theorem dX6_ask_155 : decode cX6_ask 155 = .ok (.iload 4, 2) := by decide +kernel
theorem dX6_ask_157 : decode cX6_ask 157 = .ok (.iadd, 1) := by decide +kernel
theorem dX6_ask_158 : decode cX6_ask 158 = .ok (.iaload, 1) := by decide +kernel
theorem dX6_ask_159 : decode cX6_ask 159 = .ok (.if_icmp .ne 7, 3) := by decide +kernel
theorem dX6_ask_162 : decode cX6_ask 162 = .ok (.iconst 1, 1) := by decide +kernel
theorem dX6_ask_163 : decode cX6_ask 163 = .ok (.goto 4, 3) := by decide +kernel
theorem dX6_ask_166 : decode cX6_ask 166 = .ok (.iconst 0, 1) := by decide +kernel
theorem dX6_ask_167 : decode cX6_ask 167 = .ok (.invokestatic 174, 3) := by decide +kernel
theorem dX6_ask_170 : decode cX6_ask 170 = .ok (.iadd, 1) := by decide +kernel
theorem dX6_ask_171 : decode cX6_ask 171 = .ok (.istore 7, 2) := by decide +kernel
theorem dX6_ask_173 : decode cX6_ask 173 = .ok (.iinc 8 1, 3) := by decide +kernel
theorem dX6_ask_176 : decode cX6_ask 176 = .ok (.goto (-51), 3) := by decide +kernel
theorem dX6_ask_179 : decode cX6_ask 179 = .ok (.iload 7, 2) := by decide +kernel
theorem dX6_ask_181 : decode cX6_ask 181 = .ok (.iload 5, 2) := by decide +kernel
theorem dX6_ask_183 : decode cX6_ask 183 = .ok (.if_icmp .le 8, 3) := by decide +kernel
theorem dX6_ask_186 : decode cX6_ask 186 = .ok (.iload 7, 2) := by decide +kernel
theorem dX6_ask_188 : decode cX6_ask 188 = .ok (.goto 5, 3) := by decide +kernel
theorem dX6_ask_191 : decode cX6_ask 191 = .ok (.iload 5, 2) := by decide +kernel
theorem dX6_ask_193 : decode cX6_ask 193 = .ok (.istore 5, 2) := by decide +kernel
theorem dX6_ask_195 : decode cX6_ask 195 = .ok (.iinc 6 1, 3) := by decide +kernel
theorem dX6_ask_198 : decode cX6_ask 198 = .ok (.goto (-85), 3) := by decide +kernel
theorem dX6_ask_201 : decode cX6_ask 201 = .ok (.aload_n 0, 1) := by decide +kernel
theorem dX6_ask_202 : decode cX6_ask 202 = .ok (.iload 4, 2) := by decide +kernel
theorem dX6_ask_204 : decode cX6_ask 204 = .ok (.iload 5, 2) := by decide +kernel
theorem dX6_ask_206 : decode cX6_ask 206 = .ok (.invokevirtual 261, 3) := by decide +kernel
theorem dX6_ask_209 : decode cX6_ask 209 = .ok (.iinc 4 1, 3) := by decide +kernel
theorem dX6_ask_212 : decode cX6_ask 212 = .ok (.goto (-112), 3) := by decide +kernel
theorem dX6_ask_215 : decode cX6_ask 215 = .ok (.aload_n 0, 1) := by decide +kernel
theorem dX6_ask_216 : decode cX6_ask 216 = .ok (.iload_n 2, 1) := by decide +kernel
theorem dX6_ask_217 : decode cX6_ask 217 = .ok (.invokevirtual 265, 3) := by decide +kernel
theorem dX6_ask_220 : decode cX6_ask 220 = .ok (.ireturn, 1) := by decide +kernel
theorem dX6_drift_0 : decode cX6_drift 0 = .ok (.iload_n 2, 1) := by decide +kernel
theorem dX6_drift_1 : decode cX6_drift 1 = .ok (.i2l, 1) := by decide +kernel
theorem dX6_drift_2 : decode cX6_drift 2 = .ok (.lconst 1, 1) := by decide +kernel
theorem dX6_drift_3 : decode cX6_drift 3 = .ok (.ldc2_w 244, 3) := by decide +kernel
theorem dX6_drift_6 : decode cX6_drift 6 = .ok (.invokestatic 67, 3) := by decide +kernel
theorem dX6_drift_9 : decode cX6_drift 9 = .ok (.ifCond .eq 10, 3) := by decide +kernel
theorem dX6_drift_12 : decode cX6_drift 12 = .ok (.iload_n 3, 1) := by decide +kernel
theorem dX6_drift_13 : decode cX6_drift 13 = .ok (.invokestatic 227, 3) := by decide +kernel
theorem dX6_drift_16 : decode cX6_drift 16 = .ok (.ifCond .ne 5, 3) := by decide +kernel
theorem dX6_drift_19 : decode cX6_drift 19 = .ok (.iconst (-1), 1) := by decide +kernel
theorem dX6_drift_20 : decode cX6_drift 20 = .ok (.ireturn, 1) := by decide +kernel
theorem dX6_drift_21 : decode cX6_drift 21 = .ok (.aload_n 0, 1) := by decide +kernel
theorem dX6_drift_22 : decode cX6_drift 22 = .ok (.getfield 7, 3) := by decide +kernel
theorem dX6_drift_25 : decode cX6_drift 25 = .ok (.bipush 33, 2) := by decide +kernel
theorem dX6_drift_27 : decode cX6_drift 27 = .ok (.iaload, 1) := by decide +kernel
theorem dX6_drift_28 : decode cX6_drift 28 = .ok (.ifCond .ne 6, 3) := by decide +kernel
theorem dX6_drift_31 : decode cX6_drift 31 = .ok (.bipush (-2), 2) := by decide +kernel
theorem dX6_drift_33 : decode cX6_drift 33 = .ok (.ireturn, 1) := by decide +kernel
theorem dX6_drift_34 : decode cX6_drift 34 = .ok (.iload_n 1, 1) := by decide +kernel
theorem dX6_drift_35 : decode cX6_drift 35 = .ok (.istore 4, 2) := by decide +kernel
theorem dX6_drift_37 : decode cX6_drift 37 = .ok (.iconst 0, 1) := by decide +kernel
theorem dX6_drift_38 : decode cX6_drift 38 = .ok (.istore 5, 2) := by decide +kernel
theorem dX6_drift_40 : decode cX6_drift 40 = .ok (.aload_n 0, 1) := by decide +kernel
theorem dX6_drift_41 : decode cX6_drift 41 = .ok (.invokevirtual 209, 3) := by decide +kernel
theorem dX6_drift_44 : decode cX6_drift 44 = .ok (.iconst 0, 1) := by decide +kernel
theorem dX6_drift_45 : decode cX6_drift 45 = .ok (.istore 6, 2) := by decide +kernel
theorem dX6_drift_47 : decode cX6_drift 47 = .ok (.iload 6, 2) := by decide +kernel
theorem dX6_drift_49 : decode cX6_drift 49 = .ok (.iload_n 2, 1) := by decide +kernel
theorem dX6_drift_50 : decode cX6_drift 50 = .ok (.if_icmp .ge 46, 3) := by decide +kernel
theorem dX6_drift_53 : decode cX6_drift 53 = .ok (.iload 4, 2) := by decide +kernel
theorem dX6_drift_55 : decode cX6_drift 55 = .ok (.ldc_w 311, 3) := by decide +kernel
theorem dX6_drift_58 : decode cX6_drift 58 = .ok (.imul, 1) := by decide +kernel
theorem dX6_drift_59 : decode cX6_drift 59 = .ok (.sipush 12345, 3) := by decide +kernel
theorem dX6_drift_62 : decode cX6_drift 62 = .ok (.iadd, 1) := by decide +kernel
theorem dX6_drift_63 : decode cX6_drift 63 = .ok (.istore 4, 2) := by decide +kernel
theorem dX6_drift_65 : decode cX6_drift 65 = .ok (.iload 4, 2) := by decide +kernel
theorem dX6_drift_67 : decode cX6_drift 67 = .ok (.bipush 16, 2) := by decide +kernel
theorem dX6_drift_69 : decode cX6_drift 69 = .ok (.ishr, 1) := by decide +kernel
theorem dX6_drift_70 : decode cX6_drift 70 = .ok (.sipush 32767, 3) := by decide +kernel
theorem dX6_drift_73 : decode cX6_drift 73 = .ok (.iand, 1) := by decide +kernel
theorem dX6_drift_74 : decode cX6_drift 74 = .ok (.istore 7, 2) := by decide +kernel
theorem dX6_drift_76 : decode cX6_drift 76 = .ok (.aload_n 0, 1) := by decide +kernel
theorem dX6_drift_77 : decode cX6_drift 77 = .ok (.iload 7, 2) := by decide +kernel
theorem dX6_drift_79 : decode cX6_drift 79 = .ok (.iconst 4, 1) := by decide +kernel
theorem dX6_drift_80 : decode cX6_drift 80 = .ok (.idiv, 1) := by decide +kernel
theorem dX6_drift_81 : decode cX6_drift 81 = .ok (.sipush 256, 3) := by decide +kernel
theorem dX6_drift_84 : decode cX6_drift 84 = .ok (.irem, 1) := by decide +kernel
theorem dX6_drift_85 : decode cX6_drift 85 = .ok (.iconst 0, 1) := by decide +kernel
theorem dX6_drift_86 : decode cX6_drift 86 = .ok (.iconst 0, 1) := by decide +kernel
theorem dX6_drift_87 : decode cX6_drift 87 = .ok (.invokevirtual 202, 3) := by decide +kernel
theorem dX6_drift_90 : decode cX6_drift 90 = .ok (.iinc 6 1, 3) := by decide +kernel
theorem dX6_drift_93 : decode cX6_drift 93 = .ok (.goto (-46), 3) := by decide +kernel
theorem dX6_drift_96 : decode cX6_drift 96 = .ok (.iconst 0, 1) := by decide +kernel
theorem dX6_drift_97 : decode cX6_drift 97 = .ok (.istore 6, 2) := by decide +kernel
theorem dX6_drift_99 : decode cX6_drift 99 = .ok (.iload 6, 2) := by decide +kernel
theorem dX6_drift_101 : decode cX6_drift 101 = .ok (.aload_n 0, 1) := by decide +kernel
theorem dX6_drift_102 : decode cX6_drift 102 = .ok (.getfield 7, 3) := by decide +kernel
theorem dX6_drift_105 : decode cX6_drift 105 = .ok (.bipush 33, 2) := by decide +kernel
theorem dX6_drift_107 : decode cX6_drift 107 = .ok (.iaload, 1) := by decide +kernel
theorem dX6_drift_108 : decode cX6_drift 108 = .ok (.if_icmp .ge 20, 3) := by decide +kernel
theorem dX6_drift_111 : decode cX6_drift 111 = .ok (.iload 5, 2) := by decide +kernel
theorem dX6_drift_113 : decode cX6_drift 113 = .ok (.aload_n 0, 1) := by decide +kernel
theorem dX6_drift_114 : decode cX6_drift 114 = .ok (.iload 6, 2) := by decide +kernel
theorem dX6_drift_116 : decode cX6_drift 116 = .ok (.invokevirtual 221, 3) := by decide +kernel
theorem dX6_drift_119 : decode cX6_drift 119 = .ok (.iadd, 1) := by decide +kernel
theorem dX6_drift_120 : decode cX6_drift 120 = .ok (.istore 5, 2) := by decide +kernel
theorem dX6_drift_122 : decode cX6_drift 122 = .ok (.iinc 6 1, 3) := by decide +kernel
theorem dX6_drift_125 : decode cX6_drift 125 = .ok (.goto (-26), 3) := by decide +kernel
theorem dX6_drift_128 : decode cX6_drift 128 = .ok (.iload_n 3, 1) := by decide +kernel
theorem dX6_drift_129 : decode cX6_drift 129 = .ok (.ifCond .ne 10, 3) := by decide +kernel
theorem dX6_drift_132 : decode cX6_drift 132 = .ok (.aload_n 0, 1) := by decide +kernel
theorem dX6_drift_133 : decode cX6_drift 133 = .ok (.getfield 149, 3) := by decide +kernel
theorem dX6_drift_136 : decode cX6_drift 136 = .ok (.goto 5, 3) := by decide +kernel
theorem dX6_drift_139 : decode cX6_drift 139 = .ok (.iload 5, 2) := by decide +kernel
theorem dX6_drift_141 : decode cX6_drift 141 = .ok (.ireturn, 1) := by decide +kernel
theorem dX6_copies_0 : decode cX6_copies 0 = .ok (.iconst 0, 1) := by decide +kernel
theorem dX6_copies_1 : decode cX6_copies 1 = .ok (.istore_n 3, 1) := by decide +kernel
theorem dX6_copies_2 : decode cX6_copies 2 = .ok (.iload_n 3, 1) := by decide +kernel
theorem dX6_copies_3 : decode cX6_copies 3 = .ok (.bipush 70, 2) := by decide +kernel
theorem dX6_copies_5 : decode cX6_copies 5 = .ok (.if_icmp .ge 25, 3) := by decide +kernel
theorem dX6_copies_8 : decode cX6_copies 8 = .ok (.aload_n 0, 1) := by decide +kernel
theorem dX6_copies_9 : decode cX6_copies 9 = .ok (.getfield 7, 3) := by decide +kernel
theorem dX6_copies_12 : decode cX6_copies 12 = .ok (.iload_n 1, 1) := by decide +kernel
theorem dX6_copies_13 : decode cX6_copies 13 = .ok (.iload_n 3, 1) := by decide +kernel
theorem dX6_copies_14 : decode cX6_copies 14 = .ok (.iadd, 1) := by decide +kernel
theorem dX6_copies_15 : decode cX6_copies 15 = .ok (.aload_n 0, 1) := by decide +kernel
theorem dX6_copies_16 : decode cX6_copies 16 = .ok (.getfield 7, 3) := by decide +kernel
theorem dX6_copies_19 : decode cX6_copies 19 = .ok (.iload_n 2, 1) := by decide +kernel
theorem dX6_copies_20 : decode cX6_copies 20 = .ok (.iload_n 3, 1) := by decide +kernel
theorem dX6_copies_21 : decode cX6_copies 21 = .ok (.iadd, 1) := by decide +kernel
theorem dX6_copies_22 : decode cX6_copies 22 = .ok (.iaload, 1) := by decide +kernel
theorem dX6_copies_23 : decode cX6_copies 23 = .ok (.iastore, 1) := by decide +kernel
theorem dX6_copies_24 : decode cX6_copies 24 = .ok (.iinc 3 1, 3) := by decide +kernel
theorem dX6_copies_27 : decode cX6_copies 27 = .ok (.goto (-25), 3) := by decide +kernel
theorem dX6_copies_30 : decode cX6_copies 30 = .ok (.return_, 1) := by decide +kernel
theorem dX6_keep_0 : decode cX6_keep 0 = .ok (.iload_n 1, 1) := by decide +kernel
theorem dX6_keep_1 : decode cX6_keep 1 = .ok (.i2l, 1) := by decide +kernel
theorem dX6_keep_2 : decode cX6_keep 2 = .ok (.lconst 0, 1) := by decide +kernel
theorem dX6_keep_3 : decode cX6_keep 3 = .ok (.lconst 1, 1) := by decide +kernel
theorem dX6_keep_4 : decode cX6_keep 4 = .ok (.invokestatic 67, 3) := by decide +kernel
theorem dX6_keep_7 : decode cX6_keep 7 = .ok (.ifCond .ne 5, 3) := by decide +kernel
theorem dX6_keep_10 : decode cX6_keep 10 = .ok (.iconst (-1), 1) := by decide +kernel
theorem dX6_keep_11 : decode cX6_keep 11 = .ok (.ireturn, 1) := by decide +kernel
theorem dX6_keep_12 : decode cX6_keep 12 = .ok (.aload_n 0, 1) := by decide +kernel
theorem dX6_keep_13 : decode cX6_keep 13 = .ok (.getfield 16, 3) := by decide +kernel
theorem dX6_keep_16 : decode cX6_keep 16 = .ok (.iload_n 1, 1) := by decide +kernel
theorem dX6_keep_17 : decode cX6_keep 17 = .ok (.baload, 1) := by decide +kernel
theorem dX6_keep_18 : decode cX6_keep 18 = .ok (.invokestatic 174, 3) := by decide +kernel
theorem dX6_keep_21 : decode cX6_keep 21 = .ok (.istore_n 2, 1) := by decide +kernel
theorem dX6_keep_22 : decode cX6_keep 22 = .ok (.aload_n 0, 1) := by decide +kernel
theorem dX6_keep_23 : decode cX6_keep 23 = .ok (.getfield 16, 3) := by decide +kernel
theorem dX6_keep_26 : decode cX6_keep 26 = .ok (.iload_n 1, 1) := by decide +kernel
theorem dX6_keep_27 : decode cX6_keep 27 = .ok (.iconst 1, 1) := by decide +kernel
theorem dX6_keep_28 : decode cX6_keep 28 = .ok (.bastore, 1) := by decide +kernel
theorem dX6_keep_29 : decode cX6_keep 29 = .ok (.aload_n 0, 1) := by decide +kernel
theorem dX6_keep_30 : decode cX6_keep 30 = .ok (.bipush 70, 2) := by decide +kernel
theorem dX6_keep_32 : decode cX6_keep 32 = .ok (.iload_n 1, 1) := by decide +kernel
theorem dX6_keep_33 : decode cX6_keep 33 = .ok (.iconst 1, 1) := by decide +kernel
theorem dX6_keep_34 : decode cX6_keep 34 = .ok (.iadd, 1) := by decide +kernel
theorem dX6_keep_35 : decode cX6_keep 35 = .ok (.imul, 1) := by decide +kernel
theorem dX6_keep_36 : decode cX6_keep 36 = .ok (.iconst 0, 1) := by decide +kernel
theorem dX6_keep_37 : decode cX6_keep 37 = .ok (.invokevirtual 312, 3) := by decide +kernel
theorem dX6_keep_40 : decode cX6_keep 40 = .ok (.iload_n 2, 1) := by decide +kernel
theorem dX6_keep_41 : decode cX6_keep 41 = .ok (.ireturn, 1) := by decide +kernel
theorem dX6_back_0 : decode cX6_back 0 = .ok (.iload_n 1, 1) := by decide +kernel
theorem dX6_back_1 : decode cX6_back 1 = .ok (.i2l, 1) := by decide +kernel
theorem dX6_back_2 : decode cX6_back 2 = .ok (.lconst 0, 1) := by decide +kernel
theorem dX6_back_3 : decode cX6_back 3 = .ok (.lconst 1, 1) := by decide +kernel
theorem dX6_back_4 : decode cX6_back 4 = .ok (.invokestatic 67, 3) := by decide +kernel
theorem dX6_back_7 : decode cX6_back 7 = .ok (.ifCond .ne 5, 3) := by decide +kernel
theorem dX6_back_10 : decode cX6_back 10 = .ok (.iconst (-1), 1) := by decide +kernel
theorem dX6_back_11 : decode cX6_back 11 = .ok (.ireturn, 1) := by decide +kernel
theorem dX6_back_12 : decode cX6_back 12 = .ok (.aload_n 0, 1) := by decide +kernel
theorem dX6_back_13 : decode cX6_back 13 = .ok (.getfield 16, 3) := by decide +kernel
theorem dX6_back_16 : decode cX6_back 16 = .ok (.iload_n 1, 1) := by decide +kernel
theorem dX6_back_17 : decode cX6_back 17 = .ok (.baload, 1) := by decide +kernel
theorem dX6_back_18 : decode cX6_back 18 = .ok (.ifCond .ne 6, 3) := by decide +kernel
theorem dX6_back_21 : decode cX6_back 21 = .ok (.bipush (-2), 2) := by decide +kernel
theorem dX6_back_23 : decode cX6_back 23 = .ok (.ireturn, 1) := by decide +kernel
theorem dX6_back_24 : decode cX6_back 24 = .ok (.aload_n 0, 1) := by decide +kernel
theorem dX6_back_25 : decode cX6_back 25 = .ok (.iconst 0, 1) := by decide +kernel
theorem dX6_back_26 : decode cX6_back 26 = .ok (.bipush 70, 2) := by decide +kernel
theorem dX6_back_28 : decode cX6_back 28 = .ok (.iload_n 1, 1) := by decide +kernel
theorem dX6_back_29 : decode cX6_back 29 = .ok (.iconst 1, 1) := by decide +kernel
theorem dX6_back_30 : decode cX6_back 30 = .ok (.iadd, 1) := by decide +kernel
theorem dX6_back_31 : decode cX6_back 31 = .ok (.imul, 1) := by decide +kernel
theorem dX6_back_32 : decode cX6_back 32 = .ok (.invokevirtual 312, 3) := by decide +kernel
theorem dX6_back_35 : decode cX6_back 35 = .ok (.aload_n 0, 1) := by decide +kernel
theorem dX6_back_36 : decode cX6_back 36 = .ok (.getfield 7, 3) := by decide +kernel
theorem dX6_back_39 : decode cX6_back 39 = .ok (.bipush 50, 2) := by decide +kernel
theorem dX6_back_41 : decode cX6_back 41 = .ok (.iaload, 1) := by decide +kernel
theorem dX6_back_42 : decode cX6_back 42 = .ok (.ireturn, 1) := by decide +kernel
theorem dX6_isSheet_0 : decode cX6_isSheet 0 = .ok (.iload_n 0, 1) := by decide +kernel
theorem dX6_isSheet_1 : decode cX6_isSheet 1 = .ok (.i2l, 1) := by decide +kernel
theorem dX6_isSheet_2 : decode cX6_isSheet 2 = .ok (.lconst 0, 1) := by decide +kernel
theorem dX6_isSheet_3 : decode cX6_isSheet 3 = .ok (.ldc2_w 219, 3) := by decide +kernel
theorem dX6_isSheet_6 : decode cX6_isSheet 6 = .ok (.invokestatic 67, 3) := by decide +kernel
theorem dX6_isSheet_9 : decode cX6_isSheet 9 = .ok (.ifCond .eq 19, 3) := by decide +kernel
theorem dX6_isSheet_12 : decode cX6_isSheet 12 = .ok (.iload_n 1, 1) := by decide +kernel
theorem dX6_isSheet_13 : decode cX6_isSheet 13 = .ok (.i2l, 1) := by decide +kernel
theorem dX6_isSheet_14 : decode cX6_isSheet 14 = .ok (.lconst 0, 1) := by decide +kernel
theorem dX6_isSheet_15 : decode cX6_isSheet 15 = .ok (.ldc2_w 238, 3) := by decide +kernel
theorem dX6_isSheet_18 : decode cX6_isSheet 18 = .ok (.invokestatic 67, 3) := by decide +kernel
theorem dX6_isSheet_21 : decode cX6_isSheet 21 = .ok (.ifCond .eq 7, 3) := by decide +kernel
theorem dX6_isSheet_24 : decode cX6_isSheet 24 = .ok (.iconst 1, 1) := by decide +kernel
theorem dX6_isSheet_25 : decode cX6_isSheet 25 = .ok (.goto 4, 3) := by decide +kernel
theorem dX6_isSheet_28 : decode cX6_isSheet 28 = .ok (.iconst 0, 1) := by decide +kernel
theorem dX6_isSheet_29 : decode cX6_isSheet 29 = .ok (.ireturn, 1) := by decide +kernel
theorem dX6_sheet_0 : decode cX6_sheet 0 = .ok (.iload_n 1, 1) := by decide +kernel
theorem dX6_sheet_1 : decode cX6_sheet 1 = .ok (.iload_n 2, 1) := by decide +kernel
theorem dX6_sheet_2 : decode cX6_sheet 2 = .ok (.invokestatic 315, 3) := by decide +kernel
theorem dX6_sheet_5 : decode cX6_sheet 5 = .ok (.ifCond .eq 9, 3) := by decide +kernel
theorem dX6_sheet_8 : decode cX6_sheet 8 = .ok (.iload_n 3, 1) := by decide +kernel
theorem dX6_sheet_9 : decode cX6_sheet 9 = .ok (.bipush 40, 2) := by decide +kernel
theorem dX6_sheet_11 : decode cX6_sheet 11 = .ok (.if_icmp .le 5, 3) := by decide +kernel
theorem dX6_sheet_14 : decode cX6_sheet 14 = .ok (.iconst (-1), 1) := by decide +kernel
theorem dX6_sheet_15 : decode cX6_sheet 15 = .ok (.ireturn, 1) := by decide +kernel
theorem dX6_sheet_16 : decode cX6_sheet 16 = .ok (.iload_n 3, 1) := by decide +kernel
theorem dX6_sheet_17 : decode cX6_sheet 17 = .ok (.ifCond .ge 6, 3) := by decide +kernel
theorem dX6_sheet_20 : decode cX6_sheet 20 = .ok (.bipush (-14), 2) := by decide +kernel
theorem dX6_sheet_22 : decode cX6_sheet 22 = .ok (.ireturn, 1) := by decide +kernel
theorem dX6_sheet_23 : decode cX6_sheet 23 = .ok (.aload_n 0, 1) := by decide +kernel
theorem dX6_sheet_24 : decode cX6_sheet 24 = .ok (.getfield 47, 3) := by decide +kernel
theorem dX6_sheet_27 : decode cX6_sheet 27 = .ok (.iload_n 1, 1) := by decide +kernel
theorem dX6_sheet_28 : decode cX6_sheet 28 = .ok (.iload_n 2, 1) := by decide +kernel
theorem dX6_sheet_29 : decode cX6_sheet 29 = .ok (.iastore, 1) := by decide +kernel
theorem dX6_sheet_30 : decode cX6_sheet 30 = .ok (.aload_n 0, 1) := by decide +kernel
theorem dX6_sheet_31 : decode cX6_sheet 31 = .ok (.getfield 50, 3) := by decide +kernel
theorem dX6_sheet_34 : decode cX6_sheet 34 = .ok (.iload_n 1, 1) := by decide +kernel
theorem dX6_sheet_35 : decode cX6_sheet 35 = .ok (.iload_n 3, 1) := by decide +kernel
theorem dX6_sheet_36 : decode cX6_sheet 36 = .ok (.iastore, 1) := by decide +kernel
theorem dX6_sheet_37 : decode cX6_sheet 37 = .ok (.iconst 0, 1) := by decide +kernel
theorem dX6_sheet_38 : decode cX6_sheet 38 = .ok (.istore 4, 2) := by decide +kernel
theorem dX6_sheet_40 : decode cX6_sheet 40 = .ok (.iload 4, 2) := by decide +kernel
theorem dX6_sheet_42 : decode cX6_sheet 42 = .ok (.bipush 40, 2) := by decide +kernel
theorem dX6_sheet_44 : decode cX6_sheet 44 = .ok (.if_icmp .ge 22, 3) := by decide +kernel
theorem dX6_sheet_47 : decode cX6_sheet 47 = .ok (.aload_n 0, 1) := by decide +kernel
theorem dX6_sheet_48 : decode cX6_sheet 48 = .ok (.getfield 53, 3) := by decide +kernel
theorem dX6_sheet_51 : decode cX6_sheet 51 = .ok (.bipush 40, 2) := by decide +kernel
theorem dX6_sheet_53 : decode cX6_sheet 53 = .ok (.iload_n 1, 1) := by decide +kernel
theorem dX6_sheet_54 : decode cX6_sheet 54 = .ok (.imul, 1) := by decide +kernel
theorem dX6_sheet_55 : decode cX6_sheet 55 = .ok (.iload 4, 2) := by decide +kernel
theorem dX6_sheet_57 : decode cX6_sheet 57 = .ok (.iadd, 1) := by decide +kernel
theorem dX6_sheet_58 : decode cX6_sheet 58 = .ok (.iconst 0, 1) := by decide +kernel
theorem dX6_sheet_59 : decode cX6_sheet 59 = .ok (.iastore, 1) := by decide +kernel
theorem dX6_sheet_60 : decode cX6_sheet 60 = .ok (.iinc 4 1, 3) := by decide +kernel
theorem dX6_sheet_63 : decode cX6_sheet 63 = .ok (.goto (-23), 3) := by decide +kernel
theorem dX6_sheet_66 : decode cX6_sheet 66 = .ok (.iconst 1, 1) := by decide +kernel
theorem dX6_sheet_67 : decode cX6_sheet 67 = .ok (.ireturn, 1) := by decide +kernel
theorem dX6_lay_0 : decode cX6_lay 0 = .ok (.iload_n 1, 1) := by decide +kernel
theorem dX6_lay_1 : decode cX6_lay 1 = .ok (.iconst 0, 1) := by decide +kernel
theorem dX6_lay_2 : decode cX6_lay 2 = .ok (.invokestatic 315, 3) := by decide +kernel
theorem dX6_lay_5 : decode cX6_lay 5 = .ok (.ifCond .ne 5, 3) := by decide +kernel
theorem dX6_lay_8 : decode cX6_lay 8 = .ok (.iconst (-1), 1) := by decide +kernel
theorem dX6_lay_9 : decode cX6_lay 9 = .ok (.ireturn, 1) := by decide +kernel
theorem dX6_lay_10 : decode cX6_lay 10 = .ok (.aload_n 0, 1) := by decide +kernel
theorem dX6_lay_11 : decode cX6_lay 11 = .ok (.getfield 47, 3) := by decide +kernel
theorem dX6_lay_14 : decode cX6_lay 14 = .ok (.iload_n 1, 1) := by decide +kernel
theorem dX6_lay_15 : decode cX6_lay 15 = .ok (.iaload, 1) := by decide +kernel
theorem dX6_lay_16 : decode cX6_lay 16 = .ok (.bipush (-4), 2) := by decide +kernel
theorem dX6_lay_18 : decode cX6_lay 18 = .ok (.if_icmp .ne 6, 3) := by decide +kernel
theorem dX6_lay_21 : decode cX6_lay 21 = .ok (.bipush (-11), 2) := by decide +kernel
theorem dX6_lay_23 : decode cX6_lay 23 = .ok (.ireturn, 1) := by decide +kernel
theorem dX6_lay_24 : decode cX6_lay 24 = .ok (.iload_n 2, 1) := by decide +kernel
theorem dX6_lay_25 : decode cX6_lay 25 = .ok (.i2l, 1) := by decide +kernel
theorem dX6_lay_26 : decode cX6_lay 26 = .ok (.lconst 0, 1) := by decide +kernel
theorem dX6_lay_27 : decode cX6_lay 27 = .ok (.aload_n 0, 1) := by decide +kernel
theorem dX6_lay_28 : decode cX6_lay 28 = .ok (.getfield 50, 3) := by decide +kernel
theorem dX6_lay_31 : decode cX6_lay 31 = .ok (.iload_n 1, 1) := by decide +kernel
theorem dX6_lay_32 : decode cX6_lay 32 = .ok (.iaload, 1) := by decide +kernel
theorem dX6_lay_33 : decode cX6_lay 33 = .ok (.iconst 1, 1) := by decide +kernel
theorem dX6_lay_34 : decode cX6_lay 34 = .ok (.isub, 1) := by decide +kernel
theorem dX6_lay_35 : decode cX6_lay 35 = .ok (.i2l, 1) := by decide +kernel
theorem dX6_lay_36 : decode cX6_lay 36 = .ok (.invokestatic 67, 3) := by decide +kernel
theorem dX6_lay_39 : decode cX6_lay 39 = .ok (.ifCond .ne 6, 3) := by decide +kernel
theorem dX6_lay_42 : decode cX6_lay 42 = .ok (.bipush (-12), 2) := by decide +kernel
theorem dX6_lay_44 : decode cX6_lay 44 = .ok (.ireturn, 1) := by decide +kernel
theorem dX6_lay_45 : decode cX6_lay 45 = .ok (.aload_n 0, 1) := by decide +kernel
theorem dX6_lay_46 : decode cX6_lay 46 = .ok (.getfield 53, 3) := by decide +kernel
theorem dX6_lay_49 : decode cX6_lay 49 = .ok (.bipush 40, 2) := by decide +kernel
theorem dX6_lay_51 : decode cX6_lay 51 = .ok (.iload_n 1, 1) := by decide +kernel
theorem dX6_lay_52 : decode cX6_lay 52 = .ok (.imul, 1) := by decide +kernel
theorem dX6_lay_53 : decode cX6_lay 53 = .ok (.iload_n 2, 1) := by decide +kernel
theorem dX6_lay_54 : decode cX6_lay 54 = .ok (.iadd, 1) := by decide +kernel
theorem dX6_lay_55 : decode cX6_lay 55 = .ok (.aload_n 0, 1) := by decide +kernel
theorem dX6_lay_56 : decode cX6_lay 56 = .ok (.getfield 47, 3) := by decide +kernel
theorem dX6_lay_59 : decode cX6_lay 59 = .ok (.iload_n 1, 1) := by decide +kernel
theorem dX6_lay_60 : decode cX6_lay 60 = .ok (.iaload, 1) := by decide +kernel
theorem dX6_lay_61 : decode cX6_lay 61 = .ok (.ifCond .ne 8, 3) := by decide +kernel
theorem dX6_lay_64 : decode cX6_lay 64 = .ok (.iload_n 3, 1) := by decide +kernel
theorem dX6_lay_65 : decode cX6_lay 65 = .ok (.i2b, 1) := by decide +kernel
theorem dX6_lay_66 : decode cX6_lay 66 = .ok (.goto 19, 3) := by decide +kernel
theorem dX6_lay_69 : decode cX6_lay 69 = .ok (.aload_n 0, 1) := by decide +kernel
theorem dX6_lay_70 : decode cX6_lay 70 = .ok (.getfield 47, 3) := by decide +kernel
theorem dX6_lay_73 : decode cX6_lay 73 = .ok (.iload_n 1, 1) := by decide +kernel
theorem dX6_lay_74 : decode cX6_lay 74 = .ok (.iaload, 1) := by decide +kernel
theorem dX6_lay_75 : decode cX6_lay 75 = .ok (.iconst 1, 1) := by decide +kernel
theorem dX6_lay_76 : decode cX6_lay 76 = .ok (.if_icmp .ne 8, 3) := by decide +kernel
theorem dX6_lay_79 : decode cX6_lay 79 = .ok (.iload_n 3, 1) := by decide +kernel
theorem dX6_lay_80 : decode cX6_lay 80 = .ok (.i2s, 1) := by decide +kernel
theorem dX6_lay_81 : decode cX6_lay 81 = .ok (.goto 4, 3) := by decide +kernel
theorem dX6_lay_84 : decode cX6_lay 84 = .ok (.iload_n 3, 1) := by decide +kernel
theorem dX6_lay_85 : decode cX6_lay 85 = .ok (.iastore, 1) := by decide +kernel
theorem dX6_lay_86 : decode cX6_lay 86 = .ok (.iconst 1, 1) := by decide +kernel
theorem dX6_lay_87 : decode cX6_lay 87 = .ok (.ireturn, 1) := by decide +kernel
theorem dX6_read_0 : decode cX6_read 0 = .ok (.iload_n 1, 1) := by decide +kernel
theorem dX6_read_1 : decode cX6_read 1 = .ok (.iload_n 2, 1) := by decide +kernel
theorem dX6_read_2 : decode cX6_read 2 = .ok (.invokestatic 315, 3) := by decide +kernel
theorem dX6_read_5 : decode cX6_read 5 = .ok (.ifCond .eq 16, 3) := by decide +kernel
theorem dX6_read_8 : decode cX6_read 8 = .ok (.iload 4, 2) := by decide +kernel
theorem dX6_read_10 : decode cX6_read 10 = .ok (.i2l, 1) := by decide +kernel
theorem dX6_read_11 : decode cX6_read 11 = .ok (.lconst 0, 1) := by decide +kernel
theorem dX6_read_12 : decode cX6_read 12 = .ok (.ldc2_w 318, 3) := by decide +kernel
theorem dX6_read_15 : decode cX6_read 15 = .ok (.invokestatic 67, 3) := by decide +kernel
theorem dX6_read_18 : decode cX6_read 18 = .ok (.ifCond .ne 5, 3) := by decide +kernel
theorem dX6_read_21 : decode cX6_read 21 = .ok (.iconst (-1), 1) := by decide +kernel
theorem dX6_read_22 : decode cX6_read 22 = .ok (.ireturn, 1) := by decide +kernel
theorem dX6_read_23 : decode cX6_read 23 = .ok (.iconst 0, 1) := by decide +kernel
theorem dX6_read_24 : decode cX6_read 24 = .ok (.istore 5, 2) := by decide +kernel
theorem dX6_read_26 : decode cX6_read 26 = .ok (.iload 5, 2) := by decide +kernel
theorem dX6_read_28 : decode cX6_read 28 = .ok (.bipush 70, 2) := by decide +kernel
theorem dX6_read_30 : decode cX6_read 30 = .ok (.if_icmp .ge 23, 3) := by decide +kernel
theorem dX6_read_33 : decode cX6_read 33 = .ok (.aload_n 0, 1) := by decide +kernel
theorem dX6_read_34 : decode cX6_read 34 = .ok (.getfield 56, 3) := by decide +kernel
theorem dX6_read_37 : decode cX6_read 37 = .ok (.iload 5, 2) := by decide +kernel
theorem dX6_read_39 : decode cX6_read 39 = .ok (.aload_n 0, 1) := by decide +kernel
theorem dX6_read_40 : decode cX6_read 40 = .ok (.getfield 7, 3) := by decide +kernel
theorem dX6_read_43 : decode cX6_read 43 = .ok (.iload 5, 2) := by decide +kernel
theorem dX6_read_45 : decode cX6_read 45 = .ok (.iaload, 1) := by decide +kernel
theorem dX6_read_46 : decode cX6_read 46 = .ok (.iastore, 1) := by decide +kernel
theorem dX6_read_47 : decode cX6_read 47 = .ok (.iinc 5 1, 3) := by decide +kernel
theorem dX6_read_50 : decode cX6_read 50 = .ok (.goto (-24), 3) := by decide +kernel
theorem dX6_read_53 : decode cX6_read 53 = .ok (.iconst 0, 1) := by decide +kernel
theorem dX6_read_54 : decode cX6_read 54 = .ok (.istore 5, 2) := by decide +kernel
theorem dX6_read_56 : decode cX6_read 56 = .ok (.iconst 0, 1) := by decide +kernel
theorem dX6_read_57 : decode cX6_read 57 = .ok (.istore 6, 2) := by decide +kernel
theorem dX6_read_59 : decode cX6_read 59 = .ok (.iconst 0, 1) := by decide +kernel
theorem dX6_read_60 : decode cX6_read 60 = .ok (.istore 7, 2) := by decide +kernel
theorem dX6_read_62 : decode cX6_read 62 = .ok (.iload 7, 2) := by decide +kernel
theorem dX6_read_64 : decode cX6_read 64 = .ok (.iload 4, 2) := by decide +kernel
theorem dX6_read_66 : decode cX6_read 66 = .ok (.if_icmp .ge 184, 3) := by decide +kernel
theorem dX6_read_69 : decode cX6_read 69 = .ok (.iload 5, 2) := by decide +kernel
theorem dX6_read_71 : decode cX6_read 71 = .ok (.ifCond .ne 179, 3) := by decide +kernel
theorem dX6_read_74 : decode cX6_read 74 = .ok (.iconst 0, 1) := by decide +kernel
theorem dX6_read_75 : decode cX6_read 75 = .ok (.istore 8, 2) := by decide +kernel
theorem dX6_read_77 : decode cX6_read 77 = .ok (.iload 8, 2) := by decide +kernel
theorem dX6_read_79 : decode cX6_read 79 = .ok (.iconst 2, 1) := by decide +kernel
theorem dX6_read_80 : decode cX6_read 80 = .ok (.if_icmp .ge 84, 3) := by decide +kernel
theorem dX6_read_83 : decode cX6_read 83 = .ok (.iload 5, 2) := by decide +kernel
theorem dX6_read_85 : decode cX6_read 85 = .ok (.ifCond .ne 79, 3) := by decide +kernel
theorem dX6_read_88 : decode cX6_read 88 = .ok (.iload_n 3, 1) := by decide +kernel
theorem dX6_read_89 : decode cX6_read 89 = .ok (.i2l, 1) := by decide +kernel
theorem dX6_read_90 : decode cX6_read 90 = .ok (.iconst 2, 1) := by decide +kernel
theorem dX6_read_91 : decode cX6_read 91 = .ok (.iload 7, 2) := by decide +kernel
theorem dX6_read_93 : decode cX6_read 93 = .ok (.imul, 1) := by decide +kernel
theorem dX6_read_94 : decode cX6_read 94 = .ok (.i2l, 1) := by decide +kernel
theorem dX6_read_95 : decode cX6_read 95 = .ok (.ladd, 1) := by decide +kernel
theorem dX6_read_96 : decode cX6_read 96 = .ok (.iload 8, 2) := by decide +kernel
theorem dX6_read_98 : decode cX6_read 98 = .ok (.i2l, 1) := by decide +kernel
theorem dX6_read_99 : decode cX6_read 99 = .ok (.ladd, 1) := by decide +kernel
theorem dX6_read_100 : decode cX6_read 100 = .ok (.lstore 9, 2) := by decide +kernel
theorem dX6_read_102 : decode cX6_read 102 = .ok (.aload_n 0, 1) := by decide +kernel
theorem dX6_read_103 : decode cX6_read 103 = .ok (.getfield 47, 3) := by decide +kernel
theorem dX6_read_106 : decode cX6_read 106 = .ok (.iload_n 1, 1) := by decide +kernel
theorem dX6_read_107 : decode cX6_read 107 = .ok (.iaload, 1) := by decide +kernel
theorem dX6_read_108 : decode cX6_read 108 = .ok (.bipush (-4), 2) := by decide +kernel
theorem dX6_read_110 : decode cX6_read 110 = .ok (.if_icmp .ne 7, 3) := by decide +kernel
theorem dX6_read_113 : decode cX6_read 113 = .ok (.iconst 1, 1) := by decide +kernel
theorem dX6_read_114 : decode cX6_read 114 = .ok (.goto 42, 3) := by decide +kernel
theorem dX6_read_117 : decode cX6_read 117 = .ok (.aload_n 0, 1) := by decide +kernel
theorem dX6_read_118 : decode cX6_read 118 = .ok (.getfield 47, 3) := by decide +kernel
theorem dX6_read_121 : decode cX6_read 121 = .ok (.iload_n 1, 1) := by decide +kernel
theorem dX6_read_122 : decode cX6_read 122 = .ok (.iaload, 1) := by decide +kernel
theorem dX6_read_123 : decode cX6_read 123 = .ok (.iload_n 2, 1) := by decide +kernel
theorem dX6_read_124 : decode cX6_read 124 = .ok (.if_icmp .eq 7, 3) := by decide +kernel
theorem dX6_read_127 : decode cX6_read 127 = .ok (.iconst 3, 1) := by decide +kernel
theorem dX6_read_128 : decode cX6_read 128 = .ok (.goto 28, 3) := by decide +kernel
theorem dX6_read_131 : decode cX6_read 131 = .ok (.lload 9, 2) := by decide +kernel
theorem dX6_read_133 : decode cX6_read 133 = .ok (.lconst 0, 1) := by decide +kernel
theorem dX6_read_134 : decode cX6_read 134 = .ok (.lcmp, 1) := by decide +kernel
theorem dX6_read_135 : decode cX6_read 135 = .ok (.ifCond .lt 16, 3) := by decide +kernel
theorem dX6_read_138 : decode cX6_read 138 = .ok (.lload 9, 2) := by decide +kernel
theorem dX6_read_140 : decode cX6_read 140 = .ok (.aload_n 0, 1) := by decide +kernel
theorem dX6_read_141 : decode cX6_read 141 = .ok (.getfield 50, 3) := by decide +kernel
theorem dX6_read_144 : decode cX6_read 144 = .ok (.iload_n 1, 1) := by decide +kernel
theorem dX6_read_145 : decode cX6_read 145 = .ok (.iaload, 1) := by decide +kernel
theorem dX6_read_146 : decode cX6_read 146 = .ok (.i2l, 1) := by decide +kernel
theorem dX6_read_147 : decode cX6_read 147 = .ok (.lcmp, 1) := by decide +kernel
theorem dX6_read_148 : decode cX6_read 148 = .ok (.ifCond .lt 7, 3) := by decide +kernel
theorem dX6_read_151 : decode cX6_read 151 = .ok (.iconst 2, 1) := by decide +kernel
theorem dX6_read_152 : decode cX6_read 152 = .ok (.goto 4, 3) := by decide +kernel
theorem dX6_read_155 : decode cX6_read 155 = .ok (.iconst 0, 1) := by decide +kernel
theorem dX6_read_156 : decode cX6_read 156 = .ok (.istore 5, 2) := by decide +kernel
theorem dX6_read_158 : decode cX6_read 158 = .ok (.iinc 8 1, 3) := by decide +kernel
theorem dX6_read_161 : decode cX6_read 161 = .ok (.goto (-84), 3) := by decide +kernel
theorem dX6_read_164 : decode cX6_read 164 = .ok (.iload 5, 2) := by decide +kernel
theorem dX6_read_166 : decode cX6_read 166 = .ok (.ifCond .ne 78, 3) := by decide +kernel
theorem dX6_read_169 : decode cX6_read 169 = .ok (.bipush 40, 2) := by decide +kernel
theorem dX6_read_171 : decode cX6_read 171 = .ok (.iload_n 1, 1) := by decide +kernel
theorem dX6_read_172 : decode cX6_read 172 = .ok (.imul, 1) := by decide +kernel
theorem dX6_read_173 : decode cX6_read 173 = .ok (.iload_n 3, 1) := by decide +kernel
theorem dX6_read_174 : decode cX6_read 174 = .ok (.iadd, 1) := by decide +kernel
theorem dX6_read_175 : decode cX6_read 175 = .ok (.iconst 2, 1) := by decide +kernel
theorem dX6_read_176 : decode cX6_read 176 = .ok (.iload 7, 2) := by decide +kernel
theorem dX6_read_178 : decode cX6_read 178 = .ok (.imul, 1) := by decide +kernel
theorem dX6_read_179 : decode cX6_read 179 = .ok (.iadd, 1) := by decide +kernel
theorem dX6_read_180 : decode cX6_read 180 = .ok (.istore 8, 2) := by decide +kernel
theorem dX6_read_182 : decode cX6_read 182 = .ok (.aload_n 0, 1) := by decide +kernel
theorem dX6_read_183 : decode cX6_read 183 = .ok (.aload_n 0, 1) := by decide +kernel
theorem dX6_read_184 : decode cX6_read 184 = .ok (.getfield 53, 3) := by decide +kernel
theorem dX6_read_187 : decode cX6_read 187 = .ok (.iload 8, 2) := by decide +kernel
theorem dX6_read_189 : decode cX6_read 189 = .ok (.iaload, 1) := by decide +kernel
theorem dX6_read_190 : decode cX6_read 190 = .ok (.aload_n 0, 1) := by decide +kernel
theorem dX6_read_191 : decode cX6_read 191 = .ok (.getfield 53, 3) := by decide +kernel
theorem dX6_read_194 : decode cX6_read 194 = .ok (.iload 8, 2) := by decide +kernel
theorem dX6_read_196 : decode cX6_read 196 = .ok (.iconst 1, 1) := by decide +kernel
theorem dX6_read_197 : decode cX6_read 197 = .ok (.iadd, 1) := by decide +kernel
theorem dX6_read_198 : decode cX6_read 198 = .ok (.iaload, 1) := by decide +kernel
theorem dX6_read_199 : decode cX6_read 199 = .ok (.invokevirtual 320, 3) := by decide +kernel
theorem dX6_read_202 : decode cX6_read 202 = .ok (.ifCond .ge 39, 3) := by decide +kernel
theorem dX6_read_205 : decode cX6_read 205 = .ok (.iconst 0, 1) := by decide +kernel
theorem dX6_read_206 : decode cX6_read 206 = .ok (.istore 9, 2) := by decide +kernel
theorem dX6_read_208 : decode cX6_read 208 = .ok (.iload 9, 2) := by decide +kernel
theorem dX6_read_210 : decode cX6_read 210 = .ok (.bipush 70, 2) := by decide +kernel
theorem dX6_read_212 : decode cX6_read 212 = .ok (.if_icmp .ge 23, 3) := by decide +kernel
theorem dX6_read_215 : decode cX6_read 215 = .ok (.aload_n 0, 1) := by decide +kernel
theorem dX6_read_216 : decode cX6_read 216 = .ok (.getfield 7, 3) := by decide +kernel
theorem dX6_read_219 : decode cX6_read 219 = .ok (.iload 9, 2) := by decide +kernel
theorem dX6_read_221 : decode cX6_read 221 = .ok (.aload_n 0, 1) := by decide +kernel
theorem dX6_read_222 : decode cX6_read 222 = .ok (.getfield 56, 3) := by decide +kernel
theorem dX6_read_225 : decode cX6_read 225 = .ok (.iload 9, 2) := by decide +kernel
theorem dX6_read_227 : decode cX6_read 227 = .ok (.iaload, 1) := by decide +kernel
theorem dX6_read_228 : decode cX6_read 228 = .ok (.iastore, 1) := by decide +kernel
theorem dX6_read_229 : decode cX6_read 229 = .ok (.iinc 9 1, 3) := by decide +kernel
theorem dX6_read_232 : decode cX6_read 232 = .ok (.goto (-24), 3) := by decide +kernel
theorem dX6_read_235 : decode cX6_read 235 = .ok (.bipush (-20), 2) := by decide +kernel
theorem dX6_read_237 : decode cX6_read 237 = .ok (.iload 7, 2) := by decide +kernel
theorem dX6_read_239 : decode cX6_read 239 = .ok (.isub, 1) := by decide +kernel
theorem dX6_read_240 : decode cX6_read 240 = .ok (.ireturn, 1) := by decide +kernel
theorem dX6_read_241 : decode cX6_read 241 = .ok (.iinc 6 1, 3) := by decide +kernel
theorem dX6_read_244 : decode cX6_read 244 = .ok (.iinc 7 1, 3) := by decide +kernel
theorem dX6_read_247 : decode cX6_read 247 = .ok (.goto (-185), 3) := by decide +kernel
theorem dX6_read_250 : decode cX6_read 250 = .ok (.aload_n 0, 1) := by decide +kernel
theorem dX6_read_251 : decode cX6_read 251 = .ok (.iload 5, 2) := by decide +kernel
theorem dX6_read_253 : decode cX6_read 253 = .ok (.putfield 323, 3) := by decide +kernel
theorem dX6_read_256 : decode cX6_read 256 = .ok (.iload 6, 2) := by decide +kernel
theorem dX6_read_258 : decode cX6_read 258 = .ok (.ireturn, 1) := by decide +kernel
theorem dX6_torn_0 : decode cX6_torn 0 = .ok (.aload_n 0, 1) := by decide +kernel
theorem dX6_torn_1 : decode cX6_torn 1 = .ok (.getfield 323, 3) := by decide +kernel
theorem dX6_torn_4 : decode cX6_torn 4 = .ok (.ireturn, 1) := by decide +kernel
theorem dX6_count_0 : decode cX6_count 0 = .ok (.iconst 0, 1) := by decide +kernel
theorem dX6_count_1 : decode cX6_count 1 = .ok (.istore_n 2, 1) := by decide +kernel
theorem dX6_count_2 : decode cX6_count 2 = .ok (.aload_n 0, 1) := by decide +kernel
theorem dX6_count_3 : decode cX6_count 3 = .ok (.invokevirtual 209, 3) := by decide +kernel
theorem dX6_count_6 : decode cX6_count 6 = .ok (.iconst 0, 1) := by decide +kernel
theorem dX6_count_7 : decode cX6_count 7 = .ok (.istore_n 3, 1) := by decide +kernel
theorem dX6_count_8 : decode cX6_count 8 = .ok (.iload_n 3, 1) := by decide +kernel
theorem dX6_count_9 : decode cX6_count 9 = .ok (.aload_n 0, 1) := by decide +kernel
theorem dX6_count_10 : decode cX6_count 10 = .ok (.getfield 7, 3) := by decide +kernel
theorem dX6_count_13 : decode cX6_count 13 = .ok (.bipush 49, 2) := by decide +kernel
theorem dX6_count_15 : decode cX6_count 15 = .ok (.iaload, 1) := by decide +kernel
theorem dX6_count_16 : decode cX6_count 16 = .ok (.if_icmp .ge 24, 3) := by decide +kernel
theorem dX6_count_19 : decode cX6_count 19 = .ok (.iload_n 2, 1) := by decide +kernel
theorem dX6_count_20 : decode cX6_count 20 = .ok (.aload_n 0, 1) := by decide +kernel
theorem dX6_count_21 : decode cX6_count 21 = .ok (.getfield 7, 3) := by decide +kernel
theorem dX6_count_24 : decode cX6_count 24 = .ok (.bipush 37, 2) := by decide +kernel
theorem dX6_count_26 : decode cX6_count 26 = .ok (.iload_n 3, 1) := by decide +kernel
theorem dX6_count_27 : decode cX6_count 27 = .ok (.iadd, 1) := by decide +kernel
theorem dX6_count_28 : decode cX6_count 28 = .ok (.iaload, 1) := by decide +kernel
theorem dX6_count_29 : decode cX6_count 29 = .ok (.invokestatic 189, 3) := by decide +kernel
theorem dX6_count_32 : decode cX6_count 32 = .ok (.iadd, 1) := by decide +kernel
theorem dX6_count_33 : decode cX6_count 33 = .ok (.istore_n 2, 1) := by decide +kernel
theorem dX6_count_34 : decode cX6_count 34 = .ok (.iinc 3 1, 3) := by decide +kernel
theorem dX6_count_37 : decode cX6_count 37 = .ok (.goto (-29), 3) := by decide +kernel
theorem dX6_count_40 : decode cX6_count 40 = .ok (.iload_n 1, 1) := by decide +kernel
theorem dX6_count_41 : decode cX6_count 41 = .ok (.tableswitch 103 0 5 #[39, 47, 67, 72, 95, 101], 39) := by decide +kernel
theorem dX6_count_80 : decode cX6_count 80 = .ok (.aload_n 0, 1) := by decide +kernel
theorem dX6_count_81 : decode cX6_count 81 = .ok (.getfield 7, 3) := by decide +kernel
theorem dX6_count_84 : decode cX6_count 84 = .ok (.bipush 51, 2) := by decide +kernel
theorem dX6_count_86 : decode cX6_count 86 = .ok (.iaload, 1) := by decide +kernel
theorem dX6_count_87 : decode cX6_count 87 = .ok (.ireturn, 1) := by decide +kernel
theorem dX6_count_88 : decode cX6_count 88 = .ok (.aload_n 0, 1) := by decide +kernel
theorem dX6_count_89 : decode cX6_count 89 = .ok (.getfield 16, 3) := by decide +kernel
theorem dX6_count_92 : decode cX6_count 92 = .ok (.iconst 0, 1) := by decide +kernel
theorem dX6_count_93 : decode cX6_count 93 = .ok (.baload, 1) := by decide +kernel
theorem dX6_count_94 : decode cX6_count 94 = .ok (.invokestatic 174, 3) := by decide +kernel
theorem dX6_count_97 : decode cX6_count 97 = .ok (.aload_n 0, 1) := by decide +kernel
theorem dX6_count_98 : decode cX6_count 98 = .ok (.getfield 16, 3) := by decide +kernel
theorem dX6_count_101 : decode cX6_count 101 = .ok (.iconst 1, 1) := by decide +kernel
theorem dX6_count_102 : decode cX6_count 102 = .ok (.baload, 1) := by decide +kernel
theorem dX6_count_103 : decode cX6_count 103 = .ok (.invokestatic 174, 3) := by decide +kernel
theorem dX6_count_106 : decode cX6_count 106 = .ok (.iadd, 1) := by decide +kernel
theorem dX6_count_107 : decode cX6_count 107 = .ok (.ireturn, 1) := by decide +kernel
theorem dX6_count_108 : decode cX6_count 108 = .ok (.aload_n 0, 1) := by decide +kernel
theorem dX6_count_109 : decode cX6_count 109 = .ok (.getfield 71, 3) := by decide +kernel
theorem dX6_count_112 : decode cX6_count 112 = .ok (.ireturn, 1) := by decide +kernel
theorem dX6_count_113 : decode cX6_count 113 = .ok (.aload_n 0, 1) := by decide +kernel
theorem dX6_count_114 : decode cX6_count 114 = .ok (.getfield 47, 3) := by decide +kernel
theorem dX6_count_117 : decode cX6_count 117 = .ok (.iconst 0, 1) := by decide +kernel
theorem dX6_count_118 : decode cX6_count 118 = .ok (.iaload, 1) := by decide +kernel
theorem dX6_count_119 : decode cX6_count 119 = .ok (.bipush (-4), 2) := by decide +kernel
theorem dX6_count_121 : decode cX6_count 121 = .ok (.if_icmp .ne 8, 3) := by decide +kernel
theorem dX6_count_124 : decode cX6_count 124 = .ok (.bipush (-4), 2) := by decide +kernel
theorem dX6_count_126 : decode cX6_count 126 = .ok (.goto 9, 3) := by decide +kernel
theorem dX6_count_129 : decode cX6_count 129 = .ok (.aload_n 0, 1) := by decide +kernel
theorem dX6_count_130 : decode cX6_count 130 = .ok (.getfield 50, 3) := by decide +kernel
theorem dX6_count_133 : decode cX6_count 133 = .ok (.iconst 0, 1) := by decide +kernel
theorem dX6_count_134 : decode cX6_count 134 = .ok (.iaload, 1) := by decide +kernel
theorem dX6_count_135 : decode cX6_count 135 = .ok (.ireturn, 1) := by decide +kernel
theorem dX6_count_136 : decode cX6_count 136 = .ok (.aload_n 0, 1) := by decide +kernel
theorem dX6_count_137 : decode cX6_count 137 = .ok (.iconst 1, 1) := by decide +kernel
theorem dX6_count_138 : decode cX6_count 138 = .ok (.invokevirtual 212, 3) := by decide +kernel
theorem dX6_count_141 : decode cX6_count 141 = .ok (.ireturn, 1) := by decide +kernel
theorem dX6_count_142 : decode cX6_count 142 = .ok (.iload_n 2, 1) := by decide +kernel
theorem dX6_count_143 : decode cX6_count 143 = .ok (.ireturn, 1) := by decide +kernel
theorem dX6_count_144 : decode cX6_count 144 = .ok (.iconst (-1), 1) := by decide +kernel
theorem dX6_count_145 : decode cX6_count 145 = .ok (.ireturn, 1) := by decide +kernel
end
section
theorem dJ0_length_8abf5_0 : decode cJ0_length_8abf5 0 = .ok (.aload_n 0, 1) := by decide +kernel
theorem dJ0_length_8abf5_1 : decode cJ0_length_8abf5 1 = .ok (.getfield 9, 3) := by decide +kernel
theorem dJ0_length_8abf5_4 : decode cJ0_length_8abf5 4 = .ok (.arraylength, 1) := by decide +kernel
theorem dJ0_length_8abf5_5 : decode cJ0_length_8abf5 5 = .ok (.aload_n 0, 1) := by decide +kernel
theorem dJ0_length_8abf5_6 : decode cJ0_length_8abf5 6 = .ok (.invokevirtual 335, 3) := by decide +kernel
theorem dJ0_length_8abf5_9 : decode cJ0_length_8abf5 9 = .ok (.ishr, 1) := by decide +kernel
theorem dJ0_length_8abf5_10 : decode cJ0_length_8abf5 10 = .ok (.ireturn, 1) := by decide +kernel
theorem dJ0_charAt_5068e_0 : decode cJ0_charAt_5068e 0 = .ok (.aload_n 0, 1) := by decide +kernel
theorem dJ0_charAt_5068e_1 : decode cJ0_charAt_5068e 1 = .ok (.invokevirtual 492, 3) := by decide +kernel
theorem dJ0_charAt_5068e_4 : decode cJ0_charAt_5068e 4 = .ok (.ifCond .eq 12, 3) := by decide +kernel
theorem dJ0_charAt_5068e_7 : decode cJ0_charAt_5068e 7 = .ok (.aload_n 0, 1) := by decide +kernel
theorem dJ0_charAt_5068e_8 : decode cJ0_charAt_5068e 8 = .ok (.getfield 9, 3) := by decide +kernel
theorem dJ0_charAt_5068e_11 : decode cJ0_charAt_5068e 11 = .ok (.iload_n 1, 1) := by decide +kernel
theorem dJ0_charAt_5068e_12 : decode cJ0_charAt_5068e 12 = .ok (.invokestatic 495, 3) := by decide +kernel
theorem dJ0_charAt_5068e_15 : decode cJ0_charAt_5068e 15 = .ok (.ireturn, 1) := by decide +kernel
theorem dJ0_charAt_5068e_16 : decode cJ0_charAt_5068e 16 = .ok (.aload_n 0, 1) := by decide +kernel
theorem dJ0_charAt_5068e_17 : decode cJ0_charAt_5068e 17 = .ok (.getfield 9, 3) := by decide +kernel
theorem dJ0_charAt_5068e_20 : decode cJ0_charAt_5068e 20 = .ok (.iload_n 1, 1) := by decide +kernel
theorem dJ0_charAt_5068e_21 : decode cJ0_charAt_5068e 21 = .ok (.invokestatic 498, 3) := by decide +kernel
theorem dJ0_charAt_5068e_24 : decode cJ0_charAt_5068e 24 = .ok (.ireturn, 1) := by decide +kernel
theorem dJ0_coder_7d493_0 : decode cJ0_coder_7d493 0 = .ok (.getstatic 38, 3) := by decide +kernel
theorem dJ0_coder_7d493_3 : decode cJ0_coder_7d493 3 = .ok (.ifCond .eq 10, 3) := by decide +kernel
theorem dJ0_coder_7d493_6 : decode cJ0_coder_7d493 6 = .ok (.aload_n 0, 1) := by decide +kernel
theorem dJ0_coder_7d493_7 : decode cJ0_coder_7d493 7 = .ok (.getfield 15, 3) := by decide +kernel
theorem dJ0_coder_7d493_10 : decode cJ0_coder_7d493 10 = .ok (.goto 4, 3) := by decide +kernel
theorem dJ0_coder_7d493_13 : decode cJ0_coder_7d493 13 = .ok (.iconst 1, 1) := by decide +kernel
theorem dJ0_coder_7d493_14 : decode cJ0_coder_7d493 14 = .ok (.ireturn, 1) := by decide +kernel
theorem dJ0_isLatin1_aae02_0 : decode cJ0_isLatin1_aae02 0 = .ok (.getstatic 38, 3) := by decide +kernel
theorem dJ0_isLatin1_aae02_3 : decode cJ0_isLatin1_aae02 3 = .ok (.ifCond .eq 14, 3) := by decide +kernel
theorem dJ0_isLatin1_aae02_6 : decode cJ0_isLatin1_aae02 6 = .ok (.aload_n 0, 1) := by decide +kernel
theorem dJ0_isLatin1_aae02_7 : decode cJ0_isLatin1_aae02 7 = .ok (.getfield 15, 3) := by decide +kernel
theorem dJ0_isLatin1_aae02_10 : decode cJ0_isLatin1_aae02 10 = .ok (.ifCond .ne 7, 3) := by decide +kernel
theorem dJ0_isLatin1_aae02_13 : decode cJ0_isLatin1_aae02 13 = .ok (.iconst 1, 1) := by decide +kernel
theorem dJ0_isLatin1_aae02_14 : decode cJ0_isLatin1_aae02 14 = .ok (.goto 4, 3) := by decide +kernel
theorem dJ0_isLatin1_aae02_17 : decode cJ0_isLatin1_aae02 17 = .ok (.iconst 0, 1) := by decide +kernel
theorem dJ0_isLatin1_aae02_18 : decode cJ0_isLatin1_aae02 18 = .ok (.ireturn, 1) := by decide +kernel
theorem dJ0_checkIndex_df160_0 : decode cJ0_checkIndex_df160 0 = .ok (.iload_n 0, 1) := by decide +kernel
theorem dJ0_checkIndex_df160_1 : decode cJ0_checkIndex_df160 1 = .ok (.iload_n 1, 1) := by decide +kernel
theorem dJ0_checkIndex_df160_2 : decode cJ0_checkIndex_df160 2 = .ok (.getstatic 1053, 3) := by decide +kernel
theorem dJ0_checkIndex_df160_5 : decode cJ0_checkIndex_df160 5 = .ok (.invokestatic 1059, 3) := by decide +kernel
theorem dJ0_checkIndex_df160_8 : decode cJ0_checkIndex_df160 8 = .ok (.pop, 1) := by decide +kernel
theorem dJ0_checkIndex_df160_9 : decode cJ0_checkIndex_df160 9 = .ok (.return_, 1) := by decide +kernel
theorem dJ1_charAt_3b067_0 : decode cJ1_charAt_3b067 0 = .ok (.iload_n 1, 1) := by decide +kernel
theorem dJ1_charAt_3b067_1 : decode cJ1_charAt_3b067 1 = .ok (.aload_n 0, 1) := by decide +kernel
theorem dJ1_charAt_3b067_2 : decode cJ1_charAt_3b067 2 = .ok (.arraylength, 1) := by decide +kernel
theorem dJ1_charAt_3b067_3 : decode cJ1_charAt_3b067 3 = .ok (.invokestatic 9, 3) := by decide +kernel
theorem dJ1_charAt_3b067_6 : decode cJ1_charAt_3b067 6 = .ok (.aload_n 0, 1) := by decide +kernel
theorem dJ1_charAt_3b067_7 : decode cJ1_charAt_3b067 7 = .ok (.iload_n 1, 1) := by decide +kernel
theorem dJ1_charAt_3b067_8 : decode cJ1_charAt_3b067 8 = .ok (.baload, 1) := by decide +kernel
theorem dJ1_charAt_3b067_9 : decode cJ1_charAt_3b067 9 = .ok (.sipush 255, 3) := by decide +kernel
theorem dJ1_charAt_3b067_12 : decode cJ1_charAt_3b067 12 = .ok (.iand, 1) := by decide +kernel
theorem dJ1_charAt_3b067_13 : decode cJ1_charAt_3b067 13 = .ok (.i2c, 1) := by decide +kernel
theorem dJ1_charAt_3b067_14 : decode cJ1_charAt_3b067 14 = .ok (.ireturn, 1) := by decide +kernel
theorem dJ2_getChar_3b067_0 : decode cJ2_getChar_3b067 0 = .ok (.getstatic 44, 3) := by decide +kernel
theorem dJ2_getChar_3b067_3 : decode cJ2_getChar_3b067 3 = .ok (.ifCond .ne 25, 3) := by decide +kernel
theorem dJ2_getChar_3b067_6 : decode cJ2_getChar_3b067 6 = .ok (.iload_n 1, 1) := by decide +kernel
theorem dJ2_getChar_3b067_7 : decode cJ2_getChar_3b067 7 = .ok (.ifCond .lt 11, 3) := by decide +kernel
theorem dJ2_getChar_3b067_10 : decode cJ2_getChar_3b067 10 = .ok (.iload_n 1, 1) := by decide +kernel
theorem dJ2_getChar_3b067_11 : decode cJ2_getChar_3b067 11 = .ok (.aload_n 0, 1) := by decide +kernel
theorem dJ2_getChar_3b067_12 : decode cJ2_getChar_3b067 12 = .ok (.invokestatic 48, 3) := by decide +kernel
theorem dJ2_getChar_3b067_15 : decode cJ2_getChar_3b067 15 = .ok (.if_icmp .lt 13, 3) := by decide +kernel
theorem dJ2_getChar_3b067_18 : decode cJ2_getChar_3b067 18 = .ok (.new 52, 3) := by decide +kernel
theorem dJ2_getChar_3b067_21 : decode cJ2_getChar_3b067 21 = .ok (.dup, 1) := by decide +kernel
theorem dJ2_getChar_3b067_22 : decode cJ2_getChar_3b067 22 = .ok (.ldc 54, 2) := by decide +kernel
theorem dJ2_getChar_3b067_24 : decode cJ2_getChar_3b067 24 = .ok (.invokespecial 56, 3) := by decide +kernel
theorem dJ2_getChar_3b067_27 : decode cJ2_getChar_3b067 27 = .ok (.athrow, 1) := by decide +kernel
theorem dJ2_getChar_3b067_28 : decode cJ2_getChar_3b067 28 = .ok (.iload_n 1, 1) := by decide +kernel
theorem dJ2_getChar_3b067_29 : decode cJ2_getChar_3b067 29 = .ok (.iconst 1, 1) := by decide +kernel
theorem dJ2_getChar_3b067_30 : decode cJ2_getChar_3b067 30 = .ok (.ishl, 1) := by decide +kernel
theorem dJ2_getChar_3b067_31 : decode cJ2_getChar_3b067 31 = .ok (.istore_n 1, 1) := by decide +kernel
theorem dJ2_getChar_3b067_32 : decode cJ2_getChar_3b067 32 = .ok (.aload_n 0, 1) := by decide +kernel
theorem dJ2_getChar_3b067_33 : decode cJ2_getChar_3b067 33 = .ok (.iload_n 1, 1) := by decide +kernel
theorem dJ2_getChar_3b067_34 : decode cJ2_getChar_3b067 34 = .ok (.iinc 1 1, 3) := by decide +kernel
theorem dJ2_getChar_3b067_37 : decode cJ2_getChar_3b067 37 = .ok (.baload, 1) := by decide +kernel
theorem dJ2_getChar_3b067_38 : decode cJ2_getChar_3b067 38 = .ok (.sipush 255, 3) := by decide +kernel
theorem dJ2_getChar_3b067_41 : decode cJ2_getChar_3b067 41 = .ok (.iand, 1) := by decide +kernel
theorem dJ2_getChar_3b067_42 : decode cJ2_getChar_3b067 42 = .ok (.getstatic 59, 3) := by decide +kernel
theorem dJ2_getChar_3b067_45 : decode cJ2_getChar_3b067 45 = .ok (.ishl, 1) := by decide +kernel
theorem dJ2_getChar_3b067_46 : decode cJ2_getChar_3b067 46 = .ok (.aload_n 0, 1) := by decide +kernel
theorem dJ2_getChar_3b067_47 : decode cJ2_getChar_3b067 47 = .ok (.iload_n 1, 1) := by decide +kernel
theorem dJ2_getChar_3b067_48 : decode cJ2_getChar_3b067 48 = .ok (.baload, 1) := by decide +kernel
theorem dJ2_getChar_3b067_49 : decode cJ2_getChar_3b067 49 = .ok (.sipush 255, 3) := by decide +kernel
theorem dJ2_getChar_3b067_52 : decode cJ2_getChar_3b067 52 = .ok (.iand, 1) := by decide +kernel
theorem dJ2_getChar_3b067_53 : decode cJ2_getChar_3b067 53 = .ok (.getstatic 63, 3) := by decide +kernel
theorem dJ2_getChar_3b067_56 : decode cJ2_getChar_3b067 56 = .ok (.ishl, 1) := by decide +kernel
theorem dJ2_getChar_3b067_57 : decode cJ2_getChar_3b067 57 = .ok (.ior, 1) := by decide +kernel
theorem dJ2_getChar_3b067_58 : decode cJ2_getChar_3b067 58 = .ok (.i2c, 1) := by decide +kernel
theorem dJ2_getChar_3b067_59 : decode cJ2_getChar_3b067 59 = .ok (.ireturn, 1) := by decide +kernel
theorem dJ2_length_9d52b_0 : decode cJ2_length_9d52b 0 = .ok (.aload_n 0, 1) := by decide +kernel
theorem dJ2_length_9d52b_1 : decode cJ2_length_9d52b 1 = .ok (.arraylength, 1) := by decide +kernel
theorem dJ2_length_9d52b_2 : decode cJ2_length_9d52b 2 = .ok (.iconst 1, 1) := by decide +kernel
theorem dJ2_length_9d52b_3 : decode cJ2_length_9d52b 3 = .ok (.ishr, 1) := by decide +kernel
theorem dJ2_length_9d52b_4 : decode cJ2_length_9d52b 4 = .ok (.ireturn, 1) := by decide +kernel
theorem dJ2_charAt_3b067_0 : decode cJ2_charAt_3b067 0 = .ok (.iload_n 1, 1) := by decide +kernel
theorem dJ2_charAt_3b067_1 : decode cJ2_charAt_3b067 1 = .ok (.aload_n 0, 1) := by decide +kernel
theorem dJ2_charAt_3b067_2 : decode cJ2_charAt_3b067 2 = .ok (.invokestatic 67, 3) := by decide +kernel
theorem dJ2_charAt_3b067_5 : decode cJ2_charAt_3b067 5 = .ok (.aload_n 0, 1) := by decide +kernel
theorem dJ2_charAt_3b067_6 : decode cJ2_charAt_3b067 6 = .ok (.iload_n 1, 1) := by decide +kernel
theorem dJ2_charAt_3b067_7 : decode cJ2_charAt_3b067 7 = .ok (.invokestatic 71, 3) := by decide +kernel
theorem dJ2_charAt_3b067_10 : decode cJ2_charAt_3b067 10 = .ok (.ireturn, 1) := by decide +kernel
theorem dJ2_checkIndex_2214a_0 : decode cJ2_checkIndex_2214a 0 = .ok (.iload_n 0, 1) := by decide +kernel
theorem dJ2_checkIndex_2214a_1 : decode cJ2_checkIndex_2214a 1 = .ok (.aload_n 1, 1) := by decide +kernel
theorem dJ2_checkIndex_2214a_2 : decode cJ2_checkIndex_2214a 2 = .ok (.invokestatic 48, 3) := by decide +kernel
theorem dJ2_checkIndex_2214a_5 : decode cJ2_checkIndex_2214a 5 = .ok (.invokestatic 414, 3) := by decide +kernel
theorem dJ2_checkIndex_2214a_8 : decode cJ2_checkIndex_2214a 8 = .ok (.return_, 1) := by decide +kernel
theorem dJ3_checkIndex_8e157_0 : decode cJ3_checkIndex_8e157 0 = .ok (.iload_n 0, 1) := by decide +kernel
theorem dJ3_checkIndex_8e157_1 : decode cJ3_checkIndex_8e157 1 = .ok (.ifCond .lt 8, 3) := by decide +kernel
theorem dJ3_checkIndex_8e157_4 : decode cJ3_checkIndex_8e157 4 = .ok (.iload_n 0, 1) := by decide +kernel
theorem dJ3_checkIndex_8e157_5 : decode cJ3_checkIndex_8e157 5 = .ok (.iload_n 1, 1) := by decide +kernel
theorem dJ3_checkIndex_8e157_6 : decode cJ3_checkIndex_8e157 6 = .ok (.if_icmp .lt 10, 3) := by decide +kernel
theorem dJ3_checkIndex_8e157_9 : decode cJ3_checkIndex_8e157 9 = .ok (.aload_n 2, 1) := by decide +kernel
theorem dJ3_checkIndex_8e157_10 : decode cJ3_checkIndex_8e157 10 = .ok (.iload_n 0, 1) := by decide +kernel
theorem dJ3_checkIndex_8e157_11 : decode cJ3_checkIndex_8e157 11 = .ok (.iload_n 1, 1) := by decide +kernel
theorem dJ3_checkIndex_8e157_12 : decode cJ3_checkIndex_8e157 12 = .ok (.invokestatic 95, 3) := by decide +kernel
theorem dJ3_checkIndex_8e157_15 : decode cJ3_checkIndex_8e157 15 = .ok (.athrow, 1) := by decide +kernel
theorem dJ3_checkIndex_8e157_16 : decode cJ3_checkIndex_8e157 16 = .ok (.iload_n 0, 1) := by decide +kernel
theorem dJ3_checkIndex_8e157_17 : decode cJ3_checkIndex_8e157 17 = .ok (.ireturn, 1) := by decide +kernel
theorem dJ6_bitCount_0f7a4_0 : decode cJ6_bitCount_0f7a4 0 = .ok (.iload_n 0, 1) := by decide +kernel
theorem dJ6_bitCount_0f7a4_1 : decode cJ6_bitCount_0f7a4 1 = .ok (.iload_n 0, 1) := by decide +kernel
theorem dJ6_bitCount_0f7a4_2 : decode cJ6_bitCount_0f7a4 2 = .ok (.iconst 1, 1) := by decide +kernel
theorem dJ6_bitCount_0f7a4_3 : decode cJ6_bitCount_0f7a4 3 = .ok (.iushr, 1) := by decide +kernel
theorem dJ6_bitCount_0f7a4_4 : decode cJ6_bitCount_0f7a4 4 = .ok (.ldc_w 265, 3) := by decide +kernel
theorem dJ6_bitCount_0f7a4_7 : decode cJ6_bitCount_0f7a4 7 = .ok (.iand, 1) := by decide +kernel
theorem dJ6_bitCount_0f7a4_8 : decode cJ6_bitCount_0f7a4 8 = .ok (.isub, 1) := by decide +kernel
theorem dJ6_bitCount_0f7a4_9 : decode cJ6_bitCount_0f7a4 9 = .ok (.istore_n 0, 1) := by decide +kernel
theorem dJ6_bitCount_0f7a4_10 : decode cJ6_bitCount_0f7a4 10 = .ok (.iload_n 0, 1) := by decide +kernel
theorem dJ6_bitCount_0f7a4_11 : decode cJ6_bitCount_0f7a4 11 = .ok (.ldc_w 266, 3) := by decide +kernel
theorem dJ6_bitCount_0f7a4_14 : decode cJ6_bitCount_0f7a4 14 = .ok (.iand, 1) := by decide +kernel
theorem dJ6_bitCount_0f7a4_15 : decode cJ6_bitCount_0f7a4 15 = .ok (.iload_n 0, 1) := by decide +kernel
theorem dJ6_bitCount_0f7a4_16 : decode cJ6_bitCount_0f7a4 16 = .ok (.iconst 2, 1) := by decide +kernel
theorem dJ6_bitCount_0f7a4_17 : decode cJ6_bitCount_0f7a4 17 = .ok (.iushr, 1) := by decide +kernel
theorem dJ6_bitCount_0f7a4_18 : decode cJ6_bitCount_0f7a4 18 = .ok (.ldc_w 266, 3) := by decide +kernel
theorem dJ6_bitCount_0f7a4_21 : decode cJ6_bitCount_0f7a4 21 = .ok (.iand, 1) := by decide +kernel
theorem dJ6_bitCount_0f7a4_22 : decode cJ6_bitCount_0f7a4 22 = .ok (.iadd, 1) := by decide +kernel
theorem dJ6_bitCount_0f7a4_23 : decode cJ6_bitCount_0f7a4 23 = .ok (.istore_n 0, 1) := by decide +kernel
theorem dJ6_bitCount_0f7a4_24 : decode cJ6_bitCount_0f7a4 24 = .ok (.iload_n 0, 1) := by decide +kernel
theorem dJ6_bitCount_0f7a4_25 : decode cJ6_bitCount_0f7a4 25 = .ok (.iload_n 0, 1) := by decide +kernel
theorem dJ6_bitCount_0f7a4_26 : decode cJ6_bitCount_0f7a4 26 = .ok (.iconst 4, 1) := by decide +kernel
theorem dJ6_bitCount_0f7a4_27 : decode cJ6_bitCount_0f7a4 27 = .ok (.iushr, 1) := by decide +kernel
theorem dJ6_bitCount_0f7a4_28 : decode cJ6_bitCount_0f7a4 28 = .ok (.iadd, 1) := by decide +kernel
theorem dJ6_bitCount_0f7a4_29 : decode cJ6_bitCount_0f7a4 29 = .ok (.ldc_w 267, 3) := by decide +kernel
theorem dJ6_bitCount_0f7a4_32 : decode cJ6_bitCount_0f7a4 32 = .ok (.iand, 1) := by decide +kernel
theorem dJ6_bitCount_0f7a4_33 : decode cJ6_bitCount_0f7a4 33 = .ok (.istore_n 0, 1) := by decide +kernel
theorem dJ6_bitCount_0f7a4_34 : decode cJ6_bitCount_0f7a4 34 = .ok (.iload_n 0, 1) := by decide +kernel
theorem dJ6_bitCount_0f7a4_35 : decode cJ6_bitCount_0f7a4 35 = .ok (.iload_n 0, 1) := by decide +kernel
theorem dJ6_bitCount_0f7a4_36 : decode cJ6_bitCount_0f7a4 36 = .ok (.bipush 8, 2) := by decide +kernel
theorem dJ6_bitCount_0f7a4_38 : decode cJ6_bitCount_0f7a4 38 = .ok (.iushr, 1) := by decide +kernel
theorem dJ6_bitCount_0f7a4_39 : decode cJ6_bitCount_0f7a4 39 = .ok (.iadd, 1) := by decide +kernel
theorem dJ6_bitCount_0f7a4_40 : decode cJ6_bitCount_0f7a4 40 = .ok (.istore_n 0, 1) := by decide +kernel
theorem dJ6_bitCount_0f7a4_41 : decode cJ6_bitCount_0f7a4 41 = .ok (.iload_n 0, 1) := by decide +kernel
theorem dJ6_bitCount_0f7a4_42 : decode cJ6_bitCount_0f7a4 42 = .ok (.iload_n 0, 1) := by decide +kernel
theorem dJ6_bitCount_0f7a4_43 : decode cJ6_bitCount_0f7a4 43 = .ok (.bipush 16, 2) := by decide +kernel
theorem dJ6_bitCount_0f7a4_45 : decode cJ6_bitCount_0f7a4 45 = .ok (.iushr, 1) := by decide +kernel
theorem dJ6_bitCount_0f7a4_46 : decode cJ6_bitCount_0f7a4 46 = .ok (.iadd, 1) := by decide +kernel
theorem dJ6_bitCount_0f7a4_47 : decode cJ6_bitCount_0f7a4 47 = .ok (.istore_n 0, 1) := by decide +kernel
theorem dJ6_bitCount_0f7a4_48 : decode cJ6_bitCount_0f7a4 48 = .ok (.iload_n 0, 1) := by decide +kernel
theorem dJ6_bitCount_0f7a4_49 : decode cJ6_bitCount_0f7a4 49 = .ok (.bipush 63, 2) := by decide +kernel
theorem dJ6_bitCount_0f7a4_51 : decode cJ6_bitCount_0f7a4 51 = .ok (.iand, 1) := by decide +kernel
theorem dJ6_bitCount_0f7a4_52 : decode cJ6_bitCount_0f7a4 52 = .ok (.ireturn, 1) := by decide +kernel
theorem dJ7_fill_53178_0 : decode cJ7_fill_53178 0 = .ok (.iconst 0, 1) := by decide +kernel
theorem dJ7_fill_53178_1 : decode cJ7_fill_53178 1 = .ok (.istore_n 2, 1) := by decide +kernel
theorem dJ7_fill_53178_2 : decode cJ7_fill_53178 2 = .ok (.aload_n 0, 1) := by decide +kernel
theorem dJ7_fill_53178_3 : decode cJ7_fill_53178 3 = .ok (.arraylength, 1) := by decide +kernel
theorem dJ7_fill_53178_4 : decode cJ7_fill_53178 4 = .ok (.istore_n 3, 1) := by decide +kernel
theorem dJ7_fill_53178_5 : decode cJ7_fill_53178 5 = .ok (.iload_n 2, 1) := by decide +kernel
theorem dJ7_fill_53178_6 : decode cJ7_fill_53178 6 = .ok (.iload_n 3, 1) := by decide +kernel
theorem dJ7_fill_53178_7 : decode cJ7_fill_53178 7 = .ok (.if_icmp .ge 13, 3) := by decide +kernel
theorem dJ7_fill_53178_10 : decode cJ7_fill_53178 10 = .ok (.aload_n 0, 1) := by decide +kernel
theorem dJ7_fill_53178_11 : decode cJ7_fill_53178 11 = .ok (.iload_n 2, 1) := by decide +kernel
theorem dJ7_fill_53178_12 : decode cJ7_fill_53178 12 = .ok (.iload_n 1, 1) := by decide +kernel
theorem dJ7_fill_53178_13 : decode cJ7_fill_53178 13 = .ok (.iastore, 1) := by decide +kernel
theorem dJ7_fill_53178_14 : decode cJ7_fill_53178 14 = .ok (.iinc 2 1, 3) := by decide +kernel
theorem dJ7_fill_53178_17 : decode cJ7_fill_53178 17 = .ok (.goto (-12), 3) := by decide +kernel
theorem dJ7_fill_53178_20 : decode cJ7_fill_53178 20 = .ok (.return_, 1) := by decide +kernel
theorem dJ9_max_7cf53_0 : decode cJ9_max_7cf53 0 = .ok (.iload_n 0, 1) := by decide +kernel
theorem dJ9_max_7cf53_1 : decode cJ9_max_7cf53 1 = .ok (.iload_n 1, 1) := by decide +kernel
theorem dJ9_max_7cf53_2 : decode cJ9_max_7cf53 2 = .ok (.if_icmp .lt 7, 3) := by decide +kernel
theorem dJ9_max_7cf53_5 : decode cJ9_max_7cf53 5 = .ok (.iload_n 0, 1) := by decide +kernel
theorem dJ9_max_7cf53_6 : decode cJ9_max_7cf53 6 = .ok (.goto 4, 3) := by decide +kernel
theorem dJ9_max_7cf53_9 : decode cJ9_max_7cf53 9 = .ok (.iload_n 1, 1) := by decide +kernel
theorem dJ9_max_7cf53_10 : decode cJ9_max_7cf53 10 = .ok (.ireturn, 1) := by decide +kernel
theorem dJ9_min_7cf53_0 : decode cJ9_min_7cf53 0 = .ok (.iload_n 0, 1) := by decide +kernel
theorem dJ9_min_7cf53_1 : decode cJ9_min_7cf53 1 = .ok (.iload_n 1, 1) := by decide +kernel
theorem dJ9_min_7cf53_2 : decode cJ9_min_7cf53 2 = .ok (.if_icmp .gt 7, 3) := by decide +kernel
theorem dJ9_min_7cf53_5 : decode cJ9_min_7cf53 5 = .ok (.iload_n 0, 1) := by decide +kernel
theorem dJ9_min_7cf53_6 : decode cJ9_min_7cf53 6 = .ok (.goto 4, 3) := by decide +kernel
theorem dJ9_min_7cf53_9 : decode cJ9_min_7cf53 9 = .ok (.iload_n 1, 1) := by decide +kernel
theorem dJ9_min_7cf53_10 : decode cJ9_min_7cf53 10 = .ok (.ireturn, 1) := by decide +kernel
end
section
/-! CONTENTS: ints by cell and place, longs by place. LAYOUT: tag, length, pointers of a cell. -/
abbrev zz_T : Type := (Nat → Nat → Int32) × (Nat → Int64)
def zz_r (σ : zz_T) (k : Nat) (f : Nat → Int32) : zz_T := (va_up σ.1 k f, σ.2)
def zz_i (σ : zz_T) (k j : Nat) (v : Int32) : zz_T := (va_up σ.1 k (upd (σ.1 k) j v), σ.2)
def zz_l (σ : zz_T) (j : Nat) (v : Int64) : zz_T := (σ.1, va_up σ.2 j v)
abbrev zz_C : Type := Nat × Nat × (Nat → Nat)
/-- (how many cells, layout), addresses, (classes, array classes), addresses of statics -/
abbrev zz_Y : Type := (Nat × (Nat → zz_C)) × (Nat → Nat) × (va_G × (Nat → ClassId)) × (Nat → Nat)
def zz_e (Y : zz_Y) (t : zz_C) (g : Nat → Int32) (lg : Nat → Int64) : va_E := match t.1 with
  | 0 => .inl (Y.2.2.1.2 0, t.2.1, .inl g)
  | 1 => .inl (Y.2.2.1.2 1, t.2.1, .inl g)
  | 2 => .inl (Y.2.2.1.2 2, t.2.1, .inl g)
  | 3 => .inl (Y.2.2.1.2 3, t.2.1, .inr (.inr (.inr (.inr (fun j => some (Y.2.1 (t.2.2 j)))))))
  | 4 => .inl (Y.2.2.1.2 4, t.2.1, .inr (.inr (.inr (.inr (fun j => some (Y.2.1 (t.2.2 j)))))))
  | 5 => .inl (Y.2.2.1.2 5, t.2.1, .inr (.inr (.inr (.inr (fun j => some (Y.2.1 (t.2.2 j)))))))
  | 10 => .inr (0, [.ref (Y.2.1 (t.2.2 0)), .ref (Y.2.1 (t.2.2 1)), .int (g 2), .int (g 3), .int (g 4)])
  | 11 => .inr (1, [.ref (Y.2.1 (t.2.2 0)), .ref (Y.2.1 (t.2.2 1)), .ref (Y.2.1 (t.2.2 2)), .ref (Y.2.1 (t.2.2 3)), .int (g 4), .int (g 5), .int (g 6), .int (g 7)])
  | 12 => .inr (2, [.ref (Y.2.1 (t.2.2 0)), .ref (Y.2.1 (t.2.2 1)), .ref (Y.2.1 (t.2.2 2)), .int (g 3)])
  | 13 => .inr (3, [.ref (Y.2.1 (t.2.2 0)), .int (g 1), .int (g 2), .int (g 3)])
  | 14 => .inr (4, [.ref (Y.2.1 (t.2.2 0)), .int (g 1), .int (g 2), .int (g 3), .int (g 4), .int (g 5), .int (g 6), .int (g 7), .int (g 8)])
  | 15 => .inr (5, [.ref (Y.2.1 (t.2.2 0)), .ref (Y.2.1 (t.2.2 1)), .ref (Y.2.1 (t.2.2 2)), .ref (Y.2.1 (t.2.2 3)), .ref (Y.2.1 (t.2.2 4)), .ref (Y.2.1 (t.2.2 5)), .ref (Y.2.1 (t.2.2 6)), .ref (Y.2.1 (t.2.2 7)), .ref (Y.2.1 (t.2.2 8)), .ref (Y.2.1 (t.2.2 9)), .int (g 10)])
  | _ => .inr (6, [.ref (Y.2.1 (t.2.2 0)), .ref (Y.2.1 (t.2.2 1)), .ref (Y.2.1 (t.2.2 2)), .ref (Y.2.1 (t.2.2 3)), .ref (Y.2.1 (t.2.2 4)), .ref (Y.2.1 (t.2.2 5)), .int (g 6), .int (g 7), .int (g 8), .int (g 9), .int (g 10), .int (g 11), .int (g 12), .int (g 13), .int (g 14), .int (g 15), .int (g 16), .int (g 17), .ref (Y.2.1 (t.2.2 18)), .ref (Y.2.1 (t.2.2 19)), .ref (Y.2.1 (t.2.2 20)), .ref (Y.2.1 (t.2.2 21)), .int (g 22), .int (g 23), .long (lg 24), .long (lg 25), .long (lg 26), .ref (Y.2.1 (t.2.2 27)), .ref (Y.2.1 (t.2.2 28)), .ref (Y.2.1 (t.2.2 29)), .ref (Y.2.1 (t.2.2 30)), .ref (Y.2.1 (t.2.2 31)), .int (g 32), .ref (Y.2.1 (t.2.2 33))])
def zz_w (Y : zz_Y) (σ : zz_T) : va_W := (List.range Y.1.1).map (fun k => (Y.2.1 k, zz_e Y (Y.1.2 k) (σ.1 k) σ.2))
def zz_ty (Y : zz_Y) : List (ClassId × FieldType) := [(Y.2.2.1.2 0, .int), (Y.2.2.1.2 1, .byte), (Y.2.2.1.2 2, .boolean), (Y.2.2.1.2 3, .object "HotDots$Head"), (Y.2.2.1.2 4, .object "HotDots$Printer"), (Y.2.2.1.2 5, .object "HotDots$Sheet")]
def zz_A (Y : zz_Y) : Nat → Prop := fun q => ∃ k, k < Y.1.1 ∧ q = Y.2.1 k
def zz_J (Y : zz_Y) : Prop := ∀ i j, i < Y.1.1 → j < Y.1.1 → Y.2.1 i = Y.2.1 j → i = j
theorem zz_w_at {Y : zz_Y} {σ : zz_T} {k : Nat} (hk : k < Y.1.1) : (zz_w Y σ)[k]? = some (Y.2.1 k, zz_e Y (Y.1.2 k) (σ.1 k) σ.2) := by
  simp [zz_w, hk]
theorem zz_w_len (Y : zz_Y) (σ : zz_T) : (zz_w Y σ).length = Y.1.1 := by simp [zz_w]
theorem zz_w_of {Y : zz_Y} {σ : zz_T} {k : Nat} {q : Nat × va_E} (h : (zz_w Y σ)[k]? = some q) : k < Y.1.1 ∧ q = (Y.2.1 k, zz_e Y (Y.1.2 k) (σ.1 k) σ.2) := by
  have hk : k < Y.1.1 := by
    have := (List.getElem?_eq_some_iff.mp h).1
    rwa [zz_w_len] at this
  rw [zz_w_at hk] at h
  exact ⟨hk, (Option.some.inj h).symm⟩
theorem zz_D {Y : zz_Y} (hJ : zz_J Y) (σ : zz_T) : va_D (zz_A Y) (zz_w Y σ) := by
  refine ⟨fun i j p q hi hj e => ?_, fun k q h => ?_⟩
  · obtain ⟨h1, rfl⟩ := zz_w_of hi
    obtain ⟨h2, rfl⟩ := zz_w_of hj
    exact hJ i j h1 h2 e
  · obtain ⟨h1, rfl⟩ := zz_w_of h
    exact ⟨k, h1, rfl⟩
theorem zz_w_set {Y : zz_Y} {σ σ' : zz_T} {k : Nat} {x : va_E} (hx : x = zz_e Y (Y.1.2 k) (σ'.1 k) σ'.2) (ho : ∀ j, j ≠ k → zz_e Y (Y.1.2 j) (σ'.1 j) σ'.2 = zz_e Y (Y.1.2 j) (σ.1 j) σ.2) : (zz_w Y σ).set k (Y.2.1 k, x) = zz_w Y σ' := by
  apply List.ext_getElem?
  intro j
  rw [List.getElem?_set]
  by_cases hj : j < Y.1.1
  · rw [zz_w_at hj, zz_w_at hj]
    by_cases h : k = j
    · subst h
      simp [zz_w_len, hj, hx]
    · rw [if_neg h, ho j (fun e => h e.symm)]
  · have h1 : (zz_w Y σ)[j]? = none := List.getElem?_eq_none_iff.mpr (by rw [zz_w_len]; omega)
    have h2 : (zz_w Y σ')[j]? = none := List.getElem?_eq_none_iff.mpr (by rw [zz_w_len]; omega)
    rw [h1, h2]
    by_cases h : k = j
    · subst h
      simp [zz_w_len, hj]
    · rw [if_neg h]
theorem zz_set_r {Y : zz_Y} {σ : zz_T} {k : Nat} {f : Nat → Int32} {x : va_E} (hx : x = zz_e Y (Y.1.2 k) f σ.2) : (zz_w Y σ).set k (Y.2.1 k, x) = zz_w Y (zz_r σ k f) := by
  refine zz_w_set ?_ (fun j hj => ?_)
  · rw [hx]; simp [zz_r, va_up]
  · simp [zz_r, va_up, hj]
theorem zz_set_i {Y : zz_Y} {σ : zz_T} {k j : Nat} {v : Int32} {x : va_E} (hx : x = zz_e Y (Y.1.2 k) (upd (σ.1 k) j v) σ.2) : (zz_w Y σ).set k (Y.2.1 k, x) = zz_w Y (zz_i σ k j v) := zz_set_r hx
theorem zz_set_l {Y : zz_Y} {σ : zz_T} {k j : Nat} {v : Int64} {x : va_E} (hx : x = zz_e Y (Y.1.2 k) (σ.1 k) (va_up σ.2 j v)) (ho : ∀ i, i ≠ k → (Y.1.2 i).1 < 6) : (zz_w Y σ).set k (Y.2.1 k, x) = zz_w Y (zz_l σ j v) := by
  refine zz_w_set (by rw [hx]; rfl) (fun i hi => ?_)
  have h := ho i hi
  generalize Y.1.2 i = t at h ⊢
  obtain ⟨a, b, f⟩ := t
  have h : a < 6 := h
  match a, h with
  | 0, _ => rfl | 1, _ => rfl | 2, _ => rfl | 3, _ => rfl | 4, _ => rfl | 5, _ => rfl
def zz_len : List Nat := [5, 5, 4, 5, 4, 4, 6, 5]
def zz_byt : List (List Int32) := [[112, 108, 97, 105, 110], [115, 97, 118, 101, 114], [119, 97, 114, 121], [101, 97, 114, 108, 121], [109, 97, 114, 107], [99, 111, 111, 108], [115, 112, 114, 101, 97, 100], [108, 105, 110, 101, 115]]
def zz_six (i : Nat) : Nat := match i with | 0 => 15 | 1 => 17 | 2 => 19 | 3 => 21 | 4 => 23 | 5 => 25 | 6 => 27 | _ => 29
def zz_stx (i : Nat) : String := match i with | 0 => "plain" | 1 => "saver" | 2 => "wary" | 3 => "early" | 4 => "mark" | 5 => "cool" | 6 => "spread" | _ => "lines"
/-- what the rules and names hold: static arrays -/
def zz_f (i j : Nat) : Int32 := match i, j with
  | 0, 0 => 1 | 0, _ => 0
  | 1, 0 => 60 | 1, 1 => 9 | 1, _ => 3
  | _, 0 => 20 | _, 1 => 3 | _, _ => 0
def zz_sn (i : Nat) : String := match i with | 0 => "LEAST_RULE" | 1 => "MOST_RULE" | _ => "FIRST_RULE"
def zz_S (Y : zz_Y) (U : State) (H : Heap) : Prop := (∀ i, i < 3 → va_Z "HotDots" (zz_sn i) "[I" (.ref (Y.2.2.2 i)) (zz_A Y) U H ∧ va_T .int (Y.2.2.2 i) 3 (fun j => .int (zz_f i j)) (zz_A Y) U H) ∧ va_Z "java/lang/String" "COMPACT_STRINGS" "Z" (.int 1) (zz_A Y) U H ∧ vk_S 8 zz_len zz_byt (fun i => Y.2.2.2 (10 + i)) (fun i => Y.2.2.2 (20 + i)) (zz_A Y) U H
def zz_N (Y : zz_Y) (U : State) : Prop := (va_Nw (.fieldLinkNest "HotDots$Printer" 48 "HotDots" "FIRST_RULE" "[I" "HotDots") U ∧ va_Nw (.fieldLinkNest "HotDots$Tape" 127 "HotDots" "LEAST_RULE" "[I" "HotDots") U ∧ va_Nw (.fieldLinkNest "HotDots$Tape" 131 "HotDots" "MOST_RULE" "[I" "HotDots") U) ∧ ∀ i, i < 8 → vk_R "HotDots$Tape" (zz_six i) (zz_stx i) (Y.2.2.2 (10 + i)) U
theorem zz_S.moved {Y : zz_Y} {u U : State} {H : Heap} (hvm : u.vm.Alike U.vm) (h : zz_S Y u H) : zz_S Y U H := ⟨fun i hi => ⟨(h.1 i hi).1.moved hvm, (h.1 i hi).2.moved hvm⟩, h.2.1.moved hvm, h.2.2.moved hvm⟩
theorem zz_S.kept {Y : zz_Y} {U : State} {H H1 : Heap} (h : zz_S Y U H) (hq : ∀ a : Nat, a < H.size → ¬ zz_A Y a → H1[a]? = H[a]?) : zz_S Y U H1 := ⟨fun i hi => ⟨(h.1 i hi).1.kept hq, (h.1 i hi).2.kept hq⟩, h.2.1.kept hq, h.2.2.kept hq⟩
theorem zz_N.warm {Y : zz_Y} {s U : State} (hW : s.WarmedH U.vm) (h : zz_N Y s) : zz_N Y U := ⟨⟨h.1.1.warmF hW, h.1.2.1.warmF hW, h.1.2.2.warmF hW⟩, fun i hi => (h.2 i hi).warm hW⟩
theorem zz_N.same {Y : zz_Y} {u U : State} (hv : U.vm = u.vm) (h : zz_N Y u) : zz_N Y U := ⟨⟨h.1.1.same rfl hv.symm, h.1.2.1.same rfl hv.symm, h.1.2.2.same rfl hv.symm⟩, fun i hi => (h.2 i hi).same hv⟩
/-- the state of the machine's heap: it holds σ, nothing else has changed -/
def zz_G (Y : zz_Y) (s : State) (σ : zz_T) (H : Heap) (locs : List Loc) : Prop := va_P Y.2.2.1.1 vwCl (zz_w Y σ) H ∧ va_K Y.2.2.1.1 vwCl (zz_ty Y) s ∧ va_S (zz_A Y) s.heap H locs ∧ zz_S Y s s.heap ∧ zz_N Y s ∧ zz_J Y
abbrev zz_X (p : Program) (m : MethodId) (c : Code) (cc : ByteArray) (nL : Nat) (s : State) (args : Array Value) (own : String) : Prop := CallFix p m c cc nL s args zz_tbl own
/-- from every heap that holds σ and locals that hold lv: at pc with the stack st, the machine comes to Q -/
def zz_V (p : Program) (l : Launch) (e : Env) (R : Room) (s : State) (m : MethodId) (args : Array Value) (below : List Frame) (meth : Method) (c : Code) (Q : State → Prop) (nL : Nat) (Y : zz_Y) (σ : zz_T) (pc : Nat) (lv : List (Nat × Value)) (st : List Value) : Prop :=
  ∀ (H : Heap) (locs : List Loc) (ls : Array Slot), zz_G Y s σ H locs → lv_has ls nL lv → W p l e R s m args below meth c H locs 0 0 Q (F0 m pc ls st)
/-- a contract's start, and its ends -/
def zz_B (Y : zz_Y) (σ : zz_T) (U : State) : Prop := va_P Y.2.2.1.1 vwCl (zz_w Y σ) U.heap ∧ va_K Y.2.2.1.1 vwCl (zz_ty Y) U ∧ zz_S Y U U.heap ∧ zz_N Y U
def zz_E (Y : zz_Y) (σ : zz_T) (U : State) : Prop := va_P Y.2.2.1.1 vwCl (zz_w Y σ) U.heap
def zz_Mi (l : Launch) (y : MethodName) (bytes : ByteArray) (maxL : Nat) (ret : Option FieldType) (rm : Room) (Y : zz_Y) (av : List Value) (σ : zz_T) (post : Int32 → zz_T → Prop) : Prop := Met l y (.code y bytes maxL ret :: zz_tbl) rm (va_Pc av (zz_B Y σ)) (va_Qi post (zz_E Y) (zz_A Y)) 0 0 (zz_A Y)
def zz_Ml (l : Launch) (y : MethodName) (bytes : ByteArray) (maxL : Nat) (ret : Option FieldType) (rm : Room) (Y : zz_Y) (av : List Value) (σ : zz_T) (post : Int64 → zz_T → Prop) : Prop := Met l y (.code y bytes maxL ret :: zz_tbl) rm (va_Pc av (zz_B Y σ)) (va_Ql post (zz_E Y) (zz_A Y)) 0 0 (zz_A Y)
def zz_Mv (l : Launch) (y : MethodName) (bytes : ByteArray) (maxL : Nat) (ret : Option FieldType) (rm : Room) (Y : zz_Y) (av : List Value) (σ : zz_T) (post : zz_T → Prop) : Prop := Met l y (.code y bytes maxL ret :: zz_tbl) rm (va_Pc av (zz_B Y σ)) (va_Qv post (zz_E Y) (zz_A Y)) 0 0 (zz_A Y)
/-- a text comes back: its place among the constants -/
def zz_Ms (l : Launch) (y : MethodName) (bytes : ByteArray) (maxL : Nat) (ret : Option FieldType) (rm : Room) (Y : zz_Y) (av : List Value) (σ : zz_T) (post : Nat → zz_T → Prop) : Prop := Met l y (.code y bytes maxL ret :: zz_tbl) rm (va_Pc av (zz_B Y σ)) (va_Qq (fun r u => ∃ i, i < 8 ∧ r = some (Y.2.2.2 (10 + i)) ∧ post i u) (zz_E Y) (zz_A Y)) 0 0 (zz_A Y)
theorem zz_blind (Y : zz_Y) (av : List Value) (σ : zz_T) : FrameBlind (va_Pc av (zz_B Y σ)) := by
  intro a U g mk h
  obtain ⟨h0, h1, h2, h3, h4⟩ := h
  exact ⟨h0, h1, va_K.moved (u := U) (U := U.calling g mk a) (Vm.Alike.refl U.vm) h2, zz_S.moved (u := U) (U := U.calling g mk a) (Vm.Alike.refl U.vm) h3, h4.same rfl⟩

section ZV
variable {p : Program} {l : Launch} {e : Env} {R : Room} {s : State} {m : MethodId} {args : Array Value} {below : List Frame} {meth : Method} {c : Code} {Q : State → Prop} {nL : Nat} {Y : zz_Y} {σ : zz_T} {cc : ByteArray} {own : String} {pc n : Nat} {lv : List (Nat × Value)} {st : List Value}
theorem zz_pre {H : Heap} {locs : List Loc} (hG : zz_G Y s σ H locs) {U : State} (hU : U.heap = H) (hW : s.WarmedH U.vm) : zz_B Y σ U := by
  obtain ⟨h1, h2, h3, h4, h5, -⟩ := hG
  refine ⟨by rw [hU]; exact h1, va_K.moved hW.alike h2, ?_, h5.warm hW⟩
  rw [hU]
  exact (h4.kept (fun a ha hn => h3.2.1 a ha hn)).moved hW.alike
theorem zv_iadd (X : zz_X p m c cc nL s args own) {x y : Int32} (hd : decode cc pc = .ok (.iadd, 1))  (hn : pc + 1 = n) (k : zz_V p l e R s m args below meth c Q nL Y σ n lv (.int (x + y) :: st)) : zz_V p l e R s m args below meth c Q nL Y σ pc lv (.int y :: .int x :: st) := by
  subst hn; intro H locs ls hG hl; exact lv_iadd X.1 X.2.1 hd  (k H locs ls hG hl)
theorem zv_isub (X : zz_X p m c cc nL s args own) {x y : Int32} (hd : decode cc pc = .ok (.isub, 1))  (hn : pc + 1 = n) (k : zz_V p l e R s m args below meth c Q nL Y σ n lv (.int (x - y) :: st)) : zz_V p l e R s m args below meth c Q nL Y σ pc lv (.int y :: .int x :: st) := by
  subst hn; intro H locs ls hG hl; exact lv_isub X.1 X.2.1 hd  (k H locs ls hG hl)
theorem zv_imul (X : zz_X p m c cc nL s args own) {x y : Int32} (hd : decode cc pc = .ok (.imul, 1))  (hn : pc + 1 = n) (k : zz_V p l e R s m args below meth c Q nL Y σ n lv (.int (x * y) :: st)) : zz_V p l e R s m args below meth c Q nL Y σ pc lv (.int y :: .int x :: st) := by
  subst hn; intro H locs ls hG hl; exact lv_imul X.1 X.2.1 hd  (k H locs ls hG hl)
theorem zv_iand (X : zz_X p m c cc nL s args own) {x y : Int32} (hd : decode cc pc = .ok (.iand, 1))  (hn : pc + 1 = n) (k : zz_V p l e R s m args below meth c Q nL Y σ n lv (.int (x &&& y) :: st)) : zz_V p l e R s m args below meth c Q nL Y σ pc lv (.int y :: .int x :: st) := by
  subst hn; intro H locs ls hG hl; exact lv_iand X.1 X.2.1 hd  (k H locs ls hG hl)
theorem zv_ior (X : zz_X p m c cc nL s args own) {x y : Int32} (hd : decode cc pc = .ok (.ior, 1))  (hn : pc + 1 = n) (k : zz_V p l e R s m args below meth c Q nL Y σ n lv (.int (x ||| y) :: st)) : zz_V p l e R s m args below meth c Q nL Y σ pc lv (.int y :: .int x :: st) := by
  subst hn; intro H locs ls hG hl; exact lv_ior X.1 X.2.1 hd  (k H locs ls hG hl)
theorem zv_ixor (X : zz_X p m c cc nL s args own) {x y : Int32} (hd : decode cc pc = .ok (.ixor, 1))  (hn : pc + 1 = n) (k : zz_V p l e R s m args below meth c Q nL Y σ n lv (.int (x ^^^ y) :: st)) : zz_V p l e R s m args below meth c Q nL Y σ pc lv (.int y :: .int x :: st) := by
  subst hn; intro H locs ls hG hl; exact lv_ixor X.1 X.2.1 hd  (k H locs ls hG hl)
theorem zv_ladd (X : zz_X p m c cc nL s args own) {x y : Int64} (hd : decode cc pc = .ok (.ladd, 1))  (hn : pc + 1 = n) (k : zz_V p l e R s m args below meth c Q nL Y σ n lv (.long (x + y) :: st)) : zz_V p l e R s m args below meth c Q nL Y σ pc lv (.long y :: .long x :: st) := by
  subst hn; intro H locs ls hG hl; exact lv_ladd X.1 X.2.1 hd  (k H locs ls hG hl)
theorem zv_lsub (X : zz_X p m c cc nL s args own) {x y : Int64} (hd : decode cc pc = .ok (.lsub, 1))  (hn : pc + 1 = n) (k : zz_V p l e R s m args below meth c Q nL Y σ n lv (.long (x - y) :: st)) : zz_V p l e R s m args below meth c Q nL Y σ pc lv (.long y :: .long x :: st) := by
  subst hn; intro H locs ls hG hl; exact lv_lsub X.1 X.2.1 hd  (k H locs ls hG hl)
theorem zv_lmul (X : zz_X p m c cc nL s args own) {x y : Int64} (hd : decode cc pc = .ok (.lmul, 1))  (hn : pc + 1 = n) (k : zz_V p l e R s m args below meth c Q nL Y σ n lv (.long (x * y) :: st)) : zz_V p l e R s m args below meth c Q nL Y σ pc lv (.long y :: .long x :: st) := by
  subst hn; intro H locs ls hG hl; exact lv_lmul X.1 X.2.1 hd  (k H locs ls hG hl)
theorem zv_ishl (X : zz_X p m c cc nL s args own) {x y : Int32} (hd : decode cc pc = .ok (.ishl, 1))  (hn : pc + 1 = n) (k : zz_V p l e R s m args below meth c Q nL Y σ n lv (.int (x <<< (y &&& 31)) :: st)) : zz_V p l e R s m args below meth c Q nL Y σ pc lv (.int y :: .int x :: st) := by
  subst hn; intro H locs ls hG hl; exact lv_ishl X.1 X.2.1 hd  (k H locs ls hG hl)
theorem zv_ishr (X : zz_X p m c cc nL s args own) {x y : Int32} (hd : decode cc pc = .ok (.ishr, 1))  (hn : pc + 1 = n) (k : zz_V p l e R s m args below meth c Q nL Y σ n lv (.int (x >>> (y &&& 31)) :: st)) : zz_V p l e R s m args below meth c Q nL Y σ pc lv (.int y :: .int x :: st) := by
  subst hn; intro H locs ls hG hl; exact lv_ishr X.1 X.2.1 hd  (k H locs ls hG hl)
theorem zv_iushr (X : zz_X p m c cc nL s args own) {x y : Int32} (hd : decode cc pc = .ok (.iushr, 1))  (hn : pc + 1 = n) (k : zz_V p l e R s m args below meth c Q nL Y σ n lv (.int ((x.toUInt32 >>> (y.toUInt32 &&& Int32.toUInt32 31)).toInt32) :: st)) : zz_V p l e R s m args below meth c Q nL Y σ pc lv (.int y :: .int x :: st) := by
  subst hn; intro H locs ls hG hl; exact lv_iushr X.1 X.2.1 hd rfl (k H locs ls hG hl)
theorem zv_idiv (X : zz_X p m c cc nL s args own) {x y : Int32} (hd : decode cc pc = .ok (.idiv, 1)) (hne : ¬ y = 0) (hn : pc + 1 = n) (k : zz_V p l e R s m args below meth c Q nL Y σ n lv (.int (x / y) :: st)) : zz_V p l e R s m args below meth c Q nL Y σ pc lv (.int y :: .int x :: st) := by
  subst hn; intro H locs ls hG hl; exact lv_idiv X.1 X.2.1 hd hne (k H locs ls hG hl)
theorem zv_irem (X : zz_X p m c cc nL s args own) {x y : Int32} (hd : decode cc pc = .ok (.irem, 1)) (hne : ¬ y = 0) (hn : pc + 1 = n) (k : zz_V p l e R s m args below meth c Q nL Y σ n lv (.int (x - x / y * y) :: st)) : zz_V p l e R s m args below meth c Q nL Y σ pc lv (.int y :: .int x :: st) := by
  subst hn; intro H locs ls hG hl; exact lv_irem X.1 X.2.1 hd hne (k H locs ls hG hl)
theorem zv_ldiv (X : zz_X p m c cc nL s args own) {x y : Int64} (hd : decode cc pc = .ok (.ldiv, 1)) (hne : ¬ y = 0) (hn : pc + 1 = n) (k : zz_V p l e R s m args below meth c Q nL Y σ n lv (.long (x / y) :: st)) : zz_V p l e R s m args below meth c Q nL Y σ pc lv (.long y :: .long x :: st) := by
  subst hn; intro H locs ls hG hl; exact lv_ldiv X.1 X.2.1 hd hne (k H locs ls hG hl)
theorem zv_lrem (X : zz_X p m c cc nL s args own) {x y : Int64} (hd : decode cc pc = .ok (.lrem, 1)) (hne : ¬ y = 0) (hn : pc + 1 = n) (k : zz_V p l e R s m args below meth c Q nL Y σ n lv (.long (x - x / y * y) :: st)) : zz_V p l e R s m args below meth c Q nL Y σ pc lv (.long y :: .long x :: st) := by
  subst hn; intro H locs ls hG hl; exact lv_lrem X.1 X.2.1 hd hne (k H locs ls hG hl)
theorem zv_i2l (X : zz_X p m c cc nL s args own) {x : Int32} (hd : decode cc pc = .ok (.i2l, 1))  (hn : pc + 1 = n) (k : zz_V p l e R s m args below meth c Q nL Y σ n lv (.long x.toInt64 :: st)) : zz_V p l e R s m args below meth c Q nL Y σ pc lv (.int x :: st) := by
  subst hn; intro H locs ls hG hl; exact lv_i2l X.1 X.2.1 hd rfl (k H locs ls hG hl)
theorem zv_i2b (X : zz_X p m c cc nL s args own) {x : Int32} (hd : decode cc pc = .ok (.i2b, 1))  (hn : pc + 1 = n) (k : zz_V p l e R s m args below meth c Q nL Y σ n lv (.int x.toInt8.toInt32 :: st)) : zz_V p l e R s m args below meth c Q nL Y σ pc lv (.int x :: st) := by
  subst hn; intro H locs ls hG hl; exact lv_i2b X.1 X.2.1 hd rfl (k H locs ls hG hl)
theorem zv_i2s (X : zz_X p m c cc nL s args own) {x : Int32} (hd : decode cc pc = .ok (.i2s, 1))  (hn : pc + 1 = n) (k : zz_V p l e R s m args below meth c Q nL Y σ n lv (.int x.toInt16.toInt32 :: st)) : zz_V p l e R s m args below meth c Q nL Y σ pc lv (.int x :: st) := by
  subst hn; intro H locs ls hG hl; exact lv_i2s X.1 X.2.1 hd rfl (k H locs ls hG hl)
theorem zv_i2c (X : zz_X p m c cc nL s args own) {x : Int32} (hd : decode cc pc = .ok (.i2c, 1))  (hn : pc + 1 = n) (k : zz_V p l e R s m args below meth c Q nL Y σ n lv (.int (x.toUInt32 % 65536).toInt32 :: st)) : zz_V p l e R s m args below meth c Q nL Y σ pc lv (.int x :: st) := by
  subst hn; intro H locs ls hG hl; exact lv_i2c X.1 X.2.1 hd rfl (k H locs ls hG hl)
theorem zv_lcmp (X : zz_X p m c cc nL s args own) {x y : Int64} (hd : decode cc pc = .ok (.lcmp, 1))  (hn : pc + 1 = n) (k : zz_V p l e R s m args below meth c Q nL Y σ n lv (.int (lg_cmp x y) :: st)) : zz_V p l e R s m args below meth c Q nL Y σ pc lv (.long y :: .long x :: st) := by
  subst hn; intro H locs ls hG hl; exact W.lcmp X.1 X.2.1 hd  (k H locs ls hG hl)
theorem zv_iconst (X : zz_X p m c cc nL s args own) {z : Int} {v : Int32} (hd : decode cc pc = .ok (.iconst z, 1)) (hv : Int32.ofInt z = v) (hn : pc + 1 = n) (k : zz_V p l e R s m args below meth c Q nL Y σ n lv (.int v :: st)) : zz_V p l e R s m args below meth c Q nL Y σ pc lv st := by
  subst hn; intro H locs ls hG hl; exact lv_iconst X.1 X.2.1 hd hv (k H locs ls hG hl)
theorem zv_bipush (X : zz_X p m c cc nL s args own) {z : Int} {v : Int32} (hd : decode cc pc = .ok (.bipush z, 2)) (hv : (Int8.ofInt z).toInt32 = v) (hn : pc + 2 = n) (k : zz_V p l e R s m args below meth c Q nL Y σ n lv (.int v :: st)) : zz_V p l e R s m args below meth c Q nL Y σ pc lv st := by
  subst hn; intro H locs ls hG hl; exact lv_bipush X.1 X.2.1 hd hv (k H locs ls hG hl)
theorem zv_sipush (X : zz_X p m c cc nL s args own) {z : Int} {v : Int32} (hd : decode cc pc = .ok (.sipush z, 3)) (hv : (Int16.ofInt z).toInt32 = v) (hn : pc + 3 = n) (k : zz_V p l e R s m args below meth c Q nL Y σ n lv (.int v :: st)) : zz_V p l e R s m args below meth c Q nL Y σ pc lv st := by
  subst hn; intro H locs ls hG hl; exact lv_sipush X.1 X.2.1 hd hv (k H locs ls hG hl)
theorem zv_lconst (X : zz_X p m c cc nL s args own) {z : Fin 2} {v : Int64} (hd : decode cc pc = .ok (.lconst z, 1)) (hv : Int64.ofNat (z : Nat) = v) (hn : pc + 1 = n) (k : zz_V p l e R s m args below meth c Q nL Y σ n lv (.long v :: st)) : zz_V p l e R s m args below meth c Q nL Y σ pc lv st := by
  subst hn; intro H locs ls hG hl; exact lv_lconst X.1 X.2.1 hd hv (k H locs ls hG hl)
theorem zv_iload_n (X : zz_X p m c cc nL s args own) {z : Fin 4} {i : Nat} {x : Int32} (hd : decode cc pc = .ok (.iload_n z, 1)) (j : Nat) (hi : (z : Nat) = i) (hk : lv[j]? = some (i, .int x)) (hn : pc + 1 = n) (k : zz_V p l e R s m args below meth c Q nL Y σ n lv (.int x :: st)) : zz_V p l e R s m args below meth c Q nL Y σ pc lv st := by
  subst hn; intro H locs ls hG hl; exact lv_iload_n X.1 X.2.1 hd hi (lv_at hl j hk) (k H locs ls hG hl)
theorem zv_iload (X : zz_X p m c cc nL s args own) {i : Nat} {x : Int32} (hd : decode cc pc = .ok (.iload i, 2)) (j : Nat) (hk : lv[j]? = some (i, .int x)) (hn : pc + 2 = n) (k : zz_V p l e R s m args below meth c Q nL Y σ n lv (.int x :: st)) : zz_V p l e R s m args below meth c Q nL Y σ pc lv st := by
  subst hn; intro H locs ls hG hl; exact lv_iload X.1 X.2.1 hd (lv_at hl j hk) (k H locs ls hG hl)
theorem zv_lload_n (X : zz_X p m c cc nL s args own) {z : Fin 4} {i : Nat} {x : Int64} (hd : decode cc pc = .ok (.lload_n z, 1)) (j : Nat) (hi : (z : Nat) = i) (hk : lv[j]? = some (i, .long x)) (hn : pc + 1 = n) (k : zz_V p l e R s m args below meth c Q nL Y σ n lv (.long x :: st)) : zz_V p l e R s m args below meth c Q nL Y σ pc lv st := by
  subst hn; intro H locs ls hG hl; exact lv_lload_n X.1 X.2.1 hd hi (lv_at hl j hk) (k H locs ls hG hl)
theorem zv_lload (X : zz_X p m c cc nL s args own) {i : Nat} {x : Int64} (hd : decode cc pc = .ok (.lload i, 2)) (j : Nat) (hk : lv[j]? = some (i, .long x)) (hn : pc + 2 = n) (k : zz_V p l e R s m args below meth c Q nL Y σ n lv (.long x :: st)) : zz_V p l e R s m args below meth c Q nL Y σ pc lv st := by
  subst hn; intro H locs ls hG hl; exact lv_lload X.1 X.2.1 hd (lv_at hl j hk) (k H locs ls hG hl)
theorem zv_aload_n (X : zz_X p m c cc nL s args own) {z : Fin 4} {i : Nat} {x : Nat} (hd : decode cc pc = .ok (.aload_n z, 1)) (j : Nat) (hi : (z : Nat) = i) (hk : lv[j]? = some (i, .ref x)) (hn : pc + 1 = n) (k : zz_V p l e R s m args below meth c Q nL Y σ n lv (.ref x :: st)) : zz_V p l e R s m args below meth c Q nL Y σ pc lv st := by
  subst hn; intro H locs ls hG hl; exact lv_aload_n X.1 X.2.1 hd hi (lv_at hl j hk) (k H locs ls hG hl)
theorem zv_aload (X : zz_X p m c cc nL s args own) {i : Nat} {x : Nat} (hd : decode cc pc = .ok (.aload i, 2)) (j : Nat) (hk : lv[j]? = some (i, .ref x)) (hn : pc + 2 = n) (k : zz_V p l e R s m args below meth c Q nL Y σ n lv (.ref x :: st)) : zz_V p l e R s m args below meth c Q nL Y σ pc lv st := by
  subst hn; intro H locs ls hG hl; exact lv_aload X.1 X.2.1 hd (lv_at hl j hk) (k H locs ls hG hl)
theorem zv_dup (X : zz_X p m c cc nL s args own) {va : Value} (hd : decode cc pc = .ok (.dup, 1)) (hv : va.category = 1) (hn : pc + 1 = n) (k : zz_V p l e R s m args below meth c Q nL Y σ n lv (va :: va :: st)) : zz_V p l e R s m args below meth c Q nL Y σ pc lv (va :: st) := by
  subst hn; intro H locs ls hG hl; exact lv_dup X.1 X.2.1 hd hv (k H locs ls hG hl)
theorem zv_pop (X : zz_X p m c cc nL s args own) {va : Value} (hd : decode cc pc = .ok (.pop, 1)) (hv : va.category = 1) (hn : pc + 1 = n) (k : zz_V p l e R s m args below meth c Q nL Y σ n lv st) : zz_V p l e R s m args below meth c Q nL Y σ pc lv (va :: st) := by
  subst hn; intro H locs ls hG hl; exact lv_pop X.1 X.2.1 hd hv (k H locs ls hG hl)
theorem zv_dup2_11 (X : zz_X p m c cc nL s args own) {va vb : Value} (hd : decode cc pc = .ok (.dup2, 1)) (hv : va.category = 1) (hw : vb.category = 1) (hn : pc + 1 = n) (k : zz_V p l e R s m args below meth c Q nL Y σ n lv (va :: vb :: va :: vb :: st)) : zz_V p l e R s m args below meth c Q nL Y σ pc lv (va :: vb :: st) := by
  subst hn; intro H locs ls hG hl; exact lv_dup2_11 X.1 X.2.1 hd hv hw (k H locs ls hG hl)
theorem zv_dup2_2 (X : zz_X p m c cc nL s args own) {va : Value} (hd : decode cc pc = .ok (.dup2, 1)) (hv : va.category = 2) (hn : pc + 1 = n) (k : zz_V p l e R s m args below meth c Q nL Y σ n lv (va :: va :: st)) : zz_V p l e R s m args below meth c Q nL Y σ pc lv (va :: st) := by
  subst hn; intro H locs ls hG hl; exact lv_dup2_2 X.1 X.2.1 hd hv (k H locs ls hG hl)
theorem zv_dup_x1 (X : zz_X p m c cc nL s args own) {va vb : Value} (hd : decode cc pc = .ok (.dup_x1, 1)) (hv : va.category = 1) (hw : vb.category = 1) (hn : pc + 1 = n) (k : zz_V p l e R s m args below meth c Q nL Y σ n lv (va :: vb :: va :: st)) : zz_V p l e R s m args below meth c Q nL Y σ pc lv (va :: vb :: st) := by
  subst hn; intro H locs ls hG hl; exact lv_dup_x1 X.1 X.2.1 hd hv hw (k H locs ls hG hl)
theorem zv_ldc (X : zz_X p m c cc nL s args own) {i : Nat} {v : Int32} (hd : decode cc pc = .ok (.ldc i, 2)) (hc : Cond.constant own i v ∈ zz_tbl) (hn : pc + 2 = n) (k : zz_V p l e R s m args below meth c Q nL Y σ n lv (.int v :: st)) : zz_V p l e R s m args below meth c Q nL Y σ pc lv st := by
  subst hn; intro H locs ls hG hl; exact (fun hx hb hd2 k2 => lv_ldc (own := own) hx hb X.2.2.2.1 (X.2.2.2.2 _ hc) hd2 k2) X.1 X.2.1 hd  (k H locs ls hG hl)
theorem zv_ldcw (X : zz_X p m c cc nL s args own) {i : Nat} {v : Int32} (hd : decode cc pc = .ok (.ldc_w i, 3)) (hc : Cond.constant own i v ∈ zz_tbl) (hn : pc + 3 = n) (k : zz_V p l e R s m args below meth c Q nL Y σ n lv (.int v :: st)) : zz_V p l e R s m args below meth c Q nL Y σ pc lv st := by
  subst hn; intro H locs ls hG hl; exact (fun hx hb hd2 k2 => lv_ldcw (own := own) hx hb X.2.2.2.1 (X.2.2.2.2 _ hc) hd2 k2) X.1 X.2.1 hd  (k H locs ls hG hl)
theorem zv_ldc2 (X : zz_X p m c cc nL s args own) {i : Nat} {v : Int64} (hd : decode cc pc = .ok (.ldc2_w i, 3)) (hc : Cond.constantLong own i v ∈ zz_tbl) (hn : pc + 3 = n) (k : zz_V p l e R s m args below meth c Q nL Y σ n lv (.long v :: st)) : zz_V p l e R s m args below meth c Q nL Y σ pc lv st := by
  subst hn; intro H locs ls hG hl; exact (fun hx hb hd2 k2 => lv_ldc2 (own := own) hx hb X.2.2.2.1 (X.2.2.2.2 _ hc) hd2 k2) X.1 X.2.1 hd  (k H locs ls hG hl)
theorem zv_istore_n (X : zz_X p m c cc nL s args own) {z : Fin 4} {i : Nat} {x : Int32} {lv2 : List (Nat × Value)} (hd : decode cc pc = .ok (.istore_n z, 1)) (hi : (z : Nat) = i) (hb : i < nL) (hl2 : (i, Value.int x) :: lv.filter (fun q => !(q.1 == i) && !(q.1 + 1 == i && q.2.category == 2)) = lv2) (hn : pc + 1 = n) (k : zz_V p l e R s m args below meth c Q nL Y σ n lv2 st) : zz_V p l e R s m args below meth c Q nL Y σ pc lv (.int x :: st) := by
  subst hn; intro H locs ls hG hl; exact lv_istore_n X.1 X.2.1 hd hi hl hb hl2 (fun ls2 h2 => k H locs ls2 hG h2)
theorem zv_istore (X : zz_X p m c cc nL s args own) {i : Nat} {x : Int32} {lv2 : List (Nat × Value)} (hd : decode cc pc = .ok (.istore i, 2)) (hb : i < nL) (hl2 : (i, Value.int x) :: lv.filter (fun q => !(q.1 == i) && !(q.1 + 1 == i && q.2.category == 2)) = lv2) (hn : pc + 2 = n) (k : zz_V p l e R s m args below meth c Q nL Y σ n lv2 st) : zz_V p l e R s m args below meth c Q nL Y σ pc lv (.int x :: st) := by
  subst hn; intro H locs ls hG hl; exact lv_istore X.1 X.2.1 hd hl hb hl2 (fun ls2 h2 => k H locs ls2 hG h2)
theorem zv_astore_n (X : zz_X p m c cc nL s args own) {z : Fin 4} {i : Nat} {x : Nat} {lv2 : List (Nat × Value)} (hd : decode cc pc = .ok (.astore_n z, 1)) (hi : (z : Nat) = i) (hb : i < nL) (hl2 : (i, Value.ref x) :: lv.filter (fun q => !(q.1 == i) && !(q.1 + 1 == i && q.2.category == 2)) = lv2) (hn : pc + 1 = n) (k : zz_V p l e R s m args below meth c Q nL Y σ n lv2 st) : zz_V p l e R s m args below meth c Q nL Y σ pc lv (.ref x :: st) := by
  subst hn; intro H locs ls hG hl; exact lv_astore_n X.1 X.2.1 hd hi hl hb hl2 (fun ls2 h2 => k H locs ls2 hG h2)
theorem zv_astore (X : zz_X p m c cc nL s args own) {i : Nat} {x : Nat} {lv2 : List (Nat × Value)} (hd : decode cc pc = .ok (.astore i, 2)) (hb : i < nL) (hl2 : (i, Value.ref x) :: lv.filter (fun q => !(q.1 == i) && !(q.1 + 1 == i && q.2.category == 2)) = lv2) (hn : pc + 2 = n) (k : zz_V p l e R s m args below meth c Q nL Y σ n lv2 st) : zz_V p l e R s m args below meth c Q nL Y σ pc lv (.ref x :: st) := by
  subst hn; intro H locs ls hG hl; exact lv_astore X.1 X.2.1 hd hl hb hl2 (fun ls2 h2 => k H locs ls2 hG h2)
theorem zv_lstore_n (X : zz_X p m c cc nL s args own) {z : Fin 4} {i : Nat} {x : Int64} {lv2 : List (Nat × Value)} (hd : decode cc pc = .ok (.lstore_n z, 1)) (hi : (z : Nat) = i) (hb : i + 1 < nL) (hl2 : (i, Value.long x) :: lv.filter (fun q => !(q.1 == i) && (!(q.1 == i + 1) && !(q.1 + 1 == i && q.2.category == 2))) = lv2) (hn : pc + 1 = n) (k : zz_V p l e R s m args below meth c Q nL Y σ n lv2 st) : zz_V p l e R s m args below meth c Q nL Y σ pc lv (.long x :: st) := by
  subst hn; intro H locs ls hG hl; exact lv_lstore_n X.1 X.2.1 hd hi hl hb hl2 (fun ls2 h2 => k H locs ls2 hG h2)
theorem zv_lstore (X : zz_X p m c cc nL s args own) {i : Nat} {x : Int64} {lv2 : List (Nat × Value)} (hd : decode cc pc = .ok (.lstore i, 2)) (hb : i + 1 < nL) (hl2 : (i, Value.long x) :: lv.filter (fun q => !(q.1 == i) && (!(q.1 == i + 1) && !(q.1 + 1 == i && q.2.category == 2))) = lv2) (hn : pc + 2 = n) (k : zz_V p l e R s m args below meth c Q nL Y σ n lv2 st) : zz_V p l e R s m args below meth c Q nL Y σ pc lv (.long x :: st) := by
  subst hn; intro H locs ls hG hl; exact lv_lstore X.1 X.2.1 hd hl hb hl2 (fun ls2 h2 => k H locs ls2 hG h2)
theorem zv_iinc (X : zz_X p m c cc nL s args own) {i : Nat} {z : Int} {x v : Int32} {lv2 : List (Nat × Value)} (hd : decode cc pc = .ok (.iinc i z, 3)) (j : Nat) (hk : lv[j]? = some (i, .int x)) (hv : x + Int32.ofInt z = v) (hb : i < nL) (hl2 : (i, Value.int v) :: lv.filter (fun q => !(q.1 == i) && !(q.1 + 1 == i && q.2.category == 2)) = lv2) (hn : pc + 3 = n) (k : zz_V p l e R s m args below meth c Q nL Y σ n lv2 st) : zz_V p l e R s m args below meth c Q nL Y σ pc lv st := by
  subst hn; intro H locs ls hG hl; exact lv_iinc X.1 X.2.1 hd hl hk hv hb hl2 (fun ls2 h2 => k H locs ls2 hG h2)
theorem zv_sub {lv2 : List (Nat × Value)} (ks : List Nat) (h : lv_pick lv ks = lv2) (k : zz_V p l e R s m args below meth c Q nL Y σ pc lv2 st) : zz_V p l e R s m args below meth c Q nL Y σ pc lv st := by
  intro H locs ls hG hl; exact k H locs ls hG (lv_sub hl ks h)
theorem zv_if_eq (X : zz_X p m c cc nL s args own) {x : Int32} {off : Int} {tgt : Nat} (hd : decode cc pc = .ok (.ifCond .eq off, 3)) (ht : (pc : Int) + off = (tgt : Int)) (hn : pc + 3 = n) (kt : x = 0 → zz_V p l e R s m args below meth c Q nL Y σ tgt lv st) (kf : ¬ (x = 0) → zz_V p l e R s m args below meth c Q nL Y σ n lv st) : zz_V p l e R s m args below meth c Q nL Y σ pc lv (.int x :: st) := by
  subst hn; intro H locs ls hG hl; exact lv_if_eq X.1 X.2.1 hd ht (fun h => kt h H locs ls hG hl) (fun h => kf h H locs ls hG hl)
theorem zv_if_ne (X : zz_X p m c cc nL s args own) {x : Int32} {off : Int} {tgt : Nat} (hd : decode cc pc = .ok (.ifCond .ne off, 3)) (ht : (pc : Int) + off = (tgt : Int)) (hn : pc + 3 = n) (kt : ¬ x = 0 → zz_V p l e R s m args below meth c Q nL Y σ tgt lv st) (kf : x = 0 → zz_V p l e R s m args below meth c Q nL Y σ n lv st) : zz_V p l e R s m args below meth c Q nL Y σ pc lv (.int x :: st) := by
  subst hn; intro H locs ls hG hl; exact lv_if_ne X.1 X.2.1 hd ht (fun h => kt h H locs ls hG hl) (fun h => kf h H locs ls hG hl)
theorem zv_if_lt (X : zz_X p m c cc nL s args own) {x : Int32} {off : Int} {tgt : Nat} (hd : decode cc pc = .ok (.ifCond .lt off, 3)) (ht : (pc : Int) + off = (tgt : Int)) (hn : pc + 3 = n) (kt : x < 0 → zz_V p l e R s m args below meth c Q nL Y σ tgt lv st) (kf : ¬ (x < 0) → zz_V p l e R s m args below meth c Q nL Y σ n lv st) : zz_V p l e R s m args below meth c Q nL Y σ pc lv (.int x :: st) := by
  subst hn; intro H locs ls hG hl; exact lv_if_lt X.1 X.2.1 hd ht (fun h => kt h H locs ls hG hl) (fun h => kf h H locs ls hG hl)
theorem zv_if_ge (X : zz_X p m c cc nL s args own) {x : Int32} {off : Int} {tgt : Nat} (hd : decode cc pc = .ok (.ifCond .ge off, 3)) (ht : (pc : Int) + off = (tgt : Int)) (hn : pc + 3 = n) (kt : 0 ≤ x → zz_V p l e R s m args below meth c Q nL Y σ tgt lv st) (kf : ¬ (0 ≤ x) → zz_V p l e R s m args below meth c Q nL Y σ n lv st) : zz_V p l e R s m args below meth c Q nL Y σ pc lv (.int x :: st) := by
  subst hn; intro H locs ls hG hl; exact lv_if_ge X.1 X.2.1 hd ht (fun h => kt h H locs ls hG hl) (fun h => kf h H locs ls hG hl)
theorem zv_if_gt (X : zz_X p m c cc nL s args own) {x : Int32} {off : Int} {tgt : Nat} (hd : decode cc pc = .ok (.ifCond .gt off, 3)) (ht : (pc : Int) + off = (tgt : Int)) (hn : pc + 3 = n) (kt : 0 < x → zz_V p l e R s m args below meth c Q nL Y σ tgt lv st) (kf : ¬ (0 < x) → zz_V p l e R s m args below meth c Q nL Y σ n lv st) : zz_V p l e R s m args below meth c Q nL Y σ pc lv (.int x :: st) := by
  subst hn; intro H locs ls hG hl; exact lv_if_gt X.1 X.2.1 hd ht (fun h => kt h H locs ls hG hl) (fun h => kf h H locs ls hG hl)
theorem zv_if_le (X : zz_X p m c cc nL s args own) {x : Int32} {off : Int} {tgt : Nat} (hd : decode cc pc = .ok (.ifCond .le off, 3)) (ht : (pc : Int) + off = (tgt : Int)) (hn : pc + 3 = n) (kt : x ≤ 0 → zz_V p l e R s m args below meth c Q nL Y σ tgt lv st) (kf : ¬ (x ≤ 0) → zz_V p l e R s m args below meth c Q nL Y σ n lv st) : zz_V p l e R s m args below meth c Q nL Y σ pc lv (.int x :: st) := by
  subst hn; intro H locs ls hG hl; exact lv_if_le X.1 X.2.1 hd ht (fun h => kt h H locs ls hG hl) (fun h => kf h H locs ls hG hl)
theorem zv_icmp_eq (X : zz_X p m c cc nL s args own) {x y : Int32} {off : Int} {tgt : Nat} (hd : decode cc pc = .ok (.if_icmp .eq off, 3)) (ht : (pc : Int) + off = (tgt : Int)) (hn : pc + 3 = n) (kt : x = y → zz_V p l e R s m args below meth c Q nL Y σ tgt lv st) (kf : ¬ (x = y) → zz_V p l e R s m args below meth c Q nL Y σ n lv st) : zz_V p l e R s m args below meth c Q nL Y σ pc lv (.int y :: .int x :: st) := by
  subst hn; intro H locs ls hG hl; exact lv_icmp_eq X.1 X.2.1 hd ht (fun h => kt h H locs ls hG hl) (fun h => kf h H locs ls hG hl)
theorem zv_icmp_ne (X : zz_X p m c cc nL s args own) {x y : Int32} {off : Int} {tgt : Nat} (hd : decode cc pc = .ok (.if_icmp .ne off, 3)) (ht : (pc : Int) + off = (tgt : Int)) (hn : pc + 3 = n) (kt : ¬ x = y → zz_V p l e R s m args below meth c Q nL Y σ tgt lv st) (kf : x = y → zz_V p l e R s m args below meth c Q nL Y σ n lv st) : zz_V p l e R s m args below meth c Q nL Y σ pc lv (.int y :: .int x :: st) := by
  subst hn; intro H locs ls hG hl; exact lv_icmp_ne X.1 X.2.1 hd ht (fun h => kt h H locs ls hG hl) (fun h => kf h H locs ls hG hl)
theorem zv_icmp_lt (X : zz_X p m c cc nL s args own) {x y : Int32} {off : Int} {tgt : Nat} (hd : decode cc pc = .ok (.if_icmp .lt off, 3)) (ht : (pc : Int) + off = (tgt : Int)) (hn : pc + 3 = n) (kt : x < y → zz_V p l e R s m args below meth c Q nL Y σ tgt lv st) (kf : ¬ (x < y) → zz_V p l e R s m args below meth c Q nL Y σ n lv st) : zz_V p l e R s m args below meth c Q nL Y σ pc lv (.int y :: .int x :: st) := by
  subst hn; intro H locs ls hG hl; exact lv_icmp_lt X.1 X.2.1 hd ht (fun h => kt h H locs ls hG hl) (fun h => kf h H locs ls hG hl)
theorem zv_icmp_ge (X : zz_X p m c cc nL s args own) {x y : Int32} {off : Int} {tgt : Nat} (hd : decode cc pc = .ok (.if_icmp .ge off, 3)) (ht : (pc : Int) + off = (tgt : Int)) (hn : pc + 3 = n) (kt : y ≤ x → zz_V p l e R s m args below meth c Q nL Y σ tgt lv st) (kf : ¬ (y ≤ x) → zz_V p l e R s m args below meth c Q nL Y σ n lv st) : zz_V p l e R s m args below meth c Q nL Y σ pc lv (.int y :: .int x :: st) := by
  subst hn; intro H locs ls hG hl; exact lv_icmp_ge X.1 X.2.1 hd ht (fun h => kt h H locs ls hG hl) (fun h => kf h H locs ls hG hl)
theorem zv_icmp_gt (X : zz_X p m c cc nL s args own) {x y : Int32} {off : Int} {tgt : Nat} (hd : decode cc pc = .ok (.if_icmp .gt off, 3)) (ht : (pc : Int) + off = (tgt : Int)) (hn : pc + 3 = n) (kt : y < x → zz_V p l e R s m args below meth c Q nL Y σ tgt lv st) (kf : ¬ (y < x) → zz_V p l e R s m args below meth c Q nL Y σ n lv st) : zz_V p l e R s m args below meth c Q nL Y σ pc lv (.int y :: .int x :: st) := by
  subst hn; intro H locs ls hG hl; exact lv_icmp_gt X.1 X.2.1 hd ht (fun h => kt h H locs ls hG hl) (fun h => kf h H locs ls hG hl)
theorem zv_icmp_le (X : zz_X p m c cc nL s args own) {x y : Int32} {off : Int} {tgt : Nat} (hd : decode cc pc = .ok (.if_icmp .le off, 3)) (ht : (pc : Int) + off = (tgt : Int)) (hn : pc + 3 = n) (kt : x ≤ y → zz_V p l e R s m args below meth c Q nL Y σ tgt lv st) (kf : ¬ (x ≤ y) → zz_V p l e R s m args below meth c Q nL Y σ n lv st) : zz_V p l e R s m args below meth c Q nL Y σ pc lv (.int y :: .int x :: st) := by
  subst hn; intro H locs ls hG hl; exact lv_icmp_le X.1 X.2.1 hd ht (fun h => kt h H locs ls hG hl) (fun h => kf h H locs ls hG hl)
theorem zv_goto (X : zz_X p m c cc nL s args own) {off : Int} {tgt : Nat} (hd : decode cc pc = .ok (.goto off, 3)) (ht : (pc : Int) + off = (tgt : Int)) (k : zz_V p l e R s m args below meth c Q nL Y σ tgt lv st) : zz_V p l e R s m args below meth c Q nL Y σ pc lv st := by
  intro H locs ls hG hl; exact lv_goto X.1 X.2.1 hd ht (k H locs ls hG hl)
theorem zv_tableIn (X : zz_X p m c cc nL s args own) {dflt lo hi : Int} {offs : Array Int} {len : Nat} {x : Int32} (v : Int32) {off : Int} {tgt : Nat} (hd : decode cc pc = .ok (.tableswitch dflt lo hi offs, len)) (hx : x = v) (h : (¬ v.toInt < lo ∧ ¬ hi < v.toInt) ∧ offs[(v.toInt - lo).toNat]? = some off) (ht : (pc : Int) + off = (tgt : Int)) (k : zz_V p l e R s m args below meth c Q nL Y σ tgt lv st) : zz_V p l e R s m args below meth c Q nL Y σ pc lv (.int x :: st) := by
  subst hx; intro H locs ls hG hl; exact lv_tableIn X.1 X.2.1 hd h.1.1 h.1.2 h.2 ht (k H locs ls hG hl)
theorem zv_tableOut (X : zz_X p m c cc nL s args own) {dflt lo hi : Int} {offs : Array Int} {len : Nat} {x : Int32} {tgt : Nat} (hd : decode cc pc = .ok (.tableswitch dflt lo hi offs, len)) (h : x.toInt < lo ∨ hi < x.toInt) (ht : (pc : Int) + dflt = (tgt : Int)) (k : zz_V p l e R s m args below meth c Q nL Y σ tgt lv st) : zz_V p l e R s m args below meth c Q nL Y σ pc lv (.int x :: st) := by
  intro H locs ls hG hl; exact lv_tableOut X.1 X.2.1 hd h ht (k H locs ls hG hl)
theorem zv_lookup (X : zz_X p m c cc nL s args own) {dflt : Int} {ps : Array (Int × Int)} {len : Nat} {x : Int32} {off : Int} {tgt : Nat} (hd : decode cc pc = .ok (.lookupswitch dflt ps, len)) (hp : (ps.toList.zip (ps.toList.drop 1)).all (fun (a, next) => a.1 < next.1) = true) (ho : Op.lookupswitch.offset ps.toList dflt x.toInt = off) (ht : (pc : Int) + off = (tgt : Int)) (k : zz_V p l e R s m args below meth c Q nL Y σ tgt lv st) : zz_V p l e R s m args below meth c Q nL Y σ pc lv (.int x :: st) := by
  intro H locs ls hG hl; exact lv_lookup X.1 X.2.1 hd hp ho ht (k H locs ls hG hl)
theorem zv_get (X : zz_X p m c cc nL s args own) {k : Nat} (hk : k < Y.1.1) {ci : Nat} {fs : List Value} (he : zz_e Y (Y.1.2 k) (σ.1 k) σ.2 = .inr (ci, fs)) {C : String} {T : u_T} {Nf : Nat} (hc : vwCl[ci]? = some (C, T, Nf)) (hin : ∀ w ∈ u_ws C T Nf, w ∈ zz_tbl) (j : Nat) (hj : j < Nf) {idx : Nat} {v : Value} (hv : fs[j]? = some v) (hlink : Cond.fieldLink own idx (T j).1 (T j).2.1 (T j).2.2.1 ∈ zz_tbl) (hd : decode cc pc = .ok (.getfield idx, 3)) (hn : pc + 3 = n) (K : zz_V p l e R s m args below meth c Q nL Y σ n lv (v :: st)) : zz_V p l e R s m args below meth c Q nL Y σ pc lv (.ref (Y.2.1 k) :: st) := by
  subst hn; intro H locs ls hG hl
  exact va_get X.1 X.2.1 X.2.2.2.2 hin X.2.2.2.1 hG.2.1 hG.1 k (by rw [zz_w_at hk, he]) hc j hj (X.2.2.2.2 _ hlink) (fun _ h => h) hv hd (K H locs ls hG hl)
theorem zv_put (X : zz_X p m c cc nL s args own) {k : Nat} (hk : k < Y.1.1) {ci : Nat} {fs : List Value} (he : zz_e Y (Y.1.2 k) (σ.1 k) σ.2 = .inr (ci, fs)) {C : String} {T : u_T} {Nf : Nat} (hc : vwCl[ci]? = some (C, T, Nf)) (hin : ∀ w ∈ u_ws C T Nf, w ∈ zz_tbl) (ty0 : Nat → FieldType) (hty : ∀ k, k < Nf → parseFieldDescriptor (T k).2.2.1 = some (ty0 k)) (hnm : ∀ a, a < Nf → ∀ b, b < Nf → a ≠ b → (T a).2.1 ≠ (T b).2.1) (j : Nat) (hj : j < Nf) (hfin : (T j).2.2.2 = false) {idx : Nat} {v : Value} (hnar : narrow (ty0 j) v = v) (hfit : fits (ty0 j) v = true) (hl2 : j < fs.length) {σ2 : zz_T} (hset : (zz_w Y σ).set k (Y.2.1 k, .inr (ci, fs.set j v)) = zz_w Y σ2) (hlink : Cond.fieldLink own idx (T j).1 (T j).2.1 (T j).2.2.1 ∈ zz_tbl) (hd : decode cc pc = .ok (.putfield idx, 3)) (hn : pc + 3 = n) (K : zz_V p l e R s m args below meth c Q nL Y σ2 n lv st) : zz_V p l e R s m args below meth c Q nL Y σ pc lv (v :: .ref (Y.2.1 k) :: st) := by
  subst hn; intro H locs ls hG hl
  refine va_put X.1 X.2.1 X.2.2.2.2 hin ty0 hty hnm X.2.2.2.1 hG.2.1 hG.1 (zz_D hG.2.2.2.2.2 σ) hG.2.2.1 k (by rw [zz_w_at hk, he]) hc j hj (X.2.2.2.2 _ hlink) (fun _ h => h) hfin (hty j hj) hnar hfit hl2 hd (fun H1 locs1 hP hD hS => ?_)
  rw [hset] at hP
  exact K H1 locs1 ls ⟨hP, hG.2.1, hS, hG.2.2.2⟩ hl
theorem zg_X0_0 (X : zz_X p m c cc nL s args own) {k : Nat} {f : Nat → Nat} (hk : k < Y.1.1) (ht : Y.1.2 k = (10, 0, f)) {idx : Nat} (hlink : Cond.fieldLink own idx "HotDots$Head" "heat" "[I" ∈ zz_tbl) (hd : decode cc pc = .ok (.getfield idx, 3)) (hn : pc + 3 = n) (K : zz_V p l e R s m args below meth c Q nL Y σ n lv (.ref (Y.2.1 (f 0)) :: st)) : zz_V p l e R s m args below meth c Q nL Y σ pc lv (.ref (Y.2.1 k) :: st) :=
  zv_get X hk (by rw [ht]; rfl) (C := RX0) (T := TX0) (Nf := 5) rfl zz_u0 0 (by decide) rfl hlink hd hn K
theorem zg_X0_1 (X : zz_X p m c cc nL s args own) {k : Nat} {f : Nat → Nat} (hk : k < Y.1.1) (ht : Y.1.2 k = (10, 0, f)) {idx : Nat} (hlink : Cond.fieldLink own idx "HotDots$Head" "hot" "[I" ∈ zz_tbl) (hd : decode cc pc = .ok (.getfield idx, 3)) (hn : pc + 3 = n) (K : zz_V p l e R s m args below meth c Q nL Y σ n lv (.ref (Y.2.1 (f 1)) :: st)) : zz_V p l e R s m args below meth c Q nL Y σ pc lv (.ref (Y.2.1 k) :: st) :=
  zv_get X hk (by rw [ht]; rfl) (C := RX0) (T := TX0) (Nf := 5) rfl zz_u0 1 (by decide) rfl hlink hd hn K
theorem zg_X0_2 (X : zz_X p m c cc nL s args own) {k : Nat} {f : Nat → Nat} (hk : k < Y.1.1) (ht : Y.1.2 k = (10, 0, f)) {idx : Nat} (hlink : Cond.fieldLink own idx "HotDots$Head" "kind" "I" ∈ zz_tbl) (hd : decode cc pc = .ok (.getfield idx, 3)) (hn : pc + 3 = n) (K : zz_V p l e R s m args below meth c Q nL Y σ n lv (.int (σ.1 k 2) :: st)) : zz_V p l e R s m args below meth c Q nL Y σ pc lv (.ref (Y.2.1 k) :: st) :=
  zv_get X hk (by rw [ht]; rfl) (C := RX0) (T := TX0) (Nf := 5) rfl zz_u0 2 (by decide) rfl hlink hd hn K
theorem zp_X0_2 (X : zz_X p m c cc nL s args own) {k : Nat} {f : Nat → Nat} (hk : k < Y.1.1) (ht : Y.1.2 k = (10, 0, f)) {idx : Nat} {v : Int32} (hlink : Cond.fieldLink own idx "HotDots$Head" "kind" "I" ∈ zz_tbl) (hd : decode cc pc = .ok (.putfield idx, 3)) (hn : pc + 3 = n) (K : zz_V p l e R s m args below meth c Q nL Y (zz_i σ k 2 v) n lv st) : zz_V p l e R s m args below meth c Q nL Y σ pc lv (.int v :: .ref (Y.2.1 k) :: st) :=
  zv_put X hk (by rw [ht]; rfl) (C := RX0) (T := TX0) (Nf := 5) rfl zz_u0 tyX0 tyX0_ok nmX0 2 (by decide) rfl rfl rfl (by show 2 < 5; decide) (zz_set_i (by rw [ht]; rfl)) hlink hd hn K
theorem zg_X0_3 (X : zz_X p m c cc nL s args own) {k : Nat} {f : Nat → Nat} (hk : k < Y.1.1) (ht : Y.1.2 k = (10, 0, f)) {idx : Nat} (hlink : Cond.fieldLink own idx "HotDots$Head" "power" "I" ∈ zz_tbl) (hd : decode cc pc = .ok (.getfield idx, 3)) (hn : pc + 3 = n) (K : zz_V p l e R s m args below meth c Q nL Y σ n lv (.int (σ.1 k 3) :: st)) : zz_V p l e R s m args below meth c Q nL Y σ pc lv (.ref (Y.2.1 k) :: st) :=
  zv_get X hk (by rw [ht]; rfl) (C := RX0) (T := TX0) (Nf := 5) rfl zz_u0 3 (by decide) rfl hlink hd hn K
theorem zp_X0_3 (X : zz_X p m c cc nL s args own) {k : Nat} {f : Nat → Nat} (hk : k < Y.1.1) (ht : Y.1.2 k = (10, 0, f)) {idx : Nat} {v : Int32} (hlink : Cond.fieldLink own idx "HotDots$Head" "power" "I" ∈ zz_tbl) (hd : decode cc pc = .ok (.putfield idx, 3)) (hn : pc + 3 = n) (K : zz_V p l e R s m args below meth c Q nL Y (zz_i σ k 3 v) n lv st) : zz_V p l e R s m args below meth c Q nL Y σ pc lv (.int v :: .ref (Y.2.1 k) :: st) :=
  zv_put X hk (by rw [ht]; rfl) (C := RX0) (T := TX0) (Nf := 5) rfl zz_u0 tyX0 tyX0_ok nmX0 3 (by decide) rfl rfl rfl (by show 3 < 5; decide) (zz_set_i (by rw [ht]; rfl)) hlink hd hn K
theorem zg_X0_4 (X : zz_X p m c cc nL s args own) {k : Nat} {f : Nat → Nat} (hk : k < Y.1.1) (ht : Y.1.2 k = (10, 0, f)) {idx : Nat} (hlink : Cond.fieldLink own idx "HotDots$Head" "wrong" "I" ∈ zz_tbl) (hd : decode cc pc = .ok (.getfield idx, 3)) (hn : pc + 3 = n) (K : zz_V p l e R s m args below meth c Q nL Y σ n lv (.int (σ.1 k 4) :: st)) : zz_V p l e R s m args below meth c Q nL Y σ pc lv (.ref (Y.2.1 k) :: st) :=
  zv_get X hk (by rw [ht]; rfl) (C := RX0) (T := TX0) (Nf := 5) rfl zz_u0 4 (by decide) rfl hlink hd hn K
theorem zp_X0_4 (X : zz_X p m c cc nL s args own) {k : Nat} {f : Nat → Nat} (hk : k < Y.1.1) (ht : Y.1.2 k = (10, 0, f)) {idx : Nat} {v : Int32} (hlink : Cond.fieldLink own idx "HotDots$Head" "wrong" "I" ∈ zz_tbl) (hd : decode cc pc = .ok (.putfield idx, 3)) (hn : pc + 3 = n) (K : zz_V p l e R s m args below meth c Q nL Y (zz_i σ k 4 v) n lv st) : zz_V p l e R s m args below meth c Q nL Y σ pc lv (.int v :: .ref (Y.2.1 k) :: st) :=
  zv_put X hk (by rw [ht]; rfl) (C := RX0) (T := TX0) (Nf := 5) rfl zz_u0 tyX0 tyX0_ok nmX0 4 (by decide) rfl rfl rfl (by show 4 < 5; decide) (zz_set_i (by rw [ht]; rfl)) hlink hd hn K
theorem zg_X1_0 (X : zz_X p m c cc nL s args own) {k : Nat} {f : Nat → Nat} (hk : k < Y.1.1) (ht : Y.1.2 k = (11, 0, f)) {idx : Nat} (hlink : Cond.fieldLink own idx "HotDots$Printer" "heads" "[LHotDots$Head;" ∈ zz_tbl) (hd : decode cc pc = .ok (.getfield idx, 3)) (hn : pc + 3 = n) (K : zz_V p l e R s m args below meth c Q nL Y σ n lv (.ref (Y.2.1 (f 0)) :: st)) : zz_V p l e R s m args below meth c Q nL Y σ pc lv (.ref (Y.2.1 k) :: st) :=
  zv_get X hk (by rw [ht]; rfl) (C := RX1) (T := TX1) (Nf := 8) rfl zz_u1 0 (by decide) rfl hlink hd hn K
theorem zg_X1_1 (X : zz_X p m c cc nL s args own) {k : Nat} {f : Nat → Nat} (hk : k < Y.1.1) (ht : Y.1.2 k = (11, 0, f)) {idx : Nat} (hlink : Cond.fieldLink own idx "HotDots$Printer" "lines" "[I" ∈ zz_tbl) (hd : decode cc pc = .ok (.getfield idx, 3)) (hn : pc + 3 = n) (K : zz_V p l e R s m args below meth c Q nL Y σ n lv (.ref (Y.2.1 (f 1)) :: st)) : zz_V p l e R s m args below meth c Q nL Y σ pc lv (.ref (Y.2.1 k) :: st) :=
  zv_get X hk (by rw [ht]; rfl) (C := RX1) (T := TX1) (Nf := 8) rfl zz_u1 1 (by decide) rfl hlink hd hn K
theorem zg_X1_2 (X : zz_X p m c cc nL s args own) {k : Nat} {f : Nat → Nat} (hk : k < Y.1.1) (ht : Y.1.2 k = (11, 0, f)) {idx : Nat} (hlink : Cond.fieldLink own idx "HotDots$Printer" "rules" "[I" ∈ zz_tbl) (hd : decode cc pc = .ok (.getfield idx, 3)) (hn : pc + 3 = n) (K : zz_V p l e R s m args below meth c Q nL Y σ n lv (.ref (Y.2.1 (f 2)) :: st)) : zz_V p l e R s m args below meth c Q nL Y σ pc lv (.ref (Y.2.1 k) :: st) :=
  zv_get X hk (by rw [ht]; rfl) (C := RX1) (T := TX1) (Nf := 8) rfl zz_u1 2 (by decide) rfl hlink hd hn K
theorem zg_X1_3 (X : zz_X p m c cc nL s args own) {k : Nat} {f : Nat → Nat} (hk : k < Y.1.1) (ht : Y.1.2 k = (11, 0, f)) {idx : Nat} (hlink : Cond.fieldLink own idx "HotDots$Printer" "seen" "LHotDots$Seen;" ∈ zz_tbl) (hd : decode cc pc = .ok (.getfield idx, 3)) (hn : pc + 3 = n) (K : zz_V p l e R s m args below meth c Q nL Y σ n lv (.ref (Y.2.1 (f 3)) :: st)) : zz_V p l e R s m args below meth c Q nL Y σ pc lv (.ref (Y.2.1 k) :: st) :=
  zv_get X hk (by rw [ht]; rfl) (C := RX1) (T := TX1) (Nf := 8) rfl zz_u1 3 (by decide) rfl hlink hd hn K
theorem zg_X1_4 (X : zz_X p m c cc nL s args own) {k : Nat} {f : Nat → Nat} (hk : k < Y.1.1) (ht : Y.1.2 k = (11, 0, f)) {idx : Nat} (hlink : Cond.fieldLink own idx "HotDots$Printer" "headCount" "I" ∈ zz_tbl) (hd : decode cc pc = .ok (.getfield idx, 3)) (hn : pc + 3 = n) (K : zz_V p l e R s m args below meth c Q nL Y σ n lv (.int (σ.1 k 4) :: st)) : zz_V p l e R s m args below meth c Q nL Y σ pc lv (.ref (Y.2.1 k) :: st) :=
  zv_get X hk (by rw [ht]; rfl) (C := RX1) (T := TX1) (Nf := 8) rfl zz_u1 4 (by decide) rfl hlink hd hn K
theorem zp_X1_4 (X : zz_X p m c cc nL s args own) {k : Nat} {f : Nat → Nat} (hk : k < Y.1.1) (ht : Y.1.2 k = (11, 0, f)) {idx : Nat} {v : Int32} (hlink : Cond.fieldLink own idx "HotDots$Printer" "headCount" "I" ∈ zz_tbl) (hd : decode cc pc = .ok (.putfield idx, 3)) (hn : pc + 3 = n) (K : zz_V p l e R s m args below meth c Q nL Y (zz_i σ k 4 v) n lv st) : zz_V p l e R s m args below meth c Q nL Y σ pc lv (.int v :: .ref (Y.2.1 k) :: st) :=
  zv_put X hk (by rw [ht]; rfl) (C := RX1) (T := TX1) (Nf := 8) rfl zz_u1 tyX1 tyX1_ok nmX1 4 (by decide) rfl rfl rfl (by show 4 < 8; decide) (zz_set_i (by rw [ht]; rfl)) hlink hd hn K
theorem zg_X1_5 (X : zz_X p m c cc nL s args own) {k : Nat} {f : Nat → Nat} (hk : k < Y.1.1) (ht : Y.1.2 k = (11, 0, f)) {idx : Nat} (hlink : Cond.fieldLink own idx "HotDots$Printer" "lineCount" "I" ∈ zz_tbl) (hd : decode cc pc = .ok (.getfield idx, 3)) (hn : pc + 3 = n) (K : zz_V p l e R s m args below meth c Q nL Y σ n lv (.int (σ.1 k 5) :: st)) : zz_V p l e R s m args below meth c Q nL Y σ pc lv (.ref (Y.2.1 k) :: st) :=
  zv_get X hk (by rw [ht]; rfl) (C := RX1) (T := TX1) (Nf := 8) rfl zz_u1 5 (by decide) rfl hlink hd hn K
theorem zp_X1_5 (X : zz_X p m c cc nL s args own) {k : Nat} {f : Nat → Nat} (hk : k < Y.1.1) (ht : Y.1.2 k = (11, 0, f)) {idx : Nat} {v : Int32} (hlink : Cond.fieldLink own idx "HotDots$Printer" "lineCount" "I" ∈ zz_tbl) (hd : decode cc pc = .ok (.putfield idx, 3)) (hn : pc + 3 = n) (K : zz_V p l e R s m args below meth c Q nL Y (zz_i σ k 5 v) n lv st) : zz_V p l e R s m args below meth c Q nL Y σ pc lv (.int v :: .ref (Y.2.1 k) :: st) :=
  zv_put X hk (by rw [ht]; rfl) (C := RX1) (T := TX1) (Nf := 8) rfl zz_u1 tyX1 tyX1_ok nmX1 5 (by decide) rfl rfl rfl (by show 5 < 8; decide) (zz_set_i (by rw [ht]; rfl)) hlink hd hn K
theorem zg_X1_6 (X : zz_X p m c cc nL s args own) {k : Nat} {f : Nat → Nat} (hk : k < Y.1.1) (ht : Y.1.2 k = (11, 0, f)) {idx : Nat} (hlink : Cond.fieldLink own idx "HotDots$Printer" "row" "I" ∈ zz_tbl) (hd : decode cc pc = .ok (.getfield idx, 3)) (hn : pc + 3 = n) (K : zz_V p l e R s m args below meth c Q nL Y σ n lv (.int (σ.1 k 6) :: st)) : zz_V p l e R s m args below meth c Q nL Y σ pc lv (.ref (Y.2.1 k) :: st) :=
  zv_get X hk (by rw [ht]; rfl) (C := RX1) (T := TX1) (Nf := 8) rfl zz_u1 6 (by decide) rfl hlink hd hn K
theorem zp_X1_6 (X : zz_X p m c cc nL s args own) {k : Nat} {f : Nat → Nat} (hk : k < Y.1.1) (ht : Y.1.2 k = (11, 0, f)) {idx : Nat} {v : Int32} (hlink : Cond.fieldLink own idx "HotDots$Printer" "row" "I" ∈ zz_tbl) (hd : decode cc pc = .ok (.putfield idx, 3)) (hn : pc + 3 = n) (K : zz_V p l e R s m args below meth c Q nL Y (zz_i σ k 6 v) n lv st) : zz_V p l e R s m args below meth c Q nL Y σ pc lv (.int v :: .ref (Y.2.1 k) :: st) :=
  zv_put X hk (by rw [ht]; rfl) (C := RX1) (T := TX1) (Nf := 8) rfl zz_u1 tyX1 tyX1_ok nmX1 6 (by decide) rfl rfl rfl (by show 6 < 8; decide) (zz_set_i (by rw [ht]; rfl)) hlink hd hn K
theorem zg_X1_7 (X : zz_X p m c cc nL s args own) {k : Nat} {f : Nat → Nat} (hk : k < Y.1.1) (ht : Y.1.2 k = (11, 0, f)) {idx : Nat} (hlink : Cond.fieldLink own idx "HotDots$Printer" "latestBlack" "I" ∈ zz_tbl) (hd : decode cc pc = .ok (.getfield idx, 3)) (hn : pc + 3 = n) (K : zz_V p l e R s m args below meth c Q nL Y σ n lv (.int (σ.1 k 7) :: st)) : zz_V p l e R s m args below meth c Q nL Y σ pc lv (.ref (Y.2.1 k) :: st) :=
  zv_get X hk (by rw [ht]; rfl) (C := RX1) (T := TX1) (Nf := 8) rfl zz_u1 7 (by decide) rfl hlink hd hn K
theorem zp_X1_7 (X : zz_X p m c cc nL s args own) {k : Nat} {f : Nat → Nat} (hk : k < Y.1.1) (ht : Y.1.2 k = (11, 0, f)) {idx : Nat} {v : Int32} (hlink : Cond.fieldLink own idx "HotDots$Printer" "latestBlack" "I" ∈ zz_tbl) (hd : decode cc pc = .ok (.putfield idx, 3)) (hn : pc + 3 = n) (K : zz_V p l e R s m args below meth c Q nL Y (zz_i σ k 7 v) n lv st) : zz_V p l e R s m args below meth c Q nL Y σ pc lv (.int v :: .ref (Y.2.1 k) :: st) :=
  zv_put X hk (by rw [ht]; rfl) (C := RX1) (T := TX1) (Nf := 8) rfl zz_u1 tyX1 tyX1_ok nmX1 7 (by decide) rfl rfl rfl (by show 7 < 8; decide) (zz_set_i (by rw [ht]; rfl)) hlink hd hn K
theorem zg_X2_0 (X : zz_X p m c cc nL s args own) {k : Nat} {f : Nat → Nat} (hk : k < Y.1.1) (ht : Y.1.2 k = (12, 0, f)) {idx : Nat} (hlink : Cond.fieldLink own idx "HotDots$Seen" "row" "[I" ∈ zz_tbl) (hd : decode cc pc = .ok (.getfield idx, 3)) (hn : pc + 3 = n) (K : zz_V p l e R s m args below meth c Q nL Y σ n lv (.ref (Y.2.1 (f 0)) :: st)) : zz_V p l e R s m args below meth c Q nL Y σ pc lv (.ref (Y.2.1 k) :: st) :=
  zv_get X hk (by rw [ht]; rfl) (C := RX2) (T := TX2) (Nf := 4) rfl zz_u2 0 (by decide) rfl hlink hd hn K
theorem zg_X2_1 (X : zz_X p m c cc nL s args own) {k : Nat} {f : Nat → Nat} (hk : k < Y.1.1) (ht : Y.1.2 k = (12, 0, f)) {idx : Nat} (hlink : Cond.fieldLink own idx "HotDots$Seen" "head" "[I" ∈ zz_tbl) (hd : decode cc pc = .ok (.getfield idx, 3)) (hn : pc + 3 = n) (K : zz_V p l e R s m args below meth c Q nL Y σ n lv (.ref (Y.2.1 (f 1)) :: st)) : zz_V p l e R s m args below meth c Q nL Y σ pc lv (.ref (Y.2.1 k) :: st) :=
  zv_get X hk (by rw [ht]; rfl) (C := RX2) (T := TX2) (Nf := 4) rfl zz_u2 1 (by decide) rfl hlink hd hn K
theorem zg_X2_2 (X : zz_X p m c cc nL s args own) {k : Nat} {f : Nat → Nat} (hk : k < Y.1.1) (ht : Y.1.2 k = (12, 0, f)) {idx : Nat} (hlink : Cond.fieldLink own idx "HotDots$Seen" "bits" "[I" ∈ zz_tbl) (hd : decode cc pc = .ok (.getfield idx, 3)) (hn : pc + 3 = n) (K : zz_V p l e R s m args below meth c Q nL Y σ n lv (.ref (Y.2.1 (f 2)) :: st)) : zz_V p l e R s m args below meth c Q nL Y σ pc lv (.ref (Y.2.1 k) :: st) :=
  zv_get X hk (by rw [ht]; rfl) (C := RX2) (T := TX2) (Nf := 4) rfl zz_u2 2 (by decide) rfl hlink hd hn K
theorem zg_X2_3 (X : zz_X p m c cc nL s args own) {k : Nat} {f : Nat → Nat} (hk : k < Y.1.1) (ht : Y.1.2 k = (12, 0, f)) {idx : Nat} (hlink : Cond.fieldLink own idx "HotDots$Seen" "count" "I" ∈ zz_tbl) (hd : decode cc pc = .ok (.getfield idx, 3)) (hn : pc + 3 = n) (K : zz_V p l e R s m args below meth c Q nL Y σ n lv (.int (σ.1 k 3) :: st)) : zz_V p l e R s m args below meth c Q nL Y σ pc lv (.ref (Y.2.1 k) :: st) :=
  zv_get X hk (by rw [ht]; rfl) (C := RX2) (T := TX2) (Nf := 4) rfl zz_u2 3 (by decide) rfl hlink hd hn K
theorem zp_X2_3 (X : zz_X p m c cc nL s args own) {k : Nat} {f : Nat → Nat} (hk : k < Y.1.1) (ht : Y.1.2 k = (12, 0, f)) {idx : Nat} {v : Int32} (hlink : Cond.fieldLink own idx "HotDots$Seen" "count" "I" ∈ zz_tbl) (hd : decode cc pc = .ok (.putfield idx, 3)) (hn : pc + 3 = n) (K : zz_V p l e R s m args below meth c Q nL Y (zz_i σ k 3 v) n lv st) : zz_V p l e R s m args below meth c Q nL Y σ pc lv (.int v :: .ref (Y.2.1 k) :: st) :=
  zv_put X hk (by rw [ht]; rfl) (C := RX2) (T := TX2) (Nf := 4) rfl zz_u2 tyX2 tyX2_ok nmX2 3 (by decide) rfl rfl rfl (by show 3 < 4; decide) (zz_set_i (by rw [ht]; rfl)) hlink hd hn K
theorem zg_X3_0 (X : zz_X p m c cc nL s args own) {k : Nat} {f : Nat → Nat} (hk : k < Y.1.1) (ht : Y.1.2 k = (13, 0, f)) {idx : Nat} (hlink : Cond.fieldLink own idx "HotDots$Sheet" "cells" "[I" ∈ zz_tbl) (hd : decode cc pc = .ok (.getfield idx, 3)) (hn : pc + 3 = n) (K : zz_V p l e R s m args below meth c Q nL Y σ n lv (.ref (Y.2.1 (f 0)) :: st)) : zz_V p l e R s m args below meth c Q nL Y σ pc lv (.ref (Y.2.1 k) :: st) :=
  zv_get X hk (by rw [ht]; rfl) (C := RX3) (T := TX3) (Nf := 4) rfl zz_u3 0 (by decide) rfl hlink hd hn K
theorem zg_X3_1 (X : zz_X p m c cc nL s args own) {k : Nat} {f : Nat → Nat} (hk : k < Y.1.1) (ht : Y.1.2 k = (13, 0, f)) {idx : Nat} (hlink : Cond.fieldLink own idx "HotDots$Sheet" "there" "Z" ∈ zz_tbl) (hd : decode cc pc = .ok (.getfield idx, 3)) (hn : pc + 3 = n) (K : zz_V p l e R s m args below meth c Q nL Y σ n lv (.int (σ.1 k 1) :: st)) : zz_V p l e R s m args below meth c Q nL Y σ pc lv (.ref (Y.2.1 k) :: st) :=
  zv_get X hk (by rw [ht]; rfl) (C := RX3) (T := TX3) (Nf := 4) rfl zz_u3 1 (by decide) rfl hlink hd hn K
theorem zp_X3_1 (X : zz_X p m c cc nL s args own) {k : Nat} {f : Nat → Nat} (hk : k < Y.1.1) (ht : Y.1.2 k = (13, 0, f)) {idx : Nat} {v : Int32} (hnar : narrow .boolean (.int v) = .int v) (hfit : fits .boolean (.int v) = true) (hlink : Cond.fieldLink own idx "HotDots$Sheet" "there" "Z" ∈ zz_tbl) (hd : decode cc pc = .ok (.putfield idx, 3)) (hn : pc + 3 = n) (K : zz_V p l e R s m args below meth c Q nL Y (zz_i σ k 1 v) n lv st) : zz_V p l e R s m args below meth c Q nL Y σ pc lv (.int v :: .ref (Y.2.1 k) :: st) :=
  zv_put X hk (by rw [ht]; rfl) (C := RX3) (T := TX3) (Nf := 4) rfl zz_u3 tyX3 tyX3_ok nmX3 1 (by decide) rfl hnar hfit (by show 1 < 4; decide) (zz_set_i (by rw [ht]; rfl)) hlink hd hn K
theorem zg_X3_2 (X : zz_X p m c cc nL s args own) {k : Nat} {f : Nat → Nat} (hk : k < Y.1.1) (ht : Y.1.2 k = (13, 0, f)) {idx : Nat} (hlink : Cond.fieldLink own idx "HotDots$Sheet" "lane" "I" ∈ zz_tbl) (hd : decode cc pc = .ok (.getfield idx, 3)) (hn : pc + 3 = n) (K : zz_V p l e R s m args below meth c Q nL Y σ n lv (.int (σ.1 k 2) :: st)) : zz_V p l e R s m args below meth c Q nL Y σ pc lv (.ref (Y.2.1 k) :: st) :=
  zv_get X hk (by rw [ht]; rfl) (C := RX3) (T := TX3) (Nf := 4) rfl zz_u3 2 (by decide) rfl hlink hd hn K
theorem zp_X3_2 (X : zz_X p m c cc nL s args own) {k : Nat} {f : Nat → Nat} (hk : k < Y.1.1) (ht : Y.1.2 k = (13, 0, f)) {idx : Nat} {v : Int32} (hlink : Cond.fieldLink own idx "HotDots$Sheet" "lane" "I" ∈ zz_tbl) (hd : decode cc pc = .ok (.putfield idx, 3)) (hn : pc + 3 = n) (K : zz_V p l e R s m args below meth c Q nL Y (zz_i σ k 2 v) n lv st) : zz_V p l e R s m args below meth c Q nL Y σ pc lv (.int v :: .ref (Y.2.1 k) :: st) :=
  zv_put X hk (by rw [ht]; rfl) (C := RX3) (T := TX3) (Nf := 4) rfl zz_u3 tyX3 tyX3_ok nmX3 2 (by decide) rfl rfl rfl (by show 2 < 4; decide) (zz_set_i (by rw [ht]; rfl)) hlink hd hn K
theorem zg_X3_3 (X : zz_X p m c cc nL s args own) {k : Nat} {f : Nat → Nat} (hk : k < Y.1.1) (ht : Y.1.2 k = (13, 0, f)) {idx : Nat} (hlink : Cond.fieldLink own idx "HotDots$Sheet" "size" "I" ∈ zz_tbl) (hd : decode cc pc = .ok (.getfield idx, 3)) (hn : pc + 3 = n) (K : zz_V p l e R s m args below meth c Q nL Y σ n lv (.int (σ.1 k 3) :: st)) : zz_V p l e R s m args below meth c Q nL Y σ pc lv (.ref (Y.2.1 k) :: st) :=
  zv_get X hk (by rw [ht]; rfl) (C := RX3) (T := TX3) (Nf := 4) rfl zz_u3 3 (by decide) rfl hlink hd hn K
theorem zp_X3_3 (X : zz_X p m c cc nL s args own) {k : Nat} {f : Nat → Nat} (hk : k < Y.1.1) (ht : Y.1.2 k = (13, 0, f)) {idx : Nat} {v : Int32} (hlink : Cond.fieldLink own idx "HotDots$Sheet" "size" "I" ∈ zz_tbl) (hd : decode cc pc = .ok (.putfield idx, 3)) (hn : pc + 3 = n) (K : zz_V p l e R s m args below meth c Q nL Y (zz_i σ k 3 v) n lv st) : zz_V p l e R s m args below meth c Q nL Y σ pc lv (.int v :: .ref (Y.2.1 k) :: st) :=
  zv_put X hk (by rw [ht]; rfl) (C := RX3) (T := TX3) (Nf := 4) rfl zz_u3 tyX3 tyX3_ok nmX3 3 (by decide) rfl rfl rfl (by show 3 < 4; decide) (zz_set_i (by rw [ht]; rfl)) hlink hd hn K
theorem zg_X4_0 (X : zz_X p m c cc nL s args own) {k : Nat} {f : Nat → Nat} (hk : k < Y.1.1) (ht : Y.1.2 k = (14, 0, f)) {idx : Nat} (hlink : Cond.fieldLink own idx "HotDots$Tape" "bytes" "[B" ∈ zz_tbl) (hd : decode cc pc = .ok (.getfield idx, 3)) (hn : pc + 3 = n) (K : zz_V p l e R s m args below meth c Q nL Y σ n lv (.ref (Y.2.1 (f 0)) :: st)) : zz_V p l e R s m args below meth c Q nL Y σ pc lv (.ref (Y.2.1 k) :: st) :=
  zv_get X hk (by rw [ht]; rfl) (C := RX4) (T := TX4) (Nf := 9) rfl zz_u4 0 (by decide) rfl hlink hd hn K
theorem zg_X4_1 (X : zz_X p m c cc nL s args own) {k : Nat} {f : Nat → Nat} (hk : k < Y.1.1) (ht : Y.1.2 k = (14, 0, f)) {idx : Nat} (hlink : Cond.fieldLink own idx "HotDots$Tape" "size" "I" ∈ zz_tbl) (hd : decode cc pc = .ok (.getfield idx, 3)) (hn : pc + 3 = n) (K : zz_V p l e R s m args below meth c Q nL Y σ n lv (.int (σ.1 k 1) :: st)) : zz_V p l e R s m args below meth c Q nL Y σ pc lv (.ref (Y.2.1 k) :: st) :=
  zv_get X hk (by rw [ht]; rfl) (C := RX4) (T := TX4) (Nf := 9) rfl zz_u4 1 (by decide) rfl hlink hd hn K
theorem zp_X4_1 (X : zz_X p m c cc nL s args own) {k : Nat} {f : Nat → Nat} (hk : k < Y.1.1) (ht : Y.1.2 k = (14, 0, f)) {idx : Nat} {v : Int32} (hlink : Cond.fieldLink own idx "HotDots$Tape" "size" "I" ∈ zz_tbl) (hd : decode cc pc = .ok (.putfield idx, 3)) (hn : pc + 3 = n) (K : zz_V p l e R s m args below meth c Q nL Y (zz_i σ k 1 v) n lv st) : zz_V p l e R s m args below meth c Q nL Y σ pc lv (.int v :: .ref (Y.2.1 k) :: st) :=
  zv_put X hk (by rw [ht]; rfl) (C := RX4) (T := TX4) (Nf := 9) rfl zz_u4 tyX4 tyX4_ok nmX4 1 (by decide) rfl rfl rfl (by show 1 < 9; decide) (zz_set_i (by rw [ht]; rfl)) hlink hd hn K
theorem zg_X4_2 (X : zz_X p m c cc nL s args own) {k : Nat} {f : Nat → Nat} (hk : k < Y.1.1) (ht : Y.1.2 k = (14, 0, f)) {idx : Nat} (hlink : Cond.fieldLink own idx "HotDots$Tape" "fault" "I" ∈ zz_tbl) (hd : decode cc pc = .ok (.getfield idx, 3)) (hn : pc + 3 = n) (K : zz_V p l e R s m args below meth c Q nL Y σ n lv (.int (σ.1 k 2) :: st)) : zz_V p l e R s m args below meth c Q nL Y σ pc lv (.ref (Y.2.1 k) :: st) :=
  zv_get X hk (by rw [ht]; rfl) (C := RX4) (T := TX4) (Nf := 9) rfl zz_u4 2 (by decide) rfl hlink hd hn K
theorem zp_X4_2 (X : zz_X p m c cc nL s args own) {k : Nat} {f : Nat → Nat} (hk : k < Y.1.1) (ht : Y.1.2 k = (14, 0, f)) {idx : Nat} {v : Int32} (hlink : Cond.fieldLink own idx "HotDots$Tape" "fault" "I" ∈ zz_tbl) (hd : decode cc pc = .ok (.putfield idx, 3)) (hn : pc + 3 = n) (K : zz_V p l e R s m args below meth c Q nL Y (zz_i σ k 2 v) n lv st) : zz_V p l e R s m args below meth c Q nL Y σ pc lv (.int v :: .ref (Y.2.1 k) :: st) :=
  zv_put X hk (by rw [ht]; rfl) (C := RX4) (T := TX4) (Nf := 9) rfl zz_u4 tyX4 tyX4_ok nmX4 2 (by decide) rfl rfl rfl (by show 2 < 9; decide) (zz_set_i (by rw [ht]; rfl)) hlink hd hn K
theorem zg_X4_3 (X : zz_X p m c cc nL s args own) {k : Nat} {f : Nat → Nat} (hk : k < Y.1.1) (ht : Y.1.2 k = (14, 0, f)) {idx : Nat} (hlink : Cond.fieldLink own idx "HotDots$Tape" "faultPlace" "I" ∈ zz_tbl) (hd : decode cc pc = .ok (.getfield idx, 3)) (hn : pc + 3 = n) (K : zz_V p l e R s m args below meth c Q nL Y σ n lv (.int (σ.1 k 3) :: st)) : zz_V p l e R s m args below meth c Q nL Y σ pc lv (.ref (Y.2.1 k) :: st) :=
  zv_get X hk (by rw [ht]; rfl) (C := RX4) (T := TX4) (Nf := 9) rfl zz_u4 3 (by decide) rfl hlink hd hn K
theorem zp_X4_3 (X : zz_X p m c cc nL s args own) {k : Nat} {f : Nat → Nat} (hk : k < Y.1.1) (ht : Y.1.2 k = (14, 0, f)) {idx : Nat} {v : Int32} (hlink : Cond.fieldLink own idx "HotDots$Tape" "faultPlace" "I" ∈ zz_tbl) (hd : decode cc pc = .ok (.putfield idx, 3)) (hn : pc + 3 = n) (K : zz_V p l e R s m args below meth c Q nL Y (zz_i σ k 3 v) n lv st) : zz_V p l e R s m args below meth c Q nL Y σ pc lv (.int v :: .ref (Y.2.1 k) :: st) :=
  zv_put X hk (by rw [ht]; rfl) (C := RX4) (T := TX4) (Nf := 9) rfl zz_u4 tyX4 tyX4_ok nmX4 3 (by decide) rfl rfl rfl (by show 3 < 9; decide) (zz_set_i (by rw [ht]; rfl)) hlink hd hn K
theorem zg_X4_4 (X : zz_X p m c cc nL s args own) {k : Nat} {f : Nat → Nat} (hk : k < Y.1.1) (ht : Y.1.2 k = (14, 0, f)) {idx : Nat} (hlink : Cond.fieldLink own idx "HotDots$Tape" "token" "I" ∈ zz_tbl) (hd : decode cc pc = .ok (.getfield idx, 3)) (hn : pc + 3 = n) (K : zz_V p l e R s m args below meth c Q nL Y σ n lv (.int (σ.1 k 4) :: st)) : zz_V p l e R s m args below meth c Q nL Y σ pc lv (.ref (Y.2.1 k) :: st) :=
  zv_get X hk (by rw [ht]; rfl) (C := RX4) (T := TX4) (Nf := 9) rfl zz_u4 4 (by decide) rfl hlink hd hn K
theorem zp_X4_4 (X : zz_X p m c cc nL s args own) {k : Nat} {f : Nat → Nat} (hk : k < Y.1.1) (ht : Y.1.2 k = (14, 0, f)) {idx : Nat} {v : Int32} (hlink : Cond.fieldLink own idx "HotDots$Tape" "token" "I" ∈ zz_tbl) (hd : decode cc pc = .ok (.putfield idx, 3)) (hn : pc + 3 = n) (K : zz_V p l e R s m args below meth c Q nL Y (zz_i σ k 4 v) n lv st) : zz_V p l e R s m args below meth c Q nL Y σ pc lv (.int v :: .ref (Y.2.1 k) :: st) :=
  zv_put X hk (by rw [ht]; rfl) (C := RX4) (T := TX4) (Nf := 9) rfl zz_u4 tyX4 tyX4_ok nmX4 4 (by decide) rfl rfl rfl (by show 4 < 9; decide) (zz_set_i (by rw [ht]; rfl)) hlink hd hn K
theorem zg_X4_5 (X : zz_X p m c cc nL s args own) {k : Nat} {f : Nat → Nat} (hk : k < Y.1.1) (ht : Y.1.2 k = (14, 0, f)) {idx : Nat} (hlink : Cond.fieldLink own idx "HotDots$Tape" "from" "I" ∈ zz_tbl) (hd : decode cc pc = .ok (.getfield idx, 3)) (hn : pc + 3 = n) (K : zz_V p l e R s m args below meth c Q nL Y σ n lv (.int (σ.1 k 5) :: st)) : zz_V p l e R s m args below meth c Q nL Y σ pc lv (.ref (Y.2.1 k) :: st) :=
  zv_get X hk (by rw [ht]; rfl) (C := RX4) (T := TX4) (Nf := 9) rfl zz_u4 5 (by decide) rfl hlink hd hn K
theorem zp_X4_5 (X : zz_X p m c cc nL s args own) {k : Nat} {f : Nat → Nat} (hk : k < Y.1.1) (ht : Y.1.2 k = (14, 0, f)) {idx : Nat} {v : Int32} (hlink : Cond.fieldLink own idx "HotDots$Tape" "from" "I" ∈ zz_tbl) (hd : decode cc pc = .ok (.putfield idx, 3)) (hn : pc + 3 = n) (K : zz_V p l e R s m args below meth c Q nL Y (zz_i σ k 5 v) n lv st) : zz_V p l e R s m args below meth c Q nL Y σ pc lv (.int v :: .ref (Y.2.1 k) :: st) :=
  zv_put X hk (by rw [ht]; rfl) (C := RX4) (T := TX4) (Nf := 9) rfl zz_u4 tyX4 tyX4_ok nmX4 5 (by decide) rfl rfl rfl (by show 5 < 9; decide) (zz_set_i (by rw [ht]; rfl)) hlink hd hn K
theorem zg_X4_6 (X : zz_X p m c cc nL s args own) {k : Nat} {f : Nat → Nat} (hk : k < Y.1.1) (ht : Y.1.2 k = (14, 0, f)) {idx : Nat} (hlink : Cond.fieldLink own idx "HotDots$Tape" "at" "I" ∈ zz_tbl) (hd : decode cc pc = .ok (.getfield idx, 3)) (hn : pc + 3 = n) (K : zz_V p l e R s m args below meth c Q nL Y σ n lv (.int (σ.1 k 6) :: st)) : zz_V p l e R s m args below meth c Q nL Y σ pc lv (.ref (Y.2.1 k) :: st) :=
  zv_get X hk (by rw [ht]; rfl) (C := RX4) (T := TX4) (Nf := 9) rfl zz_u4 6 (by decide) rfl hlink hd hn K
theorem zp_X4_6 (X : zz_X p m c cc nL s args own) {k : Nat} {f : Nat → Nat} (hk : k < Y.1.1) (ht : Y.1.2 k = (14, 0, f)) {idx : Nat} {v : Int32} (hlink : Cond.fieldLink own idx "HotDots$Tape" "at" "I" ∈ zz_tbl) (hd : decode cc pc = .ok (.putfield idx, 3)) (hn : pc + 3 = n) (K : zz_V p l e R s m args below meth c Q nL Y (zz_i σ k 6 v) n lv st) : zz_V p l e R s m args below meth c Q nL Y σ pc lv (.int v :: .ref (Y.2.1 k) :: st) :=
  zv_put X hk (by rw [ht]; rfl) (C := RX4) (T := TX4) (Nf := 9) rfl zz_u4 tyX4 tyX4_ok nmX4 6 (by decide) rfl rfl rfl (by show 6 < 9; decide) (zz_set_i (by rw [ht]; rfl)) hlink hd hn K
theorem zg_X4_7 (X : zz_X p m c cc nL s args own) {k : Nat} {f : Nat → Nat} (hk : k < Y.1.1) (ht : Y.1.2 k = (14, 0, f)) {idx : Nat} (hlink : Cond.fieldLink own idx "HotDots$Tape" "number" "I" ∈ zz_tbl) (hd : decode cc pc = .ok (.getfield idx, 3)) (hn : pc + 3 = n) (K : zz_V p l e R s m args below meth c Q nL Y σ n lv (.int (σ.1 k 7) :: st)) : zz_V p l e R s m args below meth c Q nL Y σ pc lv (.ref (Y.2.1 k) :: st) :=
  zv_get X hk (by rw [ht]; rfl) (C := RX4) (T := TX4) (Nf := 9) rfl zz_u4 7 (by decide) rfl hlink hd hn K
theorem zp_X4_7 (X : zz_X p m c cc nL s args own) {k : Nat} {f : Nat → Nat} (hk : k < Y.1.1) (ht : Y.1.2 k = (14, 0, f)) {idx : Nat} {v : Int32} (hlink : Cond.fieldLink own idx "HotDots$Tape" "number" "I" ∈ zz_tbl) (hd : decode cc pc = .ok (.putfield idx, 3)) (hn : pc + 3 = n) (K : zz_V p l e R s m args below meth c Q nL Y (zz_i σ k 7 v) n lv st) : zz_V p l e R s m args below meth c Q nL Y σ pc lv (.int v :: .ref (Y.2.1 k) :: st) :=
  zv_put X hk (by rw [ht]; rfl) (C := RX4) (T := TX4) (Nf := 9) rfl zz_u4 tyX4 tyX4_ok nmX4 7 (by decide) rfl rfl rfl (by show 7 < 9; decide) (zz_set_i (by rw [ht]; rfl)) hlink hd hn K
theorem zg_X4_8 (X : zz_X p m c cc nL s args own) {k : Nat} {f : Nat → Nat} (hk : k < Y.1.1) (ht : Y.1.2 k = (14, 0, f)) {idx : Nat} (hlink : Cond.fieldLink own idx "HotDots$Tape" "met" "I" ∈ zz_tbl) (hd : decode cc pc = .ok (.getfield idx, 3)) (hn : pc + 3 = n) (K : zz_V p l e R s m args below meth c Q nL Y σ n lv (.int (σ.1 k 8) :: st)) : zz_V p l e R s m args below meth c Q nL Y σ pc lv (.ref (Y.2.1 k) :: st) :=
  zv_get X hk (by rw [ht]; rfl) (C := RX4) (T := TX4) (Nf := 9) rfl zz_u4 8 (by decide) rfl hlink hd hn K
theorem zp_X4_8 (X : zz_X p m c cc nL s args own) {k : Nat} {f : Nat → Nat} (hk : k < Y.1.1) (ht : Y.1.2 k = (14, 0, f)) {idx : Nat} {v : Int32} (hlink : Cond.fieldLink own idx "HotDots$Tape" "met" "I" ∈ zz_tbl) (hd : decode cc pc = .ok (.putfield idx, 3)) (hn : pc + 3 = n) (K : zz_V p l e R s m args below meth c Q nL Y (zz_i σ k 8 v) n lv st) : zz_V p l e R s m args below meth c Q nL Y σ pc lv (.int v :: .ref (Y.2.1 k) :: st) :=
  zv_put X hk (by rw [ht]; rfl) (C := RX4) (T := TX4) (Nf := 9) rfl zz_u4 tyX4 tyX4_ok nmX4 8 (by decide) rfl rfl rfl (by show 8 < 9; decide) (zz_set_i (by rw [ht]; rfl)) hlink hd hn K
theorem zg_X5_0 (X : zz_X p m c cc nL s args own) {k : Nat} {f : Nat → Nat} (hk : k < Y.1.1) (ht : Y.1.2 k = (15, 0, f)) {idx : Nat} (hlink : Cond.fieldLink own idx "HotDots" "tape" "LHotDots$Tape;" ∈ zz_tbl) (hd : decode cc pc = .ok (.getfield idx, 3)) (hn : pc + 3 = n) (K : zz_V p l e R s m args below meth c Q nL Y σ n lv (.ref (Y.2.1 (f 0)) :: st)) : zz_V p l e R s m args below meth c Q nL Y σ pc lv (.ref (Y.2.1 k) :: st) :=
  zv_get X hk (by rw [ht]; rfl) (C := RX5) (T := TX5) (Nf := 11) rfl zz_u5 0 (by decide) rfl hlink hd hn K
theorem zg_X5_1 (X : zz_X p m c cc nL s args own) {k : Nat} {f : Nat → Nat} (hk : k < Y.1.1) (ht : Y.1.2 k = (15, 0, f)) {idx : Nat} (hlink : Cond.fieldLink own idx "HotDots" "now" "LHotDots$Printer;" ∈ zz_tbl) (hd : decode cc pc = .ok (.getfield idx, 3)) (hn : pc + 3 = n) (K : zz_V p l e R s m args below meth c Q nL Y σ n lv (.ref (Y.2.1 (f 1)) :: st)) : zz_V p l e R s m args below meth c Q nL Y σ pc lv (.ref (Y.2.1 k) :: st) :=
  zv_get X hk (by rw [ht]; rfl) (C := RX5) (T := TX5) (Nf := 11) rfl zz_u5 1 (by decide) rfl hlink hd hn K
theorem zg_X5_2 (X : zz_X p m c cc nL s args own) {k : Nat} {f : Nat → Nat} (hk : k < Y.1.1) (ht : Y.1.2 k = (15, 0, f)) {idx : Nat} (hlink : Cond.fieldLink own idx "HotDots" "trial" "LHotDots$Printer;" ∈ zz_tbl) (hd : decode cc pc = .ok (.getfield idx, 3)) (hn : pc + 3 = n) (K : zz_V p l e R s m args below meth c Q nL Y σ n lv (.ref (Y.2.1 (f 2)) :: st)) : zz_V p l e R s m args below meth c Q nL Y σ pc lv (.ref (Y.2.1 k) :: st) :=
  zv_get X hk (by rw [ht]; rfl) (C := RX5) (T := TX5) (Nf := 11) rfl zz_u5 2 (by decide) rfl hlink hd hn K
theorem zg_X5_3 (X : zz_X p m c cc nL s args own) {k : Nat} {f : Nat → Nat} (hk : k < Y.1.1) (ht : Y.1.2 k = (15, 0, f)) {idx : Nat} (hlink : Cond.fieldLink own idx "HotDots" "lone" "LHotDots$Head;" ∈ zz_tbl) (hd : decode cc pc = .ok (.getfield idx, 3)) (hn : pc + 3 = n) (K : zz_V p l e R s m args below meth c Q nL Y σ n lv (.ref (Y.2.1 (f 3)) :: st)) : zz_V p l e R s m args below meth c Q nL Y σ pc lv (.ref (Y.2.1 k) :: st) :=
  zv_get X hk (by rw [ht]; rfl) (C := RX5) (T := TX5) (Nf := 11) rfl zz_u5 3 (by decide) rfl hlink hd hn K
theorem zg_X5_4 (X : zz_X p m c cc nL s args own) {k : Nat} {f : Nat → Nat} (hk : k < Y.1.1) (ht : Y.1.2 k = (15, 0, f)) {idx : Nat} (hlink : Cond.fieldLink own idx "HotDots" "images" "[LHotDots$Printer;" ∈ zz_tbl) (hd : decode cc pc = .ok (.getfield idx, 3)) (hn : pc + 3 = n) (K : zz_V p l e R s m args below meth c Q nL Y σ n lv (.ref (Y.2.1 (f 4)) :: st)) : zz_V p l e R s m args below meth c Q nL Y σ pc lv (.ref (Y.2.1 k) :: st) :=
  zv_get X hk (by rw [ht]; rfl) (C := RX5) (T := TX5) (Nf := 11) rfl zz_u5 4 (by decide) rfl hlink hd hn K
theorem zg_X5_5 (X : zz_X p m c cc nL s args own) {k : Nat} {f : Nat → Nat} (hk : k < Y.1.1) (ht : Y.1.2 k = (15, 0, f)) {idx : Nat} (hlink : Cond.fieldLink own idx "HotDots" "kept" "[Z" ∈ zz_tbl) (hd : decode cc pc = .ok (.getfield idx, 3)) (hn : pc + 3 = n) (K : zz_V p l e R s m args below meth c Q nL Y σ n lv (.ref (Y.2.1 (f 5)) :: st)) : zz_V p l e R s m args below meth c Q nL Y σ pc lv (.ref (Y.2.1 k) :: st) :=
  zv_get X hk (by rw [ht]; rfl) (C := RX5) (T := TX5) (Nf := 11) rfl zz_u5 5 (by decide) rfl hlink hd hn K
theorem zg_X5_6 (X : zz_X p m c cc nL s args own) {k : Nat} {f : Nat → Nat} (hk : k < Y.1.1) (ht : Y.1.2 k = (15, 0, f)) {idx : Nat} (hlink : Cond.fieldLink own idx "HotDots" "sheets" "[LHotDots$Sheet;" ∈ zz_tbl) (hd : decode cc pc = .ok (.getfield idx, 3)) (hn : pc + 3 = n) (K : zz_V p l e R s m args below meth c Q nL Y σ n lv (.ref (Y.2.1 (f 6)) :: st)) : zz_V p l e R s m args below meth c Q nL Y σ pc lv (.ref (Y.2.1 k) :: st) :=
  zv_get X hk (by rw [ht]; rfl) (C := RX5) (T := TX5) (Nf := 11) rfl zz_u5 6 (by decide) rfl hlink hd hn K
theorem zg_X5_7 (X : zz_X p m c cc nL s args own) {k : Nat} {f : Nat → Nat} (hk : k < Y.1.1) (ht : Y.1.2 k = (15, 0, f)) {idx : Nat} (hlink : Cond.fieldLink own idx "HotDots" "markSteps" "[I" ∈ zz_tbl) (hd : decode cc pc = .ok (.getfield idx, 3)) (hn : pc + 3 = n) (K : zz_V p l e R s m args below meth c Q nL Y σ n lv (.ref (Y.2.1 (f 7)) :: st)) : zz_V p l e R s m args below meth c Q nL Y σ pc lv (.ref (Y.2.1 k) :: st) :=
  zv_get X hk (by rw [ht]; rfl) (C := RX5) (T := TX5) (Nf := 11) rfl zz_u5 7 (by decide) rfl hlink hd hn K
theorem zg_X5_8 (X : zz_X p m c cc nL s args own) {k : Nat} {f : Nat → Nat} (hk : k < Y.1.1) (ht : Y.1.2 k = (15, 0, f)) {idx : Nat} (hlink : Cond.fieldLink own idx "HotDots" "looks" "[I" ∈ zz_tbl) (hd : decode cc pc = .ok (.getfield idx, 3)) (hn : pc + 3 = n) (K : zz_V p l e R s m args below meth c Q nL Y σ n lv (.ref (Y.2.1 (f 8)) :: st)) : zz_V p l e R s m args below meth c Q nL Y σ pc lv (.ref (Y.2.1 k) :: st) :=
  zv_get X hk (by rw [ht]; rfl) (C := RX5) (T := TX5) (Nf := 11) rfl zz_u5 8 (by decide) rfl hlink hd hn K
theorem zg_X5_9 (X : zz_X p m c cc nL s args own) {k : Nat} {f : Nat → Nat} (hk : k < Y.1.1) (ht : Y.1.2 k = (15, 0, f)) {idx : Nat} (hlink : Cond.fieldLink own idx "HotDots" "alike" "[I" ∈ zz_tbl) (hd : decode cc pc = .ok (.getfield idx, 3)) (hn : pc + 3 = n) (K : zz_V p l e R s m args below meth c Q nL Y σ n lv (.ref (Y.2.1 (f 9)) :: st)) : zz_V p l e R s m args below meth c Q nL Y σ pc lv (.ref (Y.2.1 k) :: st) :=
  zv_get X hk (by rw [ht]; rfl) (C := RX5) (T := TX5) (Nf := 11) rfl zz_u5 9 (by decide) rfl hlink hd hn K
theorem zg_X5_10 (X : zz_X p m c cc nL s args own) {k : Nat} {f : Nat → Nat} (hk : k < Y.1.1) (ht : Y.1.2 k = (15, 0, f)) {idx : Nat} (hlink : Cond.fieldLink own idx "HotDots" "readFault" "I" ∈ zz_tbl) (hd : decode cc pc = .ok (.getfield idx, 3)) (hn : pc + 3 = n) (K : zz_V p l e R s m args below meth c Q nL Y σ n lv (.int (σ.1 k 10) :: st)) : zz_V p l e R s m args below meth c Q nL Y σ pc lv (.ref (Y.2.1 k) :: st) :=
  zv_get X hk (by rw [ht]; rfl) (C := RX5) (T := TX5) (Nf := 11) rfl zz_u5 10 (by decide) rfl hlink hd hn K
theorem zp_X5_10 (X : zz_X p m c cc nL s args own) {k : Nat} {f : Nat → Nat} (hk : k < Y.1.1) (ht : Y.1.2 k = (15, 0, f)) {idx : Nat} {v : Int32} (hlink : Cond.fieldLink own idx "HotDots" "readFault" "I" ∈ zz_tbl) (hd : decode cc pc = .ok (.putfield idx, 3)) (hn : pc + 3 = n) (K : zz_V p l e R s m args below meth c Q nL Y (zz_i σ k 10 v) n lv st) : zz_V p l e R s m args below meth c Q nL Y σ pc lv (.int v :: .ref (Y.2.1 k) :: st) :=
  zv_put X hk (by rw [ht]; rfl) (C := RX5) (T := TX5) (Nf := 11) rfl zz_u5 tyX5 tyX5_ok nmX5 10 (by decide) rfl rfl rfl (by show 10 < 11; decide) (zz_set_i (by rw [ht]; rfl)) hlink hd hn K
theorem zg_X6_0 (X : zz_X p m c cc nL s args own) {k : Nat} {f : Nat → Nat} (hk : k < Y.1.1) (ht : Y.1.2 k = (16, 0, f)) {idx : Nat} (hlink : Cond.fieldLink own idx "HotDotsModel" "st" "[I" ∈ zz_tbl) (hd : decode cc pc = .ok (.getfield idx, 3)) (hn : pc + 3 = n) (K : zz_V p l e R s m args below meth c Q nL Y σ n lv (.ref (Y.2.1 (f 0)) :: st)) : zz_V p l e R s m args below meth c Q nL Y σ pc lv (.ref (Y.2.1 k) :: st) :=
  zv_get X hk (by rw [ht]; rfl) (C := RX6) (T := TX6) (Nf := 34) rfl zz_u6 0 (by decide) rfl hlink hd hn K
theorem zg_X6_1 (X : zz_X p m c cc nL s args own) {k : Nat} {f : Nat → Nat} (hk : k < Y.1.1) (ht : Y.1.2 k = (16, 0, f)) {idx : Nat} (hlink : Cond.fieldLink own idx "HotDotsModel" "now" "[I" ∈ zz_tbl) (hd : decode cc pc = .ok (.getfield idx, 3)) (hn : pc + 3 = n) (K : zz_V p l e R s m args below meth c Q nL Y σ n lv (.ref (Y.2.1 (f 1)) :: st)) : zz_V p l e R s m args below meth c Q nL Y σ pc lv (.ref (Y.2.1 k) :: st) :=
  zv_get X hk (by rw [ht]; rfl) (C := RX6) (T := TX6) (Nf := 34) rfl zz_u6 1 (by decide) rfl hlink hd hn K
theorem zg_X6_2 (X : zz_X p m c cc nL s args own) {k : Nat} {f : Nat → Nat} (hk : k < Y.1.1) (ht : Y.1.2 k = (16, 0, f)) {idx : Nat} (hlink : Cond.fieldLink own idx "HotDotsModel" "isKept" "[Z" ∈ zz_tbl) (hd : decode cc pc = .ok (.getfield idx, 3)) (hn : pc + 3 = n) (K : zz_V p l e R s m args below meth c Q nL Y σ n lv (.ref (Y.2.1 (f 2)) :: st)) : zz_V p l e R s m args below meth c Q nL Y σ pc lv (.ref (Y.2.1 k) :: st) :=
  zv_get X hk (by rw [ht]; rfl) (C := RX6) (T := TX6) (Nf := 34) rfl zz_u6 2 (by decide) rfl hlink hd hn K
theorem zg_X6_3 (X : zz_X p m c cc nL s args own) {k : Nat} {f : Nat → Nat} (hk : k < Y.1.1) (ht : Y.1.2 k = (16, 0, f)) {idx : Nat} (hlink : Cond.fieldLink own idx "HotDotsModel" "draft" "[I" ∈ zz_tbl) (hd : decode cc pc = .ok (.getfield idx, 3)) (hn : pc + 3 = n) (K : zz_V p l e R s m args below meth c Q nL Y σ n lv (.ref (Y.2.1 (f 3)) :: st)) : zz_V p l e R s m args below meth c Q nL Y σ pc lv (.ref (Y.2.1 k) :: st) :=
  zv_get X hk (by rw [ht]; rfl) (C := RX6) (T := TX6) (Nf := 34) rfl zz_u6 3 (by decide) rfl hlink hd hn K
theorem zg_X6_4 (X : zz_X p m c cc nL s args own) {k : Nat} {f : Nat → Nat} (hk : k < Y.1.1) (ht : Y.1.2 k = (16, 0, f)) {idx : Nat} (hlink : Cond.fieldLink own idx "HotDotsModel" "hasTold" "[Z" ∈ zz_tbl) (hd : decode cc pc = .ok (.getfield idx, 3)) (hn : pc + 3 = n) (K : zz_V p l e R s m args below meth c Q nL Y σ n lv (.ref (Y.2.1 (f 4)) :: st)) : zz_V p l e R s m args below meth c Q nL Y σ pc lv (.ref (Y.2.1 k) :: st) :=
  zv_get X hk (by rw [ht]; rfl) (C := RX6) (T := TX6) (Nf := 34) rfl zz_u6 4 (by decide) rfl hlink hd hn K
theorem zg_X6_5 (X : zz_X p m c cc nL s args own) {k : Nat} {f : Nat → Nat} (hk : k < Y.1.1) (ht : Y.1.2 k = (16, 0, f)) {idx : Nat} (hlink : Cond.fieldLink own idx "HotDotsModel" "tape" "[I" ∈ zz_tbl) (hd : decode cc pc = .ok (.getfield idx, 3)) (hn : pc + 3 = n) (K : zz_V p l e R s m args below meth c Q nL Y σ n lv (.ref (Y.2.1 (f 5)) :: st)) : zz_V p l e R s m args below meth c Q nL Y σ pc lv (.ref (Y.2.1 k) :: st) :=
  zv_get X hk (by rw [ht]; rfl) (C := RX6) (T := TX6) (Nf := 34) rfl zz_u6 5 (by decide) rfl hlink hd hn K
theorem zg_X6_6 (X : zz_X p m c cc nL s args own) {k : Nat} {f : Nat → Nat} (hk : k < Y.1.1) (ht : Y.1.2 k = (16, 0, f)) {idx : Nat} (hlink : Cond.fieldLink own idx "HotDotsModel" "taped" "I" ∈ zz_tbl) (hd : decode cc pc = .ok (.getfield idx, 3)) (hn : pc + 3 = n) (K : zz_V p l e R s m args below meth c Q nL Y σ n lv (.int (σ.1 k 6) :: st)) : zz_V p l e R s m args below meth c Q nL Y σ pc lv (.ref (Y.2.1 k) :: st) :=
  zv_get X hk (by rw [ht]; rfl) (C := RX6) (T := TX6) (Nf := 34) rfl zz_u6 6 (by decide) rfl hlink hd hn K
theorem zp_X6_6 (X : zz_X p m c cc nL s args own) {k : Nat} {f : Nat → Nat} (hk : k < Y.1.1) (ht : Y.1.2 k = (16, 0, f)) {idx : Nat} {v : Int32} (hlink : Cond.fieldLink own idx "HotDotsModel" "taped" "I" ∈ zz_tbl) (hd : decode cc pc = .ok (.putfield idx, 3)) (hn : pc + 3 = n) (K : zz_V p l e R s m args below meth c Q nL Y (zz_i σ k 6 v) n lv st) : zz_V p l e R s m args below meth c Q nL Y σ pc lv (.int v :: .ref (Y.2.1 k) :: st) :=
  zv_put X hk (by rw [ht]; rfl) (C := RX6) (T := TX6) (Nf := 34) rfl zz_u6 tyX6 tyX6_ok nmX6 6 (by decide) rfl rfl rfl (by show 6 < 34; decide) (zz_set_i (by rw [ht]; rfl)) hlink hd hn K
theorem zg_X6_7 (X : zz_X p m c cc nL s args own) {k : Nat} {f : Nat → Nat} (hk : k < Y.1.1) (ht : Y.1.2 k = (16, 0, f)) {idx : Nat} (hlink : Cond.fieldLink own idx "HotDotsModel" "pos" "I" ∈ zz_tbl) (hd : decode cc pc = .ok (.getfield idx, 3)) (hn : pc + 3 = n) (K : zz_V p l e R s m args below meth c Q nL Y σ n lv (.int (σ.1 k 7) :: st)) : zz_V p l e R s m args below meth c Q nL Y σ pc lv (.ref (Y.2.1 k) :: st) :=
  zv_get X hk (by rw [ht]; rfl) (C := RX6) (T := TX6) (Nf := 34) rfl zz_u6 7 (by decide) rfl hlink hd hn K
theorem zp_X6_7 (X : zz_X p m c cc nL s args own) {k : Nat} {f : Nat → Nat} (hk : k < Y.1.1) (ht : Y.1.2 k = (16, 0, f)) {idx : Nat} {v : Int32} (hlink : Cond.fieldLink own idx "HotDotsModel" "pos" "I" ∈ zz_tbl) (hd : decode cc pc = .ok (.putfield idx, 3)) (hn : pc + 3 = n) (K : zz_V p l e R s m args below meth c Q nL Y (zz_i σ k 7 v) n lv st) : zz_V p l e R s m args below meth c Q nL Y σ pc lv (.int v :: .ref (Y.2.1 k) :: st) :=
  zv_put X hk (by rw [ht]; rfl) (C := RX6) (T := TX6) (Nf := 34) rfl zz_u6 tyX6 tyX6_ok nmX6 7 (by decide) rfl rfl rfl (by show 7 < 34; decide) (zz_set_i (by rw [ht]; rfl)) hlink hd hn K
theorem zg_X6_8 (X : zz_X p m c cc nL s args own) {k : Nat} {f : Nat → Nat} (hk : k < Y.1.1) (ht : Y.1.2 k = (16, 0, f)) {idx : Nat} (hlink : Cond.fieldLink own idx "HotDotsModel" "begun" "I" ∈ zz_tbl) (hd : decode cc pc = .ok (.getfield idx, 3)) (hn : pc + 3 = n) (K : zz_V p l e R s m args below meth c Q nL Y σ n lv (.int (σ.1 k 8) :: st)) : zz_V p l e R s m args below meth c Q nL Y σ pc lv (.ref (Y.2.1 k) :: st) :=
  zv_get X hk (by rw [ht]; rfl) (C := RX6) (T := TX6) (Nf := 34) rfl zz_u6 8 (by decide) rfl hlink hd hn K
theorem zp_X6_8 (X : zz_X p m c cc nL s args own) {k : Nat} {f : Nat → Nat} (hk : k < Y.1.1) (ht : Y.1.2 k = (16, 0, f)) {idx : Nat} {v : Int32} (hlink : Cond.fieldLink own idx "HotDotsModel" "begun" "I" ∈ zz_tbl) (hd : decode cc pc = .ok (.putfield idx, 3)) (hn : pc + 3 = n) (K : zz_V p l e R s m args below meth c Q nL Y (zz_i σ k 8 v) n lv st) : zz_V p l e R s m args below meth c Q nL Y σ pc lv (.int v :: .ref (Y.2.1 k) :: st) :=
  zv_put X hk (by rw [ht]; rfl) (C := RX6) (T := TX6) (Nf := 34) rfl zz_u6 tyX6 tyX6_ok nmX6 8 (by decide) rfl rfl rfl (by show 8 < 34; decide) (zz_set_i (by rw [ht]; rfl)) hlink hd hn K
theorem zg_X6_9 (X : zz_X p m c cc nL s args own) {k : Nat} {f : Nat → Nat} (hk : k < Y.1.1) (ht : Y.1.2 k = (16, 0, f)) {idx : Nat} (hlink : Cond.fieldLink own idx "HotDotsModel" "sort" "I" ∈ zz_tbl) (hd : decode cc pc = .ok (.getfield idx, 3)) (hn : pc + 3 = n) (K : zz_V p l e R s m args below meth c Q nL Y σ n lv (.int (σ.1 k 9) :: st)) : zz_V p l e R s m args below meth c Q nL Y σ pc lv (.ref (Y.2.1 k) :: st) :=
  zv_get X hk (by rw [ht]; rfl) (C := RX6) (T := TX6) (Nf := 34) rfl zz_u6 9 (by decide) rfl hlink hd hn K
theorem zp_X6_9 (X : zz_X p m c cc nL s args own) {k : Nat} {f : Nat → Nat} (hk : k < Y.1.1) (ht : Y.1.2 k = (16, 0, f)) {idx : Nat} {v : Int32} (hlink : Cond.fieldLink own idx "HotDotsModel" "sort" "I" ∈ zz_tbl) (hd : decode cc pc = .ok (.putfield idx, 3)) (hn : pc + 3 = n) (K : zz_V p l e R s m args below meth c Q nL Y (zz_i σ k 9 v) n lv st) : zz_V p l e R s m args below meth c Q nL Y σ pc lv (.int v :: .ref (Y.2.1 k) :: st) :=
  zv_put X hk (by rw [ht]; rfl) (C := RX6) (T := TX6) (Nf := 34) rfl zz_u6 tyX6 tyX6_ok nmX6 9 (by decide) rfl rfl rfl (by show 9 < 34; decide) (zz_set_i (by rw [ht]; rfl)) hlink hd hn K
theorem zg_X6_10 (X : zz_X p m c cc nL s args own) {k : Nat} {f : Nat → Nat} (hk : k < Y.1.1) (ht : Y.1.2 k = (16, 0, f)) {idx : Nat} (hlink : Cond.fieldLink own idx "HotDotsModel" "value" "I" ∈ zz_tbl) (hd : decode cc pc = .ok (.getfield idx, 3)) (hn : pc + 3 = n) (K : zz_V p l e R s m args below meth c Q nL Y σ n lv (.int (σ.1 k 10) :: st)) : zz_V p l e R s m args below meth c Q nL Y σ pc lv (.ref (Y.2.1 k) :: st) :=
  zv_get X hk (by rw [ht]; rfl) (C := RX6) (T := TX6) (Nf := 34) rfl zz_u6 10 (by decide) rfl hlink hd hn K
theorem zp_X6_10 (X : zz_X p m c cc nL s args own) {k : Nat} {f : Nat → Nat} (hk : k < Y.1.1) (ht : Y.1.2 k = (16, 0, f)) {idx : Nat} {v : Int32} (hlink : Cond.fieldLink own idx "HotDotsModel" "value" "I" ∈ zz_tbl) (hd : decode cc pc = .ok (.putfield idx, 3)) (hn : pc + 3 = n) (K : zz_V p l e R s m args below meth c Q nL Y (zz_i σ k 10 v) n lv st) : zz_V p l e R s m args below meth c Q nL Y σ pc lv (.int v :: .ref (Y.2.1 k) :: st) :=
  zv_put X hk (by rw [ht]; rfl) (C := RX6) (T := TX6) (Nf := 34) rfl zz_u6 tyX6 tyX6_ok nmX6 10 (by decide) rfl rfl rfl (by show 10 < 34; decide) (zz_set_i (by rw [ht]; rfl)) hlink hd hn K
theorem zg_X6_11 (X : zz_X p m c cc nL s args own) {k : Nat} {f : Nat → Nat} (hk : k < Y.1.1) (ht : Y.1.2 k = (16, 0, f)) {idx : Nat} (hlink : Cond.fieldLink own idx "HotDotsModel" "fault" "I" ∈ zz_tbl) (hd : decode cc pc = .ok (.getfield idx, 3)) (hn : pc + 3 = n) (K : zz_V p l e R s m args below meth c Q nL Y σ n lv (.int (σ.1 k 11) :: st)) : zz_V p l e R s m args below meth c Q nL Y σ pc lv (.ref (Y.2.1 k) :: st) :=
  zv_get X hk (by rw [ht]; rfl) (C := RX6) (T := TX6) (Nf := 34) rfl zz_u6 11 (by decide) rfl hlink hd hn K
theorem zp_X6_11 (X : zz_X p m c cc nL s args own) {k : Nat} {f : Nat → Nat} (hk : k < Y.1.1) (ht : Y.1.2 k = (16, 0, f)) {idx : Nat} {v : Int32} (hlink : Cond.fieldLink own idx "HotDotsModel" "fault" "I" ∈ zz_tbl) (hd : decode cc pc = .ok (.putfield idx, 3)) (hn : pc + 3 = n) (K : zz_V p l e R s m args below meth c Q nL Y (zz_i σ k 11 v) n lv st) : zz_V p l e R s m args below meth c Q nL Y σ pc lv (.int v :: .ref (Y.2.1 k) :: st) :=
  zv_put X hk (by rw [ht]; rfl) (C := RX6) (T := TX6) (Nf := 34) rfl zz_u6 tyX6 tyX6_ok nmX6 11 (by decide) rfl rfl rfl (by show 11 < 34; decide) (zz_set_i (by rw [ht]; rfl)) hlink hd hn K
theorem zg_X6_12 (X : zz_X p m c cc nL s args own) {k : Nat} {f : Nat → Nat} (hk : k < Y.1.1) (ht : Y.1.2 k = (16, 0, f)) {idx : Nat} (hlink : Cond.fieldLink own idx "HotDotsModel" "wrongAt" "I" ∈ zz_tbl) (hd : decode cc pc = .ok (.getfield idx, 3)) (hn : pc + 3 = n) (K : zz_V p l e R s m args below meth c Q nL Y σ n lv (.int (σ.1 k 12) :: st)) : zz_V p l e R s m args below meth c Q nL Y σ pc lv (.ref (Y.2.1 k) :: st) :=
  zv_get X hk (by rw [ht]; rfl) (C := RX6) (T := TX6) (Nf := 34) rfl zz_u6 12 (by decide) rfl hlink hd hn K
theorem zp_X6_12 (X : zz_X p m c cc nL s args own) {k : Nat} {f : Nat → Nat} (hk : k < Y.1.1) (ht : Y.1.2 k = (16, 0, f)) {idx : Nat} {v : Int32} (hlink : Cond.fieldLink own idx "HotDotsModel" "wrongAt" "I" ∈ zz_tbl) (hd : decode cc pc = .ok (.putfield idx, 3)) (hn : pc + 3 = n) (K : zz_V p l e R s m args below meth c Q nL Y (zz_i σ k 12 v) n lv st) : zz_V p l e R s m args below meth c Q nL Y σ pc lv (.int v :: .ref (Y.2.1 k) :: st) :=
  zv_put X hk (by rw [ht]; rfl) (C := RX6) (T := TX6) (Nf := 34) rfl zz_u6 tyX6 tyX6_ok nmX6 12 (by decide) rfl rfl rfl (by show 12 < 34; decide) (zz_set_i (by rw [ht]; rfl)) hlink hd hn K
theorem zg_X6_13 (X : zz_X p m c cc nL s args own) {k : Nat} {f : Nat → Nat} (hk : k < Y.1.1) (ht : Y.1.2 k = (16, 0, f)) {idx : Nat} (hlink : Cond.fieldLink own idx "HotDotsModel" "waits" "I" ∈ zz_tbl) (hd : decode cc pc = .ok (.getfield idx, 3)) (hn : pc + 3 = n) (K : zz_V p l e R s m args below meth c Q nL Y σ n lv (.int (σ.1 k 13) :: st)) : zz_V p l e R s m args below meth c Q nL Y σ pc lv (.ref (Y.2.1 k) :: st) :=
  zv_get X hk (by rw [ht]; rfl) (C := RX6) (T := TX6) (Nf := 34) rfl zz_u6 13 (by decide) rfl hlink hd hn K
theorem zp_X6_13 (X : zz_X p m c cc nL s args own) {k : Nat} {f : Nat → Nat} (hk : k < Y.1.1) (ht : Y.1.2 k = (16, 0, f)) {idx : Nat} {v : Int32} (hlink : Cond.fieldLink own idx "HotDotsModel" "waits" "I" ∈ zz_tbl) (hd : decode cc pc = .ok (.putfield idx, 3)) (hn : pc + 3 = n) (K : zz_V p l e R s m args below meth c Q nL Y (zz_i σ k 13 v) n lv st) : zz_V p l e R s m args below meth c Q nL Y σ pc lv (.int v :: .ref (Y.2.1 k) :: st) :=
  zv_put X hk (by rw [ht]; rfl) (C := RX6) (T := TX6) (Nf := 34) rfl zz_u6 tyX6 tyX6_ok nmX6 13 (by decide) rfl rfl rfl (by show 13 < 34; decide) (zz_set_i (by rw [ht]; rfl)) hlink hd hn K
theorem zg_X6_14 (X : zz_X p m c cc nL s args own) {k : Nat} {f : Nat → Nat} (hk : k < Y.1.1) (ht : Y.1.2 k = (16, 0, f)) {idx : Nat} (hlink : Cond.fieldLink own idx "HotDotsModel" "wrongMany" "I" ∈ zz_tbl) (hd : decode cc pc = .ok (.getfield idx, 3)) (hn : pc + 3 = n) (K : zz_V p l e R s m args below meth c Q nL Y σ n lv (.int (σ.1 k 14) :: st)) : zz_V p l e R s m args below meth c Q nL Y σ pc lv (.ref (Y.2.1 k) :: st) :=
  zv_get X hk (by rw [ht]; rfl) (C := RX6) (T := TX6) (Nf := 34) rfl zz_u6 14 (by decide) rfl hlink hd hn K
theorem zp_X6_14 (X : zz_X p m c cc nL s args own) {k : Nat} {f : Nat → Nat} (hk : k < Y.1.1) (ht : Y.1.2 k = (16, 0, f)) {idx : Nat} {v : Int32} (hlink : Cond.fieldLink own idx "HotDotsModel" "wrongMany" "I" ∈ zz_tbl) (hd : decode cc pc = .ok (.putfield idx, 3)) (hn : pc + 3 = n) (K : zz_V p l e R s m args below meth c Q nL Y (zz_i σ k 14 v) n lv st) : zz_V p l e R s m args below meth c Q nL Y σ pc lv (.int v :: .ref (Y.2.1 k) :: st) :=
  zv_put X hk (by rw [ht]; rfl) (C := RX6) (T := TX6) (Nf := 34) rfl zz_u6 tyX6 tyX6_ok nmX6 14 (by decide) rfl rfl rfl (by show 14 < 34; decide) (zz_set_i (by rw [ht]; rfl)) hlink hd hn K
theorem zg_X6_15 (X : zz_X p m c cc nL s args own) {k : Nat} {f : Nat → Nat} (hk : k < Y.1.1) (ht : Y.1.2 k = (16, 0, f)) {idx : Nat} (hlink : Cond.fieldLink own idx "HotDotsModel" "blackMany" "I" ∈ zz_tbl) (hd : decode cc pc = .ok (.getfield idx, 3)) (hn : pc + 3 = n) (K : zz_V p l e R s m args below meth c Q nL Y σ n lv (.int (σ.1 k 15) :: st)) : zz_V p l e R s m args below meth c Q nL Y σ pc lv (.ref (Y.2.1 k) :: st) :=
  zv_get X hk (by rw [ht]; rfl) (C := RX6) (T := TX6) (Nf := 34) rfl zz_u6 15 (by decide) rfl hlink hd hn K
theorem zp_X6_15 (X : zz_X p m c cc nL s args own) {k : Nat} {f : Nat → Nat} (hk : k < Y.1.1) (ht : Y.1.2 k = (16, 0, f)) {idx : Nat} {v : Int32} (hlink : Cond.fieldLink own idx "HotDotsModel" "blackMany" "I" ∈ zz_tbl) (hd : decode cc pc = .ok (.putfield idx, 3)) (hn : pc + 3 = n) (K : zz_V p l e R s m args below meth c Q nL Y (zz_i σ k 15 v) n lv st) : zz_V p l e R s m args below meth c Q nL Y σ pc lv (.int v :: .ref (Y.2.1 k) :: st) :=
  zv_put X hk (by rw [ht]; rfl) (C := RX6) (T := TX6) (Nf := 34) rfl zz_u6 tyX6 tyX6_ok nmX6 15 (by decide) rfl rfl rfl (by show 15 < 34; decide) (zz_set_i (by rw [ht]; rfl)) hlink hd hn K
theorem zg_X6_16 (X : zz_X p m c cc nL s args own) {k : Nat} {f : Nat → Nat} (hk : k < Y.1.1) (ht : Y.1.2 k = (16, 0, f)) {idx : Nat} (hlink : Cond.fieldLink own idx "HotDotsModel" "hottest" "I" ∈ zz_tbl) (hd : decode cc pc = .ok (.getfield idx, 3)) (hn : pc + 3 = n) (K : zz_V p l e R s m args below meth c Q nL Y σ n lv (.int (σ.1 k 16) :: st)) : zz_V p l e R s m args below meth c Q nL Y σ pc lv (.ref (Y.2.1 k) :: st) :=
  zv_get X hk (by rw [ht]; rfl) (C := RX6) (T := TX6) (Nf := 34) rfl zz_u6 16 (by decide) rfl hlink hd hn K
theorem zp_X6_16 (X : zz_X p m c cc nL s args own) {k : Nat} {f : Nat → Nat} (hk : k < Y.1.1) (ht : Y.1.2 k = (16, 0, f)) {idx : Nat} {v : Int32} (hlink : Cond.fieldLink own idx "HotDotsModel" "hottest" "I" ∈ zz_tbl) (hd : decode cc pc = .ok (.putfield idx, 3)) (hn : pc + 3 = n) (K : zz_V p l e R s m args below meth c Q nL Y (zz_i σ k 16 v) n lv st) : zz_V p l e R s m args below meth c Q nL Y σ pc lv (.int v :: .ref (Y.2.1 k) :: st) :=
  zv_put X hk (by rw [ht]; rfl) (C := RX6) (T := TX6) (Nf := 34) rfl zz_u6 tyX6 tyX6_ok nmX6 16 (by decide) rfl rfl rfl (by show 16 < 34; decide) (zz_set_i (by rw [ht]; rfl)) hlink hd hn K
theorem zg_X6_17 (X : zz_X p m c cc nL s args own) {k : Nat} {f : Nat → Nat} (hk : k < Y.1.1) (ht : Y.1.2 k = (16, 0, f)) {idx : Nat} (hlink : Cond.fieldLink own idx "HotDotsModel" "wrongRows" "I" ∈ zz_tbl) (hd : decode cc pc = .ok (.getfield idx, 3)) (hn : pc + 3 = n) (K : zz_V p l e R s m args below meth c Q nL Y σ n lv (.int (σ.1 k 17) :: st)) : zz_V p l e R s m args below meth c Q nL Y σ pc lv (.ref (Y.2.1 k) :: st) :=
  zv_get X hk (by rw [ht]; rfl) (C := RX6) (T := TX6) (Nf := 34) rfl zz_u6 17 (by decide) rfl hlink hd hn K
theorem zp_X6_17 (X : zz_X p m c cc nL s args own) {k : Nat} {f : Nat → Nat} (hk : k < Y.1.1) (ht : Y.1.2 k = (16, 0, f)) {idx : Nat} {v : Int32} (hlink : Cond.fieldLink own idx "HotDotsModel" "wrongRows" "I" ∈ zz_tbl) (hd : decode cc pc = .ok (.putfield idx, 3)) (hn : pc + 3 = n) (K : zz_V p l e R s m args below meth c Q nL Y (zz_i σ k 17 v) n lv st) : zz_V p l e R s m args below meth c Q nL Y σ pc lv (.int v :: .ref (Y.2.1 k) :: st) :=
  zv_put X hk (by rw [ht]; rfl) (C := RX6) (T := TX6) (Nf := 34) rfl zz_u6 tyX6 tyX6_ok nmX6 17 (by decide) rfl rfl rfl (by show 17 < 34; decide) (zz_set_i (by rw [ht]; rfl)) hlink hd hn K
theorem zg_X6_18 (X : zz_X p m c cc nL s args own) {k : Nat} {f : Nat → Nat} (hk : k < Y.1.1) (ht : Y.1.2 k = (16, 0, f)) {idx : Nat} (hlink : Cond.fieldLink own idx "HotDotsModel" "wrongBy" "[I" ∈ zz_tbl) (hd : decode cc pc = .ok (.getfield idx, 3)) (hn : pc + 3 = n) (K : zz_V p l e R s m args below meth c Q nL Y σ n lv (.ref (Y.2.1 (f 18)) :: st)) : zz_V p l e R s m args below meth c Q nL Y σ pc lv (.ref (Y.2.1 k) :: st) :=
  zv_get X hk (by rw [ht]; rfl) (C := RX6) (T := TX6) (Nf := 34) rfl zz_u6 18 (by decide) rfl hlink hd hn K
theorem zg_X6_19 (X : zz_X p m c cc nL s args own) {k : Nat} {f : Nat → Nat} (hk : k < Y.1.1) (ht : Y.1.2 k = (16, 0, f)) {idx : Nat} (hlink : Cond.fieldLink own idx "HotDotsModel" "blackNow" "[I" ∈ zz_tbl) (hd : decode cc pc = .ok (.getfield idx, 3)) (hn : pc + 3 = n) (K : zz_V p l e R s m args below meth c Q nL Y σ n lv (.ref (Y.2.1 (f 19)) :: st)) : zz_V p l e R s m args below meth c Q nL Y σ pc lv (.ref (Y.2.1 k) :: st) :=
  zv_get X hk (by rw [ht]; rfl) (C := RX6) (T := TX6) (Nf := 34) rfl zz_u6 19 (by decide) rfl hlink hd hn K
theorem zg_X6_20 (X : zz_X p m c cc nL s args own) {k : Nat} {f : Nat → Nat} (hk : k < Y.1.1) (ht : Y.1.2 k = (16, 0, f)) {idx : Nat} (hlink : Cond.fieldLink own idx "HotDotsModel" "got" "[I" ∈ zz_tbl) (hd : decode cc pc = .ok (.getfield idx, 3)) (hn : pc + 3 = n) (K : zz_V p l e R s m args below meth c Q nL Y σ n lv (.ref (Y.2.1 (f 20)) :: st)) : zz_V p l e R s m args below meth c Q nL Y σ pc lv (.ref (Y.2.1 k) :: st) :=
  zv_get X hk (by rw [ht]; rfl) (C := RX6) (T := TX6) (Nf := 34) rfl zz_u6 20 (by decide) rfl hlink hd hn K
theorem zg_X6_21 (X : zz_X p m c cc nL s args own) {k : Nat} {f : Nat → Nat} (hk : k < Y.1.1) (ht : Y.1.2 k = (16, 0, f)) {idx : Nat} (hlink : Cond.fieldLink own idx "HotDotsModel" "to" "[I" ∈ zz_tbl) (hd : decode cc pc = .ok (.getfield idx, 3)) (hn : pc + 3 = n) (K : zz_V p l e R s m args below meth c Q nL Y σ n lv (.ref (Y.2.1 (f 21)) :: st)) : zz_V p l e R s m args below meth c Q nL Y σ pc lv (.ref (Y.2.1 k) :: st) :=
  zv_get X hk (by rw [ht]; rfl) (C := RX6) (T := TX6) (Nf := 34) rfl zz_u6 21 (by decide) rfl hlink hd hn K
theorem zg_X6_22 (X : zz_X p m c cc nL s args own) {k : Nat} {f : Nat → Nat} (hk : k < Y.1.1) (ht : Y.1.2 k = (16, 0, f)) {idx : Nat} (hlink : Cond.fieldLink own idx "HotDotsModel" "bestCode" "I" ∈ zz_tbl) (hd : decode cc pc = .ok (.getfield idx, 3)) (hn : pc + 3 = n) (K : zz_V p l e R s m args below meth c Q nL Y σ n lv (.int (σ.1 k 22) :: st)) : zz_V p l e R s m args below meth c Q nL Y σ pc lv (.ref (Y.2.1 k) :: st) :=
  zv_get X hk (by rw [ht]; rfl) (C := RX6) (T := TX6) (Nf := 34) rfl zz_u6 22 (by decide) rfl hlink hd hn K
theorem zp_X6_22 (X : zz_X p m c cc nL s args own) {k : Nat} {f : Nat → Nat} (hk : k < Y.1.1) (ht : Y.1.2 k = (16, 0, f)) {idx : Nat} {v : Int32} (hlink : Cond.fieldLink own idx "HotDotsModel" "bestCode" "I" ∈ zz_tbl) (hd : decode cc pc = .ok (.putfield idx, 3)) (hn : pc + 3 = n) (K : zz_V p l e R s m args below meth c Q nL Y (zz_i σ k 22 v) n lv st) : zz_V p l e R s m args below meth c Q nL Y σ pc lv (.int v :: .ref (Y.2.1 k) :: st) :=
  zv_put X hk (by rw [ht]; rfl) (C := RX6) (T := TX6) (Nf := 34) rfl zz_u6 tyX6 tyX6_ok nmX6 22 (by decide) rfl rfl rfl (by show 22 < 34; decide) (zz_set_i (by rw [ht]; rfl)) hlink hd hn K
theorem zg_X6_23 (X : zz_X p m c cc nL s args own) {k : Nat} {f : Nat → Nat} (hk : k < Y.1.1) (ht : Y.1.2 k = (16, 0, f)) {idx : Nat} (hlink : Cond.fieldLink own idx "HotDotsModel" "bestMuch" "I" ∈ zz_tbl) (hd : decode cc pc = .ok (.getfield idx, 3)) (hn : pc + 3 = n) (K : zz_V p l e R s m args below meth c Q nL Y σ n lv (.int (σ.1 k 23) :: st)) : zz_V p l e R s m args below meth c Q nL Y σ pc lv (.ref (Y.2.1 k) :: st) :=
  zv_get X hk (by rw [ht]; rfl) (C := RX6) (T := TX6) (Nf := 34) rfl zz_u6 23 (by decide) rfl hlink hd hn K
theorem zp_X6_23 (X : zz_X p m c cc nL s args own) {k : Nat} {f : Nat → Nat} (hk : k < Y.1.1) (ht : Y.1.2 k = (16, 0, f)) {idx : Nat} {v : Int32} (hlink : Cond.fieldLink own idx "HotDotsModel" "bestMuch" "I" ∈ zz_tbl) (hd : decode cc pc = .ok (.putfield idx, 3)) (hn : pc + 3 = n) (K : zz_V p l e R s m args below meth c Q nL Y (zz_i σ k 23 v) n lv st) : zz_V p l e R s m args below meth c Q nL Y σ pc lv (.int v :: .ref (Y.2.1 k) :: st) :=
  zv_put X hk (by rw [ht]; rfl) (C := RX6) (T := TX6) (Nf := 34) rfl zz_u6 tyX6 tyX6_ok nmX6 23 (by decide) rfl rfl rfl (by show 23 < 34; decide) (zz_set_i (by rw [ht]; rfl)) hlink hd hn K
theorem zg_X6_24 (X : zz_X p m c cc nL s args own) {k : Nat} {f : Nat → Nat} (hk : k < Y.1.1) (ht : Y.1.2 k = (16, 0, f)) {idx : Nat} (hlink : Cond.fieldLink own idx "HotDotsModel" "rightSum" "J" ∈ zz_tbl) (hd : decode cc pc = .ok (.getfield idx, 3)) (hn : pc + 3 = n) (K : zz_V p l e R s m args below meth c Q nL Y σ n lv (.long (σ.2 24) :: st)) : zz_V p l e R s m args below meth c Q nL Y σ pc lv (.ref (Y.2.1 k) :: st) :=
  zv_get X hk (by rw [ht]; rfl) (C := RX6) (T := TX6) (Nf := 34) rfl zz_u6 24 (by decide) rfl hlink hd hn K
theorem zp_X6_24 (X : zz_X p m c cc nL s args own) {k : Nat} {f : Nat → Nat} (hk : k < Y.1.1) (ht : Y.1.2 k = (16, 0, f)) (ho : ∀ i, i ≠ k → (Y.1.2 i).1 < 6) {idx : Nat} {v : Int64} (hlink : Cond.fieldLink own idx "HotDotsModel" "rightSum" "J" ∈ zz_tbl) (hd : decode cc pc = .ok (.putfield idx, 3)) (hn : pc + 3 = n) (K : zz_V p l e R s m args below meth c Q nL Y (zz_l σ 24 v) n lv st) : zz_V p l e R s m args below meth c Q nL Y σ pc lv (.long v :: .ref (Y.2.1 k) :: st) :=
  zv_put X hk (by rw [ht]; rfl) (C := RX6) (T := TX6) (Nf := 34) rfl zz_u6 tyX6 tyX6_ok nmX6 24 (by decide) rfl rfl rfl (by show 24 < 34; decide) (zz_set_l (by rw [ht]; rfl) ho) hlink hd hn K
theorem zg_X6_25 (X : zz_X p m c cc nL s args own) {k : Nat} {f : Nat → Nat} (hk : k < Y.1.1) (ht : Y.1.2 k = (16, 0, f)) {idx : Nat} (hlink : Cond.fieldLink own idx "HotDotsModel" "wrongSum" "J" ∈ zz_tbl) (hd : decode cc pc = .ok (.getfield idx, 3)) (hn : pc + 3 = n) (K : zz_V p l e R s m args below meth c Q nL Y σ n lv (.long (σ.2 25) :: st)) : zz_V p l e R s m args below meth c Q nL Y σ pc lv (.ref (Y.2.1 k) :: st) :=
  zv_get X hk (by rw [ht]; rfl) (C := RX6) (T := TX6) (Nf := 34) rfl zz_u6 25 (by decide) rfl hlink hd hn K
theorem zp_X6_25 (X : zz_X p m c cc nL s args own) {k : Nat} {f : Nat → Nat} (hk : k < Y.1.1) (ht : Y.1.2 k = (16, 0, f)) (ho : ∀ i, i ≠ k → (Y.1.2 i).1 < 6) {idx : Nat} {v : Int64} (hlink : Cond.fieldLink own idx "HotDotsModel" "wrongSum" "J" ∈ zz_tbl) (hd : decode cc pc = .ok (.putfield idx, 3)) (hn : pc + 3 = n) (K : zz_V p l e R s m args below meth c Q nL Y (zz_l σ 25 v) n lv st) : zz_V p l e R s m args below meth c Q nL Y σ pc lv (.long v :: .ref (Y.2.1 k) :: st) :=
  zv_put X hk (by rw [ht]; rfl) (C := RX6) (T := TX6) (Nf := 34) rfl zz_u6 tyX6 tyX6_ok nmX6 25 (by decide) rfl rfl rfl (by show 25 < 34; decide) (zz_set_l (by rw [ht]; rfl) ho) hlink hd hn K
theorem zg_X6_26 (X : zz_X p m c cc nL s args own) {k : Nat} {f : Nat → Nat} (hk : k < Y.1.1) (ht : Y.1.2 k = (16, 0, f)) {idx : Nat} (hlink : Cond.fieldLink own idx "HotDotsModel" "allWays" "J" ∈ zz_tbl) (hd : decode cc pc = .ok (.getfield idx, 3)) (hn : pc + 3 = n) (K : zz_V p l e R s m args below meth c Q nL Y σ n lv (.long (σ.2 26) :: st)) : zz_V p l e R s m args below meth c Q nL Y σ pc lv (.ref (Y.2.1 k) :: st) :=
  zv_get X hk (by rw [ht]; rfl) (C := RX6) (T := TX6) (Nf := 34) rfl zz_u6 26 (by decide) rfl hlink hd hn K
theorem zp_X6_26 (X : zz_X p m c cc nL s args own) {k : Nat} {f : Nat → Nat} (hk : k < Y.1.1) (ht : Y.1.2 k = (16, 0, f)) (ho : ∀ i, i ≠ k → (Y.1.2 i).1 < 6) {idx : Nat} {v : Int64} (hlink : Cond.fieldLink own idx "HotDotsModel" "allWays" "J" ∈ zz_tbl) (hd : decode cc pc = .ok (.putfield idx, 3)) (hn : pc + 3 = n) (K : zz_V p l e R s m args below meth c Q nL Y (zz_l σ 26 v) n lv st) : zz_V p l e R s m args below meth c Q nL Y σ pc lv (.long v :: .ref (Y.2.1 k) :: st) :=
  zv_put X hk (by rw [ht]; rfl) (C := RX6) (T := TX6) (Nf := 34) rfl zz_u6 tyX6 tyX6_ok nmX6 26 (by decide) rfl rfl rfl (by show 26 < 34; decide) (zz_set_l (by rw [ht]; rfl) ho) hlink hd hn K
theorem zg_X6_27 (X : zz_X p m c cc nL s args own) {k : Nat} {f : Nat → Nat} (hk : k < Y.1.1) (ht : Y.1.2 k = (16, 0, f)) {idx : Nat} (hlink : Cond.fieldLink own idx "HotDotsModel" "blacks" "[I" ∈ zz_tbl) (hd : decode cc pc = .ok (.getfield idx, 3)) (hn : pc + 3 = n) (K : zz_V p l e R s m args below meth c Q nL Y σ n lv (.ref (Y.2.1 (f 27)) :: st)) : zz_V p l e R s m args below meth c Q nL Y σ pc lv (.ref (Y.2.1 k) :: st) :=
  zv_get X hk (by rw [ht]; rfl) (C := RX6) (T := TX6) (Nf := 34) rfl zz_u6 27 (by decide) rfl hlink hd hn K
theorem zg_X6_28 (X : zz_X p m c cc nL s args own) {k : Nat} {f : Nat → Nat} (hk : k < Y.1.1) (ht : Y.1.2 k = (16, 0, f)) {idx : Nat} (hlink : Cond.fieldLink own idx "HotDotsModel" "byPower" "[I" ∈ zz_tbl) (hd : decode cc pc = .ok (.getfield idx, 3)) (hn : pc + 3 = n) (K : zz_V p l e R s m args below meth c Q nL Y σ n lv (.ref (Y.2.1 (f 28)) :: st)) : zz_V p l e R s m args below meth c Q nL Y σ pc lv (.ref (Y.2.1 k) :: st) :=
  zv_get X hk (by rw [ht]; rfl) (C := RX6) (T := TX6) (Nf := 34) rfl zz_u6 28 (by decide) rfl hlink hd hn K
theorem zg_X6_29 (X : zz_X p m c cc nL s args own) {k : Nat} {f : Nat → Nat} (hk : k < Y.1.1) (ht : Y.1.2 k = (16, 0, f)) {idx : Nat} (hlink : Cond.fieldLink own idx "HotDotsModel" "lanes" "[I" ∈ zz_tbl) (hd : decode cc pc = .ok (.getfield idx, 3)) (hn : pc + 3 = n) (K : zz_V p l e R s m args below meth c Q nL Y σ n lv (.ref (Y.2.1 (f 29)) :: st)) : zz_V p l e R s m args below meth c Q nL Y σ pc lv (.ref (Y.2.1 k) :: st) :=
  zv_get X hk (by rw [ht]; rfl) (C := RX6) (T := TX6) (Nf := 34) rfl zz_u6 29 (by decide) rfl hlink hd hn K
theorem zg_X6_30 (X : zz_X p m c cc nL s args own) {k : Nat} {f : Nat → Nat} (hk : k < Y.1.1) (ht : Y.1.2 k = (16, 0, f)) {idx : Nat} (hlink : Cond.fieldLink own idx "HotDotsModel" "sizes" "[I" ∈ zz_tbl) (hd : decode cc pc = .ok (.getfield idx, 3)) (hn : pc + 3 = n) (K : zz_V p l e R s m args below meth c Q nL Y σ n lv (.ref (Y.2.1 (f 30)) :: st)) : zz_V p l e R s m args below meth c Q nL Y σ pc lv (.ref (Y.2.1 k) :: st) :=
  zv_get X hk (by rw [ht]; rfl) (C := RX6) (T := TX6) (Nf := 34) rfl zz_u6 30 (by decide) rfl hlink hd hn K
theorem zg_X6_31 (X : zz_X p m c cc nL s args own) {k : Nat} {f : Nat → Nat} (hk : k < Y.1.1) (ht : Y.1.2 k = (16, 0, f)) {idx : Nat} (hlink : Cond.fieldLink own idx "HotDotsModel" "cells" "[I" ∈ zz_tbl) (hd : decode cc pc = .ok (.getfield idx, 3)) (hn : pc + 3 = n) (K : zz_V p l e R s m args below meth c Q nL Y σ n lv (.ref (Y.2.1 (f 31)) :: st)) : zz_V p l e R s m args below meth c Q nL Y σ pc lv (.ref (Y.2.1 k) :: st) :=
  zv_get X hk (by rw [ht]; rfl) (C := RX6) (T := TX6) (Nf := 34) rfl zz_u6 31 (by decide) rfl hlink hd hn K
theorem zg_X6_32 (X : zz_X p m c cc nL s args own) {k : Nat} {f : Nat → Nat} (hk : k < Y.1.1) (ht : Y.1.2 k = (16, 0, f)) {idx : Nat} (hlink : Cond.fieldLink own idx "HotDotsModel" "torn" "I" ∈ zz_tbl) (hd : decode cc pc = .ok (.getfield idx, 3)) (hn : pc + 3 = n) (K : zz_V p l e R s m args below meth c Q nL Y σ n lv (.int (σ.1 k 32) :: st)) : zz_V p l e R s m args below meth c Q nL Y σ pc lv (.ref (Y.2.1 k) :: st) :=
  zv_get X hk (by rw [ht]; rfl) (C := RX6) (T := TX6) (Nf := 34) rfl zz_u6 32 (by decide) rfl hlink hd hn K
theorem zp_X6_32 (X : zz_X p m c cc nL s args own) {k : Nat} {f : Nat → Nat} (hk : k < Y.1.1) (ht : Y.1.2 k = (16, 0, f)) {idx : Nat} {v : Int32} (hlink : Cond.fieldLink own idx "HotDotsModel" "torn" "I" ∈ zz_tbl) (hd : decode cc pc = .ok (.putfield idx, 3)) (hn : pc + 3 = n) (K : zz_V p l e R s m args below meth c Q nL Y (zz_i σ k 32 v) n lv st) : zz_V p l e R s m args below meth c Q nL Y σ pc lv (.int v :: .ref (Y.2.1 k) :: st) :=
  zv_put X hk (by rw [ht]; rfl) (C := RX6) (T := TX6) (Nf := 34) rfl zz_u6 tyX6 tyX6_ok nmX6 32 (by decide) rfl rfl rfl (by show 32 < 34; decide) (zz_set_i (by rw [ht]; rfl)) hlink hd hn K
theorem zg_X6_33 (X : zz_X p m c cc nL s args own) {k : Nat} {f : Nat → Nat} (hk : k < Y.1.1) (ht : Y.1.2 k = (16, 0, f)) {idx : Nat} (hlink : Cond.fieldLink own idx "HotDotsModel" "before" "[I" ∈ zz_tbl) (hd : decode cc pc = .ok (.getfield idx, 3)) (hn : pc + 3 = n) (K : zz_V p l e R s m args below meth c Q nL Y σ n lv (.ref (Y.2.1 (f 33)) :: st)) : zz_V p l e R s m args below meth c Q nL Y σ pc lv (.ref (Y.2.1 k) :: st) :=
  zv_get X hk (by rw [ht]; rfl) (C := RX6) (T := TX6) (Nf := 34) rfl zz_u6 33 (by decide) rfl hlink hd hn K
end ZV
end
section
theorem zz_cpN : Cond.native arraycopyName ∈ zz_tbl := zz_in 131 (by decide +kernel) (by decide +kernel)
theorem zz_cpS : Cond.static arraycopyName ∈ zz_tbl := zz_in 130 (by decide +kernel) (by decide +kernel)
theorem zz_cpI : Cond.initialized "java/lang/System" ∈ zz_tbl := zz_in 6 (by decide +kernel) (by decide +kernel)
theorem zz_maI : Cond.initialized "java/lang/Math" ∈ zz_tbl := zz_in 14 (by decide +kernel) (by decide +kernel)
theorem zz_mxS : Cond.static Lib.Math.max.name ∈ zz_tbl := zz_in 513 (by decide +kernel) (by decide +kernel)
theorem zz_mxC : Cond.code Lib.Math.max.name Lib.Math.max.code 2 (some .int) ∈ zz_tbl := zz_in 514 (by decide +kernel) (by decide +kernel)
theorem zz_mnS : Cond.static Lib.Math.min.name ∈ zz_tbl := zz_in 491 (by decide +kernel) (by decide +kernel)
theorem zz_mnC : Cond.code Lib.Math.min.name Lib.Math.min.code 2 (some .int) ∈ zz_tbl := zz_in 492 (by decide +kernel) (by decide +kernel)
section ZR
variable {p : Program} {l : Launch} {e : Env} {R : Room} {s : State} {m : MethodId} {args : Array Value} {below : List Frame} {meth : Method} {c : Code} {Q : State → Prop} {nL : Nat} {Y : zz_Y} {σ : zz_T} {cc : ByteArray} {own : String} {pc n : Nat} {lv : List (Nat × Value)} {st : List Value}
theorem zv_iald (X : zz_X p m c cc nL s args own) {k len : Nat} {f : Nat → Nat} (hk : k < Y.1.1) (ht : Y.1.2 k = (0, len, f)) {i : Int32} (hin : vp_in i len) (hd : decode cc pc = .ok (.iaload, 1)) (hn : pc + 1 = n) (K : zz_V p l e R s m args below meth c Q nL Y σ n lv (.int (σ.1 k i.toNatClampNeg) :: st)) : zz_V p l e R s m args below meth c Q nL Y σ pc lv (.int i :: .ref (Y.2.1 k) :: st) := by
  subst hn; intro H locs ls hG hl
  exact va_iald X.1 X.2.1 hG.2.1 hG.1 k 0 (by rw [zz_w_at hk, ht]; rfl) rfl hin hd (K H locs ls hG hl)
theorem zv_bald (X : zz_X p m c cc nL s args own) {k len : Nat} {f : Nat → Nat} (hk : k < Y.1.1) (ht : Y.1.2 k = (1, len, f)) {i : Int32} (hin : vp_in i len) (hd : decode cc pc = .ok (.baload, 1)) (hn : pc + 1 = n) (K : zz_V p l e R s m args below meth c Q nL Y σ n lv (.int (σ.1 k i.toNatClampNeg) :: st)) : zz_V p l e R s m args below meth c Q nL Y σ pc lv (.int i :: .ref (Y.2.1 k) :: st) := by
  subst hn; intro H locs ls hG hl
  exact va_bald X.1 X.2.1 hG.2.1 hG.1 k 1 (by rw [zz_w_at hk, ht]; rfl) rfl hin hd (K H locs ls hG hl)
theorem zv_zald (X : zz_X p m c cc nL s args own) {k len : Nat} {f : Nat → Nat} (hk : k < Y.1.1) (ht : Y.1.2 k = (2, len, f)) {i : Int32} (hin : vp_in i len) (hd : decode cc pc = .ok (.baload, 1)) (hn : pc + 1 = n) (K : zz_V p l e R s m args below meth c Q nL Y σ n lv (.int (σ.1 k i.toNatClampNeg) :: st)) : zz_V p l e R s m args below meth c Q nL Y σ pc lv (.int i :: .ref (Y.2.1 k) :: st) := by
  subst hn; intro H locs ls hG hl
  exact va_zald X.1 X.2.1 hG.2.1 hG.1 k 2 (by rw [zz_w_at hk, ht]; rfl) rfl hin hd (K H locs ls hG hl)
theorem zv_iast (X : zz_X p m c cc nL s args own) {k len : Nat} {f : Nat → Nat} (hk : k < Y.1.1) (ht : Y.1.2 k = (0, len, f)) {i x : Int32} (hin : vp_in i len) (hd : decode cc pc = .ok (.iastore, 1)) (hn : pc + 1 = n) (K : zz_V p l e R s m args below meth c Q nL Y (zz_i σ k i.toNatClampNeg x) n lv st) : zz_V p l e R s m args below meth c Q nL Y σ pc lv (.int x :: .int i :: .ref (Y.2.1 k) :: st) := by
  subst hn; intro H locs ls hG hl
  refine va_iast X.1 X.2.1 hG.2.1 hG.1 (zz_D hG.2.2.2.2.2 σ) hG.2.2.1 k 0 (by rw [zz_w_at hk, ht]; rfl) rfl hin hd (fun H1 locs1 hP hD hS => ?_)
  rw [zz_set_i (j := i.toNatClampNeg) (v := x) (by rw [ht]; rfl)] at hP
  exact K H1 locs1 ls ⟨hP, hG.2.1, hS, hG.2.2.2⟩ hl
theorem zv_bast (X : zz_X p m c cc nL s args own) {k len : Nat} {f : Nat → Nat} (hk : k < Y.1.1) (ht : Y.1.2 k = (1, len, f)) {i x : Int32} (hin : vp_in i len) (hd : decode cc pc = .ok (.bastore, 1)) (hn : pc + 1 = n) (K : zz_V p l e R s m args below meth c Q nL Y (zz_i σ k i.toNatClampNeg (vp_nar .byte x)) n lv st) : zz_V p l e R s m args below meth c Q nL Y σ pc lv (.int x :: .int i :: .ref (Y.2.1 k) :: st) := by
  subst hn; intro H locs ls hG hl
  refine va_bast X.1 X.2.1 hG.2.1 hG.1 (zz_D hG.2.2.2.2.2 σ) hG.2.2.1 k 1 (by rw [zz_w_at hk, ht]; rfl) rfl hin hd (fun H1 locs1 hP hD hS => ?_)
  rw [zz_set_i (j := i.toNatClampNeg) (v := (vp_nar .byte x)) (by rw [ht]; rfl)] at hP
  exact K H1 locs1 ls ⟨hP, hG.2.1, hS, hG.2.2.2⟩ hl
theorem zv_zast (X : zz_X p m c cc nL s args own) {k len : Nat} {f : Nat → Nat} (hk : k < Y.1.1) (ht : Y.1.2 k = (2, len, f)) {i x : Int32} (hin : vp_in i len) (hd : decode cc pc = .ok (.bastore, 1)) (hn : pc + 1 = n) (K : zz_V p l e R s m args below meth c Q nL Y (zz_i σ k i.toNatClampNeg (vp_nar .boolean x)) n lv st) : zz_V p l e R s m args below meth c Q nL Y σ pc lv (.int x :: .int i :: .ref (Y.2.1 k) :: st) := by
  subst hn; intro H locs ls hG hl
  refine va_zast X.1 X.2.1 hG.2.1 hG.1 (zz_D hG.2.2.2.2.2 σ) hG.2.2.1 k 2 (by rw [zz_w_at hk, ht]; rfl) rfl hin hd (fun H1 locs1 hP hD hS => ?_)
  rw [zz_set_i (j := i.toNatClampNeg) (v := (vp_nar .boolean x)) (by rw [ht]; rfl)] at hP
  exact K H1 locs1 ls ⟨hP, hG.2.1, hS, hG.2.2.2⟩ hl
theorem zv_aald3 (X : zz_X p m c cc nL s args own) {k len : Nat} {f : Nat → Nat} (hk : k < Y.1.1) (ht : Y.1.2 k = (3, len, f)) {i : Int32} (hin : vp_in i len) (hd : decode cc pc = .ok (.aaload, 1)) (hn : pc + 1 = n) (K : zz_V p l e R s m args below meth c Q nL Y σ n lv (.ref (Y.2.1 (f i.toNatClampNeg)) :: st)) : zz_V p l e R s m args below meth c Q nL Y σ pc lv (.int i :: .ref (Y.2.1 k) :: st) := by
  subst hn; intro H locs ls hG hl
  exact va_aldq (f := fun j => some (Y.2.1 (f j))) X.1 X.2.1 hG.2.1 hG.1 k 3 (by rw [zz_w_at hk, ht]; rfl) rfl hin hd (K H locs ls hG hl)
theorem zv_aald4 (X : zz_X p m c cc nL s args own) {k len : Nat} {f : Nat → Nat} (hk : k < Y.1.1) (ht : Y.1.2 k = (4, len, f)) {i : Int32} (hin : vp_in i len) (hd : decode cc pc = .ok (.aaload, 1)) (hn : pc + 1 = n) (K : zz_V p l e R s m args below meth c Q nL Y σ n lv (.ref (Y.2.1 (f i.toNatClampNeg)) :: st)) : zz_V p l e R s m args below meth c Q nL Y σ pc lv (.int i :: .ref (Y.2.1 k) :: st) := by
  subst hn; intro H locs ls hG hl
  exact va_aldq (f := fun j => some (Y.2.1 (f j))) X.1 X.2.1 hG.2.1 hG.1 k 4 (by rw [zz_w_at hk, ht]; rfl) rfl hin hd (K H locs ls hG hl)
theorem zv_aald5 (X : zz_X p m c cc nL s args own) {k len : Nat} {f : Nat → Nat} (hk : k < Y.1.1) (ht : Y.1.2 k = (5, len, f)) {i : Int32} (hin : vp_in i len) (hd : decode cc pc = .ok (.aaload, 1)) (hn : pc + 1 = n) (K : zz_V p l e R s m args below meth c Q nL Y σ n lv (.ref (Y.2.1 (f i.toNatClampNeg)) :: st)) : zz_V p l e R s m args below meth c Q nL Y σ pc lv (.int i :: .ref (Y.2.1 k) :: st) := by
  subst hn; intro H locs ls hG hl
  exact va_aldq (f := fun j => some (Y.2.1 (f j))) X.1 X.2.1 hG.2.1 hG.1 k 5 (by rw [zz_w_at hk, ht]; rfl) rfl hin hd (K H locs ls hG hl)
theorem zv_alen (X : zz_X p m c cc nL s args own) {k len : Nat} {f : Nat → Nat} (hk : k < Y.1.1) (ht : Y.1.2 k = (0, len, f)) (hd : decode cc pc = .ok (.arraylength, 1)) (hn : pc + 1 = n) (K : zz_V p l e R s m args below meth c Q nL Y σ n lv (.int (nI len) :: st)) : zz_V p l e R s m args below meth c Q nL Y σ pc lv (.ref (Y.2.1 k) :: st) := by
  subst hn; intro H locs ls hG hl
  exact va_alen X.1 X.2.1 hG.2.1 hG.1 k 0 (x := (len, .inl (σ.1 k))) (by rw [zz_w_at hk, ht]; rfl) (ty := .int) rfl rfl hd (K H locs ls hG hl)
theorem zv_copy (X : zz_X p m c cc nL s args own) {idx k0 k1 n0 n1 : Nat} {f0 f1 : Nat → Nat} (h0 : k0 < Y.1.1) (t0 : Y.1.2 k0 = (0, n0, f0)) (h1 : k1 < Y.1.1) (t1 : Y.1.2 k1 = (0, n1, f1)) {sp dp cn : Int32} (hlink : Cond.methodLink own idx arraycopyName ∈ zz_tbl) (hb1 : ¬ sp < 0) (hb2 : ¬ dp < 0) (hb3 : ¬ cn < 0) (hb4 : sp.toNatClampNeg + cn.toNatClampNeg ≤ n0) (hb5 : dp.toNatClampNeg + cn.toNatClampNeg ≤ n1) (hf : 1 ≤ R.frames) (hlo : (st.map fun v => v.category).sum + (nativeFrameWords "java/lang/System" "arraycopy" 5 + 11) ≤ R.locals) (hd : decode cc pc = .ok (.invokestatic idx, 3)) (hn : pc + 3 = n) (K : zz_V p l e R s m args below meth c Q nL Y (zz_r σ k1 (va_cpy (σ.1 k0) (σ.1 k1) sp.toNatClampNeg dp.toNatClampNeg cn.toNatClampNeg)) n lv st) : zz_V p l e R s m args below meth c Q nL Y σ pc lv (.int cn :: .int dp :: .ref (Y.2.1 k1) :: .int sp :: .ref (Y.2.1 k0) :: st) := by
  subst hn; intro H locs ls hG hl
  refine va_copyi X.1 X.2.1 (X.2.2.1.trans hl.1.symm) X.2.2.2.1 (X.2.2.2.2 _ hlink) (X.2.2.2.2 _ zz_cpN) (X.2.2.2.2 _ zz_cpS) (X.2.2.2.2 _ zz_cpI) hG.2.1 hG.1 (zz_D hG.2.2.2.2.2 σ) hG.2.2.1 k0 k1 0 0 (ty := .int) (by rw [zz_w_at h0, t0]; rfl) (by rw [zz_w_at h1, t1]; rfl) rfl rfl rfl hb1 hb2 hb3 hb4 hb5 (fun _ _ => rfl) hf hlo hd (fun H1 locs1 hP hD hS => ?_)
  rw [zz_set_r (f := va_cpy (σ.1 k0) (σ.1 k1) sp.toNatClampNeg dp.toNatClampNeg cn.toNatClampNeg) (by rw [t1]; rfl)] at hP
  exact K H1 locs1 ls ⟨hP, hG.2.1, hS, hG.2.2.2⟩ hl
theorem zv_max (X : zz_X p m c cc nL s args own) {idx : Nat} {x y : Int32} (hlink : Cond.methodLink own idx Lib.Math.max.name ∈ zz_tbl) (hf : 1 ≤ R.frames) (hlo : (st.map fun v => v.category).sum + 13 ≤ R.locals) (hd : decode cc pc = .ok (.invokestatic idx, 3)) (hn : pc + 3 = n) (K : zz_V p l e R s m args below meth c Q nL Y σ n lv (.int (if x < y then y else x) :: st)) : zz_V p l e R s m args below meth c Q nL Y σ pc lv (.int y :: .int x :: st) := by
  subst hn; intro H locs ls hG hl
  exact va_mmax X.1 X.2.1 (X.2.2.1.trans hl.1.symm) X.2.2.2.1 (X.2.2.2.2 _ hlink) (X.2.2.2.2 _ zz_mxS) (X.2.2.2.2 _ zz_maI) (X.2.2.2.2 _ zz_mxC) hf hlo (Nat.zero_le _) (Nat.zero_le _) hd (K H locs ls hG hl)
theorem zv_min (X : zz_X p m c cc nL s args own) {idx : Nat} {x y : Int32} (hlink : Cond.methodLink own idx Lib.Math.min.name ∈ zz_tbl) (hf : 1 ≤ R.frames) (hlo : (st.map fun v => v.category).sum + 13 ≤ R.locals) (hd : decode cc pc = .ok (.invokestatic idx, 3)) (hn : pc + 3 = n) (K : zz_V p l e R s m args below meth c Q nL Y σ n lv (.int (if y < x then y else x) :: st)) : zz_V p l e R s m args below meth c Q nL Y σ pc lv (.int y :: .int x :: st) := by
  subst hn; intro H locs ls hG hl
  exact va_mmin X.1 X.2.1 (X.2.2.1.trans hl.1.symm) X.2.2.2.1 (X.2.2.2.2 _ hlink) (X.2.2.2.2 _ zz_mnS) (X.2.2.2.2 _ zz_maI) (X.2.2.2.2 _ zz_mnC) hf hlo (Nat.zero_le _) (Nat.zero_le _) hd (K H locs ls hG hl)
def zz_bo (x : Int32) : Prop := x = 0 ∨ x = 1
theorem zz_bo0 : zz_bo 0 := Or.inl rfl
theorem zz_bo1 : zz_bo 1 := Or.inr rfl
theorem zv_iret (X : zz_X p m c cc nL s args own) (hr : meth.sig.returnType = some .int) (hlk : meth.locks = false) {post : Int32 → zz_T → Prop} {r : Int32} (hp : post r σ) (hd : decode cc pc = .ok (.ireturn, 1)) : zz_V p l e R s m args below meth c (MQ below (va_Qi post (zz_E Y) (zz_A Y)) args s 0 0 (zz_A Y)) nL Y σ pc lv [.int r] := by
  intro H locs ls hG hl
  exact W.iret X.1 X.2.1 hr (fun t ht hW => ⟨⟨r, σ, rfl, hp, by show va_P _ _ _ t.heap; rw [ht]; exact hG.1⟩, hG.2.2.1.F ht⟩) hG.2.2.1.2.2 hd hlk
theorem zv_zret (X : zz_X p m c cc nL s args own) (hr : meth.sig.returnType = some .boolean) (hlk : meth.locks = false) {post : Int32 → zz_T → Prop} {r : Int32} (hp : zz_bo r ∧ post r σ) (hd : decode cc pc = .ok (.ireturn, 1)) : zz_V p l e R s m args below meth c (MQ below (va_Qi post (zz_E Y) (zz_A Y)) args s 0 0 (zz_A Y)) nL Y σ pc lv [.int r] := by
  intro H locs ls hG hl
  exact W.zret X.1 X.2.1 hr (by rcases hp.1 with h | h <;> subst h <;> rfl) (fun t ht hW => ⟨⟨r, σ, rfl, hp.2, by show va_P _ _ _ t.heap; rw [ht]; exact hG.1⟩, hG.2.2.1.F ht⟩) hG.2.2.1.2.2 hd hlk
theorem zv_cret {ty : FieldType} (X : zz_X p m c cc nL s args own) (hr : meth.sig.returnType = some ty) (hlk : meth.locks = false) {post : Int32 → zz_T → Prop} {r : Int32} (hnar : narrow ty (.int r) = .int r) (hp : post r σ) (hd : decode cc pc = .ok (.ireturn, 1)) : zz_V p l e R s m args below meth c (MQ below (va_Qi post (zz_E Y) (zz_A Y)) args s 0 0 (zz_A Y)) nL Y σ pc lv [.int r] := by
  intro H locs ls hG hl
  exact W.zret X.1 X.2.1 hr hnar (fun t ht hW => ⟨⟨r, σ, rfl, hp, by show va_P _ _ _ t.heap; rw [ht]; exact hG.1⟩, hG.2.2.1.F ht⟩) hG.2.2.1.2.2 hd hlk
theorem zv_lret (X : zz_X p m c cc nL s args own) (hr : meth.sig.returnType = some .long) (hlk : meth.locks = false) {post : Int64 → zz_T → Prop} {r : Int64} (hp : post r σ) (hd : decode cc pc = .ok (.lreturn, 1)) : zz_V p l e R s m args below meth c (MQ below (va_Ql post (zz_E Y) (zz_A Y)) args s 0 0 (zz_A Y)) nL Y σ pc lv [.long r] := by
  intro H locs ls hG hl
  exact W.lret X.1 X.2.1 hr (fun t ht hW => ⟨⟨r, σ, rfl, hp, by show va_P _ _ _ t.heap; rw [ht]; exact hG.1⟩, hG.2.2.1.F ht⟩) hG.2.2.1.2.2 hd hlk
theorem zv_vret (X : zz_X p m c cc nL s args own) (hr : meth.sig.returnType = none) (hlk : meth.locks = false) {post : zz_T → Prop} (hp : post σ) (hd : decode cc pc = .ok (.return_, 1)) : zz_V p l e R s m args below meth c (MQ below (va_Qv post (zz_E Y) (zz_A Y)) args s 0 0 (zz_A Y)) nL Y σ pc lv [] := by
  intro H locs ls hG hl
  exact W.vret X.1 X.2.1 hr (fun t ht hW => ⟨⟨σ, rfl, hp, by show va_P _ _ _ t.heap; rw [ht]; exact hG.1⟩, hG.2.2.1.F ht⟩) hG.2.2.1.2.2 hd hlk
theorem zv_sret (X : zz_X p m c cc nL s args own) (hr : meth.sig.returnType = some (.object "java/lang/String")) (hlk : meth.locks = false) {post : Nat → zz_T → Prop} {i : Nat} (hi : i < 8) (hp : post i σ) (hd : decode cc pc = .ok (.areturn, 1)) : zz_V p l e R s m args below meth c (MQ below (va_Qq (fun r u => ∃ i, i < 8 ∧ r = some (Y.2.2.2 (10 + i)) ∧ post i u) (zz_E Y) (zz_A Y)) args s 0 0 (zz_A Y)) nL Y σ pc lv [.ref (Y.2.2.2 (10 + i))] := by
  intro H locs ls hG hl
  exact W.aret X.1 X.2.1 hr (Or.inl ⟨_, rfl⟩) (Or.inr ⟨_, rfl⟩) (fun t ht hW => ⟨⟨some (Y.2.2.2 (10 + i)), σ, rfl, ⟨i, hi, rfl, hp⟩, by show va_P _ _ _ t.heap; rw [ht]; exact hG.1⟩, hG.2.2.1.F ht⟩) hG.2.2.1.2.2 hd hlk
theorem zz_Mi.start {y : MethodName} {bytes : ByteArray} {maxL : Nat} {ret : Option FieldType} {rm : Room} {av : List Value} {post : Int32 → zz_T → Prop} (hy : plainName y.cls = true) (hJ : zz_J Y) (hlen : (lg_sl av).length ≤ maxL) (body : ∀ (p : Program) (e : Env) (s : State) (m : MethodId) (below : List Frame) (meth : Method) (c : Code), zz_X p m c bytes maxL s av.toArray y.cls → meth.sig.returnType = ret → meth.locks = false → zz_V p l e rm s m av.toArray below meth c (MQ below (va_Qi post (zz_E Y) (zz_A Y)) av.toArray s 0 0 (zz_A Y)) maxL Y σ 0 (lv_args 0 av) []) : zz_Mi l y bytes maxL ret rm Y av σ post := by
  refine Met.ofW (cc := bytes) (maxL := maxL) (ret := ret) hy rfl ?_
  intro p e s m args below meth c s₁ B hml hv
  obtain ⟨rfl, hP, hK, hS, hN⟩ := hv
  have hts := atoms_spec (ws := Cond.code y bytes maxL ret :: zz_tbl) B.pre
  have hown : s.vm.findClass y.cls = some m.cls := findClass_of_methodNamed B.named
  rw [lg_entry_eq]
  exact body p e s m below meth c ⟨B.exec, B.bytes, hml, hown, fun w hw => hts w (List.mem_cons_of_mem _ hw)⟩ B.returns B.notSynchronized s.heap [] _ ⟨hP, hK, va_S.rf, hS, hN, hJ⟩ (lv_entry av hlen)
theorem zz_Ml.start {y : MethodName} {bytes : ByteArray} {maxL : Nat} {ret : Option FieldType} {rm : Room} {av : List Value} {post : Int64 → zz_T → Prop} (hy : plainName y.cls = true) (hJ : zz_J Y) (hlen : (lg_sl av).length ≤ maxL) (body : ∀ (p : Program) (e : Env) (s : State) (m : MethodId) (below : List Frame) (meth : Method) (c : Code), zz_X p m c bytes maxL s av.toArray y.cls → meth.sig.returnType = ret → meth.locks = false → zz_V p l e rm s m av.toArray below meth c (MQ below (va_Ql post (zz_E Y) (zz_A Y)) av.toArray s 0 0 (zz_A Y)) maxL Y σ 0 (lv_args 0 av) []) : zz_Ml l y bytes maxL ret rm Y av σ post := by
  refine Met.ofW (cc := bytes) (maxL := maxL) (ret := ret) hy rfl ?_
  intro p e s m args below meth c s₁ B hml hv
  obtain ⟨rfl, hP, hK, hS, hN⟩ := hv
  have hts := atoms_spec (ws := Cond.code y bytes maxL ret :: zz_tbl) B.pre
  have hown : s.vm.findClass y.cls = some m.cls := findClass_of_methodNamed B.named
  rw [lg_entry_eq]
  exact body p e s m below meth c ⟨B.exec, B.bytes, hml, hown, fun w hw => hts w (List.mem_cons_of_mem _ hw)⟩ B.returns B.notSynchronized s.heap [] _ ⟨hP, hK, va_S.rf, hS, hN, hJ⟩ (lv_entry av hlen)
theorem zz_Mv.start {y : MethodName} {bytes : ByteArray} {maxL : Nat} {ret : Option FieldType} {rm : Room} {av : List Value} {post : zz_T → Prop} (hy : plainName y.cls = true) (hJ : zz_J Y) (hlen : (lg_sl av).length ≤ maxL) (body : ∀ (p : Program) (e : Env) (s : State) (m : MethodId) (below : List Frame) (meth : Method) (c : Code), zz_X p m c bytes maxL s av.toArray y.cls → meth.sig.returnType = ret → meth.locks = false → zz_V p l e rm s m av.toArray below meth c (MQ below (va_Qv post (zz_E Y) (zz_A Y)) av.toArray s 0 0 (zz_A Y)) maxL Y σ 0 (lv_args 0 av) []) : zz_Mv l y bytes maxL ret rm Y av σ post := by
  refine Met.ofW (cc := bytes) (maxL := maxL) (ret := ret) hy rfl ?_
  intro p e s m args below meth c s₁ B hml hv
  obtain ⟨rfl, hP, hK, hS, hN⟩ := hv
  have hts := atoms_spec (ws := Cond.code y bytes maxL ret :: zz_tbl) B.pre
  have hown : s.vm.findClass y.cls = some m.cls := findClass_of_methodNamed B.named
  rw [lg_entry_eq]
  exact body p e s m below meth c ⟨B.exec, B.bytes, hml, hown, fun w hw => hts w (List.mem_cons_of_mem _ hw)⟩ B.returns B.notSynchronized s.heap [] _ ⟨hP, hK, va_S.rf, hS, hN, hJ⟩ (lv_entry av hlen)
theorem zz_Ms.start {y : MethodName} {bytes : ByteArray} {maxL : Nat} {ret : Option FieldType} {rm : Room} {av : List Value} {post : Nat → zz_T → Prop} (hy : plainName y.cls = true) (hJ : zz_J Y) (hlen : (lg_sl av).length ≤ maxL) (body : ∀ (p : Program) (e : Env) (s : State) (m : MethodId) (below : List Frame) (meth : Method) (c : Code), zz_X p m c bytes maxL s av.toArray y.cls → meth.sig.returnType = ret → meth.locks = false → zz_V p l e rm s m av.toArray below meth c (MQ below (va_Qq (fun r u => ∃ i, i < 8 ∧ r = some (Y.2.2.2 (10 + i)) ∧ post i u) (zz_E Y) (zz_A Y)) av.toArray s 0 0 (zz_A Y)) maxL Y σ 0 (lv_args 0 av) []) : zz_Ms l y bytes maxL ret rm Y av σ post := by
  refine Met.ofW (cc := bytes) (maxL := maxL) (ret := ret) hy rfl ?_
  intro p e s m args below meth c s₁ B hml hv
  obtain ⟨rfl, hP, hK, hS, hN⟩ := hv
  have hts := atoms_spec (ws := Cond.code y bytes maxL ret :: zz_tbl) B.pre
  have hown : s.vm.findClass y.cls = some m.cls := findClass_of_methodNamed B.named
  rw [lg_entry_eq]
  exact body p e s m below meth c ⟨B.exec, B.bytes, hml, hown, fun w hw => hts w (List.mem_cons_of_mem _ hw)⟩ B.returns B.notSynchronized s.heap [] _ ⟨hP, hK, va_S.rf, hS, hN, hJ⟩ (lv_entry av hlen)
def zz_KV (own : String) (idx : Nat) (y : MethodName) (bytes : ByteArray) (maxL : Nat) (ret : Option FieldType) (nA : Nat) : Prop := (Cond.methodLink own idx y ∈ zz_tbl ∧ Cond.instanceMethod y ∈ zz_tbl ∧ Cond.selects y.cls y y ∈ zz_tbl ∧ Cond.initialized y.cls ∈ zz_tbl ∧ Cond.code y bytes maxL ret ∈ zz_tbl) ∧ (y.cls ≠ "java/lang/invoke/MethodHandle" ∧ y.cls ≠ "java/lang/invoke/VarHandle" ∧ (parseMethodDescriptor y.desc).map (fun d => d.parameters.length) = some nA)
def zz_KS (own : String) (idx : Nat) (y : MethodName) (bytes : ByteArray) (maxL : Nat) (ret : Option FieldType) (nA : Nat) : Prop := (Cond.methodLink own idx y ∈ zz_tbl ∧ Cond.static y ∈ zz_tbl ∧ Cond.initialized y.cls ∈ zz_tbl ∧ Cond.code y bytes maxL ret ∈ zz_tbl) ∧ (y.cls ≠ "java/lang/invoke/MethodHandle" ∧ y.cls ≠ "java/lang/invoke/VarHandle" ∧ (parseMethodDescriptor y.desc).map (fun d => d.parameters.length) = some nA)
theorem zz_gi {ws : List Cond} (h : ∀ w ∈ ws, w ∈ zz_tbl) : GoodIn zz_tbl ws := fun w hw => zz_good w (h w hw)
theorem zz_cV {y : MethodName} {bytes : ByteArray} {maxL nA idx : Nat} {ret : Option FieldType} {rm : Room} (hts : ∀ w ∈ zz_tbl, w.before args s = true) (h : zz_KV own idx y bytes maxL ret nA) (hrc : rm.cells = 0 ∧ rm.slots = 0) (hR : rm.frames + 1 ≤ R.frames ∧ 8 + (maxL + 11) + rm.locals ≤ R.locals) : CallW R s args own y.cls idx y bytes maxL ret (Cond.code y bytes maxL ret :: zz_tbl) rm 0 0 nA := by
  obtain ⟨⟨h1, h2, h3, h4, h5⟩, h6⟩ := h
  refine cwV nA hts (zz_gi ?_) rfl hrc.1 hrc.2 ⟨rfl, h6⟩ hR
  intro w hw
  rcases List.mem_append.mp hw with hw | hw
  · simp only [List.mem_cons, List.not_mem_nil, or_false] at hw
    rcases hw with rfl | rfl | rfl | rfl <;> assumption
  · rcases List.mem_cons.mp hw with rfl | hw
    · exact h5
    · exact hw
theorem zz_cS {y : MethodName} {bytes : ByteArray} {maxL nA idx : Nat} {ret : Option FieldType} {rm : Room} (hts : ∀ w ∈ zz_tbl, w.before args s = true) (h : zz_KS own idx y bytes maxL ret nA) (hrc : rm.cells = 0 ∧ rm.slots = 0) (hR : rm.frames + 1 ≤ R.frames ∧ 8 + (maxL + 11) + rm.locals ≤ R.locals) : CallB R s args own idx y bytes maxL ret (Cond.code y bytes maxL ret :: zz_tbl) rm 0 0 nA ∧ (Cond.static y).before args s = true := by
  obtain ⟨⟨h1, h2, h3, h4⟩, h6⟩ := h
  refine va_cwS nA hts (zz_gi ?_) rfl hrc.1 hrc.2 h6 hR
  intro w hw
  rcases List.mem_append.mp hw with hw | hw
  · simp only [List.mem_cons, List.not_mem_nil, or_false] at hw
    rcases hw with rfl | rfl | rfl <;> assumption
  · rcases List.mem_cons.mp hw with rfl | hw
    · exact h4
    · exact hw
theorem zz_tag (Y : zz_Y) {ci : Nat} (h : ci < 7) (f : Nat → Nat) (g : Nat → Int32) (lg : Nat → Int64) : ∃ (fs : List Value) (q : vw_C), zz_e Y (10 + ci, 0, f) g lg = .inr (ci, fs) ∧ vwCl[ci]? = some q ∧ q.1 = [RX0, RX1, RX2, RX3, RX4, RX5, RX6].getD ci "" := by
  match ci, h with
  | 0, _ => exact ⟨_, _, rfl, rfl, rfl⟩
  | 1, _ => exact ⟨_, _, rfl, rfl, rfl⟩
  | 2, _ => exact ⟨_, _, rfl, rfl, rfl⟩
  | 3, _ => exact ⟨_, _, rfl, rfl, rfl⟩
  | 4, _ => exact ⟨_, _, rfl, rfl, rfl⟩
  | 5, _ => exact ⟨_, _, rfl, rfl, rfl⟩
  | 6, _ => exact ⟨_, _, rfl, rfl, rfl⟩
theorem zz_recv {H : Heap} {locs : List Loc} (hG : zz_G Y s σ H locs) {k ci : Nat} {f : Nat → Nat} (hk : k < Y.1.1) (hci : ci < 7) (ht : Y.1.2 k = (10 + ci, 0, f)) {C : String} (hC : [RX0, RX1, RX2, RX3, RX4, RX5, RX6].getD ci "" = C) : ∃ cell : Cell, H[Y.2.1 k]? = some cell ∧ cell.vm.isStatics = false ∧ s.vm.findClass C = some cell.cls := by
  obtain ⟨fs, q, h1, h2, h3⟩ := zz_tag Y hci f (σ.1 k) σ.2
  have h := va_recv hG.2.1 hG.1 h2 (show (zz_w Y σ)[k]? = some (Y.2.1 k, .inr (ci, fs)) by rw [zz_w_at hk, ht, h1])
  rw [h3, hC] at h
  exact h
theorem zv_cVi (X : zz_X p m c cc nL s args own) {y : MethodName} {bytes : ByteArray} {maxL nA idx k ci : Nat} {ret : Option FieldType} {rm : Room} {f : Nat → Nat} {post : Int32 → zz_T → Prop} (As : List Value) {st0 : List Value} (hM : zz_Mi l y bytes maxL ret rm Y (.ref (Y.2.1 k) :: As) σ post) (h : zz_KV own idx y bytes maxL ret nA) (hrc : rm.cells = 0 ∧ rm.slots = 0) (hR : rm.frames + 1 ≤ R.frames ∧ 8 + (maxL + 11) + rm.locals ≤ R.locals) (hk : k < Y.1.1) (hci : ci < 7) (ht : Y.1.2 k = (10 + ci, 0, f)) (hC : [RX0, RX1, RX2, RX3, RX4, RX5, RX6].getD ci "" = y.cls) (hl2 : As.length = nA) (hst : st0 = As.reverse ++ .ref (Y.2.1 k) :: st) (hW : (st.map fun v => v.category).sum ≤ 8) (hd : decode cc pc = .ok (.invokevirtual idx, 3)) (hn : pc + 3 = n) (kk : ∀ (r : Int32) (σ2 : zz_T), post r σ2 → zz_V p l e R s m args below meth c Q nL Y σ2 n lv (.int r :: st)) : zz_V p l e R s m args below meth c Q nL Y σ pc lv st0 := by
  subst hn hst; intro H locs ls hG hl
  refine va_calli (va_runV (As := As) (rest := st) X hM (zz_cV X.2.2.2.2 h hrc hR) ⟨zz_blind Y _ σ, zz_recv hG hk hci ht hC, fun U hU hW => ⟨rfl, zz_pre hG hU hW⟩⟩ rfl hl2 hl.1 rfl (lv_room hW) hd ⟨Nat.zero_le _, Nat.zero_le _⟩) hG.2.2.1 (fun q _ h => h) (fun q h => h) (fun r u t H1 locs1 ht hvm hw hB hz1 hk1 hS => ?_)
  exact kk r u hw H1 locs1 ls ⟨by rw [← ht]; exact hB, hG.2.1, hS, hG.2.2.2⟩ hl
theorem zv_cSi (X : zz_X p m c cc nL s args own) {y : MethodName} {bytes : ByteArray} {maxL nA idx : Nat} {ret : Option FieldType} {rm : Room} {post : Int32 → zz_T → Prop} (As : List Value) {st0 : List Value} (hM : zz_Mi l y bytes maxL ret rm Y As σ post) (h : zz_KS own idx y bytes maxL ret nA) (hrc : rm.cells = 0 ∧ rm.slots = 0) (hR : rm.frames + 1 ≤ R.frames ∧ 8 + (maxL + 11) + rm.locals ≤ R.locals) (hl2 : As.length = nA) (hst : st0 = As.reverse ++ st) (hW : (st.map fun v => v.category).sum ≤ 8) (hd : decode cc pc = .ok (.invokestatic idx, 3)) (hn : pc + 3 = n) (kk : ∀ (r : Int32) (σ2 : zz_T), post r σ2 → zz_V p l e R s m args below meth c Q nL Y σ2 n lv (.int r :: st)) : zz_V p l e R s m args below meth c Q nL Y σ pc lv st0 := by
  subst hn hst; intro H locs ls hG hl
  refine va_calli (va_runS (As := As) (rest := st) X hM (zz_cS X.2.2.2.2 h hrc hR) ⟨zz_blind Y _ σ, fun U hU hW => ⟨rfl, zz_pre hG hU hW⟩⟩ rfl hl2 hl.1 rfl (lv_room hW) hd ⟨Nat.zero_le _, Nat.zero_le _⟩) hG.2.2.1 (fun q _ h => h) (fun q h => h) (fun r u t H1 locs1 ht hvm hw hB hz1 hk1 hS => ?_)
  exact kk r u hw H1 locs1 ls ⟨by rw [← ht]; exact hB, hG.2.1, hS, hG.2.2.2⟩ hl
theorem zv_cVl (X : zz_X p m c cc nL s args own) {y : MethodName} {bytes : ByteArray} {maxL nA idx k ci : Nat} {ret : Option FieldType} {rm : Room} {f : Nat → Nat} {post : Int64 → zz_T → Prop} (As : List Value) {st0 : List Value} (hM : zz_Ml l y bytes maxL ret rm Y (.ref (Y.2.1 k) :: As) σ post) (h : zz_KV own idx y bytes maxL ret nA) (hrc : rm.cells = 0 ∧ rm.slots = 0) (hR : rm.frames + 1 ≤ R.frames ∧ 8 + (maxL + 11) + rm.locals ≤ R.locals) (hk : k < Y.1.1) (hci : ci < 7) (ht : Y.1.2 k = (10 + ci, 0, f)) (hC : [RX0, RX1, RX2, RX3, RX4, RX5, RX6].getD ci "" = y.cls) (hl2 : As.length = nA) (hst : st0 = As.reverse ++ .ref (Y.2.1 k) :: st) (hW : (st.map fun v => v.category).sum ≤ 8) (hd : decode cc pc = .ok (.invokevirtual idx, 3)) (hn : pc + 3 = n) (kk : ∀ (r : Int64) (σ2 : zz_T), post r σ2 → zz_V p l e R s m args below meth c Q nL Y σ2 n lv (.long r :: st)) : zz_V p l e R s m args below meth c Q nL Y σ pc lv st0 := by
  subst hn hst; intro H locs ls hG hl
  refine va_calll (va_runV (As := As) (rest := st) X hM (zz_cV X.2.2.2.2 h hrc hR) ⟨zz_blind Y _ σ, zz_recv hG hk hci ht hC, fun U hU hW => ⟨rfl, zz_pre hG hU hW⟩⟩ rfl hl2 hl.1 rfl (lv_room hW) hd ⟨Nat.zero_le _, Nat.zero_le _⟩) hG.2.2.1 (fun q _ h => h) (fun q h => h) (fun r u t H1 locs1 ht hvm hw hB hz1 hk1 hS => ?_)
  exact kk r u hw H1 locs1 ls ⟨by rw [← ht]; exact hB, hG.2.1, hS, hG.2.2.2⟩ hl
theorem zv_cSl (X : zz_X p m c cc nL s args own) {y : MethodName} {bytes : ByteArray} {maxL nA idx : Nat} {ret : Option FieldType} {rm : Room} {post : Int64 → zz_T → Prop} (As : List Value) {st0 : List Value} (hM : zz_Ml l y bytes maxL ret rm Y As σ post) (h : zz_KS own idx y bytes maxL ret nA) (hrc : rm.cells = 0 ∧ rm.slots = 0) (hR : rm.frames + 1 ≤ R.frames ∧ 8 + (maxL + 11) + rm.locals ≤ R.locals) (hl2 : As.length = nA) (hst : st0 = As.reverse ++ st) (hW : (st.map fun v => v.category).sum ≤ 8) (hd : decode cc pc = .ok (.invokestatic idx, 3)) (hn : pc + 3 = n) (kk : ∀ (r : Int64) (σ2 : zz_T), post r σ2 → zz_V p l e R s m args below meth c Q nL Y σ2 n lv (.long r :: st)) : zz_V p l e R s m args below meth c Q nL Y σ pc lv st0 := by
  subst hn hst; intro H locs ls hG hl
  refine va_calll (va_runS (As := As) (rest := st) X hM (zz_cS X.2.2.2.2 h hrc hR) ⟨zz_blind Y _ σ, fun U hU hW => ⟨rfl, zz_pre hG hU hW⟩⟩ rfl hl2 hl.1 rfl (lv_room hW) hd ⟨Nat.zero_le _, Nat.zero_le _⟩) hG.2.2.1 (fun q _ h => h) (fun q h => h) (fun r u t H1 locs1 ht hvm hw hB hz1 hk1 hS => ?_)
  exact kk r u hw H1 locs1 ls ⟨by rw [← ht]; exact hB, hG.2.1, hS, hG.2.2.2⟩ hl
theorem zv_cVv (X : zz_X p m c cc nL s args own) {y : MethodName} {bytes : ByteArray} {maxL nA idx k ci : Nat} {ret : Option FieldType} {rm : Room} {f : Nat → Nat} {post : zz_T → Prop} (As : List Value) {st0 : List Value} (hM : zz_Mv l y bytes maxL ret rm Y (.ref (Y.2.1 k) :: As) σ post) (h : zz_KV own idx y bytes maxL ret nA) (hrc : rm.cells = 0 ∧ rm.slots = 0) (hR : rm.frames + 1 ≤ R.frames ∧ 8 + (maxL + 11) + rm.locals ≤ R.locals) (hk : k < Y.1.1) (hci : ci < 7) (ht : Y.1.2 k = (10 + ci, 0, f)) (hC : [RX0, RX1, RX2, RX3, RX4, RX5, RX6].getD ci "" = y.cls) (hl2 : As.length = nA) (hst : st0 = As.reverse ++ .ref (Y.2.1 k) :: st) (hW : (st.map fun v => v.category).sum ≤ 8) (hd : decode cc pc = .ok (.invokevirtual idx, 3)) (hn : pc + 3 = n) (kk : ∀ σ2 : zz_T, post σ2 → zz_V p l e R s m args below meth c Q nL Y σ2 n lv st) : zz_V p l e R s m args below meth c Q nL Y σ pc lv st0 := by
  subst hn hst; intro H locs ls hG hl
  refine va_callv (va_runV (As := As) (rest := st) X hM (zz_cV X.2.2.2.2 h hrc hR) ⟨zz_blind Y _ σ, zz_recv hG hk hci ht hC, fun U hU hW => ⟨rfl, zz_pre hG hU hW⟩⟩ rfl hl2 hl.1 rfl (lv_room hW) hd ⟨Nat.zero_le _, Nat.zero_le _⟩) hG.2.2.1 (fun q _ h => h) (fun q h => h) (fun u t H1 locs1 ht hvm hw hB hz1 hk1 hS => ?_)
  exact kk u hw H1 locs1 ls ⟨by rw [← ht]; exact hB, hG.2.1, hS, hG.2.2.2⟩ hl
theorem zv_cSv (X : zz_X p m c cc nL s args own) {y : MethodName} {bytes : ByteArray} {maxL nA idx : Nat} {ret : Option FieldType} {rm : Room} {post : zz_T → Prop} (As : List Value) {st0 : List Value} (hM : zz_Mv l y bytes maxL ret rm Y As σ post) (h : zz_KS own idx y bytes maxL ret nA) (hrc : rm.cells = 0 ∧ rm.slots = 0) (hR : rm.frames + 1 ≤ R.frames ∧ 8 + (maxL + 11) + rm.locals ≤ R.locals) (hl2 : As.length = nA) (hst : st0 = As.reverse ++ st) (hW : (st.map fun v => v.category).sum ≤ 8) (hd : decode cc pc = .ok (.invokestatic idx, 3)) (hn : pc + 3 = n) (kk : ∀ σ2 : zz_T, post σ2 → zz_V p l e R s m args below meth c Q nL Y σ2 n lv st) : zz_V p l e R s m args below meth c Q nL Y σ pc lv st0 := by
  subst hn hst; intro H locs ls hG hl
  refine va_callv (va_runS (As := As) (rest := st) X hM (zz_cS X.2.2.2.2 h hrc hR) ⟨zz_blind Y _ σ, fun U hU hW => ⟨rfl, zz_pre hG hU hW⟩⟩ rfl hl2 hl.1 rfl (lv_room hW) hd ⟨Nat.zero_le _, Nat.zero_le _⟩) hG.2.2.1 (fun q _ h => h) (fun q h => h) (fun u t H1 locs1 ht hvm hw hB hz1 hk1 hS => ?_)
  exact kk u hw H1 locs1 ls ⟨by rw [← ht]; exact hB, hG.2.1, hS, hG.2.2.2⟩ hl
theorem zv_cVs (X : zz_X p m c cc nL s args own) {y : MethodName} {bytes : ByteArray} {maxL nA idx k ci : Nat} {ret : Option FieldType} {rm : Room} {f : Nat → Nat} {post : Nat → zz_T → Prop} (As : List Value) {st0 : List Value} (hM : zz_Ms l y bytes maxL ret rm Y (.ref (Y.2.1 k) :: As) σ post) (h : zz_KV own idx y bytes maxL ret nA) (hrc : rm.cells = 0 ∧ rm.slots = 0) (hR : rm.frames + 1 ≤ R.frames ∧ 8 + (maxL + 11) + rm.locals ≤ R.locals) (hk : k < Y.1.1) (hci : ci < 7) (ht : Y.1.2 k = (10 + ci, 0, f)) (hC : [RX0, RX1, RX2, RX3, RX4, RX5, RX6].getD ci "" = y.cls) (hl2 : As.length = nA) (hst : st0 = As.reverse ++ .ref (Y.2.1 k) :: st) (hW : (st.map fun v => v.category).sum ≤ 8) (hd : decode cc pc = .ok (.invokevirtual idx, 3)) (hn : pc + 3 = n) (kk : ∀ (r : Nat) (σ2 : zz_T), r < 8 → post r σ2 → zz_V p l e R s m args below meth c Q nL Y σ2 n lv (.ref (Y.2.2.2 (10 + r)) :: st)) : zz_V p l e R s m args below meth c Q nL Y σ pc lv st0 := by
  subst hn hst; intro H locs ls hG hl
  refine va_callq (va_runV (As := As) (rest := st) X hM (zz_cV X.2.2.2.2 h hrc hR) ⟨zz_blind Y _ σ, zz_recv hG hk hci ht hC, fun U hU hW => ⟨rfl, zz_pre hG hU hW⟩⟩ rfl hl2 hl.1 rfl (lv_room hW) hd ⟨Nat.zero_le _, Nat.zero_le _⟩) hG.2.2.1 (fun q _ h => h) (fun q h => h) (fun r u t H1 locs1 ht hvm hw hB hz1 hk1 hS => ?_)
  obtain ⟨i, hi, rfl, hw⟩ := hw
  exact kk i u hi hw H1 locs1 ls ⟨by rw [← ht]; exact hB, hG.2.1, hS, hG.2.2.2⟩ hl
theorem zv_cSs (X : zz_X p m c cc nL s args own) {y : MethodName} {bytes : ByteArray} {maxL nA idx : Nat} {ret : Option FieldType} {rm : Room} {post : Nat → zz_T → Prop} (As : List Value) {st0 : List Value} (hM : zz_Ms l y bytes maxL ret rm Y As σ post) (h : zz_KS own idx y bytes maxL ret nA) (hrc : rm.cells = 0 ∧ rm.slots = 0) (hR : rm.frames + 1 ≤ R.frames ∧ 8 + (maxL + 11) + rm.locals ≤ R.locals) (hl2 : As.length = nA) (hst : st0 = As.reverse ++ st) (hW : (st.map fun v => v.category).sum ≤ 8) (hd : decode cc pc = .ok (.invokestatic idx, 3)) (hn : pc + 3 = n) (kk : ∀ (r : Nat) (σ2 : zz_T), r < 8 → post r σ2 → zz_V p l e R s m args below meth c Q nL Y σ2 n lv (.ref (Y.2.2.2 (10 + r)) :: st)) : zz_V p l e R s m args below meth c Q nL Y σ pc lv st0 := by
  subst hn hst; intro H locs ls hG hl
  refine va_callq (va_runS (As := As) (rest := st) X hM (zz_cS X.2.2.2.2 h hrc hR) ⟨zz_blind Y _ σ, fun U hU hW => ⟨rfl, zz_pre hG hU hW⟩⟩ rfl hl2 hl.1 rfl (lv_room hW) hd ⟨Nat.zero_le _, Nat.zero_le _⟩) hG.2.2.1 (fun q _ h => h) (fun q h => h) (fun r u t H1 locs1 ht hvm hw hB hz1 hk1 hS => ?_)
  obtain ⟨i, hi, rfl, hw⟩ := hw
  exact kk i u hi hw H1 locs1 ls ⟨by rw [← ht]; exact hB, hG.2.1, hS, hG.2.2.2⟩ hl
end ZR
end
