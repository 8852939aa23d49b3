section
-- ===== PART A: goes FIRST, ahead of the names: the tables' words, and 'selects' of the private methods out of them =====
/-- a private method of a class that the tables say can be made, by its rows of tables_1 -/
def lw_okq (q : MethodName × Nat) : Prop := (q.1.cls ≠ "java/lang/invoke/MethodHandle" ∧ q.1.cls ≠ "java/lang/invoke/VarHandle") ∧ Cond.instantiable q.1.cls q.2 ∈ tables_1 ∧ Cond.privateMethod q.1 ∈ tables_1 ∧ Cond.instanceMethod q.1 ∈ tables_1
theorem lw_p0 : lw_okq (⟨"YearStretch", "refuse", "(I)I"⟩, 12) := ⟨⟨by decide +kernel, by decide +kernel⟩, List.mem_of_getElem? (i := 23) (by decide +kernel), List.mem_of_getElem? (i := 277) (by decide +kernel), List.mem_of_getElem? (i := 278) (by decide +kernel)⟩
theorem lw_p1 : lw_okq (⟨"YearStretch$Reader", "scan", "()V"⟩, 7) := ⟨⟨by decide +kernel, by decide +kernel⟩, List.mem_of_getElem? (i := 179) (by decide +kernel), List.mem_of_getElem? (i := 353) (by decide +kernel), List.mem_of_getElem? (i := 354) (by decide +kernel)⟩
theorem lw_p2 : lw_okq (⟨"YearStretch$Reader", "readItem", "(Z)Z"⟩, 7) := ⟨⟨by decide +kernel, by decide +kernel⟩, List.mem_of_getElem? (i := 179) (by decide +kernel), List.mem_of_getElem? (i := 360) (by decide +kernel), List.mem_of_getElem? (i := 361) (by decide +kernel)⟩
theorem lw_p3 : lw_okq (⟨"YearStretch$Reader", "itemNamed", "()I"⟩, 7) := ⟨⟨by decide +kernel, by decide +kernel⟩, List.mem_of_getElem? (i := 179) (by decide +kernel), List.mem_of_getElem? (i := 364) (by decide +kernel), List.mem_of_getElem? (i := 365) (by decide +kernel)⟩
theorem lw_p4 : lw_okq (⟨"YearStretch$Reader", "isNamed", "(Ljava/lang/String;)Z"⟩, 7) := ⟨⟨by decide +kernel, by decide +kernel⟩, List.mem_of_getElem? (i := 179) (by decide +kernel), List.mem_of_getElem? (i := 369) (by decide +kernel), List.mem_of_getElem? (i := 370) (by decide +kernel)⟩
theorem lw_p5 : lw_okq (⟨"YearStretch$Reader", "isTooMany", "(I)Z"⟩, 7) := ⟨⟨by decide +kernel, by decide +kernel⟩, List.mem_of_getElem? (i := 179) (by decide +kernel), List.mem_of_getElem? (i := 425) (by decide +kernel), List.mem_of_getElem? (i := 426) (by decide +kernel)⟩
theorem lw_p6 : lw_okq (⟨"YearStretch$Reader", "number", "()I"⟩, 7) := ⟨⟨by decide +kernel, by decide +kernel⟩, List.mem_of_getElem? (i := 179) (by decide +kernel), List.mem_of_getElem? (i := 432) (by decide +kernel), List.mem_of_getElem? (i := 433) (by decide +kernel)⟩
theorem lw_p7 : lw_okq (⟨"YearStretch$Reader", "put", "(I)V"⟩, 7) := ⟨⟨by decide +kernel, by decide +kernel⟩, List.mem_of_getElem? (i := 179) (by decide +kernel), List.mem_of_getElem? (i := 440) (by decide +kernel), List.mem_of_getElem? (i := 441) (by decide +kernel)⟩
theorem lw_p8 : lw_okq (⟨"YearStretch", "ahead", "(I)LYearStretch$Valley;"⟩, 12) := ⟨⟨by decide +kernel, by decide +kernel⟩, List.mem_of_getElem? (i := 23) (by decide +kernel), List.mem_of_getElem? (i := 551) (by decide +kernel), List.mem_of_getElem? (i := 552) (by decide +kernel)⟩
theorem lw_p9 : lw_okq (⟨"YearStretch", "tryPair", "(IIII)V"⟩, 12) := ⟨⟨by decide +kernel, by decide +kernel⟩, List.mem_of_getElem? (i := 23) (by decide +kernel), List.mem_of_getElem? (i := 603) (by decide +kernel), List.mem_of_getElem? (i := 604) (by decide +kernel)⟩
theorem lw_p10 : lw_okq (⟨"YearStretch", "fitting", "(III)I"⟩, 12) := ⟨⟨by decide +kernel, by decide +kernel⟩, List.mem_of_getElem? (i := 23) (by decide +kernel), List.mem_of_getElem? (i := 647) (by decide +kernel), List.mem_of_getElem? (i := 648) (by decide +kernel)⟩
theorem lw_p11 : lw_okq (⟨"YearStretch$Valley", "lastMeasured", "()I"⟩, 6) := ⟨⟨by decide +kernel, by decide +kernel⟩, List.mem_of_getElem? (i := 74) (by decide +kernel), List.mem_of_getElem? (i := 655) (by decide +kernel), List.mem_of_getElem? (i := 656) (by decide +kernel)⟩
theorem lw_p12 : lw_okq (⟨"YearStretch$Valley", "isAsMeasured", "(I)Z"⟩, 6) := ⟨⟨by decide +kernel, by decide +kernel⟩, List.mem_of_getElem? (i := 74) (by decide +kernel), List.mem_of_getElem? (i := 660) (by decide +kernel), List.mem_of_getElem? (i := 661) (by decide +kernel)⟩
theorem lw_p13 : lw_okq (⟨"YearStretch", "foresee", "(III)V"⟩, 12) := ⟨⟨by decide +kernel, by decide +kernel⟩, List.mem_of_getElem? (i := 23) (by decide +kernel), List.mem_of_getElem? (i := 668) (by decide +kernel), List.mem_of_getElem? (i := 669) (by decide +kernel)⟩
theorem lw_p14 : lw_okq (⟨"YearStretch", "mostAlike", "(II)I"⟩, 12) := ⟨⟨by decide +kernel, by decide +kernel⟩, List.mem_of_getElem? (i := 23) (by decide +kernel), List.mem_of_getElem? (i := 673) (by decide +kernel), List.mem_of_getElem? (i := 674) (by decide +kernel)⟩
theorem lw_p15 : lw_okq (⟨"YearStretch", "setFraction", "(JJ)V"⟩, 12) := ⟨⟨by decide +kernel, by decide +kernel⟩, List.mem_of_getElem? (i := 23) (by decide +kernel), List.mem_of_getElem? (i := 689) (by decide +kernel), List.mem_of_getElem? (i := 690) (by decide +kernel)⟩
def lw_privs_1 : List (MethodName × Nat) := [(⟨"YearStretch", "refuse", "(I)I"⟩, 12), (⟨"YearStretch$Reader", "scan", "()V"⟩, 7), (⟨"YearStretch$Reader", "readItem", "(Z)Z"⟩, 7), (⟨"YearStretch$Reader", "itemNamed", "()I"⟩, 7), (⟨"YearStretch$Reader", "isNamed", "(Ljava/lang/String;)Z"⟩, 7), (⟨"YearStretch$Reader", "isTooMany", "(I)Z"⟩, 7), (⟨"YearStretch$Reader", "number", "()I"⟩, 7), (⟨"YearStretch$Reader", "put", "(I)V"⟩, 7), (⟨"YearStretch", "ahead", "(I)LYearStretch$Valley;"⟩, 12), (⟨"YearStretch", "tryPair", "(IIII)V"⟩, 12), (⟨"YearStretch", "fitting", "(III)I"⟩, 12), (⟨"YearStretch$Valley", "lastMeasured", "()I"⟩, 6), (⟨"YearStretch$Valley", "isAsMeasured", "(I)Z"⟩, 6), (⟨"YearStretch", "foresee", "(III)V"⟩, 12), (⟨"YearStretch", "mostAlike", "(II)I"⟩, 12), (⟨"YearStretch", "setFraction", "(JJ)V"⟩, 12)]
theorem lw_r1 : ∀ q ∈ lw_privs_1, lw_okq q := List.forall_mem_cons.mpr ⟨lw_p0, List.forall_mem_cons.mpr ⟨lw_p1, List.forall_mem_cons.mpr ⟨lw_p2, List.forall_mem_cons.mpr ⟨lw_p3, List.forall_mem_cons.mpr ⟨lw_p4, List.forall_mem_cons.mpr ⟨lw_p5, List.forall_mem_cons.mpr ⟨lw_p6, List.forall_mem_cons.mpr ⟨lw_p7, List.forall_mem_cons.mpr ⟨lw_p8, List.forall_mem_cons.mpr ⟨lw_p9, List.forall_mem_cons.mpr ⟨lw_p10, List.forall_mem_cons.mpr ⟨lw_p11, List.forall_mem_cons.mpr ⟨lw_p12, List.forall_mem_cons.mpr ⟨lw_p13, List.forall_mem_cons.mpr ⟨lw_p14, List.forall_mem_cons.mpr ⟨lw_p15, fun _ h => absurd h List.not_mem_nil⟩⟩⟩⟩⟩⟩⟩⟩⟩⟩⟩⟩⟩⟩⟩⟩
theorem lw_p16 : lw_okq (⟨"YearStretch", "amount", "(I)I"⟩, 12) := ⟨⟨by decide +kernel, by decide +kernel⟩, List.mem_of_getElem? (i := 23) (by decide +kernel), List.mem_of_getElem? (i := 727) (by decide +kernel), List.mem_of_getElem? (i := 728) (by decide +kernel)⟩
theorem lw_p17 : lw_okq (⟨"YearStretchModel", "teams", "()I"⟩, 22) := ⟨⟨by decide +kernel, by decide +kernel⟩, List.mem_of_getElem? (i := 745) (by decide +kernel), List.mem_of_getElem? (i := 825) (by decide +kernel), List.mem_of_getElem? (i := 826) (by decide +kernel)⟩
theorem lw_p18 : lw_okq (⟨"YearStretchModel", "bad", "(I)I"⟩, 22) := ⟨⟨by decide +kernel, by decide +kernel⟩, List.mem_of_getElem? (i := 745) (by decide +kernel), List.mem_of_getElem? (i := 841) (by decide +kernel), List.mem_of_getElem? (i := 842) (by decide +kernel)⟩
theorem lw_p19 : lw_okq (⟨"YearStretchModel", "keep", "()V"⟩, 22) := ⟨⟨by decide +kernel, by decide +kernel⟩, List.mem_of_getElem? (i := 745) (by decide +kernel), List.mem_of_getElem? (i := 845) (by decide +kernel), List.mem_of_getElem? (i := 846) (by decide +kernel)⟩
theorem lw_p20 : lw_okq (⟨"YearStretchModel", "full", "()I"⟩, 22) := ⟨⟨by decide +kernel, by decide +kernel⟩, List.mem_of_getElem? (i := 745) (by decide +kernel), List.mem_of_getElem? (i := 860) (by decide +kernel), List.mem_of_getElem? (i := 861) (by decide +kernel)⟩
theorem lw_p21 : lw_okq (⟨"YearStretchModel", "works", "()I"⟩, 22) := ⟨⟨by decide +kernel, by decide +kernel⟩, List.mem_of_getElem? (i := 745) (by decide +kernel), List.mem_of_getElem? (i := 872) (by decide +kernel), List.mem_of_getElem? (i := 873) (by decide +kernel)⟩
theorem lw_p22 : lw_okq (⟨"YearStretchModel", "layHand", "()V"⟩, 22) := ⟨⟨by decide +kernel, by decide +kernel⟩, List.mem_of_getElem? (i := 745) (by decide +kernel), List.mem_of_getElem? (i := 887) (by decide +kernel), List.mem_of_getElem? (i := 888) (by decide +kernel)⟩
theorem lw_p23 : lw_okq (⟨"YearStretchModel", "get", "(II)I"⟩, 22) := ⟨⟨by decide +kernel, by decide +kernel⟩, List.mem_of_getElem? (i := 745) (by decide +kernel), List.mem_of_getElem? (i := 891) (by decide +kernel), List.mem_of_getElem? (i := 892) (by decide +kernel)⟩
theorem lw_p24 : lw_okq (⟨"YearStretchModel", "all", "()I"⟩, 22) := ⟨⟨by decide +kernel, by decide +kernel⟩, List.mem_of_getElem? (i := 745) (by decide +kernel), List.mem_of_getElem? (i := 895) (by decide +kernel), List.mem_of_getElem? (i := 896) (by decide +kernel)⟩
theorem lw_p25 : lw_okq (⟨"YearStretchModel", "goTurn", "(I)V"⟩, 22) := ⟨⟨by decide +kernel, by decide +kernel⟩, List.mem_of_getElem? (i := 745) (by decide +kernel), List.mem_of_getElem? (i := 899) (by decide +kernel), List.mem_of_getElem? (i := 900) (by decide +kernel)⟩
theorem lw_p26 : lw_okq (⟨"YearStretchModel", "pullsFrom", "(I)I"⟩, 22) := ⟨⟨by decide +kernel, by decide +kernel⟩, List.mem_of_getElem? (i := 745) (by decide +kernel), List.mem_of_getElem? (i := 903) (by decide +kernel), List.mem_of_getElem? (i := 904) (by decide +kernel)⟩
theorem lw_p27 : lw_okq (⟨"YearStretchModel", "pull", "(IIII)I"⟩, 22) := ⟨⟨by decide +kernel, by decide +kernel⟩, List.mem_of_getElem? (i := 745) (by decide +kernel), List.mem_of_getElem? (i := 907) (by decide +kernel), List.mem_of_getElem? (i := 908) (by decide +kernel)⟩
theorem lw_p28 : lw_okq (⟨"YearStretchModel", "no", "()I"⟩, 22) := ⟨⟨by decide +kernel, by decide +kernel⟩, List.mem_of_getElem? (i := 745) (by decide +kernel), List.mem_of_getElem? (i := 918) (by decide +kernel), List.mem_of_getElem? (i := 919) (by decide +kernel)⟩
theorem lw_p29 : lw_okq (⟨"YearStretchModel", "seasonOf", "(I)I"⟩, 22) := ⟨⟨by decide +kernel, by decide +kernel⟩, List.mem_of_getElem? (i := 745) (by decide +kernel), List.mem_of_getElem? (i := 927) (by decide +kernel), List.mem_of_getElem? (i := 928) (by decide +kernel)⟩
theorem lw_p30 : lw_okq (⟨"YearStretchModel", "isTeam", "(I)Z"⟩, 22) := ⟨⟨by decide +kernel, by decide +kernel⟩, List.mem_of_getElem? (i := 745) (by decide +kernel), List.mem_of_getElem? (i := 935) (by decide +kernel), List.mem_of_getElem? (i := 936) (by decide +kernel)⟩
theorem lw_p31 : lw_okq (⟨"YearStretchModel", "isSoon", "(I)Z"⟩, 22) := ⟨⟨by decide +kernel, by decide +kernel⟩, List.mem_of_getElem? (i := 745) (by decide +kernel), List.mem_of_getElem? (i := 944) (by decide +kernel), List.mem_of_getElem? (i := 945) (by decide +kernel)⟩
def lw_privs_2 : List (MethodName × Nat) := [(⟨"YearStretch", "amount", "(I)I"⟩, 12), (⟨"YearStretchModel", "teams", "()I"⟩, 22), (⟨"YearStretchModel", "bad", "(I)I"⟩, 22), (⟨"YearStretchModel", "keep", "()V"⟩, 22), (⟨"YearStretchModel", "full", "()I"⟩, 22), (⟨"YearStretchModel", "works", "()I"⟩, 22), (⟨"YearStretchModel", "layHand", "()V"⟩, 22), (⟨"YearStretchModel", "get", "(II)I"⟩, 22), (⟨"YearStretchModel", "all", "()I"⟩, 22), (⟨"YearStretchModel", "goTurn", "(I)V"⟩, 22), (⟨"YearStretchModel", "pullsFrom", "(I)I"⟩, 22), (⟨"YearStretchModel", "pull", "(IIII)I"⟩, 22), (⟨"YearStretchModel", "no", "()I"⟩, 22), (⟨"YearStretchModel", "seasonOf", "(I)I"⟩, 22), (⟨"YearStretchModel", "isTeam", "(I)Z"⟩, 22), (⟨"YearStretchModel", "isSoon", "(I)Z"⟩, 22)]
theorem lw_r2 : ∀ q ∈ lw_privs_2, lw_okq q := List.forall_mem_cons.mpr ⟨lw_p16, List.forall_mem_cons.mpr ⟨lw_p17, List.forall_mem_cons.mpr ⟨lw_p18, List.forall_mem_cons.mpr ⟨lw_p19, List.forall_mem_cons.mpr ⟨lw_p20, List.forall_mem_cons.mpr ⟨lw_p21, List.forall_mem_cons.mpr ⟨lw_p22, List.forall_mem_cons.mpr ⟨lw_p23, List.forall_mem_cons.mpr ⟨lw_p24, List.forall_mem_cons.mpr ⟨lw_p25, List.forall_mem_cons.mpr ⟨lw_p26, List.forall_mem_cons.mpr ⟨lw_p27, List.forall_mem_cons.mpr ⟨lw_p28, List.forall_mem_cons.mpr ⟨lw_p29, List.forall_mem_cons.mpr ⟨lw_p30, List.forall_mem_cons.mpr ⟨lw_p31, fun _ h => absurd h List.not_mem_nil⟩⟩⟩⟩⟩⟩⟩⟩⟩⟩⟩⟩⟩⟩⟩⟩
theorem lw_p32 : lw_okq (⟨"YearStretchModel", "goTurns", "(II)V"⟩, 22) := ⟨⟨by decide +kernel, by decide +kernel⟩, List.mem_of_getElem? (i := 745) (by decide +kernel), List.mem_of_getElem? (i := 948) (by decide +kernel), List.mem_of_getElem? (i := 949) (by decide +kernel)⟩
theorem lw_p33 : lw_okq (⟨"YearStretchModel", "doneNow", "()I"⟩, 22) := ⟨⟨by decide +kernel, by decide +kernel⟩, List.mem_of_getElem? (i := 745) (by decide +kernel), List.mem_of_getElem? (i := 960) (by decide +kernel), List.mem_of_getElem? (i := 961) (by decide +kernel)⟩
theorem lw_p34 : lw_okq (⟨"YearStretchModel", "needs", "(I)I"⟩, 22) := ⟨⟨by decide +kernel, by decide +kernel⟩, List.mem_of_getElem? (i := 745) (by decide +kernel), List.mem_of_getElem? (i := 964) (by decide +kernel), List.mem_of_getElem? (i := 965) (by decide +kernel)⟩
theorem lw_p35 : lw_okq (⟨"YearStretchModel", "allWorks", "()I"⟩, 22) := ⟨⟨by decide +kernel, by decide +kernel⟩, List.mem_of_getElem? (i := 745) (by decide +kernel), List.mem_of_getElem? (i := 973) (by decide +kernel), List.mem_of_getElem? (i := 974) (by decide +kernel)⟩
theorem lw_p36 : lw_okq (⟨"YearStretchModel", "greatest", "()I"⟩, 22) := ⟨⟨by decide +kernel, by decide +kernel⟩, List.mem_of_getElem? (i := 745) (by decide +kernel), List.mem_of_getElem? (i := 996) (by decide +kernel), List.mem_of_getElem? (i := 997) (by decide +kernel)⟩
theorem lw_p37 : lw_okq (⟨"YearStretchModel", "isAsNow", "()Z"⟩, 22) := ⟨⟨by decide +kernel, by decide +kernel⟩, List.mem_of_getElem? (i := 745) (by decide +kernel), List.mem_of_getElem? (i := 1014) (by decide +kernel), List.mem_of_getElem? (i := 1015) (by decide +kernel)⟩
theorem lw_p38 : lw_okq (⟨"YearStretchModel", "kindsOf", "(I)I"⟩, 22) := ⟨⟨by decide +kernel, by decide +kernel⟩, List.mem_of_getElem? (i := 745) (by decide +kernel), List.mem_of_getElem? (i := 1030) (by decide +kernel), List.mem_of_getElem? (i := 1031) (by decide +kernel)⟩
theorem lw_p39 : lw_okq (⟨"YearStretchModel", "canBe", "(III)Z"⟩, 22) := ⟨⟨by decide +kernel, by decide +kernel⟩, List.mem_of_getElem? (i := 745) (by decide +kernel), List.mem_of_getElem? (i := 1034) (by decide +kernel), List.mem_of_getElem? (i := 1035) (by decide +kernel)⟩
theorem lw_p40 : lw_okq (⟨"YearStretchModel", "mostAlike", "(II)I"⟩, 22) := ⟨⟨by decide +kernel, by decide +kernel⟩, List.mem_of_getElem? (i := 745) (by decide +kernel), List.mem_of_getElem? (i := 1043) (by decide +kernel), List.mem_of_getElem? (i := 1044) (by decide +kernel)⟩
theorem lw_p41 : lw_okq (⟨"YearStretchModel", "fraction", "(JJ)V"⟩, 22) := ⟨⟨by decide +kernel, by decide +kernel⟩, List.mem_of_getElem? (i := 745) (by decide +kernel), List.mem_of_getElem? (i := 1056) (by decide +kernel), List.mem_of_getElem? (i := 1057) (by decide +kernel)⟩
theorem lw_p42 : lw_okq (⟨"YearStretchModel", "lookAt", "(I)V"⟩, 22) := ⟨⟨by decide +kernel, by decide +kernel⟩, List.mem_of_getElem? (i := 745) (by decide +kernel), List.mem_of_getElem? (i := 1083) (by decide +kernel), List.mem_of_getElem? (i := 1084) (by decide +kernel)⟩
theorem lw_p43 : lw_okq (⟨"YearStretchModel", "isWord", "(IIIIIII)Z"⟩, 22) := ⟨⟨by decide +kernel, by decide +kernel⟩, List.mem_of_getElem? (i := 745) (by decide +kernel), List.mem_of_getElem? (i := 1097) (by decide +kernel), List.mem_of_getElem? (i := 1098) (by decide +kernel)⟩
theorem lw_p44 : lw_okq (⟨"YearStretchModel", "goBehind", "()V"⟩, 22) := ⟨⟨by decide +kernel, by decide +kernel⟩, List.mem_of_getElem? (i := 745) (by decide +kernel), List.mem_of_getElem? (i := 1101) (by decide +kernel), List.mem_of_getElem? (i := 1102) (by decide +kernel)⟩
theorem lw_p45 : lw_okq (⟨"YearStretchModel", "takesItem", "()Z"⟩, 22) := ⟨⟨by decide +kernel, by decide +kernel⟩, List.mem_of_getElem? (i := 745) (by decide +kernel), List.mem_of_getElem? (i := 1105) (by decide +kernel), List.mem_of_getElem? (i := 1106) (by decide +kernel)⟩
theorem lw_p46 : lw_okq (⟨"YearStretchModel", "takesWeeks", "()Z"⟩, 22) := ⟨⟨by decide +kernel, by decide +kernel⟩, List.mem_of_getElem? (i := 745) (by decide +kernel), List.mem_of_getElem? (i := 1109) (by decide +kernel), List.mem_of_getElem? (i := 1110) (by decide +kernel)⟩
theorem lw_p47 : lw_okq (⟨"YearStretchModel", "takes", "(III)Z"⟩, 22) := ⟨⟨by decide +kernel, by decide +kernel⟩, List.mem_of_getElem? (i := 745) (by decide +kernel), List.mem_of_getElem? (i := 1113) (by decide +kernel), List.mem_of_getElem? (i := 1114) (by decide +kernel)⟩
def lw_privs_3 : List (MethodName × Nat) := [(⟨"YearStretchModel", "goTurns", "(II)V"⟩, 22), (⟨"YearStretchModel", "doneNow", "()I"⟩, 22), (⟨"YearStretchModel", "needs", "(I)I"⟩, 22), (⟨"YearStretchModel", "allWorks", "()I"⟩, 22), (⟨"YearStretchModel", "greatest", "()I"⟩, 22), (⟨"YearStretchModel", "isAsNow", "()Z"⟩, 22), (⟨"YearStretchModel", "kindsOf", "(I)I"⟩, 22), (⟨"YearStretchModel", "canBe", "(III)Z"⟩, 22), (⟨"YearStretchModel", "mostAlike", "(II)I"⟩, 22), (⟨"YearStretchModel", "fraction", "(JJ)V"⟩, 22), (⟨"YearStretchModel", "lookAt", "(I)V"⟩, 22), (⟨"YearStretchModel", "isWord", "(IIIIIII)Z"⟩, 22), (⟨"YearStretchModel", "goBehind", "()V"⟩, 22), (⟨"YearStretchModel", "takesItem", "()Z"⟩, 22), (⟨"YearStretchModel", "takesWeeks", "()Z"⟩, 22), (⟨"YearStretchModel", "takes", "(III)Z"⟩, 22)]
theorem lw_r3 : ∀ q ∈ lw_privs_3, lw_okq q := List.forall_mem_cons.mpr ⟨lw_p32, List.forall_mem_cons.mpr ⟨lw_p33, List.forall_mem_cons.mpr ⟨lw_p34, List.forall_mem_cons.mpr ⟨lw_p35, List.forall_mem_cons.mpr ⟨lw_p36, List.forall_mem_cons.mpr ⟨lw_p37, List.forall_mem_cons.mpr ⟨lw_p38, List.forall_mem_cons.mpr ⟨lw_p39, List.forall_mem_cons.mpr ⟨lw_p40, List.forall_mem_cons.mpr ⟨lw_p41, List.forall_mem_cons.mpr ⟨lw_p42, List.forall_mem_cons.mpr ⟨lw_p43, List.forall_mem_cons.mpr ⟨lw_p44, List.forall_mem_cons.mpr ⟨lw_p45, List.forall_mem_cons.mpr ⟨lw_p46, List.forall_mem_cons.mpr ⟨lw_p47, fun _ h => absurd h List.not_mem_nil⟩⟩⟩⟩⟩⟩⟩⟩⟩⟩⟩⟩⟩⟩⟩⟩
theorem lw_p48 : lw_okq (⟨"YearStretchModel", "takesPeg", "()Z"⟩, 22) := ⟨⟨by decide +kernel, by decide +kernel⟩, List.mem_of_getElem? (i := 745) (by decide +kernel), List.mem_of_getElem? (i := 1117) (by decide +kernel), List.mem_of_getElem? (i := 1118) (by decide +kernel)⟩
theorem lw_p49 : lw_okq (⟨"YearStretchModel", "takesTeam", "()Z"⟩, 22) := ⟨⟨by decide +kernel, by decide +kernel⟩, List.mem_of_getElem? (i := 745) (by decide +kernel), List.mem_of_getElem? (i := 1121) (by decide +kernel), List.mem_of_getElem? (i := 1122) (by decide +kernel)⟩
theorem lw_p50 : lw_okq (⟨"YearStretchModel", "takesWork", "()Z"⟩, 22) := ⟨⟨by decide +kernel, by decide +kernel⟩, List.mem_of_getElem? (i := 745) (by decide +kernel), List.mem_of_getElem? (i := 1125) (by decide +kernel), List.mem_of_getElem? (i := 1126) (by decide +kernel)⟩
theorem lw_p51 : lw_okq (⟨"YearStretchModel", "counted", "(I)I"⟩, 22) := ⟨⟨by decide +kernel, by decide +kernel⟩, List.mem_of_getElem? (i := 745) (by decide +kernel), List.mem_of_getElem? (i := 1150) (by decide +kernel), List.mem_of_getElem? (i := 1151) (by decide +kernel)⟩
theorem lw_p52 : lw_okq (⟨"YearStretchModel", "allWeeks", "()I"⟩, 22) := ⟨⟨by decide +kernel, by decide +kernel⟩, List.mem_of_getElem? (i := 745) (by decide +kernel), List.mem_of_getElem? (i := 1154) (by decide +kernel), List.mem_of_getElem? (i := 1155) (by decide +kernel)⟩
theorem lw_p53 : lw_okq (⟨"YearStretchModel", "sums", "(JII)J"⟩, 22) := ⟨⟨by decide +kernel, by decide +kernel⟩, List.mem_of_getElem? (i := 745) (by decide +kernel), List.mem_of_getElem? (i := 1164) (by decide +kernel), List.mem_of_getElem? (i := 1165) (by decide +kernel)⟩
def lw_privs_4 : List (MethodName × Nat) := [(⟨"YearStretchModel", "takesPeg", "()Z"⟩, 22), (⟨"YearStretchModel", "takesTeam", "()Z"⟩, 22), (⟨"YearStretchModel", "takesWork", "()Z"⟩, 22), (⟨"YearStretchModel", "counted", "(I)I"⟩, 22), (⟨"YearStretchModel", "allWeeks", "()I"⟩, 22), (⟨"YearStretchModel", "sums", "(JII)J"⟩, 22)]
theorem lw_r4 : ∀ q ∈ lw_privs_4, lw_okq q := List.forall_mem_cons.mpr ⟨lw_p48, List.forall_mem_cons.mpr ⟨lw_p49, List.forall_mem_cons.mpr ⟨lw_p50, List.forall_mem_cons.mpr ⟨lw_p51, List.forall_mem_cons.mpr ⟨lw_p52, List.forall_mem_cons.mpr ⟨lw_p53, fun _ h => absurd h List.not_mem_nil⟩⟩⟩⟩⟩⟩
def lw_privs : List (MethodName × Nat) := lw_privs_1 ++ (lw_privs_2 ++ (lw_privs_3 ++ (lw_privs_4)))
def lw_tbl : List Cond := k2_sels lw_privs ++ tables_1
theorem lw_privs_ok : ∀ q ∈ lw_privs, lw_okq q := by
  show ∀ q ∈ lw_privs_1 ++ (lw_privs_2 ++ (lw_privs_3 ++ (lw_privs_4))), lw_okq q
  exact List.forall_mem_append.mpr ⟨lw_r1, List.forall_mem_append.mpr ⟨lw_r2, List.forall_mem_append.mpr ⟨lw_r3, lw_r4⟩⟩⟩
end
section
def RX0 : String := "YearStretch$Boys"
def TX0 : u_T := fun k => match k with
  | _ => ("", "", "", false)
def tyX0 : Nat → FieldType := fun k => match k with
  | _ => .int
abbrev wsX00 : List Cond := u_ws RX0 TX0 0
theorem nmX0 : ∀ a, a < 0 → ∀ b, b < 0 → a ≠ b → (TX0 a).2.1 ≠ (TX0 b).2.1 := by decide +kernel
theorem tyX0_ok : ∀ k, k < 0 → parseFieldDescriptor (TX0 k).2.2.1 = some (tyX0 k) := by decide +kernel
abbrev cX0_init : ByteArray := prog_2_method_1_code
def yX0_init : MethodName := ⟨RX0, "<init>", "()V"⟩
abbrev cX0_pull : ByteArray := prog_2_method_2_code
def yX0_pull : MethodName := ⟨RX0, "pull", "(IIII)I"⟩
def RX1 : String := "YearStretch$Cooks"
def TX1 : u_T := fun k => match k with
  | _ => ("", "", "", false)
def tyX1 : Nat → FieldType := fun k => match k with
  | _ => .int
abbrev wsX10 : List Cond := u_ws RX1 TX1 0
theorem nmX1 : ∀ a, a < 0 → ∀ b, b < 0 → a ≠ b → (TX1 a).2.1 ≠ (TX1 b).2.1 := by decide +kernel
theorem tyX1_ok : ∀ k, k < 0 → parseFieldDescriptor (TX1 k).2.2.1 = some (tyX1 k) := by decide +kernel
abbrev cX1_init : ByteArray := prog_3_method_1_code
def yX1_init : MethodName := ⟨RX1, "<init>", "()V"⟩
abbrev cX1_pull : ByteArray := prog_3_method_2_code
def yX1_pull : MethodName := ⟨RX1, "pull", "(IIII)I"⟩
def RX2 : String := "YearStretch$Greased"
def TX2 : u_T := fun k => match k with
  | _ => ("", "", "", false)
def tyX2 : Nat → FieldType := fun k => match k with
  | _ => .int
abbrev wsX20 : List Cond := u_ws RX2 TX2 0
theorem nmX2 : ∀ a, a < 0 → ∀ b, b < 0 → a ≠ b → (TX2 a).2.1 ≠ (TX2 b).2.1 := by decide +kernel
theorem tyX2_ok : ∀ k, k < 0 → parseFieldDescriptor (TX2 k).2.2.1 = some (tyX2 k) := by decide +kernel
abbrev cX2_init : ByteArray := prog_4_method_1_code
def yX2_init : MethodName := ⟨RX2, "<init>", "()V"⟩
abbrev cX2_pull : ByteArray := prog_4_method_2_code
def yX2_pull : MethodName := ⟨RX2, "pull", "(IIII)I"⟩
def RX3 : String := "YearStretch$Hair"
def TX3 : u_T := fun k => match k with
  | _ => ("", "", "", false)
def tyX3 : Nat → FieldType := fun k => match k with
  | _ => .int
abbrev wsX30 : List Cond := u_ws RX3 TX3 0
theorem nmX3 : ∀ a, a < 0 → ∀ b, b < 0 → a ≠ b → (TX3 a).2.1 ≠ (TX3 b).2.1 := by decide +kernel
theorem tyX3_ok : ∀ k, k < 0 → parseFieldDescriptor (TX3 k).2.2.1 = some (tyX3 k) := by decide +kernel
abbrev cX3_init : ByteArray := prog_5_method_1_code
def yX3_init : MethodName := ⟨RX3, "<init>", "()V"⟩
abbrev cX3_pull : ByteArray := prog_5_method_2_code
def yX3_pull : MethodName := ⟨RX3, "pull", "(IIII)I"⟩
def RX4 : String := "YearStretch$Past"
def TX4 : u_T := fun k => match k with
  | 0 => ("YearStretch$Past", "rows", "[I", true)
  | 1 => ("YearStretch$Past", "pegs", "[I", true)
  | 2 => ("YearStretch$Past", "turns", "[I", true)
  | 3 => ("YearStretch$Past", "oldest", "I", false)
  | _ => ("YearStretch$Past", "size", "I", false)
def tyX4 : Nat → FieldType := fun k => match k with
  | 0 => .array .int
  | 1 => .array .int
  | 2 => .array .int
  | 3 => .int
  | _ => .int
abbrev wsX40 : List Cond := u_ws RX4 TX4 5
theorem nmX4 : ∀ a, a < 5 → ∀ b, b < 5 → a ≠ b → (TX4 a).2.1 ≠ (TX4 b).2.1 := by decide +kernel
theorem tyX4_ok : ∀ k, k < 5 → parseFieldDescriptor (TX4 k).2.2.1 = some (tyX4 k) := by decide +kernel
abbrev cX4_init : ByteArray := prog_6_method_1_code
def yX4_init : MethodName := ⟨RX4, "<init>", "()V"⟩
abbrev cX4_empty : ByteArray := prog_6_method_2_code
def yX4_empty : MethodName := ⟨RX4, "empty", "()V"⟩
abbrev cX4_take : ByteArray := prog_6_method_3_code
def yX4_take : MethodName := ⟨RX4, "take", "(LYearStretch$Past;)V"⟩
abbrev cX4_keep : ByteArray := prog_6_method_4_code
def yX4_keep : MethodName := ⟨RX4, "keep", "(LYearStretch$Year;)V"⟩
abbrev cX4_giveBack : ByteArray := prog_6_method_5_code
def yX4_giveBack : MethodName := ⟨RX4, "giveBack", "(LYearStretch$Year;)V"⟩
def RX5 : String := "YearStretch$Plain"
def TX5 : u_T := fun k => match k with
  | _ => ("", "", "", false)
def tyX5 : Nat → FieldType := fun k => match k with
  | _ => .int
abbrev wsX50 : List Cond := u_ws RX5 TX5 0
theorem nmX5 : ∀ a, a < 0 → ∀ b, b < 0 → a ≠ b → (TX5 a).2.1 ≠ (TX5 b).2.1 := by decide +kernel
theorem tyX5_ok : ∀ k, k < 0 → parseFieldDescriptor (TX5 k).2.2.1 = some (tyX5 k) := by decide +kernel
abbrev cX5_init : ByteArray := prog_7_method_1_code
def yX5_init : MethodName := ⟨RX5, "<init>", "()V"⟩
abbrev cX5_pull : ByteArray := prog_7_method_2_code
def yX5_pull : MethodName := ⟨RX5, "pull", "(IIII)I"⟩
def RX6 : String := "YearStretch$Reader"
def TX6 : u_T := fun k => match k with
  | 0 => ("YearStretch$Reader", "draft", "LYearStretch$Valley;", true)
  | 1 => ("YearStretch$Reader", "text", "[B", true)
  | 2 => ("YearStretch$Reader", "numbers", "[I", true)
  | 3 => ("YearStretch$Reader", "size", "I", false)
  | 4 => ("YearStretch$Reader", "start", "I", false)
  | 5 => ("YearStretch$Reader", "end", "I", false)
  | _ => ("YearStretch$Reader", "sort", "I", false)
def tyX6 : Nat → FieldType := fun k => match k with
  | 0 => .object "YearStretch$Valley"
  | 1 => .array .byte
  | 2 => .array .int
  | 3 => .int
  | 4 => .int
  | 5 => .int
  | _ => .int
abbrev wsX60 : List Cond := u_ws RX6 TX6 7
theorem nmX6 : ∀ a, a < 7 → ∀ b, b < 7 → a ≠ b → (TX6 a).2.1 ≠ (TX6 b).2.1 := by decide +kernel
theorem tyX6_ok : ∀ k, k < 7 → parseFieldDescriptor (TX6 k).2.2.1 = some (tyX6 k) := by decide +kernel
abbrev cX6_init : ByteArray := prog_8_method_1_code
def yX6_init : MethodName := ⟨RX6, "<init>", "(LYearStretch$Valley;)V"⟩
abbrev cX6_isFull : ByteArray := prog_8_method_2_code
def yX6_isFull : MethodName := ⟨RX6, "isFull", "()Z"⟩
abbrev cX6_append : ByteArray := prog_8_method_3_code
def yX6_append : MethodName := ⟨RX6, "append", "(I)I"⟩
abbrev cX6_empty : ByteArray := prog_8_method_4_code
def yX6_empty : MethodName := ⟨RX6, "empty", "()I"⟩
abbrev cX6_items : ByteArray := prog_8_method_5_code
def yX6_items : MethodName := ⟨RX6, "items", "()I"⟩
abbrev cX6_readItem : ByteArray := prog_8_method_6_code
def yX6_readItem : MethodName := ⟨RX6, "readItem", "(Z)Z"⟩
abbrev cX6_isTooMany : ByteArray := prog_8_method_7_code
def yX6_isTooMany : MethodName := ⟨RX6, "isTooMany", "(I)Z"⟩
abbrev cX6_put : ByteArray := prog_8_method_8_code
def yX6_put : MethodName := ⟨RX6, "put", "(I)V"⟩
abbrev cX6_scan : ByteArray := prog_8_method_9_code
def yX6_scan : MethodName := ⟨RX6, "scan", "()V"⟩
abbrev cX6_sortOf : ByteArray := prog_8_method_10_code
def yX6_sortOf : MethodName := ⟨RX6, "sortOf", "(I)I"⟩
abbrev cX6_number : ByteArray := prog_8_method_11_code
def yX6_number : MethodName := ⟨RX6, "number", "()I"⟩
abbrev cX6_itemNamed : ByteArray := prog_8_method_12_code
def yX6_itemNamed : MethodName := ⟨RX6, "itemNamed", "()I"⟩
abbrev cX6_isNamed : ByteArray := prog_8_method_13_code
def yX6_isNamed : MethodName := ⟨RX6, "isNamed", "(Ljava/lang/String;)Z"⟩
def RX7 : String := "YearStretch$Table"
def TX7 : u_T := fun k => match k with
  | 0 => ("YearStretch$Table", "cells", "[I", true)
  | _ => ("YearStretch$Table", "size", "I", false)
def tyX7 : Nat → FieldType := fun k => match k with
  | 0 => .array .int
  | _ => .int
abbrev wsX70 : List Cond := u_ws RX7 TX7 2
theorem nmX7 : ∀ a, a < 2 → ∀ b, b < 2 → a ≠ b → (TX7 a).2.1 ≠ (TX7 b).2.1 := by decide +kernel
theorem tyX7_ok : ∀ k, k < 2 → parseFieldDescriptor (TX7 k).2.2.1 = some (tyX7 k) := by decide +kernel
abbrev cX7_init : ByteArray := prog_9_method_1_code
def yX7_init : MethodName := ⟨RX7, "<init>", "()V"⟩
abbrev cX7_isFull : ByteArray := prog_9_method_2_code
def yX7_isFull : MethodName := ⟨RX7, "isFull", "()Z"⟩
abbrev cX7_has : ByteArray := prog_9_method_3_code
def yX7_has : MethodName := ⟨RX7, "has", "(I)Z"⟩
abbrev cX7_allRows : ByteArray := prog_9_method_4_code
def yX7_allRows : MethodName := ⟨RX7, "allRows", "()I"⟩
abbrev cX7_add : ByteArray := prog_9_method_5_code
def yX7_add : MethodName := ⟨RX7, "add", "(III)I"⟩
abbrev cX7_empty : ByteArray := prog_9_method_6_code
def yX7_empty : MethodName := ⟨RX7, "empty", "()I"⟩
abbrev cX7_take : ByteArray := prog_9_method_7_code
def yX7_take : MethodName := ⟨RX7, "take", "(LYearStretch$Table;)V"⟩
abbrev cX7_cell : ByteArray := prog_9_method_8_code
def yX7_cell : MethodName := ⟨RX7, "cell", "(II)I"⟩
abbrev cX7_change : ByteArray := prog_9_method_9_code
def yX7_change : MethodName := ⟨RX7, "change", "(III)V"⟩
abbrev cX7_rowsWith : ByteArray := prog_9_method_10_code
def yX7_rowsWith : MethodName := ⟨RX7, "rowsWith", "(II)I"⟩
abbrev cX7_mixInto : ByteArray := prog_9_method_11_code
def yX7_mixInto : MethodName := ⟨RX7, "mixInto", "(JI)J"⟩
def RX8 : String := "YearStretch$Tired"
def TX8 : u_T := fun k => match k with
  | _ => ("", "", "", false)
def tyX8 : Nat → FieldType := fun k => match k with
  | _ => .int
abbrev wsX80 : List Cond := u_ws RX8 TX8 0
theorem nmX8 : ∀ a, a < 0 → ∀ b, b < 0 → a ≠ b → (TX8 a).2.1 ≠ (TX8 b).2.1 := by decide +kernel
theorem tyX8_ok : ∀ k, k < 0 → parseFieldDescriptor (TX8 k).2.2.1 = some (tyX8 k) := by decide +kernel
abbrev cX8_init : ByteArray := prog_10_method_1_code
def yX8_init : MethodName := ⟨RX8, "<init>", "()V"⟩
abbrev cX8_pull : ByteArray := prog_10_method_2_code
def yX8_pull : MethodName := ⟨RX8, "pull", "(IIII)I"⟩
def RX9 : String := "YearStretch$Valley"
def TX9 : u_T := fun k => match k with
  | 0 => ("YearStretch$Valley", "kinds", "[LYearStretch$Plain;", true)
  | 1 => ("YearStretch$Valley", "year", "LYearStretch$Year;", true)
  | 2 => ("YearStretch$Valley", "teams", "LYearStretch$Table;", true)
  | 3 => ("YearStretch$Valley", "works", "LYearStretch$Table;", true)
  | 4 => ("YearStretch$Valley", "measured", "LYearStretch$Table;", true)
  | _ => ("YearStretch$Valley", "past", "LYearStretch$Past;", true)
def tyX9 : Nat → FieldType := fun k => match k with
  | 0 => .array (.object "YearStretch$Plain")
  | 1 => .object "YearStretch$Year"
  | 2 => .object "YearStretch$Table"
  | 3 => .object "YearStretch$Table"
  | 4 => .object "YearStretch$Table"
  | _ => .object "YearStretch$Past"
abbrev wsX90 : List Cond := u_ws RX9 TX9 6
theorem nmX9 : ∀ a, a < 6 → ∀ b, b < 6 → a ≠ b → (TX9 a).2.1 ≠ (TX9 b).2.1 := by decide +kernel
theorem tyX9_ok : ∀ k, k < 6 → parseFieldDescriptor (TX9 k).2.2.1 = some (tyX9 k) := by decide +kernel
abbrev cX9_init : ByteArray := prog_11_method_1_code
def yX9_init : MethodName := ⟨RX9, "<init>", "([LYearStretch$Plain;)V"⟩
abbrev cX9_begin : ByteArray := prog_11_method_2_code
def yX9_begin : MethodName := ⟨RX9, "begin", "()V"⟩
abbrev cX9_take : ByteArray := prog_11_method_3_code
def yX9_take : MethodName := ⟨RX9, "take", "(LYearStretch$Valley;)V"⟩
abbrev cX9_sourceFor : ByteArray := prog_11_method_4_code
def yX9_sourceFor : MethodName := ⟨RX9, "sourceFor", "(I)I"⟩
abbrev cX9_pullOf : ByteArray := prog_11_method_5_code
def yX9_pullOf : MethodName := ⟨RX9, "pullOf", "(II)I"⟩
abbrev cX9_pass : ByteArray := prog_11_method_6_code
def yX9_pass : MethodName := ⟨RX9, "pass", "(I)V"⟩
abbrev cX9_passes : ByteArray := prog_11_method_7_code
def yX9_passes : MethodName := ⟨RX9, "passes", "(II)V"⟩
abbrev cX9_doneBits : ByteArray := prog_11_method_8_code
def yX9_doneBits : MethodName := ⟨RX9, "doneBits", "()I"⟩
abbrev cX9_passesAsMeasured : ByteArray := prog_11_method_9_code
def yX9_passesAsMeasured : MethodName := ⟨RX9, "passesAsMeasured", "()Z"⟩
abbrev cX9_lastMeasured : ByteArray := prog_11_method_10_code
def yX9_lastMeasured : MethodName := ⟨RX9, "lastMeasured", "()I"⟩
abbrev cX9_isAsMeasured : ByteArray := prog_11_method_11_code
def yX9_isAsMeasured : MethodName := ⟨RX9, "isAsMeasured", "(I)Z"⟩
def RX10 : String := "YearStretch$Year"
def TX10 : u_T := fun k => match k with
  | 0 => ("YearStretch$Year", "weeks", "[I", true)
  | 1 => ("YearStretch$Year", "pegs", "I", false)
  | _ => ("YearStretch$Year", "turn", "I", false)
def tyX10 : Nat → FieldType := fun k => match k with
  | 0 => .array .int
  | 1 => .int
  | _ => .int
abbrev wsX100 : List Cond := u_ws RX10 TX10 3
theorem nmX10 : ∀ a, a < 3 → ∀ b, b < 3 → a ≠ b → (TX10 a).2.1 ≠ (TX10 b).2.1 := by decide +kernel
theorem tyX10_ok : ∀ k, k < 3 → parseFieldDescriptor (TX10 k).2.2.1 = some (tyX10 k) := by decide +kernel
abbrev cX10_init : ByteArray := prog_12_method_1_code
def yX10_init : MethodName := ⟨RX10, "<init>", "()V"⟩
abbrev cX10_begin : ByteArray := prog_12_method_2_code
def yX10_begin : MethodName := ⟨RX10, "begin", "()V"⟩
abbrev cX10_take : ByteArray := prog_12_method_3_code
def yX10_take : MethodName := ⟨RX10, "take", "(LYearStretch$Year;)V"⟩
abbrev cX10_pegAt : ByteArray := prog_12_method_4_code
def yX10_pegAt : MethodName := ⟨RX10, "pegAt", "(I)I"⟩
abbrev cX10_driveOrDraw : ByteArray := prog_12_method_5_code
def yX10_driveOrDraw : MethodName := ⟨RX10, "driveOrDraw", "(I)V"⟩
abbrev cX10_sourceOf : ByteArray := prog_12_method_6_code
def yX10_sourceOf : MethodName := ⟨RX10, "sourceOf", "(I)I"⟩
abbrev cX10_move : ByteArray := prog_12_method_7_code
def yX10_move : MethodName := ⟨RX10, "move", "(III)V"⟩
abbrev cX10_weeksOf : ByteArray := prog_12_method_8_code
def yX10_weeksOf : MethodName := ⟨RX10, "weeksOf", "(I)I"⟩
abbrev cX10_foldedBits : ByteArray := prog_12_method_9_code
def yX10_foldedBits : MethodName := ⟨RX10, "foldedBits", "()I"⟩
abbrev cX10_longest : ByteArray := prog_12_method_10_code
def yX10_longest : MethodName := ⟨RX10, "longest", "()I"⟩
abbrev cX10_isAsLongAs : ByteArray := prog_12_method_11_code
def yX10_isAsLongAs : MethodName := ⟨RX10, "isAsLongAs", "(LYearStretch$Year;)Z"⟩
def RX11 : String := "YearStretch"
def TX11 : u_T := fun k => match k with
  | 0 => ("YearStretch", "now", "LYearStretch$Valley;", true)
  | 1 => ("YearStretch", "trial", "LYearStretch$Valley;", true)
  | 2 => ("YearStretch", "images", "[LYearStretch$Valley;", true)
  | 3 => ("YearStretch", "kept", "[Z", true)
  | 4 => ("YearStretch", "reader", "LYearStretch$Reader;", true)
  | 5 => ("YearStretch", "gains", "[I", true)
  | 6 => ("YearStretch", "outcomes", "[[I", true)
  | 7 => ("YearStretch", "above", "J", false)
  | 8 => ("YearStretch", "below", "J", false)
  | 9 => ("YearStretch", "refusedBad", "I", false)
  | 10 => ("YearStretch", "refusedNo", "I", false)
  | _ => ("YearStretch", "refusedFull", "I", false)
def tyX11 : Nat → FieldType := fun k => match k with
  | 0 => .object "YearStretch$Valley"
  | 1 => .object "YearStretch$Valley"
  | 2 => .array (.object "YearStretch$Valley")
  | 3 => .array .boolean
  | 4 => .object "YearStretch$Reader"
  | 5 => .array .int
  | 6 => .array (.array .int)
  | 7 => .long
  | 8 => .long
  | 9 => .int
  | 10 => .int
  | _ => .int
abbrev wsX110 : List Cond := u_ws RX11 TX11 12
theorem nmX11 : ∀ a, a < 12 → ∀ b, b < 12 → a ≠ b → (TX11 a).2.1 ≠ (TX11 b).2.1 := by decide +kernel
theorem tyX11_ok : ∀ k, k < 12 → parseFieldDescriptor (TX11 k).2.2.1 = some (tyX11 k) := by decide +kernel
abbrev cX11_init : ByteArray := prog_1_method_1_code
def yX11_init : MethodName := ⟨RX11, "<init>", "()V"⟩
abbrev cX11_valley : ByteArray := prog_1_method_2_code
def yX11_valley : MethodName := ⟨RX11, "valley", "()I"⟩
abbrev cX11_weeks : ByteArray := prog_1_method_3_code
def yX11_weeks : MethodName := ⟨RX11, "weeks", "(II)I"⟩
abbrev cX11_peg : ByteArray := prog_1_method_4_code
def yX11_peg : MethodName := ⟨RX11, "peg", "(I)I"⟩
abbrev cX11_team : ByteArray := prog_1_method_5_code
def yX11_team : MethodName := ⟨RX11, "team", "(III)I"⟩
abbrev cX11_work : ByteArray := prog_1_method_6_code
def yX11_work : MethodName := ⟨RX11, "work", "(II)I"⟩
abbrev cX11_idle : ByteArray := prog_1_method_7_code
def yX11_idle : MethodName := ⟨RX11, "idle", "()I"⟩
abbrev cX11_type : ByteArray := prog_1_method_8_code
def yX11_type : MethodName := ⟨RX11, "type", "(I)I"⟩
abbrev cX11_clear : ByteArray := prog_1_method_9_code
def yX11_clear : MethodName := ⟨RX11, "clear", "()I"⟩
abbrev cX11_read : ByteArray := prog_1_method_10_code
def yX11_read : MethodName := ⟨RX11, "read", "()I"⟩
abbrev cX11_turn : ByteArray := prog_1_method_11_code
def yX11_turn : MethodName := ⟨RX11, "turn", "(I)I"⟩
abbrev cX11_undo : ByteArray := prog_1_method_12_code
def yX11_undo : MethodName := ⟨RX11, "undo", "()I"⟩
abbrev cX11_of : ByteArray := prog_1_method_13_code
def yX11_of : MethodName := ⟨RX11, "of", "(II)I"⟩
abbrev cX11_about : ByteArray := prog_1_method_14_code
def yX11_about : MethodName := ⟨RX11, "about", "(II)I"⟩
abbrev cX11_then : ByteArray := prog_1_method_15_code
def yX11_then : MethodName := ⟨RX11, "then", "(II)I"⟩
abbrev cX11_folded : ByteArray := prog_1_method_16_code
def yX11_folded : MethodName := ⟨RX11, "folded", "(I)I"⟩
abbrev cX11_done : ByteArray := prog_1_method_17_code
def yX11_done : MethodName := ⟨RX11, "done", "(I)I"⟩
abbrev cX11_when : ByteArray := prog_1_method_18_code
def yX11_when : MethodName := ⟨RX11, "when", "(I)I"⟩
abbrev cX11_hands : ByteArray := prog_1_method_19_code
def yX11_hands : MethodName := ⟨RX11, "hands", "(I)I"⟩
abbrev cX11_pegIt : ByteArray := prog_1_method_20_code
def yX11_pegIt : MethodName := ⟨RX11, "pegIt", "(II)I"⟩
abbrev cX11_choose : ByteArray := prog_1_method_21_code
def yX11_choose : MethodName := ⟨RX11, "choose", "(III)I"⟩
abbrev cX11_due : ByteArray := prog_1_method_22_code
def yX11_due : MethodName := ⟨RX11, "due", "(I)I"⟩
abbrev cX11_age : ByteArray := prog_1_method_23_code
def yX11_age : MethodName := ⟨RX11, "age", "(II)I"⟩
abbrev cX11_again : ByteArray := prog_1_method_24_code
def yX11_again : MethodName := ⟨RX11, "again", "()I"⟩
abbrev cX11_measured : ByteArray := prog_1_method_25_code
def yX11_measured : MethodName := ⟨RX11, "measured", "(III)I"⟩
abbrev cX11_forget : ByteArray := prog_1_method_26_code
def yX11_forget : MethodName := ⟨RX11, "forget", "()I"⟩
abbrev cX11_is : ByteArray := prog_1_method_27_code
def yX11_is : MethodName := ⟨RX11, "is", "(I)I"⟩
abbrev cX11_next : ByteArray := prog_1_method_28_code
def yX11_next : MethodName := ⟨RX11, "next", "(II)I"⟩
abbrev cX11_wants : ByteArray := prog_1_method_29_code
def yX11_wants : MethodName := ⟨RX11, "wants", "(I)I"⟩
abbrev cX11_odds : ByteArray := prog_1_method_30_code
def yX11_odds : MethodName := ⟨RX11, "odds", "(III)I"⟩
abbrev cX11_years : ByteArray := prog_1_method_31_code
def yX11_years : MethodName := ⟨RX11, "years", "(III)I"⟩
abbrev cX11_part : ByteArray := prog_1_method_32_code
def yX11_part : MethodName := ⟨RX11, "part", "(I)J"⟩
abbrev cX11_image : ByteArray := prog_1_method_33_code
def yX11_image : MethodName := ⟨RX11, "image", "(I)I"⟩
abbrev cX11_from : ByteArray := prog_1_method_34_code
def yX11_from : MethodName := ⟨RX11, "from", "(I)I"⟩
abbrev cX11_status : ByteArray := prog_1_method_35_code
def yX11_status : MethodName := ⟨RX11, "status", "(I)I"⟩
abbrev cX11_count : ByteArray := prog_1_method_36_code
def yX11_count : MethodName := ⟨RX11, "count", "(I)I"⟩
abbrev cX11_digest : ByteArray := prog_1_method_37_code
def yX11_digest : MethodName := ⟨RX11, "digest", "()J"⟩
abbrev cX11_within : ByteArray := prog_1_method_38_code
def yX11_within : MethodName := ⟨RX11, "within", "(III)Z"⟩
abbrev cX11_isSeason : ByteArray := prog_1_method_39_code
def yX11_isSeason : MethodName := ⟨RX11, "isSeason", "(I)Z"⟩
abbrev cX11_mix : ByteArray := prog_1_method_40_code
def yX11_mix : MethodName := ⟨RX11, "mix", "(JJ)J"⟩
abbrev cX11_refuse : ByteArray := prog_1_method_41_code
def yX11_refuse : MethodName := ⟨RX11, "refuse", "(I)I"⟩
abbrev cX11_amount : ByteArray := prog_1_method_42_code
def yX11_amount : MethodName := ⟨RX11, "amount", "(I)I"⟩
abbrev cX11_ahead : ByteArray := prog_1_method_43_code
def yX11_ahead : MethodName := ⟨RX11, "ahead", "(I)LYearStretch$Valley;"⟩
abbrev cX11_tryPair : ByteArray := prog_1_method_44_code
def yX11_tryPair : MethodName := ⟨RX11, "tryPair", "(IIII)V"⟩
abbrev cX11_fitting : ByteArray := prog_1_method_45_code
def yX11_fitting : MethodName := ⟨RX11, "fitting", "(III)I"⟩
abbrev cX11_foresee : ByteArray := prog_1_method_46_code
def yX11_foresee : MethodName := ⟨RX11, "foresee", "(III)V"⟩
abbrev cX11_mostAlike : ByteArray := prog_1_method_47_code
def yX11_mostAlike : MethodName := ⟨RX11, "mostAlike", "(II)I"⟩
abbrev cX11_power : ByteArray := prog_1_method_48_code
def yX11_power : MethodName := ⟨RX11, "power", "(II)J"⟩
abbrev cX11_setFraction : ByteArray := prog_1_method_49_code
def yX11_setFraction : MethodName := ⟨RX11, "setFraction", "(JJ)V"⟩
def RX12 : String := "YearStretchModel"
def TX12 : u_T := fun k => match k with
  | 0 => ("YearStretchModel", "now", "[I", true)
  | 1 => ("YearStretchModel", "kept", "[I", true)
  | 2 => ("YearStretchModel", "isKept", "[Z", true)
  | 3 => ("YearStretchModel", "refused", "[I", true)
  | 4 => ("YearStretchModel", "above", "J", false)
  | 5 => ("YearStretchModel", "below", "J", false)
  | 6 => ("YearStretchModel", "has", "[I", true)
  | 7 => ("YearStretchModel", "pegged", "I", false)
  | 8 => ("YearStretchModel", "turning", "I", false)
  | 9 => ("YearStretchModel", "kinds", "[I", true)
  | 10 => ("YearStretchModel", "pullsFor", "[I", true)
  | 11 => ("YearStretchModel", "hasOne", "[I", true)
  | 12 => ("YearStretchModel", "hasOther", "[I", true)
  | 13 => ("YearStretchModel", "thens", "[I", true)
  | 14 => ("YearStretchModel", "bytes", "[I", true)
  | 15 => ("YearStretchModel", "bytesLong", "I", false)
  | 16 => ("YearStretchModel", "tokenAt", "I", false)
  | 17 => ("YearStretchModel", "tokenLong", "I", false)
  | 18 => ("YearStretchModel", "token", "I", false)
  | 19 => ("YearStretchModel", "value", "I", false)
  | 20 => ("YearStretchModel", "anew", "[I", true)
  | _ => ("YearStretchModel", "values", "[I", true)
def tyX12 : Nat → FieldType := fun k => match k with
  | 0 => .array .int
  | 1 => .array .int
  | 2 => .array .boolean
  | 3 => .array .int
  | 4 => .long
  | 5 => .long
  | 6 => .array .int
  | 7 => .int
  | 8 => .int
  | 9 => .array .int
  | 10 => .array .int
  | 11 => .array .int
  | 12 => .array .int
  | 13 => .array .int
  | 14 => .array .int
  | 15 => .int
  | 16 => .int
  | 17 => .int
  | 18 => .int
  | 19 => .int
  | 20 => .array .int
  | _ => .array .int
abbrev wsX120 : List Cond := u_ws RX12 TX12 22
theorem nmX12 : ∀ a, a < 22 → ∀ b, b < 22 → a ≠ b → (TX12 a).2.1 ≠ (TX12 b).2.1 := by decide +kernel
theorem tyX12_ok : ∀ k, k < 22 → parseFieldDescriptor (TX12 k).2.2.1 = some (tyX12 k) := by decide +kernel
abbrev cX12_init : ByteArray := prog_14_method_1_code
def yX12_init : MethodName := ⟨RX12, "<init>", "()V"⟩
abbrev cX12_in : ByteArray := prog_14_method_3_code
def yX12_in : MethodName := ⟨RX12, "in", "(JJJ)Z"⟩
abbrev cX12_bad : ByteArray := prog_14_method_4_code
def yX12_bad : MethodName := ⟨RX12, "bad", "(I)I"⟩
abbrev cX12_no : ByteArray := prog_14_method_5_code
def yX12_no : MethodName := ⟨RX12, "no", "()I"⟩
abbrev cX12_full : ByteArray := prog_14_method_6_code
def yX12_full : MethodName := ⟨RX12, "full", "()I"⟩
abbrev cX12_bits : ByteArray := prog_14_method_7_code
def yX12_bits : MethodName := ⟨RX12, "bits", "(I)I"⟩
abbrev cX12_begin : ByteArray := prog_14_method_8_code
def yX12_begin : MethodName := ⟨RX12, "begin", "([I)V"⟩
abbrev cX12_teams : ByteArray := prog_14_method_9_code
def yX12_teams : MethodName := ⟨RX12, "teams", "()I"⟩
abbrev cX12_works : ByteArray := prog_14_method_10_code
def yX12_works : MethodName := ⟨RX12, "works", "()I"⟩
abbrev cX12_isTeam : ByteArray := prog_14_method_11_code
def yX12_isTeam : MethodName := ⟨RX12, "isTeam", "(I)Z"⟩
abbrev cX12_isSeason : ByteArray := prog_14_method_12_code
def yX12_isSeason : MethodName := ⟨RX12, "isSeason", "(I)Z"⟩
abbrev cX12_get : ByteArray := prog_14_method_13_code
def yX12_get : MethodName := ⟨RX12, "get", "(II)I"⟩
abbrev cX12_seasonOf : ByteArray := prog_14_method_14_code
def yX12_seasonOf : MethodName := ⟨RX12, "seasonOf", "(I)I"⟩
abbrev cX12_needs : ByteArray := prog_14_method_15_code
def yX12_needs : MethodName := ⟨RX12, "needs", "(I)I"⟩
abbrev cX12_valley : ByteArray := prog_14_method_16_code
def yX12_valley : MethodName := ⟨RX12, "valley", "()I"⟩
abbrev cX12_keep : ByteArray := prog_14_method_17_code
def yX12_keep : MethodName := ⟨RX12, "keep", "()V"⟩
abbrev cX12_weeks : ByteArray := prog_14_method_18_code
def yX12_weeks : MethodName := ⟨RX12, "weeks", "(II)I"⟩
abbrev cX12_peg : ByteArray := prog_14_method_19_code
def yX12_peg : MethodName := ⟨RX12, "peg", "(I)I"⟩
abbrev cX12_layTeam : ByteArray := prog_14_method_20_code
def yX12_layTeam : MethodName := ⟨RX12, "layTeam", "([IIII)V"⟩
abbrev cX12_team : ByteArray := prog_14_method_21_code
def yX12_team : MethodName := ⟨RX12, "team", "(III)I"⟩
abbrev cX12_layWork : ByteArray := prog_14_method_22_code
def yX12_layWork : MethodName := ⟨RX12, "layWork", "([III)V"⟩
abbrev cX12_work : ByteArray := prog_14_method_23_code
def yX12_work : MethodName := ⟨RX12, "work", "(II)I"⟩
abbrev cX12_idle : ByteArray := prog_14_method_24_code
def yX12_idle : MethodName := ⟨RX12, "idle", "()I"⟩
abbrev cX12_layHand : ByteArray := prog_14_method_25_code
def yX12_layHand : MethodName := ⟨RX12, "layHand", "()V"⟩
abbrev cX12_pullsFrom : ByteArray := prog_14_method_26_code
def yX12_pullsFrom : MethodName := ⟨RX12, "pullsFrom", "(I)I"⟩
abbrev cX12_pull : ByteArray := prog_14_method_27_code
def yX12_pull : MethodName := ⟨RX12, "pull", "(IIII)I"⟩
abbrev cX12_least : ByteArray := prog_14_method_28_code
def yX12_least : MethodName := ⟨RX12, "least", "(II)I"⟩
abbrev cX12_goTurn : ByteArray := prog_14_method_29_code
def yX12_goTurn : MethodName := ⟨RX12, "goTurn", "(I)V"⟩
abbrev cX12_all : ByteArray := prog_14_method_30_code
def yX12_all : MethodName := ⟨RX12, "all", "()I"⟩
abbrev cX12_goTurns : ByteArray := prog_14_method_31_code
def yX12_goTurns : MethodName := ⟨RX12, "goTurns", "(II)V"⟩
abbrev cX12_turn : ByteArray := prog_14_method_32_code
def yX12_turn : MethodName := ⟨RX12, "turn", "(I)I"⟩
abbrev cX12_undo : ByteArray := prog_14_method_33_code
def yX12_undo : MethodName := ⟨RX12, "undo", "()I"⟩
abbrev cX12_of : ByteArray := prog_14_method_34_code
def yX12_of : MethodName := ⟨RX12, "of", "(II)I"⟩
abbrev cX12_about : ByteArray := prog_14_method_35_code
def yX12_about : MethodName := ⟨RX12, "about", "(II)I"⟩
abbrev cX12_isSoon : ByteArray := prog_14_method_36_code
def yX12_isSoon : MethodName := ⟨RX12, "isSoon", "(I)Z"⟩
abbrev cX12_then : ByteArray := prog_14_method_37_code
def yX12_then : MethodName := ⟨RX12, "then", "(II)I"⟩
abbrev cX12_folded : ByteArray := prog_14_method_38_code
def yX12_folded : MethodName := ⟨RX12, "folded", "(I)I"⟩
abbrev cX12_doneNow : ByteArray := prog_14_method_39_code
def yX12_doneNow : MethodName := ⟨RX12, "doneNow", "()I"⟩
abbrev cX12_allWorks : ByteArray := prog_14_method_40_code
def yX12_allWorks : MethodName := ⟨RX12, "allWorks", "()I"⟩
abbrev cX12_done : ByteArray := prog_14_method_41_code
def yX12_done : MethodName := ⟨RX12, "done", "(I)I"⟩
abbrev cX12_when : ByteArray := prog_14_method_42_code
def yX12_when : MethodName := ⟨RX12, "when", "(I)I"⟩
abbrev cX12_isNear : ByteArray := prog_14_method_43_code
def yX12_isNear : MethodName := ⟨RX12, "isNear", "(I)Z"⟩
abbrev cX12_hands : ByteArray := prog_14_method_44_code
def yX12_hands : MethodName := ⟨RX12, "hands", "(I)I"⟩
abbrev cX12_pegIt : ByteArray := prog_14_method_45_code
def yX12_pegIt : MethodName := ⟨RX12, "pegIt", "(II)I"⟩
abbrev cX12_greatest : ByteArray := prog_14_method_46_code
def yX12_greatest : MethodName := ⟨RX12, "greatest", "()I"⟩
abbrev cX12_choose : ByteArray := prog_14_method_47_code
def yX12_choose : MethodName := ⟨RX12, "choose", "(III)I"⟩
abbrev cX12_due : ByteArray := prog_14_method_48_code
def yX12_due : MethodName := ⟨RX12, "due", "(I)I"⟩
abbrev cX12_age : ByteArray := prog_14_method_49_code
def yX12_age : MethodName := ⟨RX12, "age", "(II)I"⟩
abbrev cX12_isAsNow : ByteArray := prog_14_method_50_code
def yX12_isAsNow : MethodName := ⟨RX12, "isAsNow", "()Z"⟩
abbrev cX12_again : ByteArray := prog_14_method_51_code
def yX12_again : MethodName := ⟨RX12, "again", "()I"⟩
abbrev cX12_measured : ByteArray := prog_14_method_52_code
def yX12_measured : MethodName := ⟨RX12, "measured", "(III)I"⟩
abbrev cX12_forget : ByteArray := prog_14_method_53_code
def yX12_forget : MethodName := ⟨RX12, "forget", "()I"⟩
abbrev cX12_canBe : ByteArray := prog_14_method_54_code
def yX12_canBe : MethodName := ⟨RX12, "canBe", "(III)Z"⟩
abbrev cX12_kindsOf : ByteArray := prog_14_method_55_code
def yX12_kindsOf : MethodName := ⟨RX12, "kindsOf", "(I)I"⟩
abbrev cX12_is : ByteArray := prog_14_method_56_code
def yX12_is : MethodName := ⟨RX12, "is", "(I)I"⟩
abbrev cX12_mostAlike : ByteArray := prog_14_method_57_code
def yX12_mostAlike : MethodName := ⟨RX12, "mostAlike", "(II)I"⟩
abbrev cX12_next : ByteArray := prog_14_method_58_code
def yX12_next : MethodName := ⟨RX12, "next", "(II)I"⟩
abbrev cX12_wants : ByteArray := prog_14_method_59_code
def yX12_wants : MethodName := ⟨RX12, "wants", "(I)I"⟩
abbrev cX12_fraction : ByteArray := prog_14_method_60_code
def yX12_fraction : MethodName := ⟨RX12, "fraction", "(JJ)V"⟩
abbrev cX12_odds : ByteArray := prog_14_method_61_code
def yX12_odds : MethodName := ⟨RX12, "odds", "(III)I"⟩
abbrev cX12_years : ByteArray := prog_14_method_62_code
def yX12_years : MethodName := ⟨RX12, "years", "(III)I"⟩
abbrev cX12_type : ByteArray := prog_14_method_63_code
def yX12_type : MethodName := ⟨RX12, "type", "(I)I"⟩
abbrev cX12_clear : ByteArray := prog_14_method_64_code
def yX12_clear : MethodName := ⟨RX12, "clear", "()I"⟩
abbrev cX12_isSmall : ByteArray := prog_14_method_65_code
def yX12_isSmall : MethodName := ⟨RX12, "isSmall", "(I)Z"⟩
abbrev cX12_isFigure : ByteArray := prog_14_method_66_code
def yX12_isFigure : MethodName := ⟨RX12, "isFigure", "(I)Z"⟩
abbrev cX12_lookAt : ByteArray := prog_14_method_67_code
def yX12_lookAt : MethodName := ⟨RX12, "lookAt", "(I)V"⟩
abbrev cX12_goBehind : ByteArray := prog_14_method_68_code
def yX12_goBehind : MethodName := ⟨RX12, "goBehind", "()V"⟩
abbrev cX12_isWord : ByteArray := prog_14_method_69_code
def yX12_isWord : MethodName := ⟨RX12, "isWord", "(IIIIIII)Z"⟩
abbrev cX12_takes : ByteArray := prog_14_method_70_code
def yX12_takes : MethodName := ⟨RX12, "takes", "(III)Z"⟩
abbrev cX12_takesWeeks : ByteArray := prog_14_method_71_code
def yX12_takesWeeks : MethodName := ⟨RX12, "takesWeeks", "()Z"⟩
abbrev cX12_takesPeg : ByteArray := prog_14_method_72_code
def yX12_takesPeg : MethodName := ⟨RX12, "takesPeg", "()Z"⟩
abbrev cX12_takesTeam : ByteArray := prog_14_method_73_code
def yX12_takesTeam : MethodName := ⟨RX12, "takesTeam", "()Z"⟩
abbrev cX12_takesWork : ByteArray := prog_14_method_74_code
def yX12_takesWork : MethodName := ⟨RX12, "takesWork", "()Z"⟩
abbrev cX12_takesItem : ByteArray := prog_14_method_75_code
def yX12_takesItem : MethodName := ⟨RX12, "takesItem", "()Z"⟩
abbrev cX12_read : ByteArray := prog_14_method_76_code
def yX12_read : MethodName := ⟨RX12, "read", "()I"⟩
abbrev cX12_part : ByteArray := prog_14_method_77_code
def yX12_part : MethodName := ⟨RX12, "part", "(I)J"⟩
abbrev cX12_image : ByteArray := prog_14_method_78_code
def yX12_image : MethodName := ⟨RX12, "image", "(I)I"⟩
abbrev cX12_from : ByteArray := prog_14_method_79_code
def yX12_from : MethodName := ⟨RX12, "from", "(I)I"⟩
abbrev cX12_status : ByteArray := prog_14_method_80_code
def yX12_status : MethodName := ⟨RX12, "status", "(I)I"⟩
abbrev cX12_allWeeks : ByteArray := prog_14_method_81_code
def yX12_allWeeks : MethodName := ⟨RX12, "allWeeks", "()I"⟩
abbrev cX12_counted : ByteArray := prog_14_method_82_code
def yX12_counted : MethodName := ⟨RX12, "counted", "(I)I"⟩
abbrev cX12_count : ByteArray := prog_14_method_83_code
def yX12_count : MethodName := ⟨RX12, "count", "(I)I"⟩
abbrev cX12_sums : ByteArray := prog_14_method_84_code
def yX12_sums : MethodName := ⟨RX12, "sums", "(JII)J"⟩
abbrev cX12_digest : ByteArray := prog_14_method_85_code
def yX12_digest : MethodName := ⟨RX12, "digest", "()J"⟩
def RJ6 : String := "java/lang/Integer"
abbrev cJ6_bitCount_0f7a4 : ByteArray := prog_15_method_49_code
def yJ6_bitCount_0f7a4 : MethodName := ⟨RJ6, "bitCount", "(I)I"⟩
def RJ9 : String := "java/lang/Math"
abbrev cJ9_max_7cf53 : ByteArray := prog_16_method_65_code
def yJ9_max_7cf53 : MethodName := ⟨RJ9, "max", "(II)I"⟩
abbrev cJ9_min_7cf53 : ByteArray := prog_16_method_69_code
def yJ9_min_7cf53 : MethodName := ⟨RJ9, "min", "(II)I"⟩
def RJ0 : String := "java/lang/String"
abbrev cJ0_length_8abf5 : ByteArray := prog_17_method_54_code
def yJ0_length_8abf5 : MethodName := ⟨RJ0, "length", "()I"⟩
abbrev cJ0_charAt_5068e : ByteArray := prog_17_method_56_code
def yJ0_charAt_5068e : MethodName := ⟨RJ0, "charAt", "(I)C"⟩
abbrev cJ0_coder_7d493 : ByteArray := prog_17_method_152_code
def yJ0_coder_7d493 : MethodName := ⟨RJ0, "coder", "()B"⟩
abbrev cJ0_isLatin1_aae02 : ByteArray := prog_17_method_154_code
def yJ0_isLatin1_aae02 : MethodName := ⟨RJ0, "isLatin1", "()Z"⟩
abbrev cJ0_checkIndex_df160 : ByteArray := prog_17_method_155_code
def yJ0_checkIndex_df160 : MethodName := ⟨RJ0, "checkIndex", "(II)V"⟩
def RJ1 : String := "java/lang/StringLatin1"
abbrev cJ1_charAt_3b067 : ByteArray := prog_18_method_2_code
def yJ1_charAt_3b067 : MethodName := ⟨RJ1, "charAt", "([BI)C"⟩
def RJ2 : String := "java/lang/StringUTF16"
abbrev cJ2_getChar_3b067 : ByteArray := prog_19_method_5_code
def yJ2_getChar_3b067 : MethodName := ⟨RJ2, "getChar", "([BI)C"⟩
abbrev cJ2_length_9d52b : ByteArray := prog_19_method_6_code
def yJ2_length_9d52b : MethodName := ⟨RJ2, "length", "([B)I"⟩
abbrev cJ2_charAt_3b067 : ByteArray := prog_19_method_83_code
def yJ2_charAt_3b067 : MethodName := ⟨RJ2, "charAt", "([BI)C"⟩
abbrev cJ2_checkIndex_2214a : ByteArray := prog_19_method_91_code
def yJ2_checkIndex_2214a : MethodName := ⟨RJ2, "checkIndex", "(I[B)V"⟩
def RJ10 : String := "java/lang/System"
def RJ7 : String := "java/util/Arrays"
abbrev cJ7_fill_53178 : ByteArray := prog_21_method_103_code
def yJ7_fill_53178 : MethodName := ⟨RJ7, "fill", "([II)V"⟩
def RJ3 : String := "jdk/internal/util/Preconditions"
abbrev cJ3_checkIndex_8e157 : ByteArray := prog_22_method_11_code
def yJ3_checkIndex_8e157 : MethodName := ⟨RJ3, "checkIndex", "(IILjava/util/function/BiFunction;)I"⟩
def RL : String := "YearStretchLaw"
abbrev cL_law : ByteArray := code
abbrev vwCl : List vw_C := [(RX0, TX0, 0), (RX1, TX1, 0), (RX2, TX2, 0), (RX3, TX3, 0), (RX4, TX4, 5), (RX5, TX5, 0), (RX6, TX6, 7), (RX7, TX7, 2), (RX8, TX8, 0), (RX9, TX9, 6), (RX10, TX10, 3), (RX11, TX11, 12), (RX12, TX12, 22)]
end
section
/-! The tables of the flat interpreter: written by wip/gen/mk03.py out of claim/NAMES.whole.lean.txt and claim/Statement.lean -/
/-- classes by number: 0 to 12 the claim's own, then the JDK's, 20 the law -/
def Rcl : List String := [RX0, RX1, RX2, RX3, RX4, RX5, RX6, RX7, RX8, RX9, RX10, RX11, RX12, RJ0, RJ1, RJ2, RJ6, RJ9, RJ7, RJ3, RL, RJ10]
def Rc (c : Nat) : String := Rcl.getD c ""
def Tc (c : Nat) : u_T := match c with
  | 0 => TX0
  | 1 => TX1
  | 2 => TX2
  | 3 => TX3
  | 4 => TX4
  | 5 => TX5
  | 6 => TX6
  | 7 => TX7
  | 8 => TX8
  | 9 => TX9
  | 10 => TX10
  | 11 => TX11
  | _ => TX12
def tyc (c : Nat) : Nat → FieldType := match c with
  | 0 => tyX0
  | 1 => tyX1
  | 2 => tyX2
  | 3 => tyX3
  | 4 => tyX4
  | 5 => tyX5
  | 6 => tyX6
  | 7 => tyX7
  | 8 => tyX8
  | 9 => tyX9
  | 10 => tyX10
  | 11 => tyX11
  | _ => tyX12
def nfl : List Nat := [0, 0, 0, 0, 5, 0, 7, 2, 0, 6, 3, 12, 22]
def nf (c : Nat) : Nat := nfl.getD c 0
/-- a field's kind: 0 int, 1 long, 2 a reference -/
def ftl : List (List Nat) := [[], [], [], [], [2, 2, 2, 0, 0], [], [2, 2, 2, 0, 0, 0, 0], [2, 0], [], [2, 2, 2, 2, 2, 2], [2, 0, 0], [2, 2, 2, 2, 2, 2, 2, 1, 1, 0, 0, 0], [2, 2, 2, 2, 1, 1, 2, 0, 0, 2, 2, 2, 2, 2, 2, 0, 0, 0, 0, 0, 2, 2]]
def ft (c k : Nat) : Nat := (ftl.getD c []).getD k 3
def mtl0 : List (MethodName × ByteArray × Nat × Option FieldType × Nat × Nat) := [(yX0_init, cX0_init, 1, none, 0, 2), (yX0_pull, cX0_pull, 6, (some .int), 0, 2), (yX1_init, cX1_init, 1, none, 1, 2), (yX1_pull, cX1_pull, 5, (some .int), 1, 2), (yX2_init, cX2_init, 1, none, 2, 3), (yX2_pull, cX2_pull, 5, (some .int), 2, 3), (yX3_init, cX3_init, 1, none, 3, 2), (yX3_pull, cX3_pull, 5, (some .int), 3, 2), (yX4_init, cX4_init, 1, none, 4, 1), (yX4_empty, cX4_empty, 1, none, 4, 1), (yX4_take, cX4_take, 2, none, 4, 1), (yX4_keep, cX4_keep, 3, none, 4, 1), (yX4_giveBack, cX4_giveBack, 3, none, 4, 1), (yX5_init, cX5_init, 1, none, 5, 1), (yX5_pull, cX5_pull, 5, (some .int), 5, 1), (yX6_init, cX6_init, 2, none, 6, 1), (yX6_isFull, cX6_isFull, 1, (some .boolean), 6, 1), (yX6_append, cX6_append, 2, (some .int), 6, 2), (yX6_empty, cX6_empty, 2, (some .int), 6, 1), (yX6_items, cX6_items, 3, (some .int), 6, 9), (yX6_readItem, cX6_readItem, 5, (some .boolean), 6, 8), (yX6_isTooMany, cX6_isTooMany, 2, (some .boolean), 6, 2), (yX6_put, cX6_put, 2, none, 6, 3), (yX6_scan, cX6_scan, 1, none, 6, 2), (yX6_sortOf, cX6_sortOf, 1, (some .int), 6, 1), (yX6_number, cX6_number, 3, (some .int), 6, 1), (yX6_itemNamed, cX6_itemNamed, 1, (some .int), 6, 7), (yX6_isNamed, cX6_isNamed, 3, (some .boolean), 6, 6), (yX7_init, cX7_init, 1, none, 7, 1), (yX7_isFull, cX7_isFull, 1, (some .boolean), 7, 1), (yX7_has, cX7_has, 2, (some .boolean), 7, 1), (yX7_allRows, cX7_allRows, 1, (some .int), 7, 1), (yX7_add, cX7_add, 5, (some .int), 7, 2), (yX7_empty, cX7_empty, 2, (some .int), 7, 1), (yX7_take, cX7_take, 2, none, 7, 1), (yX7_cell, cX7_cell, 3, (some .int), 7, 1), (yX7_change, cX7_change, 4, none, 7, 1), (yX7_rowsWith, cX7_rowsWith, 5, (some .int), 7, 2), (yX7_mixInto, cX7_mixInto, 8, (some .long), 7, 2), (yX8_init, cX8_init, 1, none, 8, 3)]
def mtl1 : List (MethodName × ByteArray × Nat × Option FieldType × Nat × Nat) := [(yX8_pull, cX8_pull, 5, (some .int), 8, 3), (yX9_init, cX9_init, 2, none, 9, 3), (yX9_begin, cX9_begin, 1, none, 9, 3), (yX9_take, cX9_take, 2, none, 9, 2), (yX9_sourceFor, cX9_sourceFor, 2, (some .int), 9, 3), (yX9_pullOf, cX9_pullOf, 5, (some .int), 9, 4), (yX9_pass, cX9_pass, 4, none, 9, 5), (yX9_passes, cX9_passes, 4, none, 9, 6), (yX9_doneBits, cX9_doneBits, 3, (some .int), 9, 2), (yX9_passesAsMeasured, cX9_passesAsMeasured, 3, (some .boolean), 9, 6), (yX9_lastMeasured, cX9_lastMeasured, 3, (some .int), 9, 2), (yX9_isAsMeasured, cX9_isAsMeasured, 5, (some .boolean), 9, 2), (yX10_init, cX10_init, 1, none, 10, 1), (yX10_begin, cX10_begin, 1, none, 10, 2), (yX10_take, cX10_take, 2, none, 10, 1), (yX10_pegAt, cX10_pegAt, 2, (some .int), 10, 1), (yX10_driveOrDraw, cX10_driveOrDraw, 2, none, 10, 1), (yX10_sourceOf, cX10_sourceOf, 4, (some .int), 10, 2), (yX10_move, cX10_move, 5, none, 10, 2), (yX10_weeksOf, cX10_weeksOf, 4, (some .int), 10, 1), (yX10_foldedBits, cX10_foldedBits, 3, (some .int), 10, 1), (yX10_longest, cX10_longest, 3, (some .int), 10, 1), (yX10_isAsLongAs, cX10_isAsLongAs, 3, (some .boolean), 10, 1), (yX11_init, cX11_init, 3, none, 11, 4), (yX11_valley, cX11_valley, 2, (some .int), 11, 4), (yX11_weeks, cX11_weeks, 4, (some .int), 11, 3), (yX11_peg, cX11_peg, 2, (some .int), 11, 2), (yX11_team, cX11_team, 4, (some .int), 11, 3), (yX11_work, cX11_work, 3, (some .int), 11, 3), (yX11_idle, cX11_idle, 1, (some .int), 11, 2), (yX11_type, cX11_type, 2, (some .int), 11, 3), (yX11_clear, cX11_clear, 1, (some .int), 11, 2), (yX11_read, cX11_read, 2, (some .int), 11, 10), (yX11_turn, cX11_turn, 3, (some .int), 11, 6), (yX11_undo, cX11_undo, 1, (some .int), 11, 2), (yX11_of, cX11_of, 3, (some .int), 11, 3), (yX11_about, cX11_about, 4, (some .int), 11, 5), (yX11_then, cX11_then, 3, (some .int), 11, 8), (yX11_folded, cX11_folded, 2, (some .int), 11, 8), (yX11_done, cX11_done, 2, (some .int), 11, 8)]
def mtl2 : List (MethodName × ByteArray × Nat × Option FieldType × Nat × Nat) := [(yX11_when, cX11_when, 4, (some .int), 11, 6), (yX11_hands, cX11_hands, 6, (some .int), 11, 7), (yX11_pegIt, cX11_pegIt, 6, (some .int), 11, 7), (yX11_choose, cX11_choose, 8, (some .int), 11, 8), (yX11_due, cX11_due, 4, (some .int), 11, 2), (yX11_age, cX11_age, 5, (some .int), 11, 6), (yX11_again, cX11_again, 2, (some .int), 11, 6), (yX11_measured, cX11_measured, 4, (some .int), 11, 3), (yX11_forget, cX11_forget, 1, (some .int), 11, 2), (yX11_is, cX11_is, 2, (some .int), 11, 8), (yX11_next, cX11_next, 8, (some .int), 11, 8), (yX11_wants, cX11_wants, 2, (some .int), 11, 8), (yX11_odds, cX11_odds, 8, (some .int), 11, 6), (yX11_years, cX11_years, 9, (some .int), 11, 6), (yX11_part, cX11_part, 2, (some .long), 11, 2), (yX11_image, cX11_image, 2, (some .int), 11, 3), (yX11_from, cX11_from, 2, (some .int), 11, 3), (yX11_status, cX11_status, 2, (some .int), 11, 2), (yX11_count, cX11_count, 2, (some .int), 11, 3), (yX11_digest, cX11_digest, 4, (some .long), 11, 3), (yX11_within, cX11_within, 3, (some .boolean), 11, 1), (yX11_isSeason, cX11_isSeason, 1, (some .boolean), 11, 2), (yX11_mix, cX11_mix, 4, (some .long), 11, 1), (yX11_refuse, cX11_refuse, 2, (some .int), 11, 1), (yX11_amount, cX11_amount, 2, (some .int), 11, 2), (yX11_ahead, cX11_ahead, 2, (some (.object "YearStretch$Valley")), 11, 7), (yX11_tryPair, cX11_tryPair, 6, none, 11, 7), (yX11_fitting, cX11_fitting, 6, (some .int), 11, 7), (yX11_foresee, cX11_foresee, 5, none, 11, 7), (yX11_mostAlike, cX11_mostAlike, 7, (some .int), 11, 2), (yX11_power, cX11_power, 5, (some .long), 11, 1), (yX11_setFraction, cX11_setFraction, 12, none, 11, 1), (yX12_init, cX12_init, 1, none, 12, 2), (yX12_in, cX12_in, 6, (some .boolean), 12, 1), (yX12_bad, cX12_bad, 2, (some .int), 12, 1), (yX12_no, cX12_no, 1, (some .int), 12, 1), (yX12_full, cX12_full, 1, (some .int), 12, 1), (yX12_bits, cX12_bits, 3, (some .int), 12, 1), (yX12_begin, cX12_begin, 2, none, 12, 1), (yX12_teams, cX12_teams, 1, (some .int), 12, 1)]
def mtl3 : List (MethodName × ByteArray × Nat × Option FieldType × Nat × Nat) := [(yX12_works, cX12_works, 1, (some .int), 12, 1), (yX12_isTeam, cX12_isTeam, 2, (some .boolean), 12, 2), (yX12_isSeason, cX12_isSeason, 1, (some .boolean), 12, 2), (yX12_get, cX12_get, 3, (some .int), 12, 1), (yX12_seasonOf, cX12_seasonOf, 2, (some .int), 12, 1), (yX12_needs, cX12_needs, 2, (some .int), 12, 1), (yX12_valley, cX12_valley, 2, (some .int), 12, 2), (yX12_keep, cX12_keep, 3, none, 12, 1), (yX12_weeks, cX12_weeks, 4, (some .int), 12, 3), (yX12_peg, cX12_peg, 2, (some .int), 12, 2), (yX12_layTeam, cX12_layTeam, 5, none, 12, 1), (yX12_team, cX12_team, 4, (some .int), 12, 3), (yX12_layWork, cX12_layWork, 3, none, 12, 1), (yX12_work, cX12_work, 3, (some .int), 12, 3), (yX12_idle, cX12_idle, 2, (some .int), 12, 2), (yX12_layHand, cX12_layHand, 2, none, 12, 2), (yX12_pullsFrom, cX12_pullsFrom, 4, (some .int), 12, 3), (yX12_pull, cX12_pull, 6, (some .int), 12, 1), (yX12_least, cX12_least, 2, (some .int), 12, 1), (yX12_goTurn, cX12_goTurn, 6, none, 12, 4), (yX12_all, cX12_all, 1, (some .int), 12, 2), (yX12_goTurns, cX12_goTurns, 4, none, 12, 5), (yX12_turn, cX12_turn, 4, (some .int), 12, 5), (yX12_undo, cX12_undo, 3, (some .int), 12, 2), (yX12_of, cX12_of, 6, (some .int), 12, 3), (yX12_about, cX12_about, 4, (some .int), 12, 4), (yX12_isSoon, cX12_isSoon, 2, (some .boolean), 12, 2), (yX12_then, cX12_then, 3, (some .int), 12, 6), (yX12_folded, cX12_folded, 4, (some .int), 12, 6), (yX12_doneNow, cX12_doneNow, 3, (some .int), 12, 2), (yX12_allWorks, cX12_allWorks, 1, (some .int), 12, 2), (yX12_done, cX12_done, 2, (some .int), 12, 6), (yX12_when, cX12_when, 4, (some .int), 12, 5), (yX12_isNear, cX12_isNear, 1, (some .boolean), 12, 2), (yX12_hands, cX12_hands, 4, (some .int), 12, 6), (yX12_pegIt, cX12_pegIt, 6, (some .int), 12, 6), (yX12_greatest, cX12_greatest, 3, (some .int), 12, 1), (yX12_choose, cX12_choose, 7, (some .int), 12, 6), (yX12_due, cX12_due, 4, (some .int), 12, 2), (yX12_age, cX12_age, 6, (some .int), 12, 5)]
def mtl4 : List (MethodName × ByteArray × Nat × Option FieldType × Nat × Nat) := [(yX12_isAsNow, cX12_isAsNow, 3, (some .boolean), 12, 1), (yX12_again, cX12_again, 2, (some .int), 12, 5), (yX12_measured, cX12_measured, 5, (some .int), 12, 3), (yX12_forget, cX12_forget, 2, (some .int), 12, 1), (yX12_canBe, cX12_canBe, 7, (some .boolean), 12, 6), (yX12_kindsOf, cX12_kindsOf, 4, (some .int), 12, 7), (yX12_is, cX12_is, 2, (some .int), 12, 8), (yX12_mostAlike, cX12_mostAlike, 7, (some .int), 12, 1), (yX12_next, cX12_next, 8, (some .int), 12, 8), (yX12_wants, cX12_wants, 4, (some .int), 12, 7), (yX12_fraction, cX12_fraction, 11, none, 12, 1), (yX12_odds, cX12_odds, 12, (some .int), 12, 5), (yX12_years, cX12_years, 9, (some .int), 12, 5), (yX12_type, cX12_type, 2, (some .int), 12, 2), (yX12_clear, cX12_clear, 2, (some .int), 12, 1), (yX12_isSmall, cX12_isSmall, 1, (some .boolean), 12, 2), (yX12_isFigure, cX12_isFigure, 1, (some .boolean), 12, 2), (yX12_lookAt, cX12_lookAt, 5, none, 12, 3), (yX12_goBehind, cX12_goBehind, 1, none, 12, 4), (yX12_isWord, cX12_isWord, 10, (some .boolean), 12, 1), (yX12_takes, cX12_takes, 4, (some .boolean), 12, 5), (yX12_takesWeeks, cX12_takesWeeks, 1, (some .boolean), 12, 6), (yX12_takesPeg, cX12_takesPeg, 1, (some .boolean), 12, 6), (yX12_takesTeam, cX12_takesTeam, 1, (some .boolean), 12, 6), (yX12_takesWork, cX12_takesWork, 1, (some .boolean), 12, 6), (yX12_takesItem, cX12_takesItem, 1, (some .boolean), 12, 7), (yX12_read, cX12_read, 3, (some .int), 12, 8), (yX12_part, cX12_part, 2, (some .long), 12, 2), (yX12_image, cX12_image, 3, (some .int), 12, 2), (yX12_from, cX12_from, 3, (some .int), 12, 2), (yX12_status, cX12_status, 2, (some .int), 12, 2), (yX12_allWeeks, cX12_allWeeks, 3, (some .int), 12, 1), (yX12_counted, cX12_counted, 2, (some .int), 12, 2), (yX12_count, cX12_count, 2, (some .int), 12, 3), (yX12_sums, cX12_sums, 8, (some .long), 12, 1), (yX12_digest, cX12_digest, 4, (some .long), 12, 3), (yJ6_bitCount_0f7a4, cJ6_bitCount_0f7a4, 1, (some .int), 16, 1), (yJ9_max_7cf53, cJ9_max_7cf53, 2, (some .int), 17, 1), (yJ9_min_7cf53, cJ9_min_7cf53, 2, (some .int), 17, 1), (yJ0_length_8abf5, cJ0_length_8abf5, 1, (some .int), 13, 2)]
def mtl5 : List (MethodName × ByteArray × Nat × Option FieldType × Nat × Nat) := [(yJ0_charAt_5068e, cJ0_charAt_5068e, 2, (some .char), 13, 5), (yJ0_coder_7d493, cJ0_coder_7d493, 1, (some .byte), 13, 1), (yJ0_isLatin1_aae02, cJ0_isLatin1_aae02, 1, (some .boolean), 13, 1), (yJ0_checkIndex_df160, cJ0_checkIndex_df160, 2, none, 13, 2), (yJ1_charAt_3b067, cJ1_charAt_3b067, 2, (some .char), 14, 3), (yJ2_getChar_3b067, cJ2_getChar_3b067, 2, (some .char), 15, 2), (yJ2_length_9d52b, cJ2_length_9d52b, 1, (some .int), 15, 1), (yJ2_charAt_3b067, cJ2_charAt_3b067, 2, (some .char), 15, 4), (yJ2_checkIndex_2214a, cJ2_checkIndex_2214a, 2, none, 15, 3), (yJ7_fill_53178, cJ7_fill_53178, 4, none, 18, 1), (yJ3_checkIndex_8e157, cJ3_checkIndex_8e157, 3, (some .int), 19, 1), (x, code, 4, (some .boolean), 20, 11)]
def mtl : List (MethodName × ByteArray × Nat × Option FieldType × Nat × Nat) := mtl0 ++ mtl1 ++ mtl2 ++ mtl3 ++ mtl4 ++ mtl5
def mt (m : Nat) : MethodName × ByteArray × Nat × Option FieldType × Nat × Nat := mtl.getD m (⟨"", "", ""⟩, ⟨#[]⟩, 0, none, 99, 0)
def mna (m : Nat) : MethodName := (mt m).1
def mco (m : Nat) : ByteArray := (mt m).2.1
def mml (m : Nat) : Nat := (mt m).2.2.1
def mre (m : Nat) : Option FieldType := (mt m).2.2.2.1
def mcl (m : Nat) : Nat := (mt m).2.2.2.2.1
def mhg (m : Nat) : Nat := (mt m).2.2.2.2.2
/-- fields by class and entry: (class, entry, (0, class, slot) own, (1, 0 value or 1 coder, 0) String, (2, what, 0) static; word) -/
def flt : List (Nat × Nat × Nat × Nat × Nat × Nat) := [(10, 9, 0, 10, 0, 139), (11, 108, 0, 10, 0, 140), (4, 34, 0, 10, 0, 141), (9, 70, 0, 10, 0, 142), (6, 87, 0, 10, 0, 143), (10, 21, 0, 10, 1, 144), (4, 39, 0, 10, 1, 145), (6, 92, 0, 10, 1, 146), (10, 25, 0, 10, 2, 147), (4, 41, 0, 10, 2, 148), (9, 66, 0, 10, 2, 149), (11, 157, 0, 10, 2, 150), (7, 11, 0, 7, 0, 165), (7, 15, 0, 7, 1, 166), (11, 73, 0, 7, 1, 167), (9, 80, 0, 7, 1, 168), (4, 11, 0, 4, 0, 180), (4, 15, 0, 4, 1, 181), (4, 18, 0, 4, 2, 182), (4, 31, 0, 4, 3, 183), (4, 21, 0, 4, 4, 184), (11, 160, 0, 4, 4, 185), (9, 38, 0, 9, 0, 204), (9, 12, 0, 9, 1, 205), (11, 98, 0, 9, 1, 206), (6, 83, 0, 9, 1, 207), (9, 21, 0, 9, 2, 208), (11, 69, 0, 9, 2, 209), (6, 73, 0, 9, 2, 210), (9, 25, 0, 9, 3, 211), (11, 131, 0, 9, 3, 212), (6, 80, 0, 9, 3, 213), (9, 28, 0, 9, 4, 214), (11, 215, 0, 9, 4, 215), (9, 34, 0, 9, 5, 216), (11, 94, 0, 9, 5, 217), (6, 19, 0, 6, 0, 238), (11, 148, 0, 6, 0, 239), (6, 11, 0, 6, 1, 240), (6, 15, 0, 6, 2, 241), (6, 23, 0, 6, 3, 242), (11, 277, 0, 6, 3, 243), (6, 99, 0, 6, 4, 244), (11, 145, 0, 6, 4, 245), (6, 36, 0, 6, 5, 246), (6, 42, 0, 6, 6, 247), (11, 32, 0, 11, 0, 267), (11, 36, 0, 11, 1, 268), (11, 39, 0, 11, 2, 269), (11, 43, 0, 11, 3, 270), (11, 52, 0, 11, 4, 271), (11, 56, 0, 11, 5, 272), (11, 62, 0, 11, 6, 273), (11, 247, 0, 11, 7, 274), (11, 65, 0, 11, 8, 275), (11, 253, 0, 11, 9, 276), (11, 256, 0, 11, 10, 277), (11, 259, 0, 11, 11, 278), (13, 38, 2, 1, 0, 434), (13, 1053, 2, 2000, 0, 450), (6, 57, 2, 1001, 0, 483), (6, 63, 2, 1002, 0, 489), (6, 66, 2, 1003, 0, 491), (12, 7, 0, 12, 0, 807), (12, 13, 0, 12, 1, 808), (12, 16, 0, 12, 2, 809), (12, 20, 0, 12, 3, 810), (12, 195, 0, 12, 4, 811), (12, 23, 0, 12, 5, 812), (12, 27, 0, 12, 6, 813), (12, 103, 0, 12, 7, 814), (12, 107, 0, 12, 8, 815), (12, 30, 0, 12, 9, 816), (12, 33, 0, 12, 10, 817), (12, 36, 0, 12, 11, 818), (12, 39, 0, 12, 12, 819), (12, 42, 0, 12, 13, 820), (12, 45, 0, 12, 14, 821), (12, 218, 0, 12, 15, 822), (12, 229, 0, 12, 16, 823), (12, 232, 0, 12, 17, 824), (12, 235, 0, 12, 18, 825), (12, 238, 0, 12, 19, 826), (12, 48, 0, 12, 20, 827), (12, 51, 0, 12, 21, 828), (13, 9, 1, 0, 0, 1228), (13, 15, 1, 1, 0, 1229)]
def fl (o i : Nat) : Option (Nat × Nat × Nat) := (flt.find? (fun e => e.1 == o && e.2.1 == i)).map (fun e => (e.2.2.1, e.2.2.2.1, e.2.2.2.2.1))
/-- calls: (class, entry, kind, target, arguments, words) -/
def ctl : List (Nat × Nat × Nat × Nat × Nat × List Nat) := [(20, 9, 3, 63, 0, [78, 79, 55, 80]), (11, 3, 6, 0, 0, [81, 82, 83]), (5, 1, 6, 0, 0, [90, 82, 83]), (11, 29, 3, 41, 1, [129, 130, 62, 131]), (9, 3, 6, 0, 0, [132, 82, 83]), (10, 3, 6, 0, 0, [138, 82, 83]), (7, 3, 6, 0, 0, [164, 82, 83]), (4, 3, 6, 0, 0, [179, 82, 83]), (9, 42, 0, 53, 0, [197, 198, 199, 63, 200]), (10, 15, 1, 209, 2, [201, 202, 66, 203]), (11, 49, 3, 15, 1, [234, 235, 67, 236]), (6, 3, 6, 0, 0, [237, 82, 83]), (20, 13, 0, 64, 0, [304, 305, 306, 55, 307]), (11, 79, 0, 42, 0, [308, 309, 310, 62, 311]), (9, 45, 0, 33, 0, [312, 313, 314, 64, 315]), (9, 49, 0, 9, 0, [316, 317, 318, 65, 319]), (20, 18, 0, 65, 2, [320, 321, 322, 55, 323]), (11, 82, 1, 101, 1, [324, 325, 55, 326]), (11, 86, 1, 100, 3, [327, 328, 55, 329]), (11, 90, 0, 103, 1, [330, 332, 0, 55, 333]), (11, 102, 0, 11, 1, [334, 335, 336, 65, 337]), (4, 25, 8, 0, 5, [338, 340, 339, 69]), (20, 23, 0, 66, 1, [341, 342, 343, 55, 344]), (11, 113, 0, 56, 1, [345, 346, 347, 63, 348]), (11, 117, 0, 55, 1, [349, 350, 351, 63, 352]), (20, 28, 0, 67, 3, [353, 354, 355, 55, 356]), (11, 120, 0, 29, 0, [357, 358, 359, 64, 360]), (11, 124, 0, 9, 0, [361, 317, 318, 65, 319]), (11, 127, 0, 32, 3, [362, 363, 364, 64, 365]), (7, 19, 0, 29, 0, [366, 358, 359, 64, 360]), (20, 33, 0, 68, 2, [367, 368, 369, 55, 370]), (20, 37, 0, 69, 0, [371, 372, 373, 55, 374]), (11, 134, 0, 33, 0, [375, 313, 314, 64, 315]), (20, 41, 0, 70, 1, [376, 377, 378, 55, 379]), (11, 137, 0, 16, 0, [380, 381, 382, 67, 383]), (11, 138, 0, 17, 1, [384, 385, 386, 67, 387]), (6, 27, 0, 16, 0, [388, 381, 382, 67, 383]), (20, 45, 0, 71, 0, [389, 390, 391, 55, 392]), (11, 141, 0, 18, 0, [393, 394, 395, 67, 396]), (20, 49, 0, 72, 0, [397, 398, 399, 55, 400]), (11, 142, 0, 19, 0, [401, 402, 403, 67, 404]), (6, 31, 0, 42, 0, [405, 309, 310, 62, 311]), (6, 39, 0, 23, 0, [406, 408, 1, 67, 409]), (6, 102, 1, 24, 1, [410, 411, 67, 412]), (6, 45, 0, 20, 1, [413, 415, 2, 67, 416]), (6, 49, 0, 26, 0, [417, 419, 3, 67, 420]), (6, 108, 0, 27, 1, [422, 424, 4, 67, 425]), (6, 119, 0, 199, 0, [426, 427, 428, 70, 429]), (13, 335, 0, 201, 0, [430, 431, 432, 70, 433]), (6, 124, 0, 200, 1, [436, 437, 438, 70, 439]), (13, 492, 0, 202, 0, [440, 441, 442, 70, 443]), (13, 495, 1, 204, 2, [444, 445, 71, 446]), (14, 9, 1, 203, 2, [447, 448, 70, 449]), (13, 1059, 1, 210, 3, [452, 453, 72, 454]), (13, 498, 1, 207, 2, [455, 456, 73, 457]), (15, 67, 1, 208, 2, [458, 459, 73, 460]), (15, 48, 1, 206, 1, [461, 462, 73, 463]), (15, 414, 1, 203, 2, [464, 448, 70, 449]), (15, 71, 1, 205, 2, [465, 466, 73, 467]), (6, 53, 0, 21, 1, [478, 480, 5, 67, 481]), (6, 77, 0, 29, 0, [482, 358, 359, 64, 360]), (6, 60, 0, 25, 0, [485, 487, 6, 67, 488]), (6, 69, 0, 22, 1, [493, 495, 7, 67, 496]), (6, 95, 0, 32, 3, [497, 363, 364, 64, 365]), (11, 151, 0, 43, 1, [498, 499, 500, 62, 501]), (9, 51, 0, 54, 1, [502, 503, 504, 63, 505]), (10, 28, 8, 0, 5, [506, 340, 339, 69]), (9, 55, 0, 34, 1, [507, 508, 509, 64, 510]), (7, 23, 8, 0, 5, [511, 340, 339, 69]), (20, 53, 0, 73, 1, [512, 513, 514, 55, 515]), (11, 154, 0, 46, 1, [516, 517, 518, 62, 519]), (9, 83, 0, 44, 1, [520, 521, 522, 62, 523]), (9, 58, 0, 35, 2, [524, 525, 526, 64, 527]), (9, 62, 0, 57, 1, [528, 529, 530, 63, 531]), (10, 34, 1, 198, 2, [532, 533, 74, 534]), (10, 40, 0, 55, 1, [535, 350, 351, 63, 352]), (9, 86, 0, 45, 2, [536, 537, 538, 62, 539]), (9, 74, 7, 14, 4, [540, 543, 541, 567]), (0, 7, 5, 14, 4, [547, 543, 105, 541, 56, 567]), (1, 7, 5, 14, 4, [551, 543, 98, 541, 56, 567]), (2, 7, 5, 7, 4, [555, 1221, 126, 556, 59, 557]), (3, 7, 5, 14, 4, [558, 543, 112, 541, 56, 567]), (8, 7, 5, 1, 4, [563, 1222, 119, 545, 58, 546]), (8, 11, 1, 197, 2, [564, 565, 74, 566]), (9, 89, 0, 58, 3, [568, 569, 570, 63, 571]), (20, 57, 0, 74, 0, [572, 573, 574, 55, 575]), (11, 161, 0, 12, 1, [576, 577, 578, 65, 579]), (20, 61, 0, 75, 2, [580, 581, 582, 55, 583]), (11, 164, 0, 37, 2, [584, 585, 586, 64, 587]), (7, 29, 0, 35, 2, [588, 525, 526, 64, 527]), (20, 65, 0, 76, 2, [589, 590, 591, 55, 592]), (11, 168, 0, 30, 1, [593, 594, 595, 64, 596]), (11, 171, 0, 35, 2, [597, 525, 526, 64, 527]), (11, 174, 0, 44, 1, [598, 521, 522, 62, 523]), (11, 177, 0, 45, 2, [599, 537, 538, 62, 539]), (20, 69, 0, 77, 2, [600, 601, 602, 55, 603]), (11, 180, 0, 105, 1, [604, 606, 8, 55, 607]), (11, 200, 0, 47, 2, [608, 609, 610, 62, 611]), (9, 93, 0, 46, 1, [612, 517, 518, 62, 519]), (20, 73, 0, 78, 1, [613, 614, 615, 55, 616]), (11, 184, 0, 60, 0, [617, 618, 619, 63, 620]), (20, 77, 0, 79, 1, [621, 622, 623, 55, 624]), (11, 187, 0, 48, 0, [625, 626, 627, 62, 628]), (20, 81, 0, 80, 1, [629, 630, 631, 55, 632]), (11, 190, 0, 31, 0, [633, 634, 635, 64, 636]), (20, 85, 0, 81, 1, [637, 638, 639, 55, 640]), (11, 193, 1, 196, 1, [641, 642, 75, 643]), (11, 198, 0, 54, 1, [647, 503, 504, 63, 505]), (20, 89, 0, 82, 2, [648, 649, 650, 55, 651]), (20, 93, 0, 83, 3, [652, 653, 654, 55, 655]), (11, 204, 0, 106, 4, [656, 658, 9, 55, 659]), (11, 278, 0, 61, 0, [660, 661, 662, 63, 663]), (11, 281, 0, 36, 3, [664, 665, 666, 64, 667]), (20, 97, 0, 84, 1, [668, 669, 670, 55, 671]), (20, 101, 0, 85, 2, [672, 673, 674, 55, 675]), (11, 208, 0, 59, 1, [676, 677, 678, 63, 679]), (20, 105, 0, 86, 0, [680, 681, 682, 55, 683]), (11, 211, 0, 62, 1, [684, 685, 686, 63, 687]), (20, 109, 0, 87, 3, [688, 689, 690, 55, 691]), (20, 113, 0, 88, 0, [692, 693, 694, 55, 695]), (20, 117, 0, 89, 1, [696, 697, 698, 55, 699]), (11, 218, 0, 107, 3, [700, 702, 10, 55, 703]), (11, 284, 0, 49, 0, [704, 705, 706, 62, 707]), (9, 97, 0, 50, 0, [708, 710, 11, 62, 711]), (9, 104, 1, 197, 2, [712, 565, 74, 566]), (9, 100, 0, 51, 1, [713, 715, 12, 62, 716]), (20, 121, 0, 90, 2, [717, 718, 719, 55, 720]), (11, 221, 0, 108, 3, [721, 723, 13, 55, 724]), (11, 287, 8, 0, 5, [725, 340, 339, 69]), (11, 225, 0, 109, 2, [726, 728, 14, 55, 729]), (11, 293, 1, 197, 2, [730, 565, 74, 566]), (20, 125, 0, 91, 1, [731, 732, 733, 55, 734]), (20, 129, 0, 92, 3, [735, 736, 737, 55, 738]), (11, 228, 1, 110, 2, [739, 740, 55, 741]), (11, 232, 0, 111, 2, [742, 744, 15, 55, 745]), (20, 133, 0, 93, 3, [746, 747, 748, 55, 749]), (20, 137, 0, 94, 1, [756, 757, 758, 55, 759]), (20, 142, 0, 95, 1, [760, 761, 762, 55, 763]), (11, 250, 0, 10, 1, [764, 765, 766, 65, 767]), (20, 146, 0, 96, 1, [768, 769, 770, 55, 771]), (20, 150, 0, 97, 1, [772, 773, 774, 55, 775]), (20, 154, 0, 98, 1, [776, 777, 778, 55, 779]), (11, 262, 0, 104, 1, [780, 782, 16, 55, 783]), (20, 158, 0, 99, 0, [784, 785, 786, 55, 787]), (11, 267, 1, 102, 2, [789, 790, 55, 791]), (11, 271, 0, 38, 2, [793, 794, 795, 64, 796]), (20, 12, 3, 112, 0, [800, 801, 68, 802]), (12, 1, 6, 0, 0, [803, 82, 83]), (12, 54, 1, 118, 1, [804, 805, 68, 806]), (20, 17, 0, 126, 0, [874, 875, 876, 68, 877]), (12, 58, 0, 119, 0, [878, 880, 17, 68, 881]), (20, 22, 0, 128, 2, [882, 883, 884, 68, 885]), (12, 68, 1, 122, 1, [886, 887, 68, 888]), (12, 62, 1, 113, 3, [890, 891, 68, 892]), (12, 74, 0, 114, 1, [894, 896, 18, 68, 897]), (12, 78, 0, 127, 0, [898, 900, 19, 68, 901]), (20, 27, 0, 129, 1, [902, 903, 904, 68, 905]), (20, 32, 0, 131, 3, [907, 908, 909, 68, 910]), (12, 87, 0, 116, 0, [913, 915, 20, 68, 916]), (12, 90, 1, 130, 4, [917, 918, 68, 919]), (20, 36, 0, 133, 2, [920, 921, 922, 68, 923]), (12, 96, 0, 120, 0, [925, 927, 21, 68, 928]), (12, 99, 1, 132, 3, [929, 930, 68, 931]), (20, 40, 0, 134, 0, [932, 933, 934, 68, 935]), (20, 56, 0, 142, 1, [936, 937, 938, 68, 939]), (12, 128, 0, 135, 0, [940, 942, 22, 68, 943]), (12, 110, 0, 123, 2, [944, 946, 23, 68, 947]), (12, 131, 0, 140, 0, [948, 950, 24, 68, 951]), (12, 124, 0, 139, 1, [952, 954, 25, 68, 955]), (12, 114, 0, 136, 1, [956, 958, 26, 68, 959]), (12, 117, 0, 137, 4, [960, 962, 27, 68, 963]), (12, 121, 1, 138, 2, [964, 965, 68, 966]), (20, 60, 0, 143, 0, [967, 968, 969, 68, 970]), (12, 134, 0, 115, 0, [971, 973, 28, 68, 974]), (20, 64, 0, 144, 2, [975, 976, 977, 68, 978]), (12, 139, 0, 124, 1, [980, 982, 29, 68, 983]), (20, 68, 0, 145, 2, [984, 985, 986, 68, 987]), (12, 142, 0, 121, 1, [988, 990, 30, 68, 991]), (20, 72, 0, 147, 2, [993, 994, 995, 68, 996]), (12, 147, 0, 146, 1, [997, 999, 31, 68, 1000]), (12, 150, 0, 141, 2, [1001, 1003, 32, 68, 1004]), (20, 76, 0, 148, 1, [1005, 1006, 1007, 68, 1008]), (20, 80, 0, 151, 1, [1009, 1010, 1011, 68, 1012]), (12, 157, 0, 149, 0, [1013, 1015, 33, 68, 1016]), (12, 154, 0, 125, 1, [1017, 1019, 34, 68, 1020]), (20, 84, 0, 152, 1, [1021, 1022, 1023, 68, 1024]), (12, 162, 0, 150, 0, [1026, 1028, 35, 68, 1029]), (20, 88, 0, 154, 1, [1030, 1031, 1032, 68, 1033]), (12, 167, 1, 153, 1, [1034, 1035, 68, 1036]), (12, 170, 1, 117, 1, [1038, 1039, 68, 1040]), (20, 92, 0, 155, 2, [1041, 1042, 1043, 68, 1044]), (20, 96, 0, 157, 3, [1045, 1046, 1047, 68, 1048]), (12, 173, 0, 156, 0, [1049, 1051, 36, 68, 1052]), (20, 100, 0, 158, 1, [1053, 1054, 1055, 68, 1056]), (20, 104, 0, 159, 2, [1058, 1059, 1060, 68, 1061]), (20, 108, 0, 161, 0, [1063, 1064, 1065, 68, 1066]), (12, 180, 0, 160, 0, [1067, 1069, 37, 68, 1070]), (20, 112, 0, 162, 3, [1071, 1072, 1073, 68, 1074]), (20, 116, 0, 163, 0, [1075, 1076, 1077, 68, 1078]), (20, 120, 0, 166, 1, [1079, 1080, 1081, 68, 1082]), (12, 188, 0, 165, 1, [1083, 1085, 38, 68, 1086]), (12, 184, 0, 164, 3, [1087, 1089, 39, 68, 1090]), (20, 124, 0, 168, 2, [1091, 1092, 1093, 68, 1094]), (12, 192, 0, 167, 2, [1096, 1098, 40, 68, 1099]), (20, 128, 0, 169, 1, [1100, 1101, 1102, 68, 1103]), (20, 132, 0, 171, 3, [1104, 1105, 1106, 68, 1107]), (12, 200, 0, 170, 2, [1109, 1111, 41, 68, 1112]), (20, 136, 0, 172, 3, [1113, 1114, 1115, 68, 1116]), (20, 44, 0, 173, 1, [1123, 1124, 1125, 68, 1126]), (20, 48, 0, 174, 0, [1128, 1129, 1130, 68, 1131]), (20, 52, 0, 186, 0, [1132, 1133, 1134, 68, 1135]), (12, 247, 0, 177, 1, [1136, 1138, 42, 68, 1139]), (12, 241, 1, 175, 1, [1140, 1141, 68, 1142]), (12, 244, 1, 176, 1, [1145, 1146, 68, 1147]), (12, 256, 0, 179, 7, [1150, 1152, 43, 68, 1153]), (12, 250, 0, 178, 0, [1154, 1156, 44, 68, 1157]), (12, 272, 0, 185, 0, [1158, 1160, 45, 68, 1161]), (12, 260, 0, 181, 0, [1162, 1164, 46, 68, 1165]), (12, 253, 0, 180, 3, [1166, 1168, 47, 68, 1169]), (12, 263, 0, 182, 0, [1170, 1172, 48, 68, 1173]), (12, 266, 0, 183, 0, [1174, 1176, 49, 68, 1177]), (12, 269, 0, 184, 0, [1178, 1180, 50, 68, 1181]), (20, 141, 0, 187, 1, [1182, 1183, 1184, 68, 1185]), (20, 145, 0, 188, 1, [1186, 1187, 1188, 68, 1189]), (20, 149, 0, 189, 1, [1190, 1191, 1192, 68, 1193]), (20, 153, 0, 190, 1, [1194, 1195, 1196, 68, 1197]), (20, 157, 0, 193, 1, [1199, 1200, 1201, 68, 1202]), (12, 280, 0, 192, 1, [1203, 1205, 51, 68, 1206]), (12, 277, 0, 191, 0, [1207, 1209, 52, 68, 1210]), (20, 162, 0, 195, 0, [1211, 1212, 1213, 68, 1214]), (12, 287, 0, 194, 3, [1217, 1219, 53, 68, 1220]), (11, 11, 4, 13, 0, [88, 56, 89]), (11, 14, 4, 2, 0, [95, 57, 96]), (1, 1, 4, 13, 0, [88, 56, 89]), (11, 17, 4, 0, 0, [102, 58, 103]), (0, 1, 4, 13, 0, [88, 56, 89]), (11, 20, 4, 6, 0, [109, 59, 110]), (3, 1, 4, 13, 0, [88, 56, 89]), (11, 23, 4, 39, 0, [116, 60, 117]), (8, 1, 4, 0, 0, [102, 58, 103]), (11, 26, 4, 4, 0, [123, 61, 124]), (2, 1, 4, 6, 0, [109, 59, 110]), (9, 11, 4, 52, 0, [136, 63, 137]), (9, 20, 4, 28, 0, [162, 64, 163]), (9, 33, 4, 8, 0, [177, 65, 178]), (7, 33, 2, 102, 2, [790, 55, 791])]
def ck (o i : Nat) : Option (Nat × Nat × Nat) := (ctl.find? (fun e => e.1 == o && e.2.1 == i)).map (fun e => (e.2.2.1, e.2.2.2.1, e.2.2.2.2.1))
/-- Plain.pull by the receiver's class: (class, target, words) -/
def plt : List (Nat × Nat × List Nat) := [(0, 1, [544, 545, 58, 546]), (1, 3, [548, 549, 57, 550]), (2, 5, [552, 553, 61, 554]), (3, 7, [559, 556, 59, 557]), (5, 14, [542, 541, 56, 567]), (8, 40, [560, 561, 60, 562])]
def pk (c : Nat) : Option Nat := (plt.find? (fun e => e.1 == c)).map (fun e => e.2.1)
/-- constants: (class, entry, 0 int 1 long 2 text, value, word) -/
def csl : List (Nat × Nat × Nat × Int × Nat) := [(16, 265, 0, 1431655765, 644), (16, 266, 0, 858993459, 645), (16, 267, 0, 252645135, 646), (11, 236, 0, 999999, 750), (11, 237, 1, 1103515245, 751), (11, 239, 1, 12345, 752), (11, 241, 1, 2147483648, 753), (11, 243, 1, 65536, 754), (11, 245, 1, 100, 755), (11, 265, 1, 1109, 788), (11, 275, 1, 31, 792), (12, 66, 1, 7, 889), (12, 72, 1, 99, 893), (12, 81, 1, 6, 906), (12, 83, 1, 5, 911), (12, 85, 1, 9, 912), (12, 94, 1, 60, 924), (12, 137, 1, 3, 979), (12, 145, 1, 4, 992), (12, 160, 1, -1, 1025), (12, 165, 1, 20, 1037), (12, 176, 1, 800, 1057), (12, 178, 1, 255, 1062), (12, 191, 0, 1000000, 1095), (12, 198, 1, 10, 1108), (12, 204, 1, 999999, 1117), (12, 206, 1, 100, 1118), (12, 208, 1, 1103515245, 1119), (12, 210, 1, 12345, 1120), (12, 212, 1, 2147483648, 1121), (12, 214, 1, 65536, 1122), (12, 216, 1, 127, 1127), (12, 221, 1, 97, 1143), (12, 223, 1, 122, 1144), (12, 225, 1, 48, 1148), (12, 227, 1, 57, 1149), (12, 275, 1, 2, 1198), (12, 285, 1, 1109, 1215), (12, 283, 1, 31, 1216), (6, 106, 2, 1010, 0), (6, 112, 2, 1011, 0), (6, 113, 2, 1012, 0), (6, 115, 2, 1013, 0), (6, 117, 2, 1014, 0)]
def cs (o i : Nat) : Option Value := (csl.find? (fun e => e.1 == o && e.2.1 == i)).map (fun e => if e.2.2.1 = 0 then .int (Int32.ofInt e.2.2.2.1) else if e.2.2.1 = 1 then .long (Int64.ofInt e.2.2.2.1) else .ref e.2.2.2.1.toNat)
/-- new: (class, entry, class made, word) -/
def nwl : List (Nat × Nat × Nat × Nat × Nat × Nat) := [(20, 7, 11, 76, 77, 55), (11, 9, 5, 84, 86, 56), (11, 12, 1, 92, 93, 57), (11, 15, 0, 99, 100, 58), (11, 18, 3, 106, 107, 59), (11, 21, 8, 113, 114, 60), (11, 24, 2, 120, 121, 61), (11, 27, 9, 127, 128, 62), (9, 9, 10, 133, 134, 63), (9, 18, 7, 159, 160, 64), (9, 31, 4, 174, 175, 65), (11, 47, 6, 232, 233, 67), (20, 10, 12, 798, 799, 68)]
def nwc (o i : Nat) : Option Nat := (nwl.find? (fun e => e.1 == o && e.2.1 == i)).map (fun e => e.2.2.1)
/-- nest links -/
def nsl : List (String × Nat × Nat × String) := [("YearStretch", 11, 13, "YearStretch"), ("YearStretch", 14, 2, "YearStretch"), ("YearStretch$Cooks", 1, 13, "YearStretch"), ("YearStretch", 17, 0, "YearStretch"), ("YearStretch$Boys", 1, 13, "YearStretch"), ("YearStretch", 20, 6, "YearStretch"), ("YearStretch$Hair", 1, 13, "YearStretch"), ("YearStretch", 23, 39, "YearStretch"), ("YearStretch$Tired", 1, 0, "YearStretch"), ("YearStretch", 26, 4, "YearStretch"), ("YearStretch$Greased", 1, 6, "YearStretch"), ("YearStretch$Valley", 11, 52, "YearStretch"), ("YearStretch$Valley", 20, 28, "YearStretch"), ("YearStretch$Valley", 33, 8, "YearStretch"), ("YearStretch$Table", 33, 102, "YearStretch")]
/-- the cells, in the order in which they are made: (class, fields), (20 int[], 21 byte[], 22 boolean[], 23 Plain[], 24 Valley[], 25 int[][]; length) -/
def lyt : List (Nat × Nat) := [(11, 12), (23, 6), (5, 0), (1, 0), (0, 0), (3, 0), (8, 0), (2, 0), (9, 6), (10, 3), (20, 8), (7, 2), (20, 18), (7, 2), (20, 18), (7, 2), (20, 18), (4, 5), (20, 64), (20, 8), (20, 8), (9, 6), (10, 3), (20, 8), (7, 2), (20, 18), (7, 2), (20, 18), (7, 2), (20, 18), (4, 5), (20, 64), (20, 8), (20, 8), (24, 2), (9, 6), (10, 3), (20, 8), (7, 2), (20, 18), (7, 2), (20, 18), (7, 2), (20, 18), (4, 5), (20, 64), (20, 8), (20, 8), (9, 6), (10, 3), (20, 8), (7, 2), (20, 18), (7, 2), (20, 18), (7, 2), (20, 18), (4, 5), (20, 64), (20, 8), (20, 8), (22, 2), (6, 7), (9, 6), (10, 3), (20, 8), (7, 2), (20, 18), (7, 2), (20, 18), (7, 2), (20, 18), (4, 5), (20, 64), (20, 8), (20, 8), (21, 150), (20, 3), (20, 8), (25, 6), (20, 8), (20, 8), (20, 8), (20, 8), (20, 8), (20, 8), (12, 22), (20, 142), (20, 284), (22, 2), (20, 3), (20, 8), (20, 6), (20, 6), (20, 4), (20, 4), (20, 48), (20, 150), (20, 62), (20, 3)]
def tg (a : Nat) : Nat × Nat := lyt.getD a (99, 0)
def rft : List (List Nat) := [[8, 21, 34, 61, 62, 78, 79], [2, 3, 4, 5, 6, 7], [], [], [], [], [], [], [1, 9, 11, 13, 15, 17], [10], [], [12], [], [14], [], [16], [], [18, 19, 20], [], [], [], [1, 22, 24, 26, 28, 30], [23], [], [25], [], [27], [], [29], [], [31, 32, 33], [], [], [], [35, 48], [1, 36, 38, 40, 42, 44], [37], [], [39], [], [41], [], [43], [], [45, 46, 47], [], [], [], [1, 49, 51, 53, 55, 57], [50], [], [52], [], [54], [], [56], [], [58, 59, 60], [], [], [], [], [63, 76, 77], [1, 64, 66, 68, 70, 72], [65], [], [67], [], [69], [], [71], [], [73, 74, 75], [], [], [], [], [], [], [80, 81, 82, 83, 84, 85], [], [], [], [], [], [], [87, 88, 89, 90, 0, 0, 91, 0, 0, 92, 93, 94, 95, 96, 97, 0, 0, 0, 0, 0, 98, 99], [], [], [], [], [], [], [], [], [], [], [], [], []]
def rf (a k : Nat) : Nat := (rft.getD a []).getD k 0
/-- static int arrays of Reader, the texts' bytes -/
def otb : List (List Int32) := [[0, 2, 1, 3, 2], [0, 0, 0, 0, 0, 0, 0, 0, 0, 0, 1, 0, 0, 1, 0], [0, 0, 0, 7, 99, 0, 6, 0, 0, 5, 9, 7, 7, 60, 0]]
def stb : List (List Int32) := [[118, 97, 108, 108, 101, 121], [119, 101, 101, 107, 115], [112, 101, 103], [116, 101, 97, 109], [119, 111, 114, 107]]
def sti : List (Nat × String) := [(106, "valley"), (112, "weeks"), (113, "peg"), (115, "team"), (117, "work")]
end
section
/-! THE FLAT INTERPRETER: the bytecode of the claim's methods over one flat store: the cells in the order in which they are made, ints and longs by cell and place; references are numbers of cells -/
abbrev Vs := List Value
abbrev Sto := Nat × (Nat → Nat → Bool) × (Nat → Nat → Int32) × (Nat → Nat → Int64)
abbrev Res := Option Value × Sto
abbrev Rec := Nat → Nat → Vs → Vs → Sto → Option Res
def lget (ls : Vs) (i : Nat) : Value := ls.getD i .null
def kl1 (ls : Vs) (i : Nat) (v : Value) : Vs := match v with
  | .int _ => ls
  | .ref _ => ls
  | .null => ls
  | _ => ls.set i .null
def kil (ls : Vs) (i : Nat) : Vs := match i with
  | 0 => ls
  | j + 1 => kl1 ls j (lget ls j)
def sto1 (ls : Vs) (i : Nat) (v : Value) : Vs := (kil ls i).set i v
def sto2 (ls : Vs) (i : Nat) (v : Value) : Vs := ((kil ls i).set (i + 1) .null).set i v
/-- the locals with which a method begins -/
def lcv (vs : Vs) : Vs := vs.flatMap (fun v => match v with
  | .long x => [.long x, .null]
  | .double _ => [.null, .null]
  | v => [v])
def lcs (n : Nat) (vs : Vs) : Vs := lcv vs ++ List.replicate (n - (lcv vs).length) .null
def inb (i : Int32) (n : Nat) : Prop := ¬ (i < 0 ∨ n ≤ i.toNatClampNeg)
def inbB (i : Int32) (n : Nat) : Bool := !(decide (i < 0) || decide (n ≤ i.toNatClampNeg))
theorem inb_iff (i : Int32) (n : Nat) : inbB i n = true ↔ inb i n := by simp [inb, inbB]
/-- is the cell an own one, of this kind -/
def isA (σ : Sto) (a k : Nat) : Bool := decide (a < σ.1) && decide ((tg a).1 = k)
def jt (pc : Nat) (off : Int) : Option Nat := if 0 ≤ (pc : Int) + off then some ((pc : Int) + off).toNat else none
def cz (c : Jvm.ClassFile.Cond) (x : Int32) : Bool := match c with
  | .eq => decide (x = 0)
  | .ne => decide (¬ x = 0)
  | .lt => decide (x < 0)
  | .ge => decide (0 ≤ x)
  | .gt => decide (0 < x)
  | .le => decide (x ≤ 0)
def cc2 (c : Jvm.ClassFile.Cond) (x y : Int32) : Bool := match c with
  | .eq => decide (x = y)
  | .ne => decide (¬ x = y)
  | .lt => decide (x < y)
  | .ge => decide (y ≤ x)
  | .gt => decide (y < x)
  | .le => decide (x ≤ y)
def fval (σ : Sto) (a c k : Nat) : Option Value := match ft c k with
  | 0 => some (.int (σ.2.2.1 a k))
  | 1 => some (.long (σ.2.2.2 a k))
  | 2 => if σ.2.1 a k = true then some (.ref (rf a k)) else none
  | _ => none
def sI (σ : Sto) (a k : Nat) (x : Int32) : Sto := (σ.1, σ.2.1, va_up σ.2.2.1 a (upd (σ.2.2.1 a) k x), σ.2.2.2)
def sL (σ : Sto) (a k : Nat) (x : Int64) : Sto := (σ.1, σ.2.1, σ.2.2.1, va_up σ.2.2.2 a (va_up (σ.2.2.2 a) k x))
def sB (σ : Sto) (a k : Nat) : Sto := (σ.1, va_up σ.2.1 a (va_up (σ.2.1 a) k true), σ.2.2.1, σ.2.2.2)
/-- a new cell, of 0s and nulls -/
def sN (σ : Sto) : Sto := (σ.1 + 1, va_up σ.2.1 σ.1 (fun _ => false), va_up σ.2.2.1 σ.1 (fun _ => 0), va_up σ.2.2.2 σ.1 (fun _ => 0))
def newc (σ : Sto) (k n : Nat) : Bool := decide (tg σ.1 = (k, n)) && decide (σ.1 < 100)
def fput (σ : Sto) (a c k : Nat) (v : Value) : Option Sto := match v with
  | .int x => if ft c k = 0 then some (sI σ a k x) else none
  | .long x => if ft c k = 1 then some (sL σ a k x) else none
  | .ref r => if ft c k = 2 ∧ r = rf a k then some (sB σ a k) else none
  | _ => none
/-- old int arrays: the script's length is at 999, its ints at 1000; Reader's tables -/
def olen (σ : Sto) (a : Nat) : Option Nat := if a = 1000 ∧ σ.2.1 999 0 = true then some (σ.2.2.1 999 0).toNatClampNeg else if 1001 ≤ a ∧ a ≤ 1003 then some (otb.getD (a - 1001) []).length else none
def oval (σ : Sto) (a i : Nat) : Int32 := if a = 1000 then σ.2.2.1 1000 i else (otb.getD (a - 1001) []).getD i 0
def pop (st : Vs) (n : Nat) : Vs := (st.take n).reverse
def goM (rec : Rec) (t : Nat) (as : Vs) (m pc : Nat) (ls st : Vs) (σ : Sto) : Option Res := if st.length ≤ 4 ∧ (lcv as).length ≤ mml t ∧ mhg t < mhg m then (rec t 0 (lcs (mml t) as) [] σ).bind (fun q => rec m (pc + 3) ls (q.1.toList ++ st) q.2) else none
def doV (rec : Rec) (i m pc : Nat) (ls st : Vs) (σ : Sto) : Option Res := match ck (mcl m) i with
  | some (0, t, n) => (match lget (pop st (n + 1)) 0 with
    | .ref a => if (isA σ a (mcl t) = true ∨ (mcl t = 13 ∧ 1010 ≤ a ∧ a < 1015)) ∧ n < st.length then goM rec t (pop st (n + 1)) m pc ls (st.drop (n + 1)) σ else none
    | _ => none)
  | some (7, _, n) => (match lget (pop st (n + 1)) 0 with
    | .ref a => if a < σ.1 ∧ n < st.length then (match pk (tg a).1 with
      | some t => goM rec t (pop st (n + 1)) m pc ls (st.drop (n + 1)) σ
      | none => none) else none
    | _ => none)
  | _ => none
def cpy (σ : Sto) (a0 a1 : Nat) (sp dp n : Int32) : Sto := (σ.1, σ.2.1, va_up σ.2.2.1 a1 (va_cpy (σ.2.2.1 a0) (σ.2.2.1 a1) sp.toNatClampNeg dp.toNatClampNeg n.toNatClampNeg), σ.2.2.2)
def doS (rec : Rec) (i m pc : Nat) (ls st : Vs) (σ : Sto) : Option Res := match ck (mcl m) i with
  | some (1, t, n) => if n ≤ st.length then goM rec t (pop st n) m pc ls (st.drop n) σ else none
  | some (2, t, n) => if n ≤ st.length then goM rec t (pop st n) m pc ls (st.drop n) σ else none
  | some (8, _, _) => (match st with
    | .int n :: .int dp :: .ref a1 :: .int sp :: .ref a0 :: r => if isA σ a0 20 = true ∧ isA σ a1 20 = true ∧ ¬ sp < 0 ∧ ¬ dp < 0 ∧ ¬ n < 0 ∧ sp.toNatClampNeg + n.toNatClampNeg ≤ (tg a0).2 ∧ dp.toNatClampNeg + n.toNatClampNeg ≤ (tg a1).2 ∧ r.length ≤ 4 then rec m (pc + 3) ls r (cpy σ a0 a1 sp dp n) else none
    | _ => none)
  | _ => none
def doI (rec : Rec) (i m pc : Nat) (ls st : Vs) (σ : Sto) : Option Res := match ck (mcl m) i with
  | some (3, t, n) => (match lget (pop st (n + 1)) 0 with
    | .ref a => if a < σ.1 ∧ n < st.length then goM rec t (pop st (n + 1)) m pc ls (st.drop (n + 1)) σ else none
    | _ => none)
  | some (4, t, n) => (match lget (pop st (n + 1)) 0 with
    | .ref a => if a < σ.1 ∧ n < st.length then goM rec t (pop st (n + 1)) m pc ls (st.drop (n + 1)) σ else none
    | _ => none)
  | some (5, t, n) => (match lget (pop st (n + 1)) 0 with
    | .ref a => if a < σ.1 ∧ (tg a).1 < 13 ∧ n < st.length then goM rec t (pop st (n + 1)) m pc ls (st.drop (n + 1)) σ else none
    | _ => none)
  | some (6, _, _) => (match st with
    | .ref a :: r => if a < σ.1 ∧ r.length ≤ 4 then rec m (pc + 3) ls r σ else none
    | _ => none)
  | _ => none
def ldI (rec : Rec) (n k m pc : Nat) (ls st : Vs) (σ : Sto) : Option Res := match lget ls n with
  | .int x => rec m (pc + k) ls (.int x :: st) σ
  | _ => none
def ldL (rec : Rec) (n k m pc : Nat) (ls st : Vs) (σ : Sto) : Option Res := match lget ls n with
  | .long x => rec m (pc + k) ls (.long x :: st) σ
  | _ => none
/-- a reference that may be loaded, doubled, stored -/
abbrev isR (x : Nat) : Prop := x < 1000 ∨ x = 1000 ∨ (1001 ≤ x ∧ x < 1004) ∨ (1010 ≤ x ∧ x < 1015) ∨ (1020 ≤ x ∧ x < 1025)
def ldA (rec : Rec) (n k m pc : Nat) (ls st : Vs) (σ : Sto) : Option Res := match lget ls n with
  | .ref x => if isR x then rec m (pc + k) ls (.ref x :: st) σ else none
  | _ => none
def stI (rec : Rec) (n k m pc : Nat) (ls st : Vs) (σ : Sto) : Option Res := match st with
  | .int x :: r => if n < mml m then rec m (pc + k) (sto1 ls n (.int x)) r σ else none
  | _ => none
def stL (rec : Rec) (n k m pc : Nat) (ls st : Vs) (σ : Sto) : Option Res := match st with
  | .long x :: r => if n + 1 < mml m then rec m (pc + k) (sto2 ls n (.long x)) r σ else none
  | _ => none
def stA (rec : Rec) (n k m pc : Nat) (ls st : Vs) (σ : Sto) : Option Res := match st with
  | .ref x :: r => if n < mml m ∧ isR x then rec m (pc + k) (sto1 ls n (.ref x)) r σ else none
  | _ => none
def b2I (rec : Rec) (f : Int32 → Int32 → Int32) (m pc : Nat) (ls st : Vs) (σ : Sto) : Option Res := match st with
  | .int y :: .int x :: r => rec m (pc + 1) ls (.int (f x y) :: r) σ
  | _ => none
def b2L (rec : Rec) (f : Int64 → Int64 → Int64) (m pc : Nat) (ls st : Vs) (σ : Sto) : Option Res := match st with
  | .long y :: .long x :: r => rec m (pc + 1) ls (.long (f x y) :: r) σ
  | _ => none
def brn (rec : Rec) (b : Bool) (off : Int) (m pc : Nat) (ls st : Vs) (σ : Sto) : Option Res := (jt pc off).bind (fun t => if b = true then rec m t ls st σ else rec m (pc + 3) ls st σ)
def psh (rec : Rec) (k : Nat) (v : Value) (m pc : Nat) (ls st : Vs) (σ : Sto) : Option Res := rec m (pc + k) ls (v :: st) σ
/-- one instruction; k is its length -/
def stp (rec : Rec) (i : Instr) (k m pc : Nat) (ls st : Vs) (σ : Sto) : Option Res := match i with
  | .iload_n n => if k = 1 then ldI rec n 1 m pc ls st σ else none
  | .iload n => if k = 2 then ldI rec n 2 m pc ls st σ else none
  | .lload_n n => if k = 1 then ldL rec n 1 m pc ls st σ else none
  | .lload n => if k = 2 then ldL rec n 2 m pc ls st σ else none
  | .aload_n n => if k = 1 then ldA rec n 1 m pc ls st σ else none
  | .aload n => if k = 2 then ldA rec n 2 m pc ls st σ else none
  | .istore_n n => if k = 1 then stI rec n 1 m pc ls st σ else none
  | .istore n => if k = 2 then stI rec n 2 m pc ls st σ else none
  | .lstore_n n => if k = 1 then stL rec n 1 m pc ls st σ else none
  | .lstore n => if k = 2 then stL rec n 2 m pc ls st σ else none
  | .astore_n n => if k = 1 then stA rec n 1 m pc ls st σ else none
  | .astore n => if k = 2 then stA rec n 2 m pc ls st σ else none
  | .iconst n => if k = 1 then psh rec 1 (.int (Int32.ofInt n)) m pc ls st σ else none
  | .bipush n => if k = 2 then psh rec 2 (.int (Int8.ofInt n).toInt32) m pc ls st σ else none
  | .sipush n => if k = 3 then psh rec 3 (.int (Int16.ofInt n).toInt32) m pc ls st σ else none
  | .lconst n => if k = 1 then psh rec 1 (.long (Int64.ofNat (n : Nat))) m pc ls st σ else none
  | .ldc n => if k = 2 then (match cs (mcl m) n with
    | some (.int x) => psh rec 2 (.int x) m pc ls st σ
    | some (.ref x) => psh rec 2 (.ref x) m pc ls st σ
    | _ => none) else none
  | .ldc_w n => if k = 3 then (match cs (mcl m) n with
    | some (.int x) => psh rec 3 (.int x) m pc ls st σ
    | _ => none) else none
  | .ldc2_w n => if k = 3 then (match cs (mcl m) n with
    | some (.long x) => psh rec 3 (.long x) m pc ls st σ
    | _ => none) else none
  | .iinc n d => if k = 3 then (match lget ls n with
    | .int x => if n < mml m then rec m (pc + 3) (sto1 ls n (.int (x + Int32.ofInt d))) st σ else none
    | _ => none) else none
  | .iadd => if k = 1 then b2I rec (fun x y => x + y) m pc ls st σ else none
  | .isub => if k = 1 then b2I rec (fun x y => x - y) m pc ls st σ else none
  | .imul => if k = 1 then b2I rec (fun x y => x * y) m pc ls st σ else none
  | .iand => if k = 1 then b2I rec (fun x y => x &&& y) m pc ls st σ else none
  | .ior => if k = 1 then b2I rec (fun x y => x ||| y) m pc ls st σ else none
  | .ixor => if k = 1 then b2I rec (fun x y => x ^^^ y) m pc ls st σ else none
  | .ishl => if k = 1 then b2I rec (fun x y => x <<< (y &&& 31)) m pc ls st σ else none
  | .ishr => if k = 1 then b2I rec (fun x y => x >>> (y &&& 31)) m pc ls st σ else none
  | .iushr => if k = 1 then b2I rec (fun x y => (x.toUInt32 >>> (y.toUInt32 &&& Int32.toUInt32 31)).toInt32) m pc ls st σ else none
  | .irem => if k = 1 then (match st with
    | .int y :: .int x :: r => if ¬ y = 0 then rec m (pc + 1) ls (.int (x - x / y * y) :: r) σ else none
    | _ => none) else none
  | .ladd => if k = 1 then b2L rec (fun x y => x + y) m pc ls st σ else none
  | .lmul => if k = 1 then b2L rec (fun x y => x * y) m pc ls st σ else none
  | .ldiv => if k = 1 then (match st with
    | .long y :: .long x :: r => if ¬ y = 0 then rec m (pc + 1) ls (.long (x / y) :: r) σ else none
    | _ => none) else none
  | .lrem => if k = 1 then (match st with
    | .long y :: .long x :: r => if ¬ y = 0 then rec m (pc + 1) ls (.long (x - x / y * y) :: r) σ else none
    | _ => none) else none
  | .lcmp => if k = 1 then (match st with
    | .long y :: .long x :: r => rec m (pc + 1) ls (.int (lg_cmp x y) :: r) σ
    | _ => none) else none
  | .i2l => if k = 1 then (match st with
    | .int x :: r => rec m (pc + 1) ls (.long x.toInt64 :: r) σ
    | _ => none) else none
  | .i2b => if k = 1 then (match st with
    | .int x :: r => rec m (pc + 1) ls (.int x.toInt8.toInt32 :: r) σ
    | _ => none) else none
  | .i2c => if k = 1 then (match st with
    | .int x :: r => rec m (pc + 1) ls (.int (x.toUInt32 % 65536).toInt32 :: r) σ
    | _ => none) else none
  | .dup => if k = 1 then (match st with
    | .int x :: r => rec m (pc + 1) ls (.int x :: .int x :: r) σ
    | .ref x :: r => if isR x then rec m (pc + 1) ls (.ref x :: .ref x :: r) σ else none
    | _ => none) else none
  | .dup2 => if k = 1 then (match st with
    | .int x :: .ref y :: r => if isR y then rec m (pc + 1) ls (.int x :: .ref y :: .int x :: .ref y :: r) σ else none
    | _ => none) else none
  | .pop => if k = 1 then (match st with
    | .int _ :: r => rec m (pc + 1) ls r σ
    | _ => none) else none
  | .ifCond c off => if k = 3 then (match st with
    | .int x :: r => brn rec (cz c x) off m pc ls r σ
    | _ => none) else none
  | .if_icmp c off => if k = 3 then (match st with
    | .int y :: .int x :: r => brn rec (cc2 c x y) off m pc ls r σ
    | _ => none) else none
  | .goto off => if k = 3 then (jt pc off).bind (fun t => rec m t ls st σ) else none
  | .tableswitch d lo hi os => (match st with
    | .int x :: r => if x.toInt < lo ∨ hi < x.toInt then (jt pc d).bind (fun t => rec m t ls r σ) else (os[(x.toInt - lo).toNat]?).bind (fun off => (jt pc off).bind (fun t => rec m t ls r σ))
    | _ => none)
  | .getfield n => if k = 3 then (match st with
    | .ref a :: r => (match fl (mcl m) n with
      | some (0, c, j) => if isA σ a c = true ∧ j < nf c then (fval σ a c j).bind (fun v => rec m (pc + 3) ls (v :: r) σ) else none
      | some (1, 0, _) => if 1010 ≤ a ∧ a < 1015 then rec m (pc + 3) ls (.ref (a + 10) :: r) σ else none
      | some (1, _, _) => if 1010 ≤ a ∧ a < 1015 then rec m (pc + 3) ls (.int 0 :: r) σ else none
      | _ => none)
    | _ => none) else none
  | .putfield n => if k = 3 then (match st with
    | v :: .ref a :: r => (match fl (mcl m) n with
      | some (0, c, j) => if isA σ a c = true ∧ j < nf c ∧ ((Tc c j).2.2.2 = true → (mna m).name = "<init>" ∧ mcl m = c) then (fput σ a c j v).bind (fun σ1 => rec m (pc + 3) ls r σ1) else none
      | _ => none)
    | _ => none) else none
  | .getstatic n => if k = 3 then (match fl (mcl m) n with
    | some (2, 1, _) => rec m (pc + 3) ls (.int 1 :: st) σ
    | some (2, w, _) => rec m (pc + 3) ls (.ref w :: st) σ
    | _ => none) else none
  | .iaload => if k = 1 then (match st with
    | .int i :: .ref a :: r => if isA σ a 20 = true ∧ inbB i (tg a).2 = true then rec m (pc + 1) ls (.int (σ.2.2.1 a i.toNatClampNeg) :: r) σ else (match olen σ a with
      | some n => if inbB i n = true then rec m (pc + 1) ls (.int (oval σ a i.toNatClampNeg) :: r) σ else none
      | none => none)
    | _ => none) else none
  | .baload => if k = 1 then (match st with
    | .int i :: .ref a :: r => if (isA σ a 21 = true ∨ isA σ a 22 = true) ∧ inbB i (tg a).2 = true then rec m (pc + 1) ls (.int (σ.2.2.1 a i.toNatClampNeg) :: r) σ else if 1020 ≤ a ∧ a < 1025 ∧ inbB i (stb.getD (a - 1020) []).length = true then rec m (pc + 1) ls (.int ((stb.getD (a - 1020) []).getD i.toNatClampNeg 0) :: r) σ else none
    | _ => none) else none
  | .iastore => if k = 1 then (match st with
    | .int x :: .int i :: .ref a :: r => if isA σ a 20 = true ∧ inbB i (tg a).2 = true then rec m (pc + 1) ls r (sI σ a i.toNatClampNeg x) else none
    | _ => none) else none
  | .bastore => if k = 1 then (match st with
    | .int x :: .int i :: .ref a :: r => if isA σ a 21 = true ∧ inbB i (tg a).2 = true then rec m (pc + 1) ls r (sI σ a i.toNatClampNeg (vp_nar .byte x)) else if isA σ a 22 = true ∧ inbB i (tg a).2 = true then rec m (pc + 1) ls r (sI σ a i.toNatClampNeg (vp_nar .boolean x)) else none
    | _ => none) else none
  | .aaload => if k = 1 then (match st with
    | .int i :: .ref a :: r => if (isA σ a 23 = true ∨ isA σ a 24 = true ∨ isA σ a 25 = true) ∧ inbB i (tg a).2 = true ∧ σ.2.1 a i.toNatClampNeg = true then rec m (pc + 1) ls (.ref (rf a i.toNatClampNeg) :: r) σ else none
    | _ => none) else none
  | .aastore => if k = 1 then (match st with
    | .ref x :: .int i :: .ref a :: r => if ((isA σ a 23 = true ∧ (tg x).1 ≤ 8 ∧ (pk (tg x).1).isSome = true) ∨ (isA σ a 24 = true ∧ (tg x).1 = 9)) ∧ x < σ.1 ∧ inbB i (tg a).2 = true ∧ rf a i.toNatClampNeg = x then rec m (pc + 1) ls r (sB σ a i.toNatClampNeg) else none
    | _ => none) else none
  | .arraylength => if k = 1 then (match st with
    | .ref a :: r => if a < σ.1 ∧ 20 ≤ (tg a).1 ∧ (tg a).1 < 23 then rec m (pc + 1) ls (.int (Int32.ofNat (tg a).2) :: r) σ else if 1020 ≤ a ∧ a < 1025 then rec m (pc + 1) ls (.int (Int32.ofNat (stb.getD (a - 1020) []).length) :: r) σ else if a = 1000 ∧ σ.2.1 999 0 = true then rec m (pc + 1) ls (.int (σ.2.2.1 999 0) :: r) σ else none
    | _ => none) else none
  | .new n => if k = 3 then (match nwc (mcl m) n with
    | some c => if newc σ c (nf c) = true then rec m (pc + 3) ls (.ref σ.1 :: st) (sN σ) else none
    | none => none) else none
  | .newarray ty => if k = 2 then (match st with
    | .int n :: r => (match ty with
      | .int => if newc σ 20 n.toNatClampNeg = true ∧ ¬ n < 0 then rec m (pc + 2) ls (.ref σ.1 :: r) (sN σ) else none
      | .byte => if newc σ 21 n.toNatClampNeg = true ∧ ¬ n < 0 then rec m (pc + 2) ls (.ref σ.1 :: r) (sN σ) else none
      | .boolean => if newc σ 22 n.toNatClampNeg = true ∧ ¬ n < 0 then rec m (pc + 2) ls (.ref σ.1 :: r) (sN σ) else none
      | _ => none)
    | _ => none) else none
  | .anewarray n => if k = 3 then (match st with
    | .int x :: r => (match nwc (mcl m) n with
      | some 5 => if newc σ 23 x.toNatClampNeg = true ∧ ¬ x < 0 then rec m (pc + 3) ls (.ref σ.1 :: r) (sN σ) else none
      | some 9 => if newc σ 24 x.toNatClampNeg = true ∧ ¬ x < 0 then rec m (pc + 3) ls (.ref σ.1 :: r) (sN σ) else none
      | _ => none)
    | _ => none) else none
  | .multianewarray n d => if k = 4 ∧ d = 2 ∧ n = 60 ∧ mcl m = 11 then (match st with
    | .int 8 :: .int 6 :: r => if σ.1 = 79 then rec m (pc + 4) ls (.ref σ.1 :: r) (sB (sB (sB (sB (sB (sB (sN (sN (sN (sN (sN (sN (sN σ))))))) 79 0) 79 1) 79 2) 79 3) 79 4) 79 5) else none
    | _ => none) else none
  | .invokevirtual i => if k = 3 then doV rec i m pc ls st σ else none
  | .invokestatic i => if k = 3 then doS rec i m pc ls st σ else none
  | .invokespecial i => if k = 3 then doI rec i m pc ls st σ else none
  | .ireturn => if k = 1 then (match st with
    | [.int x] => (match mre m with
      | some .int => some (some (.int x), σ)
      | some .boolean => if x = 0 ∨ x = 1 then some (some (.int x), σ) else none
      | some .byte => if narrow .byte (.int x) = .int x then some (some (.int x), σ) else none
      | some .char => if narrow .char (.int x) = .int x then some (some (.int x), σ) else none
      | _ => none)
    | _ => none) else none
  | .lreturn => if k = 1 then (match st with
    | [.long x] => if mre m = some .long then some (some (.long x), σ) else none
    | _ => none) else none
  | .areturn => if k = 1 then (match st with
    | [.ref x] => if mre m = some (.object RX9) ∧ x < 1000 then some (some (.ref x), σ) else none
    | _ => none) else none
  | .return_ => if k = 1 then (match st with
    | [] => if mre m = none then some (none, σ) else none
    | _ => none) else none
  | _ => none
def run : Nat → Rec
  | 0 => fun _ _ _ _ _ => none
  | f + 1 => fun m pc ls st σ => match decode (mco m) pc with
    | .ok (i, k) => stp (run f) i k m pc ls st σ
    | .error _ => none
end
section
/-! the tables hold: every word that an entry names stands among the tables' good words -/
def Big : List Cond := lw_tbl.filter goodWord
theorem big_good : GoodIn Big Big := fun w hw => ⟨hw, good_of_word (List.mem_filter.mp hw).2⟩
def okw (i : Nat) (w : Cond) : Bool := decide (lw_tbl[i]? = some w) && goodWord w
theorem okw_in {i : Nat} {w : Cond} (h : okw i w = true) : w ∈ Big := by
  simp only [okw, Bool.and_eq_true, decide_eq_true_eq] at h
  exact List.mem_filter.mpr ⟨List.mem_of_getElem? h.1, h.2⟩
theorem big_hts {args : Array Value} {s : State} (h : ∀ w ∈ lw_tbl, w.before args s = true) : ∀ w ∈ Big, w.before args s = true := fun w hw => h w (List.mem_filter.mp hw).1
/-- statics by number: class, name, descriptor -/
def stn (w : Nat) : String × String × String := if w = 1 then ("java/lang/String", "COMPACT_STRINGS", "Z") else if w = 1001 then (RX6, "AMOUNT", "[I") else if w = 1002 then (RX6, "LEAST", "[I") else if w = 1003 then (RX6, "MOST", "[I") else ("jdk/internal/util/Preconditions", "SIOOBE_FORMATTER", "Ljava/util/function/BiFunction;")
def okF (e : Nat × Nat × Nat × Nat × Nat × Nat) : Bool := match e with
  | (o, i, 0, c, k, h) => okw h (.fieldLink (Rc o) i (Rc c) (Tc c k).2.1 (Tc c k).2.2.1) && decide ((Tc c k).1 = Rc c) && decide (c < 13) && decide (k < nf c)
  | (o, i, 1, 0, _, h) => okw h (.fieldLink (Rc o) i "java/lang/String" "value" "[B")
  | (o, i, 1, _, _, h) => okw h (.fieldLink (Rc o) i "java/lang/String" "coder" "B")
  | (o, i, 2, w, _, h) => okw h (.fieldLink (Rc o) i (stn w).1 (stn w).2.1 (stn w).2.2) && decide (w = 1 ∨ w = 1001 ∨ w = 1002 ∨ w = 1003 ∨ w = 2000)
  | _ => false
set_option maxRecDepth 100000 in
theorem flt_ok : flt.all okF = true := by decide +kernel
/-- a method's own facts -/
def okM (e : MethodName × ByteArray × Nat × Option FieldType × Nat × Nat) : Bool := decide (e.1.cls = Rc e.2.2.2.2.1) && plainFor e.1 && decide (e.1.cls ≠ "java/lang/invoke/MethodHandle") && decide (e.1.cls ≠ "java/lang/invoke/VarHandle") && decide (e.2.2.1 ≤ 12)
set_option maxRecDepth 100000 in
theorem mtl_ok : mtl.all okM = true := by decide +kernel
/-- the code words, by their places -/
def cdl : List Nat := [103, 546, 96, 550, 124, 554, 110, 557, 178, 319, 767, 337, 579, 89, 567, 236, 383, 387, 396, 404, 416, 481, 496, 409, 412, 488, 420, 425, 163, 360, 596, 636, 365, 315, 510, 527, 667, 587, 796, 117, 562, 131, 311, 501, 523, 539, 519, 611, 628, 707, 711, 716, 137, 200, 505, 352, 348, 531, 571, 679, 620, 663, 687, 80, 307, 323, 344, 356, 370, 374, 379, 392, 400, 515, 575, 583, 592, 603, 616, 624, 632, 640, 651, 655, 671, 675, 683, 691, 695, 699, 720, 734, 738, 749, 759, 763, 771, 775, 779, 787, 329, 326, 791, 333, 783, 607, 659, 703, 724, 729, 741, 745, 802, 892, 897, 974, 916, 1040, 806, 881, 928, 991, 888, 947, 983, 1020, 877, 901, 885, 905, 919, 910, 931, 923, 935, 943, 959, 963, 966, 955, 951, 1004, 939, 970, 978, 987, 1000, 996, 1008, 1016, 1029, 1012, 1024, 1036, 1033, 1044, 1052, 1048, 1056, 1061, 1070, 1066, 1074, 1078, 1090, 1086, 1082, 1099, 1094, 1103, 1112, 1107, 1116, 1126, 1131, 1142, 1147, 1139, 1157, 1153, 1169, 1165, 1173, 1177, 1181, 1161, 1135, 1185, 1189, 1193, 1197, 1210, 1206, 1202, 1220, 1214, 643, 566, 534, 429, 439, 433, 443, 449, 446, 467, 463, 457, 460, 203, 454, 0]
set_option maxRecDepth 100000 in
theorem cdl_ok_0 : ∀ m, 0 ≤ m → m < 30 → lw_tbl[cdl.getD m 0]? = some (.code (mna m) (mco m) (mml m) (mre m)) := fun m h1 h2 => by
  obtain ⟨j, rfl⟩ := Nat.exists_eq_add_of_le h1
  match j, h2 with
  | 0, _ => rfl
  | 1, _ => rfl
  | 2, _ => rfl
  | 3, _ => rfl
  | 4, _ => rfl
  | 5, _ => rfl
  | 6, _ => rfl
  | 7, _ => rfl
  | 8, _ => rfl
  | 9, _ => rfl
  | 10, _ => rfl
  | 11, _ => rfl
  | 12, _ => rfl
  | 13, _ => rfl
  | 14, _ => rfl
  | 15, _ => rfl
  | 16, _ => rfl
  | 17, _ => rfl
  | 18, _ => rfl
  | 19, _ => rfl
  | 20, _ => rfl
  | 21, _ => rfl
  | 22, _ => rfl
  | 23, _ => rfl
  | 24, _ => rfl
  | 25, _ => rfl
  | 26, _ => rfl
  | 27, _ => rfl
  | 28, _ => rfl
  | 29, _ => rfl
  | j + 30, h2 => omega
set_option maxRecDepth 100000 in
theorem cdl_ok_30 : ∀ m, 30 ≤ m → m < 60 → lw_tbl[cdl.getD m 0]? = some (.code (mna m) (mco m) (mml m) (mre m)) := fun m h1 h2 => by
  obtain ⟨j, rfl⟩ := Nat.exists_eq_add_of_le h1
  match j, h2 with
  | 0, _ => rfl
  | 1, _ => rfl
  | 2, _ => rfl
  | 3, _ => rfl
  | 4, _ => rfl
  | 5, _ => rfl
  | 6, _ => rfl
  | 7, _ => rfl
  | 8, _ => rfl
  | 9, _ => rfl
  | 10, _ => rfl
  | 11, _ => rfl
  | 12, _ => rfl
  | 13, _ => rfl
  | 14, _ => rfl
  | 15, _ => rfl
  | 16, _ => rfl
  | 17, _ => rfl
  | 18, _ => rfl
  | 19, _ => rfl
  | 20, _ => rfl
  | 21, _ => rfl
  | 22, _ => rfl
  | 23, _ => rfl
  | 24, _ => rfl
  | 25, _ => rfl
  | 26, _ => rfl
  | 27, _ => rfl
  | 28, _ => rfl
  | 29, _ => rfl
  | j + 30, h2 => omega
set_option maxRecDepth 100000 in
theorem cdl_ok_60 : ∀ m, 60 ≤ m → m < 90 → lw_tbl[cdl.getD m 0]? = some (.code (mna m) (mco m) (mml m) (mre m)) := fun m h1 h2 => by
  obtain ⟨j, rfl⟩ := Nat.exists_eq_add_of_le h1
  match j, h2 with
  | 0, _ => rfl
  | 1, _ => rfl
  | 2, _ => rfl
  | 3, _ => rfl
  | 4, _ => rfl
  | 5, _ => rfl
  | 6, _ => rfl
  | 7, _ => rfl
  | 8, _ => rfl
  | 9, _ => rfl
  | 10, _ => rfl
  | 11, _ => rfl
  | 12, _ => rfl
  | 13, _ => rfl
  | 14, _ => rfl
  | 15, _ => rfl
  | 16, _ => rfl
  | 17, _ => rfl
  | 18, _ => rfl
  | 19, _ => rfl
  | 20, _ => rfl
  | 21, _ => rfl
  | 22, _ => rfl
  | 23, _ => rfl
  | 24, _ => rfl
  | 25, _ => rfl
  | 26, _ => rfl
  | 27, _ => rfl
  | 28, _ => rfl
  | 29, _ => rfl
  | j + 30, h2 => omega
set_option maxRecDepth 100000 in
theorem cdl_ok_90 : ∀ m, 90 ≤ m → m < 120 → lw_tbl[cdl.getD m 0]? = some (.code (mna m) (mco m) (mml m) (mre m)) := fun m h1 h2 => by
  obtain ⟨j, rfl⟩ := Nat.exists_eq_add_of_le h1
  match j, h2 with
  | 0, _ => rfl
  | 1, _ => rfl
  | 2, _ => rfl
  | 3, _ => rfl
  | 4, _ => rfl
  | 5, _ => rfl
  | 6, _ => rfl
  | 7, _ => rfl
  | 8, _ => rfl
  | 9, _ => rfl
  | 10, _ => rfl
  | 11, _ => rfl
  | 12, _ => rfl
  | 13, _ => rfl
  | 14, _ => rfl
  | 15, _ => rfl
  | 16, _ => rfl
  | 17, _ => rfl
  | 18, _ => rfl
  | 19, _ => rfl
  | 20, _ => rfl
  | 21, _ => rfl
  | 22, _ => rfl
  | 23, _ => rfl
  | 24, _ => rfl
  | 25, _ => rfl
  | 26, _ => rfl
  | 27, _ => rfl
  | 28, _ => rfl
  | 29, _ => rfl
  | j + 30, h2 => omega
set_option maxRecDepth 100000 in
theorem cdl_ok_120 : ∀ m, 120 ≤ m → m < 150 → lw_tbl[cdl.getD m 0]? = some (.code (mna m) (mco m) (mml m) (mre m)) := fun m h1 h2 => by
  obtain ⟨j, rfl⟩ := Nat.exists_eq_add_of_le h1
  match j, h2 with
  | 0, _ => rfl
  | 1, _ => rfl
  | 2, _ => rfl
  | 3, _ => rfl
  | 4, _ => rfl
  | 5, _ => rfl
  | 6, _ => rfl
  | 7, _ => rfl
  | 8, _ => rfl
  | 9, _ => rfl
  | 10, _ => rfl
  | 11, _ => rfl
  | 12, _ => rfl
  | 13, _ => rfl
  | 14, _ => rfl
  | 15, _ => rfl
  | 16, _ => rfl
  | 17, _ => rfl
  | 18, _ => rfl
  | 19, _ => rfl
  | 20, _ => rfl
  | 21, _ => rfl
  | 22, _ => rfl
  | 23, _ => rfl
  | 24, _ => rfl
  | 25, _ => rfl
  | 26, _ => rfl
  | 27, _ => rfl
  | 28, _ => rfl
  | 29, _ => rfl
  | j + 30, h2 => omega
set_option maxRecDepth 100000 in
theorem cdl_ok_150 : ∀ m, 150 ≤ m → m < 180 → lw_tbl[cdl.getD m 0]? = some (.code (mna m) (mco m) (mml m) (mre m)) := fun m h1 h2 => by
  obtain ⟨j, rfl⟩ := Nat.exists_eq_add_of_le h1
  match j, h2 with
  | 0, _ => rfl
  | 1, _ => rfl
  | 2, _ => rfl
  | 3, _ => rfl
  | 4, _ => rfl
  | 5, _ => rfl
  | 6, _ => rfl
  | 7, _ => rfl
  | 8, _ => rfl
  | 9, _ => rfl
  | 10, _ => rfl
  | 11, _ => rfl
  | 12, _ => rfl
  | 13, _ => rfl
  | 14, _ => rfl
  | 15, _ => rfl
  | 16, _ => rfl
  | 17, _ => rfl
  | 18, _ => rfl
  | 19, _ => rfl
  | 20, _ => rfl
  | 21, _ => rfl
  | 22, _ => rfl
  | 23, _ => rfl
  | 24, _ => rfl
  | 25, _ => rfl
  | 26, _ => rfl
  | 27, _ => rfl
  | 28, _ => rfl
  | 29, _ => rfl
  | j + 30, h2 => omega
set_option maxRecDepth 100000 in
theorem cdl_ok_180 : ∀ m, 180 ≤ m → m < 210 → lw_tbl[cdl.getD m 0]? = some (.code (mna m) (mco m) (mml m) (mre m)) := fun m h1 h2 => by
  obtain ⟨j, rfl⟩ := Nat.exists_eq_add_of_le h1
  match j, h2 with
  | 0, _ => rfl
  | 1, _ => rfl
  | 2, _ => rfl
  | 3, _ => rfl
  | 4, _ => rfl
  | 5, _ => rfl
  | 6, _ => rfl
  | 7, _ => rfl
  | 8, _ => rfl
  | 9, _ => rfl
  | 10, _ => rfl
  | 11, _ => rfl
  | 12, _ => rfl
  | 13, _ => rfl
  | 14, _ => rfl
  | 15, _ => rfl
  | 16, _ => rfl
  | 17, _ => rfl
  | 18, _ => rfl
  | 19, _ => rfl
  | 20, _ => rfl
  | 21, _ => rfl
  | 22, _ => rfl
  | 23, _ => rfl
  | 24, _ => rfl
  | 25, _ => rfl
  | 26, _ => rfl
  | 27, _ => rfl
  | 28, _ => rfl
  | 29, _ => rfl
  | j + 30, h2 => omega
set_option maxRecDepth 100000 in
theorem cdl_ok_210 : ∀ m, 210 ≤ m → m < 211 → lw_tbl[cdl.getD m 0]? = some (.code (mna m) (mco m) (mml m) (mre m)) := fun m h1 h2 => by
  obtain ⟨j, rfl⟩ := Nat.exists_eq_add_of_le h1
  match j, h2 with
  | 0, _ => rfl
  | j + 1, h2 => omega
def okC (e : Nat × Nat × Nat × Nat × Nat × List Nat) : Bool := match e with
  | (o, i, 0, t, n, [a, b, c, d, _]) => okw a (.methodLink (Rc o) i (mna t)) && okw b (.instanceMethod (mna t)) && okw c (.selects (mna t).cls (mna t) (mna t)) && okw d (.initialized (mna t).cls) && decide (t < 211) && decide ((parseMethodDescriptor (mna t).desc).map (fun d => d.parameters.length) = some n)
  | (o, i, 1, t, n, [a, b, d, _]) => okw a (.methodLink (Rc o) i (mna t)) && okw b (.static (mna t)) && okw d (.initialized (mna t).cls) && decide (t < 211) && decide ((parseMethodDescriptor (mna t).desc).map (fun d => d.parameters.length) = some n)
  | (o, i, 2, t, n, [b, d, _]) => okw b (.static (mna t)) && okw d (.initialized (mna t).cls) && decide (t < 211) && decide ((parseMethodDescriptor (mna t).desc).map (fun d => d.parameters.length) = some n) && nsl.any (fun q => decide (q.1 = Rc o ∧ q.2.1 = i ∧ q.2.2.1 = t))
  | (o, i, 3, t, n, [a, b, d, _]) => okw a (.methodLink (Rc o) i (mna t)) && okw b (.instanceMethod (mna t)) && okw d (.initialized (mna t).cls) && decide (t < 211) && decide ((parseMethodDescriptor (mna t).desc).map (fun d => d.parameters.length) = some n) && decide ((mna t).name = "<init>") && decide (mre t = none)
  | (o, i, 4, t, n, [b, d, _]) => okw b (.instanceMethod (mna t)) && okw d (.initialized (mna t).cls) && decide (t < 211) && decide ((parseMethodDescriptor (mna t).desc).map (fun d => d.parameters.length) = some n) && nsl.any (fun q => decide (q.1 = Rc o ∧ q.2.1 = i ∧ q.2.2.1 = t)) && decide ((mna t).name = "<init>") && decide (mre t = none)
  | (o, i, 5, t, n, [a, b, c, d, g, _]) => okw a (.methodLink (Rc o) i (mna t)) && okw b (.sameMethod (mna t).cls (mna t).cls (mna t).name (mna t).desc) && okw c (.superclass (Rc o) (mna t).cls) && okw d (.instanceMethod (mna t)) && okw g (.initialized (mna t).cls) && decide (t < 211) && decide ((parseMethodDescriptor (mna t).desc).map (fun d => d.parameters.length) = some n) && decide ((mna t).name ≠ "<init>")
  | (o, i, 6, _, _, [a, b, f]) => okw a (.methodLink (Rc o) i Lib.objectInit) && okw b (.instanceMethod Lib.objectInit) && okw f (.code Lib.objectInit ⟨#[0xb1]⟩ 1 none)
  | (o, i, 7, t, n, [a, b, d, _]) => okw a (.methodLink (Rc o) i (mna t)) && okw b (.sameMethod (mna t).cls (mna t).cls (mna t).name (mna t).desc) && okw d (.instanceMethod (mna t)) && decide (mna t = yX5_pull) && decide (n = 4)
  | (o, i, 8, _, _, [a, b, c, d]) => okw a (.methodLink (Rc o) i arraycopyName) && okw b (.native arraycopyName) && okw c (.static arraycopyName) && okw d (.initialized "java/lang/System")
  | _ => false
set_option maxRecDepth 100000 in
theorem ctl_ok : ctl.all okC = true := by decide +kernel
def okP (e : Nat × Nat × List Nat) : Bool := match e with
  | (c, t, [a, b, d, _]) => okw a (.selects (Rc c) yX5_pull (mna t)) && okw b (.instanceMethod (mna t)) && okw d (.initialized (mna t).cls) && decide (t < 211) && decide (c < 13) && decide (mcl t = c)
  | _ => false
theorem plt_ok : plt.all okP = true := by decide +kernel
def okS (e : Nat × Nat × Nat × Int × Nat) : Bool := match e with
  | (o, i, 0, v, h) => okw h (.constant (Rc o) i (Int32.ofInt v))
  | (o, i, 1, v, h) => okw h (.constantLong (Rc o) i (Int64.ofInt v))
  | (o, i, 2, v, _) => decide (o = 6) && decide (1010 ≤ v) && decide (v < 1015) && decide ((sti.getD (v.toNat - 1010) (0, "")).1 = i)
  | _ => false
theorem csl_ok : csl.all okS = true := by decide +kernel
def okN (e : Nat × Nat × Nat × Nat × Nat × Nat) : Bool := match e with
  | (o, i, c, h, g, f) => okw h (.classLink (Rc o) i (Rc c)) && okw g (.instantiable (Rc c) (nf c)) && okw f (.initialized (Rc c)) && decide (c < 13)
theorem nwl_ok : nwl.all okN = true := by decide +kernel
/-- the classes' own facts -/
theorem lays_ok : (List.range 13).all (fun c => (u_ws (Rc c) (Tc c) (nf c)).all (fun w => decide (w ∈ lw_tbl) && goodWord w)) = true := by decide +kernel
theorem cls_ok : (List.range 13).all (fun c => decide (vwCl[c]?.map (fun q => (q.1, q.2.2)) = some (Rc c, nf c))) = true := by decide +kernel
theorem rft_ok : rft.all (fun r => r.all (fun x => decide (x < 100))) = true := by decide +kernel
end
section
/-! SOUNDNESS, 1: what a flat store says of the heap -/
def cv (b0 : Nat) (av : Nat → Value) (v : Value) : Value := match v with
  | .ref k => if k < 1000 then .ref (b0 + k) else av k
  | v => v
def fvc (b0 : Nat) (σ : Sto) (a c k : Nat) : Value := match ft c k with
  | 0 => .int (σ.2.2.1 a k)
  | 1 => .long (σ.2.2.2 a k)
  | _ => if σ.2.1 a k = true then .ref (b0 + rf a k) else .null
def ce (b0 : Nat) (cy : Nat → ClassId) (σ : Sto) (a : Nat) : va_E :=
  if (tg a).1 < 13 then .inr ((tg a).1, (List.range (nf (tg a).1)).map (fvc b0 σ a (tg a).1))
  else if (tg a).1 < 23 then .inl (cy (tg a).1, (tg a).2, .inl (σ.2.2.1 a))
  else .inl (cy (tg a).1, (tg a).2, .inr (.inr (.inr (.inr (fun j => if σ.2.1 a j = true then some (b0 + rf a j) else none)))))
def wl (b0 : Nat) (cy : Nat → ClassId) (σ : Sto) : va_W := (List.range σ.1).map (fun a => (b0 + a, ce b0 cy σ a))
theorem wl_get {b0 : Nat} {cy : Nat → ClassId} {σ : Sto} {a : Nat} (h : a < σ.1) : (wl b0 cy σ)[a]? = some (b0 + a, ce b0 cy σ a) := by
  simp [wl, h]
theorem wl_set {b0 : Nat} {cy : Nat → ClassId} {σ σ' : Sto} {a : Nat} {e : va_E} (hn : σ'.1 = σ.1) (he : ce b0 cy σ' a = e) (ho : ∀ b, b < σ.1 → b ≠ a → ce b0 cy σ' b = ce b0 cy σ b) : (wl b0 cy σ).set a (b0 + a, e) = wl b0 cy σ' := by
  apply List.ext_getElem?
  intro i
  rw [List.getElem?_set]
  by_cases hi : i < σ.1
  · rw [wl_get (σ := σ') (by omega), wl_get hi]
    by_cases h : a = i
    · subst h
      rw [if_pos rfl, if_pos (by simp [wl]; exact hi), he]
    · rw [if_neg h, ho i hi (fun q => h q.symm)]
  · have h1 : (wl b0 cy σ)[i]? = none := List.getElem?_eq_none (by simp [wl]; omega)
    have h2 : (wl b0 cy σ')[i]? = none := List.getElem?_eq_none (by simp [wl]; omega)
    rw [h1, h2]
    by_cases h : a = i
    · subst h
      rw [if_pos rfl, if_neg (by simp [wl]; omega)]
    · rw [if_neg h]
theorem wl_push {b0 : Nat} {cy : Nat → ClassId} {σ σ' : Sto} {e : va_E} (hn : σ'.1 = σ.1 + 1) (he : ce b0 cy σ' σ.1 = e) (ho : ∀ b, b < σ.1 → ce b0 cy σ' b = ce b0 cy σ b) : wl b0 cy σ ++ [(b0 + σ.1, e)] = wl b0 cy σ' := by
  unfold wl
  rw [hn, List.range_succ, List.map_append, List.map_cons, List.map_nil, he]
  congr 1
  apply List.map_congr_left
  intro a ha
  rw [ho a (List.mem_range.mp ha)]
theorem wl_D (b0 : Nat) (cy : Nat → ClassId) (σ : Sto) : va_D (fun q => b0 ≤ q) (wl b0 cy σ) := by
  have key : ∀ (k : Nat) (q : Nat × va_E), (wl b0 cy σ)[k]? = some q → q.1 = b0 + k := by
    intro k q h
    have hk : k < σ.1 := by
      have := (List.getElem?_eq_some_iff.mp h).1
      simpa [wl] using this
    rw [wl_get hk] at h
    cases h
    rfl
  refine ⟨fun i j p q hi hj h => ?_, fun k q h => ?_⟩
  · have h1 := key i p hi
    have h2 := key j q hj
    omega
  · have h1 := key k q h
    show b0 ≤ q.1
    omega
def tyl (cy : Nat → ClassId) : List (ClassId × FieldType) := [(cy 20, .int), (cy 21, .byte), (cy 22, .boolean), (cy 23, .object RX5), (cy 24, .object RX9), (cy 25, .array .int)]
/-- the lengths of the texts -/
def sln : List Nat := stb.map (fun x => x.length)
/-- what holds of the machine at any time of the run: classes, links, statics, texts, the script -/
def Cx (b0 : Nat) (D : va_G) (cy : Nat → ClassId) (av : Nat → Value) (L : Nat) (xs : Nat → Int32) (s : State) (H : Heap) : Prop :=
  va_K D vwCl (tyl cy) s ∧ (∀ q ∈ nsl, va_Nw (.methodLinkNest q.1 q.2.1 (mna q.2.2.1) q.2.2.2) s) ∧ (va_AO RX5 s ∧ va_AO RX9 s ∧ (Cond.arrayOver (.array .int)).before #[] s = true) ∧ (∀ c, (c = 0 ∨ c = 1 ∨ c = 2 ∨ c = 3 ∨ c = 8) → va_Nw (.castable (Rc c) RX5) s) ∧
  (∀ k, (av k).category = 1) ∧ va_Z "java/lang/String" "COMPACT_STRINGS" "Z" (.int 1) (fun q => b0 ≤ q) s H ∧ va_Z "jdk/internal/util/Preconditions" "SIOOBE_FORMATTER" "Ljava/util/function/BiFunction;" (av 2000) (fun q => b0 ≤ q) s H ∧
  (∀ j, j < 3 → ∃ t, av (1001 + j) = .ref t ∧ va_Z RX6 (stn (1001 + j)).2.1 "[I" (.ref t) (fun q => b0 ≤ q) s H ∧ va_T .int t (otb.getD j []).length (fun i => .int ((otb.getD j []).getD i 0)) (fun q => b0 ≤ q) s H) ∧
  (∃ t, av 1000 = .ref t ∧ L < 2 ^ 31 ∧ va_T .int t L (fun i => .int (xs i)) (fun q => b0 ≤ q) s H) ∧
  (∃ adK adV : Nat → Nat, vk_S 5 sln stb adK adV (fun q => b0 ≤ q) s H ∧ ∀ j, j < 5 → av (1010 + j) = .ref (adK j) ∧ av (1020 + j) = .ref (adV j) ∧ vk_R RX6 (sti.getD j (0, "")).1 (sti.getD j (0, "")).2 (adK j) s)
theorem Cx.next {b0 : Nat} {D : va_G} {cy : Nat → ClassId} {av : Nat → Value} {L : Nat} {xs : Nat → Int32} {s U : State} {H H1 : Heap} (h : Cx b0 D cy av L xs s H) (hW : s.WarmedH U.vm) (hq : ∀ a : Nat, a < H.size → ¬ b0 ≤ a → H1[a]? = H[a]?) : Cx b0 D cy av L xs U H1 := by
  obtain ⟨h1, h2, ⟨h3, h4, h4b⟩, h5, h6, h7, h8, h9, ⟨t, ht, hL, hT⟩, adK, adV, hS, hR⟩ := h
  refine ⟨va_K.moved hW.alike h1, fun q hq => (h2 q hq).warmM hW, ⟨h3.moved hW.alike, h4.moved hW.alike, Jvm.Stand.arrayOver_alikeB hW.alike h4b⟩, fun c hc => (h5 c hc).warmC hW, h6, (h7.moved hW.alike).kept hq, (h8.moved hW.alike).kept hq, fun j hj => ?_, ⟨t, ht, hL, (hT.moved hW.alike).kept hq⟩, adK, adV, (hS.moved hW.alike).kept hq, fun j hj => ⟨(hR j hj).1, (hR j hj).2.1, (hR j hj).2.2.warm hW⟩⟩
  obtain ⟨t, e1, e2, e3⟩ := h9 j hj
  exact ⟨t, e1, (e2.moved hW.alike).kept hq, (e3.moved hW.alike).kept hq⟩
/-- slots of the first n cells -/
def ssz (a : Nat) : Nat := if (tg a).1 < 13 then nf (tg a).1 else (tg a).2
def ss (n : Nat) : Nat := ((List.range n).map ssz).sum
theorem ss_succ (n : Nat) : ss (n + 1) = ss n + ssz n := by
  simp [ss, List.range_succ]
theorem ss_mono {a b : Nat} (h : a ≤ b) : ss a ≤ ss b := by
  obtain ⟨k, rfl⟩ := Nat.exists_eq_add_of_le h
  induction k with
  | zero => exact Nat.le_refl _
  | succ k ih =>
    have := ih (by omega)
    rw [show a + (k + 1) = (a + k) + 1 by omega, ss_succ]
    omega
/-- the locals -/
def Lr (b0 : Nat) (av : Nat → Value) (lsx : Array Slot) (n : Nat) (ls : Vs) : Prop := lsx.size = n ∧ lv_wf lsx ∧ ∀ (i : Nat) (v : Value), ls[i]? = some v → v ≠ .null → lsx[i]? = some (.val (cv b0 av v))
theorem Lr.get {b0 : Nat} {av : Nat → Value} {lsx : Array Slot} {n : Nat} {ls : Vs} (h : Lr b0 av lsx n ls) {i : Nat} {v : Value} (hv : lget ls i = v) (hn : v ≠ .null) : lsx[i]? = some (.val (cv b0 av v)) := by
  refine h.2.2 i v ?_ hn
  unfold lget at hv
  rw [List.getD_eq_getElem?_getD] at hv
  cases hl : ls[i]? with
  | none => rw [hl] at hv; exact absurd hv.symm hn
  | some w => rw [hl] at hv; simpa using hv
def lvl (b0 : Nat) (av : Nat → Value) (ls : Vs) : List (Nat × Value) := ls.zipIdx.filterMap (fun q => if q.1 = .null then none else some (q.2, cv b0 av q.1))
theorem lvl_mem {b0 : Nat} {av : Nat → Value} {ls : Vs} {i : Nat} {w : Value} : (i, w) ∈ lvl b0 av ls ↔ ∃ v, ls[i]? = some v ∧ v ≠ .null ∧ w = cv b0 av v := by
  unfold lvl
  rw [List.mem_filterMap]
  constructor
  · rintro ⟨⟨v, j⟩, hm, hq⟩
    rw [List.mem_zipIdx_iff_getElem?] at hm
    by_cases hv : v = .null
    · simp [hv] at hq
    · simp only [hv, if_false] at hq
      cases hq
      exact ⟨v, hm, hv, rfl⟩
  · rintro ⟨v, h1, h2, rfl⟩
    exact ⟨(v, i), List.mem_zipIdx_iff_getElem?.mpr h1, by simp [h2]⟩
theorem Lr.lv {b0 : Nat} {av : Nat → Value} {lsx : Array Slot} {n : Nat} {ls : Vs} (h : Lr b0 av lsx n ls) : lv_has lsx n (lvl b0 av ls) := by
  refine ⟨h.1, h.2.1, fun q hq => ?_⟩
  obtain ⟨v, h1, h2, h3⟩ := lvl_mem.mp (show (q.1, q.2) ∈ lvl b0 av ls from hq)
  rw [h3]
  exact h.2.2 _ v h1 h2
theorem kl1_get {ls : Vs} {j k : Nat} {v w : Value} (h : (kl1 ls j v)[k]? = some w) (hw : w ≠ .null) : ls[k]? = some w ∧ (k = j → v.category = 1) := by
  cases v <;> simp only [kl1] at h
  case int => exact ⟨h, fun _ => rfl⟩
  case ref => exact ⟨h, fun _ => rfl⟩
  case null => exact ⟨h, fun _ => rfl⟩
  all_goals
    rw [List.getElem?_set] at h
    by_cases e : j = k
    · rw [if_pos e] at h
      split at h
      · cases h; exact absurd rfl hw
      · cases h
    · rw [if_neg e] at h
      exact ⟨h, fun q => absurd q.symm e⟩
theorem kil_get {b0 : Nat} {av : Nat → Value} (hav : ∀ k, (av k).category = 1) {ls : Vs} {i k : Nat} {w : Value} (h : (kil ls i)[k]? = some w) (hw : w ≠ .null) : ls[k]? = some w ∧ (k + 1 = i → (cv b0 av w).category = 1) := by
  cases i with
  | zero => exact ⟨h, fun q => by omega⟩
  | succ j =>
    obtain ⟨h1, h2⟩ := kl1_get (v := lget ls j) h hw
    refine ⟨h1, fun q => ?_⟩
    have e : k = j := by omega
    subst e
    have h3 := h2 rfl
    have h4 : lget ls k = w := by
      unfold lget
      rw [List.getD_eq_getElem?_getD, h1]
      rfl
    rw [h4] at h3
    cases w with
    | ref a =>
      unfold cv
      dsimp only
      split
      · rfl
      · exact hav a
    | int x => rfl
    | long x => cases h3
    | float x => rfl
    | double x => cases h3
    | null => rfl
    | retAddr x => rfl
theorem Lr.of1 {b0 : Nat} {av : Nat → Value} (hav : ∀ k, (av k).category = 1) {lsx : Array Slot} {n : Nat} {ls : Vs} {i : Nat} {v : Value} (h : lv_has lsx n ((i, cv b0 av v) :: (lvl b0 av ls).filter (fun q => !(q.1 == i) && !(q.1 + 1 == i && q.2.category == 2)))) : Lr b0 av lsx n (sto1 ls i v) := by
  refine ⟨h.1, h.2.1, fun k w hk hw => ?_⟩
  unfold sto1 at hk
  rw [List.getElem?_set] at hk
  by_cases e : i = k
  · subst e
    rw [if_pos rfl] at hk
    split at hk
    · cases hk
      exact h.2.2 _ List.mem_cons_self
    · cases hk
  · rw [if_neg e] at hk
    obtain ⟨h1, h2⟩ := kil_get hav hk hw (b0 := b0)
    refine h.2.2 (k, cv b0 av w) (List.mem_cons_of_mem _ (List.mem_filter.mpr ⟨lvl_mem.mpr ⟨w, h1, hw, rfl⟩, ?_⟩))
    simp only [Bool.and_eq_true, Bool.not_eq_true', beq_eq_false_iff_ne, ne_eq, Bool.and_eq_false_iff]
    refine ⟨fun q => e q.symm, ?_⟩
    by_cases q : k + 1 = i
    · exact Or.inr (by rw [h2 q]; decide)
    · exact Or.inl q
theorem Lr.of2 {b0 : Nat} {av : Nat → Value} (hav : ∀ k, (av k).category = 1) {lsx : Array Slot} {n : Nat} {ls : Vs} {i : Nat} {v : Value} (h : lv_has lsx n ((i, cv b0 av v) :: (lvl b0 av ls).filter (fun q => !(q.1 == i) && (!(q.1 == i + 1) && !(q.1 + 1 == i && q.2.category == 2))))) : Lr b0 av lsx n (sto2 ls i v) := by
  refine ⟨h.1, h.2.1, fun k w hk hw => ?_⟩
  unfold sto2 at hk
  rw [List.getElem?_set] at hk
  by_cases e : i = k
  · subst e
    rw [if_pos rfl] at hk
    split at hk
    · cases hk
      exact h.2.2 _ List.mem_cons_self
    · cases hk
  · rw [if_neg e, List.getElem?_set] at hk
    by_cases e2 : i + 1 = k
    · rw [if_pos e2] at hk
      split at hk
      · cases hk; exact absurd rfl hw
      · cases hk
    · rw [if_neg e2] at hk
      obtain ⟨h1, h2⟩ := kil_get hav hk hw (b0 := b0)
      refine h.2.2 (k, cv b0 av w) (List.mem_cons_of_mem _ (List.mem_filter.mpr ⟨lvl_mem.mpr ⟨w, h1, hw, rfl⟩, ?_⟩))
      simp only [Bool.and_eq_true, Bool.not_eq_true', beq_eq_false_iff_ne, ne_eq, Bool.and_eq_false_iff]
      refine ⟨fun q => e q.symm, fun q => e2 q.symm, ?_⟩
      by_cases q : k + 1 = i
      · exact Or.inr (by rw [h2 q]; decide)
      · exact Or.inl q
/-- the world -/
def Wr (b0 : Nat) (D : va_G) (cy : Nat → ClassId) (L : Nat) (xs : Nat → Int32) (σ : Sto) (H : Heap) : Prop := va_P D vwCl (wl b0 cy σ) H ∧ σ.1 ≤ 100 ∧ (σ.2.1 999 0 = true → σ.2.2.1 999 0 = nI L ∧ σ.2.2.1 1000 = xs)
/-- the return that the interpreter has come to -/
def Rd (m pc : Nat) (r : Option Value) : Prop := match r with
  | none => decode (mco m) pc = .ok (.return_, 1) ∧ mre m = none
  | some (.int x) => decode (mco m) pc = .ok (.ireturn, 1) ∧ ∃ ty, mre m = some ty ∧ narrow ty (.int x) = .int x
  | some (.long _) => decode (mco m) pc = .ok (.lreturn, 1) ∧ mre m = some .long
  | some (.ref k) => decode (mco m) pc = .ok (.areturn, 1) ∧ k < 1000 ∧ mre m = some (.object RX9)
  | _ => False
/-- a method's stay: the machine, its code, the tables' words, the room -/
def Ctx (b0 : Nat) (D : va_G) (cy : Nat → ClassId) (av : Nat → Value) (L : Nat) (xs : Nat → Int32) (m : Nat) (p : Program) (R : Room) (s : State) (mid : MethodId) (args : Array Value) (meth : Method) (c : Code) (n0 : Nat) : Prop :=
  p.tables.exec = Jvm.exec ∧ c.code = mco m ∧ c.maxLocals = mml m ∧ s.vm.findClass (Rc (mcl m)) = some mid.cls ∧ (∀ w ∈ Big, w.before args s = true) ∧ ((mna m).name = "<init>" → meth.name = "<init>") ∧ Cx b0 D cy av L xs s s.heap ∧ s.heap.size = b0 + n0 ∧ mhg m ≤ R.frames ∧ 31 * mhg m ≤ R.locals
/-- from here the machine comes to a return with r, and the store is σ' -/
def Gd (m pc : Nat) (ls st : Vs) (σ : Sto) (r : Option Value) (σ' : Sto) : Prop :=
  ∀ (b0 : Nat) (D : va_G) (cy : Nat → ClassId) (av : Nat → Value) (L : Nat) (xs : Nat → Int32) (p : Program) (l : Launch) (e : Env) (R : Room) (s : State) (mid : MethodId) (args : Array Value) (below : List Frame) (meth : Method) (c : Code) (n0 : Nat) (Z : State → Prop),
    Ctx b0 D cy av L xs m p R s mid args meth c n0 → ∀ (H : Heap) (locs : List Loc) (lsx : Array Slot), Lr b0 av lsx (mml m) ls → Wr b0 D cy L xs σ H → va_S (fun q => b0 ≤ q) s.heap H locs → n0 ≤ σ.1 → (σ'.1 ≤ n0 + R.cells ∧ ss σ'.1 ≤ ss n0 + R.slots) →
    (∀ (pc1 : Nat) (H1 : Heap) (locs1 : List Loc) (lsx1 : Array Slot), Wr b0 D cy L xs σ' H1 → va_S (fun q => b0 ≤ q) s.heap H1 locs1 → Rd m pc1 r → W p l e R s mid args below meth c H1 locs1 (σ'.1 - n0) (ss σ'.1 - ss n0) Z (F0 mid pc1 lsx1 (r.toList.map (cv b0 av)))) →
    W p l e R s mid args below meth c H locs (σ.1 - n0) (ss σ.1 - ss n0) Z (F0 mid pc lsx (st.map (cv b0 av)))
def Gm (m pc : Nat) (ls st : Vs) (σ : Sto) (r : Option Value) (σ' : Sto) : Prop := σ.1 ≤ σ'.1 ∧ Gd m pc ls st σ r σ'
def OkR (rec : Rec) : Prop := ∀ (m pc : Nat) (ls st : Vs) (σ : Sto) (r : Option Value) (σ' : Sto), rec m pc ls st σ = some (r, σ') → Gm m pc ls st σ r σ'
end
section
/-! SOUNDNESS, 2: instructions that change no cell -/
theorem gm_pure {m pc pc1 : Nat} {ls st st1 : Vs} {σ : Sto} {r : Option Value} {σ' : Sto} (hg : Gm m pc1 ls st1 σ r σ')
    (step : ∀ (b0 : Nat) (D : va_G) (cy : Nat → ClassId) (av : Nat → Value) (L : Nat) (xs : Nat → Int32) (p : Program) (l : Launch) (e : Env) (R : Room) (s : State) (mid : MethodId) (args : Array Value) (below : List Frame) (meth : Method) (c : Code) (n0 : Nat) (Z : State → Prop) (H : Heap) (locs : List Loc) (lsx : Array Slot) (cells slots : Nat),
      Ctx b0 D cy av L xs m p R s mid args meth c n0 → Lr b0 av lsx (mml m) ls → Wr b0 D cy L xs σ H → va_S (fun q => b0 ≤ q) s.heap H locs → W p l e R s mid args below meth c H locs cells slots Z (F0 mid pc1 lsx (st1.map (cv b0 av))) → W p l e R s mid args below meth c H locs cells slots Z (F0 mid pc lsx (st.map (cv b0 av)))) : Gm m pc ls st σ r σ' := by
  refine ⟨hg.1, ?_⟩
  intro b0 D cy av L xs p l e R s mid args below meth c n0 Z C H locs lsx hl hW hS hn hc hk
  exact step _ _ _ _ _ _ _ _ _ _ _ _ _ _ _ _ _ _ _ _ _ _ _ C hl hW hS (hg.2 _ _ _ _ _ _ _ _ _ _ _ _ _ _ _ _ _ _ C _ _ _ hl hW hS hn hc hk)
theorem gm_loc {m pc pc1 : Nat} {ls ls1 st st1 : Vs} {σ : Sto} {r : Option Value} {σ' : Sto} (hg : Gm m pc1 ls1 st1 σ r σ')
    (step : ∀ (b0 : Nat) (D : va_G) (cy : Nat → ClassId) (av : Nat → Value) (L : Nat) (xs : Nat → Int32) (p : Program) (l : Launch) (e : Env) (R : Room) (s : State) (mid : MethodId) (args : Array Value) (below : List Frame) (meth : Method) (c : Code) (n0 : Nat) (Z : State → Prop) (H : Heap) (locs : List Loc) (lsx : Array Slot) (cells slots : Nat),
      Ctx b0 D cy av L xs m p R s mid args meth c n0 → Lr b0 av lsx (mml m) ls → Wr b0 D cy L xs σ H → va_S (fun q => b0 ≤ q) s.heap H locs → (∀ lsx1 : Array Slot, Lr b0 av lsx1 (mml m) ls1 → W p l e R s mid args below meth c H locs cells slots Z (F0 mid pc1 lsx1 (st1.map (cv b0 av)))) → W p l e R s mid args below meth c H locs cells slots Z (F0 mid pc lsx (st.map (cv b0 av)))) : Gm m pc ls st σ r σ' := by
  refine ⟨hg.1, ?_⟩
  intro b0 D cy av L xs p l e R s mid args below meth c n0 Z C H locs lsx hl hW hS hn hc hk
  exact step _ _ _ _ _ _ _ _ _ _ _ _ _ _ _ _ _ _ _ _ _ _ _ C hl hW hS (fun lsx1 hl1 => hg.2 _ _ _ _ _ _ _ _ _ _ _ _ _ _ _ _ _ _ C _ _ _ hl1 hW hS hn hc hk)
theorem Ctx.av {b0 : Nat} {D : va_G} {cy : Nat → ClassId} {av : Nat → Value} {L : Nat} {xs : Nat → Int32} {m : Nat} {p : Program} {R : Room} {s : State} {mid : MethodId} {args : Array Value} {meth : Method} {c : Code} {n0 : Nat} (C : Ctx b0 D cy av L xs m p R s mid args meth c n0) : ∀ k, (av k).category = 1 := C.2.2.2.2.2.2.1.2.2.2.2.1
/-- a reference that is one -/
theorem cv_ref {b0 : Nat} {D : va_G} {cy : Nat → ClassId} {av : Nat → Value} {L : Nat} {xs : Nat → Int32} {s : State} {H : Heap} (hC : Cx b0 D cy av L xs s H) {x : Nat} (hx : x < 1000 ∨ x = 1000 ∨ (1001 ≤ x ∧ x < 1004) ∨ (1010 ≤ x ∧ x < 1015) ∨ (1020 ≤ x ∧ x < 1025)) : ∃ y, cv b0 av (.ref x) = .ref y := by
  obtain ⟨-, -, -, -, -, -, -, h9, ⟨t, ht, -, -⟩, adK, adV, -, hR⟩ := hC
  rcases hx with h | h | h | h | h
  · exact ⟨b0 + x, by simp [cv, h]⟩
  · subst h; exact ⟨t, by simp [cv, ht]⟩
  · obtain ⟨t2, e1, -⟩ := h9 (x - 1001) (by omega)
    refine ⟨t2, ?_⟩
    have : ¬ x < 1000 := by omega
    simp only [cv, this, if_false]
    rw [show 1001 + (x - 1001) = x by omega] at e1
    exact e1
  · refine ⟨adK (x - 1010), ?_⟩
    have : ¬ x < 1000 := by omega
    simp only [cv, this, if_false]
    have e1 := (hR (x - 1010) (by omega)).1
    rw [show 1010 + (x - 1010) = x by omega] at e1
    exact e1
  · refine ⟨adV (x - 1020), ?_⟩
    have : ¬ x < 1000 := by omega
    simp only [cv, this, if_false]
    have e1 := (hR (x - 1020) (by omega)).2.1
    rw [show 1020 + (x - 1020) = x by omega] at e1
    exact e1
theorem jt_spec {pc : Nat} {off : Int} {t : Nat} (h : jt pc off = some t) : (pc : Int) + off = (t : Int) := by
  unfold jt at h
  split at h
  · cases h; omega
  · cases h
section OPS
variable {rec : Rec} {m pc k : Nat} {ls st : Vs} {σ : Sto} {r : Option Value} {σ' : Sto}
theorem ok_iload_n (hr : OkR rec) {n : Fin 4} (hd : decode (mco m) pc = .ok (.iload_n n, k)) (h : (if k = 1 then ldI rec n 1 m pc ls st σ else none) = some (r, σ')) : Gm m pc ls st σ r σ' := by
  split at h
  · rename_i hk; subst hk
    unfold ldI at h
    split at h
    · rename_i x hx
      refine gm_pure (hr _ _ _ _ _ _ _ h) ?_
      intro b0 D cy av L xs p l e R s mid args below meth c n0 Z H locs lsx cells slots C hl hW hS k
      exact lv_iload_n C.1 C.2.1 hd rfl (hl.get hx (fun q => by cases q)) k
    · cases h
  · cases h
theorem ok_iload (hr : OkR rec) {n : Nat} (hd : decode (mco m) pc = .ok (.iload n, k)) (h : (if k = 2 then ldI rec n 2 m pc ls st σ else none) = some (r, σ')) : Gm m pc ls st σ r σ' := by
  split at h
  · rename_i hk; subst hk
    unfold ldI at h
    split at h
    · rename_i x hx
      refine gm_pure (hr _ _ _ _ _ _ _ h) ?_
      intro b0 D cy av L xs p l e R s mid args below meth c n0 Z H locs lsx cells slots C hl hW hS k
      exact lv_iload C.1 C.2.1 hd (hl.get hx (fun q => by cases q)) k
    · cases h
  · cases h
theorem ok_lload_n (hr : OkR rec) {n : Fin 4} (hd : decode (mco m) pc = .ok (.lload_n n, k)) (h : (if k = 1 then ldL rec n 1 m pc ls st σ else none) = some (r, σ')) : Gm m pc ls st σ r σ' := by
  split at h
  · rename_i hk; subst hk
    unfold ldL at h
    split at h
    · rename_i x hx
      refine gm_pure (hr _ _ _ _ _ _ _ h) ?_
      intro b0 D cy av L xs p l e R s mid args below meth c n0 Z H locs lsx cells slots C hl hW hS k
      exact lv_lload_n C.1 C.2.1 hd rfl (hl.get hx (fun q => by cases q)) k
    · cases h
  · cases h
theorem ok_lload (hr : OkR rec) {n : Nat} (hd : decode (mco m) pc = .ok (.lload n, k)) (h : (if k = 2 then ldL rec n 2 m pc ls st σ else none) = some (r, σ')) : Gm m pc ls st σ r σ' := by
  split at h
  · rename_i hk; subst hk
    unfold ldL at h
    split at h
    · rename_i x hx
      refine gm_pure (hr _ _ _ _ _ _ _ h) ?_
      intro b0 D cy av L xs p l e R s mid args below meth c n0 Z H locs lsx cells slots C hl hW hS k
      exact lv_lload C.1 C.2.1 hd (hl.get hx (fun q => by cases q)) k
    · cases h
  · cases h
theorem ok_aload_n (hr : OkR rec) {n : Fin 4} (hd : decode (mco m) pc = .ok (.aload_n n, k)) (h : (if k = 1 then ldA rec n 1 m pc ls st σ else none) = some (r, σ')) : Gm m pc ls st σ r σ' := by
  split at h
  · rename_i hk; subst hk
    unfold ldA at h
    split at h
    · rename_i x hx
      split at h
      · rename_i hlt
        refine gm_pure (hr _ _ _ _ _ _ _ h) ?_
        intro b0 D cy av L xs p l e R s mid args below meth c n0 Z H locs lsx cells slots C hl hW hS k
        obtain ⟨y, hy⟩ := cv_ref C.2.2.2.2.2.2.1 hlt
        have hg := hl.get hx (fun q => by cases q)
        rw [List.map_cons, hy] at k
        rw [hy] at hg
        exact lv_aload_n C.1 C.2.1 hd rfl hg k
      · cases h
    · cases h
  · cases h
theorem ok_aload (hr : OkR rec) {n : Nat} (hd : decode (mco m) pc = .ok (.aload n, k)) (h : (if k = 2 then ldA rec n 2 m pc ls st σ else none) = some (r, σ')) : Gm m pc ls st σ r σ' := by
  split at h
  · rename_i hk; subst hk
    unfold ldA at h
    split at h
    · rename_i x hx
      split at h
      · rename_i hlt
        refine gm_pure (hr _ _ _ _ _ _ _ h) ?_
        intro b0 D cy av L xs p l e R s mid args below meth c n0 Z H locs lsx cells slots C hl hW hS k
        obtain ⟨y, hy⟩ := cv_ref C.2.2.2.2.2.2.1 hlt
        have hg := hl.get hx (fun q => by cases q)
        rw [List.map_cons, hy] at k
        rw [hy] at hg
        exact lv_aload C.1 C.2.1 hd hg k
      · cases h
    · cases h
  · cases h
theorem ok_istore_n (hr : OkR rec) {n : Fin 4} (hd : decode (mco m) pc = .ok (.istore_n n, k)) (h : (if k = 1 then stI rec n 1 m pc ls st σ else none) = some (r, σ')) : Gm m pc ls st σ r σ' := by
  split at h
  · rename_i hk; subst hk
    unfold stI at h
    split at h
    · split at h
      · rename_i hlt
        refine gm_loc (hr _ _ _ _ _ _ _ h) ?_
        intro b0 D cy av L xs p l e R s mid args below meth c n0 Z H locs lsx cells slots C hl hW hS k
        exact lv_istore_n C.1 C.2.1 hd rfl hl.lv hlt rfl (fun lsx1 h1 => k lsx1 (Lr.of1 C.av h1))
      · cases h
    · cases h
  · cases h
theorem ok_istore (hr : OkR rec) {n : Nat} (hd : decode (mco m) pc = .ok (.istore n, k)) (h : (if k = 2 then stI rec n 2 m pc ls st σ else none) = some (r, σ')) : Gm m pc ls st σ r σ' := by
  split at h
  · rename_i hk; subst hk
    unfold stI at h
    split at h
    · split at h
      · rename_i hlt
        refine gm_loc (hr _ _ _ _ _ _ _ h) ?_
        intro b0 D cy av L xs p l e R s mid args below meth c n0 Z H locs lsx cells slots C hl hW hS k
        exact lv_istore C.1 C.2.1 hd hl.lv hlt rfl (fun lsx1 h1 => k lsx1 (Lr.of1 C.av h1))
      · cases h
    · cases h
  · cases h
theorem ok_lstore_n (hr : OkR rec) {n : Fin 4} (hd : decode (mco m) pc = .ok (.lstore_n n, k)) (h : (if k = 1 then stL rec n 1 m pc ls st σ else none) = some (r, σ')) : Gm m pc ls st σ r σ' := by
  split at h
  · rename_i hk; subst hk
    unfold stL at h
    split at h
    · split at h
      · rename_i hlt
        refine gm_loc (hr _ _ _ _ _ _ _ h) ?_
        intro b0 D cy av L xs p l e R s mid args below meth c n0 Z H locs lsx cells slots C hl hW hS k
        exact lv_lstore_n C.1 C.2.1 hd rfl hl.lv hlt rfl (fun lsx1 h1 => k lsx1 (Lr.of2 C.av h1))
      · cases h
    · cases h
  · cases h
theorem ok_lstore (hr : OkR rec) {n : Nat} (hd : decode (mco m) pc = .ok (.lstore n, k)) (h : (if k = 2 then stL rec n 2 m pc ls st σ else none) = some (r, σ')) : Gm m pc ls st σ r σ' := by
  split at h
  · rename_i hk; subst hk
    unfold stL at h
    split at h
    · split at h
      · rename_i hlt
        refine gm_loc (hr _ _ _ _ _ _ _ h) ?_
        intro b0 D cy av L xs p l e R s mid args below meth c n0 Z H locs lsx cells slots C hl hW hS k
        exact lv_lstore C.1 C.2.1 hd hl.lv hlt rfl (fun lsx1 h1 => k lsx1 (Lr.of2 C.av h1))
      · cases h
    · cases h
  · cases h
theorem ok_astore_n (hr : OkR rec) {n : Fin 4} (hd : decode (mco m) pc = .ok (.astore_n n, k)) (h : (if k = 1 then stA rec n 1 m pc ls st σ else none) = some (r, σ')) : Gm m pc ls st σ r σ' := by
  split at h
  · rename_i hk; subst hk
    unfold stA at h
    split at h
    · rename_i x r0
      split at h
      · rename_i hlt
        refine gm_loc (hr _ _ _ _ _ _ _ h) ?_
        intro b0 D cy av L xs p l e R s mid args below meth c n0 Z H locs lsx cells slots C hl hW hS k
        obtain ⟨y, hy⟩ := cv_ref C.2.2.2.2.2.2.1 hlt.2
        rw [List.map_cons, hy]
        exact lv_astore_n C.1 C.2.1 hd rfl hl.lv hlt.1 rfl (fun lsx1 h1 => k lsx1 (Lr.of1 C.av (by rw [hy]; exact h1)))
      · cases h
    · cases h
  · cases h
theorem ok_astore (hr : OkR rec) {n : Nat} (hd : decode (mco m) pc = .ok (.astore n, k)) (h : (if k = 2 then stA rec n 2 m pc ls st σ else none) = some (r, σ')) : Gm m pc ls st σ r σ' := by
  split at h
  · rename_i hk; subst hk
    unfold stA at h
    split at h
    · rename_i x r0
      split at h
      · rename_i hlt
        refine gm_loc (hr _ _ _ _ _ _ _ h) ?_
        intro b0 D cy av L xs p l e R s mid args below meth c n0 Z H locs lsx cells slots C hl hW hS k
        obtain ⟨y, hy⟩ := cv_ref C.2.2.2.2.2.2.1 hlt.2
        rw [List.map_cons, hy]
        exact lv_astore C.1 C.2.1 hd hl.lv hlt.1 rfl (fun lsx1 h1 => k lsx1 (Lr.of1 C.av (by rw [hy]; exact h1)))
      · cases h
    · cases h
  · cases h
theorem ok_iconst (hr : OkR rec) {n : Int} (hd : decode (mco m) pc = .ok (.iconst n, k)) (h : (if k = 1 then psh rec 1 (.int (Int32.ofInt n)) m pc ls st σ else none) = some (r, σ')) : Gm m pc ls st σ r σ' := by
  split at h
  · rename_i hk; subst hk
    refine gm_pure (hr _ _ _ _ _ _ _ h) ?_
    intro b0 D cy av L xs p l e R s mid args below meth c n0 Z H locs lsx cells slots C hl hW hS k
    exact lv_iconst C.1 C.2.1 hd rfl k
  · cases h
theorem ok_bipush (hr : OkR rec) {n : Int} (hd : decode (mco m) pc = .ok (.bipush n, k)) (h : (if k = 2 then psh rec 2 (.int (Int8.ofInt n).toInt32) m pc ls st σ else none) = some (r, σ')) : Gm m pc ls st σ r σ' := by
  split at h
  · rename_i hk; subst hk
    refine gm_pure (hr _ _ _ _ _ _ _ h) ?_
    intro b0 D cy av L xs p l e R s mid args below meth c n0 Z H locs lsx cells slots C hl hW hS k
    exact lv_bipush C.1 C.2.1 hd rfl k
  · cases h
theorem ok_sipush (hr : OkR rec) {n : Int} (hd : decode (mco m) pc = .ok (.sipush n, k)) (h : (if k = 3 then psh rec 3 (.int (Int16.ofInt n).toInt32) m pc ls st σ else none) = some (r, σ')) : Gm m pc ls st σ r σ' := by
  split at h
  · rename_i hk; subst hk
    refine gm_pure (hr _ _ _ _ _ _ _ h) ?_
    intro b0 D cy av L xs p l e R s mid args below meth c n0 Z H locs lsx cells slots C hl hW hS k
    exact lv_sipush C.1 C.2.1 hd rfl k
  · cases h
theorem ok_lconst (hr : OkR rec) {n : Fin 2} (hd : decode (mco m) pc = .ok (.lconst n, k)) (h : (if k = 1 then psh rec 1 (.long (Int64.ofNat (n : Nat))) m pc ls st σ else none) = some (r, σ')) : Gm m pc ls st σ r σ' := by
  split at h
  · rename_i hk; subst hk
    refine gm_pure (hr _ _ _ _ _ _ _ h) ?_
    intro b0 D cy av L xs p l e R s mid args below meth c n0 Z H locs lsx cells slots C hl hW hS k
    exact lv_lconst C.1 C.2.1 hd rfl k
  · cases h
theorem ok_iadd (hr : OkR rec) (hd : decode (mco m) pc = .ok (.iadd, k)) (h : (if k = 1 then b2I rec (fun x y => x + y) m pc ls st σ else none) = some (r, σ')) : Gm m pc ls st σ r σ' := by
  split at h
  · rename_i hk; subst hk
    unfold b2I at h
    split at h
    · refine gm_pure (hr _ _ _ _ _ _ _ h) ?_
      intro b0 D cy av L xs p l e R s mid args below meth c n0 Z H locs lsx cells slots C hl hW hS k
      exact lv_iadd C.1 C.2.1 hd k
    · cases h
  · cases h
theorem ok_isub (hr : OkR rec) (hd : decode (mco m) pc = .ok (.isub, k)) (h : (if k = 1 then b2I rec (fun x y => x - y) m pc ls st σ else none) = some (r, σ')) : Gm m pc ls st σ r σ' := by
  split at h
  · rename_i hk; subst hk
    unfold b2I at h
    split at h
    · refine gm_pure (hr _ _ _ _ _ _ _ h) ?_
      intro b0 D cy av L xs p l e R s mid args below meth c n0 Z H locs lsx cells slots C hl hW hS k
      exact lv_isub C.1 C.2.1 hd k
    · cases h
  · cases h
theorem ok_imul (hr : OkR rec) (hd : decode (mco m) pc = .ok (.imul, k)) (h : (if k = 1 then b2I rec (fun x y => x * y) m pc ls st σ else none) = some (r, σ')) : Gm m pc ls st σ r σ' := by
  split at h
  · rename_i hk; subst hk
    unfold b2I at h
    split at h
    · refine gm_pure (hr _ _ _ _ _ _ _ h) ?_
      intro b0 D cy av L xs p l e R s mid args below meth c n0 Z H locs lsx cells slots C hl hW hS k
      exact lv_imul C.1 C.2.1 hd k
    · cases h
  · cases h
theorem ok_iand (hr : OkR rec) (hd : decode (mco m) pc = .ok (.iand, k)) (h : (if k = 1 then b2I rec (fun x y => x &&& y) m pc ls st σ else none) = some (r, σ')) : Gm m pc ls st σ r σ' := by
  split at h
  · rename_i hk; subst hk
    unfold b2I at h
    split at h
    · refine gm_pure (hr _ _ _ _ _ _ _ h) ?_
      intro b0 D cy av L xs p l e R s mid args below meth c n0 Z H locs lsx cells slots C hl hW hS k
      exact lv_iand C.1 C.2.1 hd k
    · cases h
  · cases h
theorem ok_ior (hr : OkR rec) (hd : decode (mco m) pc = .ok (.ior, k)) (h : (if k = 1 then b2I rec (fun x y => x ||| y) m pc ls st σ else none) = some (r, σ')) : Gm m pc ls st σ r σ' := by
  split at h
  · rename_i hk; subst hk
    unfold b2I at h
    split at h
    · refine gm_pure (hr _ _ _ _ _ _ _ h) ?_
      intro b0 D cy av L xs p l e R s mid args below meth c n0 Z H locs lsx cells slots C hl hW hS k
      exact lv_ior C.1 C.2.1 hd k
    · cases h
  · cases h
theorem ok_ixor (hr : OkR rec) (hd : decode (mco m) pc = .ok (.ixor, k)) (h : (if k = 1 then b2I rec (fun x y => x ^^^ y) m pc ls st σ else none) = some (r, σ')) : Gm m pc ls st σ r σ' := by
  split at h
  · rename_i hk; subst hk
    unfold b2I at h
    split at h
    · refine gm_pure (hr _ _ _ _ _ _ _ h) ?_
      intro b0 D cy av L xs p l e R s mid args below meth c n0 Z H locs lsx cells slots C hl hW hS k
      exact lv_ixor C.1 C.2.1 hd k
    · cases h
  · cases h
theorem ok_ishl (hr : OkR rec) (hd : decode (mco m) pc = .ok (.ishl, k)) (h : (if k = 1 then b2I rec (fun x y => x <<< (y &&& 31)) m pc ls st σ else none) = some (r, σ')) : Gm m pc ls st σ r σ' := by
  split at h
  · rename_i hk; subst hk
    unfold b2I at h
    split at h
    · refine gm_pure (hr _ _ _ _ _ _ _ h) ?_
      intro b0 D cy av L xs p l e R s mid args below meth c n0 Z H locs lsx cells slots C hl hW hS k
      exact lv_ishl C.1 C.2.1 hd k
    · cases h
  · cases h
theorem ok_ishr (hr : OkR rec) (hd : decode (mco m) pc = .ok (.ishr, k)) (h : (if k = 1 then b2I rec (fun x y => x >>> (y &&& 31)) m pc ls st σ else none) = some (r, σ')) : Gm m pc ls st σ r σ' := by
  split at h
  · rename_i hk; subst hk
    unfold b2I at h
    split at h
    · refine gm_pure (hr _ _ _ _ _ _ _ h) ?_
      intro b0 D cy av L xs p l e R s mid args below meth c n0 Z H locs lsx cells slots C hl hW hS k
      exact lv_ishr C.1 C.2.1 hd k
    · cases h
  · cases h
theorem ok_iushr (hr : OkR rec) (hd : decode (mco m) pc = .ok (.iushr, k)) (h : (if k = 1 then b2I rec (fun x y => (x.toUInt32 >>> (y.toUInt32 &&& Int32.toUInt32 31)).toInt32) m pc ls st σ else none) = some (r, σ')) : Gm m pc ls st σ r σ' := by
  split at h
  · rename_i hk; subst hk
    unfold b2I at h
    split at h
    · refine gm_pure (hr _ _ _ _ _ _ _ h) ?_
      intro b0 D cy av L xs p l e R s mid args below meth c n0 Z H locs lsx cells slots C hl hW hS k
      exact lv_iushr C.1 C.2.1 hd rfl k
    · cases h
  · cases h
theorem ok_ladd (hr : OkR rec) (hd : decode (mco m) pc = .ok (.ladd, k)) (h : (if k = 1 then b2L rec (fun x y => x + y) m pc ls st σ else none) = some (r, σ')) : Gm m pc ls st σ r σ' := by
  split at h
  · rename_i hk; subst hk
    unfold b2L at h
    split at h
    · refine gm_pure (hr _ _ _ _ _ _ _ h) ?_
      intro b0 D cy av L xs p l e R s mid args below meth c n0 Z H locs lsx cells slots C hl hW hS k
      exact lv_ladd C.1 C.2.1 hd k
    · cases h
  · cases h
theorem ok_lmul (hr : OkR rec) (hd : decode (mco m) pc = .ok (.lmul, k)) (h : (if k = 1 then b2L rec (fun x y => x * y) m pc ls st σ else none) = some (r, σ')) : Gm m pc ls st σ r σ' := by
  split at h
  · rename_i hk; subst hk
    unfold b2L at h
    split at h
    · refine gm_pure (hr _ _ _ _ _ _ _ h) ?_
      intro b0 D cy av L xs p l e R s mid args below meth c n0 Z H locs lsx cells slots C hl hW hS k
      exact lv_lmul C.1 C.2.1 hd k
    · cases h
  · cases h
theorem ok_irem (hr : OkR rec) (hd : decode (mco m) pc = .ok (.irem, k)) (h : (if k = 1 then (match st with
    | .int y :: .int x :: r => if ¬ y = 0 then rec m (pc + 1) ls (.int (x - x / y * y) :: r) σ else none
    | _ => none) else none) = some (r, σ')) : Gm m pc ls st σ r σ' := by
  split at h
  · rename_i hk; subst hk
    split at h
    · split at h
      · rename_i hne
        refine gm_pure (hr _ _ _ _ _ _ _ h) ?_
        intro b0 D cy av L xs p l e R s mid args below meth c n0 Z H locs lsx cells slots C hl hW hS k
        exact lv_irem C.1 C.2.1 hd hne k
      · cases h
    · cases h
  · cases h
theorem ok_ldiv (hr : OkR rec) (hd : decode (mco m) pc = .ok (.ldiv, k)) (h : (if k = 1 then (match st with
    | .long y :: .long x :: r => if ¬ y = 0 then rec m (pc + 1) ls (.long (x / y) :: r) σ else none
    | _ => none) else none) = some (r, σ')) : Gm m pc ls st σ r σ' := by
  split at h
  · rename_i hk; subst hk
    split at h
    · split at h
      · rename_i hne
        refine gm_pure (hr _ _ _ _ _ _ _ h) ?_
        intro b0 D cy av L xs p l e R s mid args below meth c n0 Z H locs lsx cells slots C hl hW hS k
        exact lv_ldiv C.1 C.2.1 hd hne k
      · cases h
    · cases h
  · cases h
theorem ok_lrem (hr : OkR rec) (hd : decode (mco m) pc = .ok (.lrem, k)) (h : (if k = 1 then (match st with
    | .long y :: .long x :: r => if ¬ y = 0 then rec m (pc + 1) ls (.long (x - x / y * y) :: r) σ else none
    | _ => none) else none) = some (r, σ')) : Gm m pc ls st σ r σ' := by
  split at h
  · rename_i hk; subst hk
    split at h
    · split at h
      · rename_i hne
        refine gm_pure (hr _ _ _ _ _ _ _ h) ?_
        intro b0 D cy av L xs p l e R s mid args below meth c n0 Z H locs lsx cells slots C hl hW hS k
        exact lv_lrem C.1 C.2.1 hd hne k
      · cases h
    · cases h
  · cases h
theorem ok_lcmp (hr : OkR rec) (hd : decode (mco m) pc = .ok (.lcmp, k)) (h : (if k = 1 then (match st with
    | .long y :: .long x :: r => rec m (pc + 1) ls (.int (lg_cmp x y) :: r) σ
    | _ => none) else none) = some (r, σ')) : Gm m pc ls st σ r σ' := by
  split at h
  · rename_i hk; subst hk
    split at h
    · refine gm_pure (hr _ _ _ _ _ _ _ h) ?_
      intro b0 D cy av L xs p l e R s mid args below meth c n0 Z H locs lsx cells slots C hl hW hS k
      exact W.lcmp C.1 C.2.1 hd k
    · cases h
  · cases h
theorem ok_i2l (hr : OkR rec) (hd : decode (mco m) pc = .ok (.i2l, k)) (h : (if k = 1 then (match st with
    | .int x :: r => rec m (pc + 1) ls (.long x.toInt64 :: r) σ
    | _ => none) else none) = some (r, σ')) : Gm m pc ls st σ r σ' := by
  split at h
  · rename_i hk; subst hk
    split at h
    · refine gm_pure (hr _ _ _ _ _ _ _ h) ?_
      intro b0 D cy av L xs p l e R s mid args below meth c n0 Z H locs lsx cells slots C hl hW hS k
      exact lv_i2l C.1 C.2.1 hd rfl k
    · cases h
  · cases h
theorem ok_i2b (hr : OkR rec) (hd : decode (mco m) pc = .ok (.i2b, k)) (h : (if k = 1 then (match st with
    | .int x :: r => rec m (pc + 1) ls (.int x.toInt8.toInt32 :: r) σ
    | _ => none) else none) = some (r, σ')) : Gm m pc ls st σ r σ' := by
  split at h
  · rename_i hk; subst hk
    split at h
    · refine gm_pure (hr _ _ _ _ _ _ _ h) ?_
      intro b0 D cy av L xs p l e R s mid args below meth c n0 Z H locs lsx cells slots C hl hW hS k
      exact lv_i2b C.1 C.2.1 hd rfl k
    · cases h
  · cases h
theorem ok_i2c (hr : OkR rec) (hd : decode (mco m) pc = .ok (.i2c, k)) (h : (if k = 1 then (match st with
    | .int x :: r => rec m (pc + 1) ls (.int (x.toUInt32 % 65536).toInt32 :: r) σ
    | _ => none) else none) = some (r, σ')) : Gm m pc ls st σ r σ' := by
  split at h
  · rename_i hk; subst hk
    split at h
    · refine gm_pure (hr _ _ _ _ _ _ _ h) ?_
      intro b0 D cy av L xs p l e R s mid args below meth c n0 Z H locs lsx cells slots C hl hW hS k
      exact lv_i2c C.1 C.2.1 hd rfl k
    · cases h
  · cases h
theorem ok_dup (hr : OkR rec) (hd : decode (mco m) pc = .ok (.dup, k)) (h : (if k = 1 then (match st with
    | .int x :: r => rec m (pc + 1) ls (.int x :: .int x :: r) σ
    | .ref x :: r => if isR x then rec m (pc + 1) ls (.ref x :: .ref x :: r) σ else none
    | _ => none) else none) = some (r, σ')) : Gm m pc ls st σ r σ' := by
  split at h
  · rename_i hk; subst hk
    split at h
    · refine gm_pure (hr _ _ _ _ _ _ _ h) ?_
      intro b0 D cy av L xs p l e R s mid args below meth c n0 Z H locs lsx cells slots C hl hW hS k
      exact lv_dup C.1 C.2.1 hd rfl k
    · split at h
      · rename_i hlt
        refine gm_pure (hr _ _ _ _ _ _ _ h) ?_
        intro b0 D cy av L xs p l e R s mid args below meth c n0 Z H locs lsx cells slots C hl hW hS k
        obtain ⟨y, hy⟩ := cv_ref C.2.2.2.2.2.2.1 hlt
        simp only [List.map_cons, hy] at k ⊢
        exact lv_dup C.1 C.2.1 hd rfl k
      · cases h
    · cases h
  · cases h
theorem ok_dup2 (hr : OkR rec) (hd : decode (mco m) pc = .ok (.dup2, k)) (h : (if k = 1 then (match st with
    | .int x :: .ref y :: r => if isR y then rec m (pc + 1) ls (.int x :: .ref y :: .int x :: .ref y :: r) σ else none
    | _ => none) else none) = some (r, σ')) : Gm m pc ls st σ r σ' := by
  split at h
  · rename_i hk; subst hk
    split at h
    · split at h
      · rename_i hlt
        refine gm_pure (hr _ _ _ _ _ _ _ h) ?_
        intro b0 D cy av L xs p l e R s mid args below meth c n0 Z H locs lsx cells slots C hl hW hS k
        obtain ⟨y, hy⟩ := cv_ref C.2.2.2.2.2.2.1 hlt
        simp only [List.map_cons, hy] at k ⊢
        exact lv_dup2_11 C.1 C.2.1 hd rfl rfl k
      · cases h
    · cases h
  · cases h
theorem ok_pop (hr : OkR rec) (hd : decode (mco m) pc = .ok (.pop, k)) (h : (if k = 1 then (match st with
    | .int _ :: r => rec m (pc + 1) ls r σ
    | _ => none) else none) = some (r, σ')) : Gm m pc ls st σ r σ' := by
  split at h
  · rename_i hk; subst hk
    split at h
    · refine gm_pure (hr _ _ _ _ _ _ _ h) ?_
      intro b0 D cy av L xs p l e R s mid args below meth c n0 Z H locs lsx cells slots C hl hW hS k
      exact lv_pop C.1 C.2.1 hd rfl k
    · cases h
  · cases h
theorem ok_goto (hr : OkR rec) {off : Int} (hd : decode (mco m) pc = .ok (.goto off, k)) (h : (if k = 3 then (jt pc off).bind (fun t => rec m t ls st σ) else none) = some (r, σ')) : Gm m pc ls st σ r σ' := by
  split at h
  · rename_i hk; subst hk
    cases hj : jt pc off with
    | none => rw [hj] at h; cases h
    | some t =>
      rw [hj] at h
      refine gm_pure (hr _ _ _ _ _ _ _ h) ?_
      intro b0 D cy av L xs p l e R s mid args below meth c n0 Z H locs lsx cells slots C hl hW hS k
      exact lv_goto C.1 C.2.1 hd (jt_spec hj) k
  · cases h
theorem ok_ifCond (hr : OkR rec) {c0 : Jvm.ClassFile.Cond} {off : Int} (hd : decode (mco m) pc = .ok (.ifCond c0 off, k)) (h : (if k = 3 then (match st with
    | .int x :: r => brn rec (cz c0 x) off m pc ls r σ
    | _ => none) else none) = some (r, σ')) : Gm m pc ls st σ r σ' := by
  split at h
  · rename_i hk; subst hk
    split at h
    · rename_i x r0
      unfold brn at h
      cases hj : jt pc off with
      | none => rw [hj] at h; cases h
      | some t =>
        rw [hj] at h
        dsimp only [Option.bind_some] at h
        split at h
        · rename_i hb
          refine gm_pure (hr _ _ _ _ _ _ _ h) ?_
          intro b0 D cy av L xs p l e R s mid args below meth c n0 Z H locs lsx cells slots C hl hW hS k
          cases c0 <;> simp only [cz, decide_eq_true_eq] at hb
          · exact lv_if_eq C.1 C.2.1 hd (jt_spec hj) (fun _ => k) (fun q => absurd hb q)
          · exact lv_if_ne C.1 C.2.1 hd (jt_spec hj) (fun _ => k) (fun q => absurd q hb)
          · exact lv_if_lt C.1 C.2.1 hd (jt_spec hj) (fun _ => k) (fun q => absurd hb q)
          · exact lv_if_ge C.1 C.2.1 hd (jt_spec hj) (fun _ => k) (fun q => absurd hb q)
          · exact lv_if_gt C.1 C.2.1 hd (jt_spec hj) (fun _ => k) (fun q => absurd hb q)
          · exact lv_if_le C.1 C.2.1 hd (jt_spec hj) (fun _ => k) (fun q => absurd hb q)
        · rename_i hb
          refine gm_pure (hr _ _ _ _ _ _ _ h) ?_
          intro b0 D cy av L xs p l e R s mid args below meth c n0 Z H locs lsx cells slots C hl hW hS k
          cases c0 <;> simp only [cz, decide_eq_true_eq] at hb
          · exact lv_if_eq C.1 C.2.1 hd (jt_spec hj) (fun q => absurd q hb) (fun _ => k)
          · exact lv_if_ne C.1 C.2.1 hd (jt_spec hj) (fun q => absurd q hb) (fun _ => k)
          · exact lv_if_lt C.1 C.2.1 hd (jt_spec hj) (fun q => absurd q hb) (fun _ => k)
          · exact lv_if_ge C.1 C.2.1 hd (jt_spec hj) (fun q => absurd q hb) (fun _ => k)
          · exact lv_if_gt C.1 C.2.1 hd (jt_spec hj) (fun q => absurd q hb) (fun _ => k)
          · exact lv_if_le C.1 C.2.1 hd (jt_spec hj) (fun q => absurd q hb) (fun _ => k)
    · cases h
  · cases h
theorem ok_if_icmp (hr : OkR rec) {c0 : Jvm.ClassFile.Cond} {off : Int} (hd : decode (mco m) pc = .ok (.if_icmp c0 off, k)) (h : (if k = 3 then (match st with
    | .int y :: .int x :: r => brn rec (cc2 c0 x y) off m pc ls r σ
    | _ => none) else none) = some (r, σ')) : Gm m pc ls st σ r σ' := by
  split at h
  · rename_i hk; subst hk
    split at h
    · rename_i y x r0
      unfold brn at h
      cases hj : jt pc off with
      | none => rw [hj] at h; cases h
      | some t =>
        rw [hj] at h
        dsimp only [Option.bind_some] at h
        split at h
        · rename_i hb
          refine gm_pure (hr _ _ _ _ _ _ _ h) ?_
          intro b0 D cy av L xs p l e R s mid args below meth c n0 Z H locs lsx cells slots C hl hW hS k
          cases c0 <;> simp only [cc2, decide_eq_true_eq] at hb
          · exact lv_icmp_eq C.1 C.2.1 hd (jt_spec hj) (fun _ => k) (fun q => absurd hb q)
          · exact lv_icmp_ne C.1 C.2.1 hd (jt_spec hj) (fun _ => k) (fun q => absurd q hb)
          · exact lv_icmp_lt C.1 C.2.1 hd (jt_spec hj) (fun _ => k) (fun q => absurd hb q)
          · exact lv_icmp_ge C.1 C.2.1 hd (jt_spec hj) (fun _ => k) (fun q => absurd hb q)
          · exact lv_icmp_gt C.1 C.2.1 hd (jt_spec hj) (fun _ => k) (fun q => absurd hb q)
          · exact lv_icmp_le C.1 C.2.1 hd (jt_spec hj) (fun _ => k) (fun q => absurd hb q)
        · rename_i hb
          refine gm_pure (hr _ _ _ _ _ _ _ h) ?_
          intro b0 D cy av L xs p l e R s mid args below meth c n0 Z H locs lsx cells slots C hl hW hS k
          cases c0 <;> simp only [cc2, decide_eq_true_eq] at hb
          · exact lv_icmp_eq C.1 C.2.1 hd (jt_spec hj) (fun q => absurd q hb) (fun _ => k)
          · exact lv_icmp_ne C.1 C.2.1 hd (jt_spec hj) (fun q => absurd q hb) (fun _ => k)
          · exact lv_icmp_lt C.1 C.2.1 hd (jt_spec hj) (fun q => absurd q hb) (fun _ => k)
          · exact lv_icmp_ge C.1 C.2.1 hd (jt_spec hj) (fun q => absurd q hb) (fun _ => k)
          · exact lv_icmp_gt C.1 C.2.1 hd (jt_spec hj) (fun q => absurd q hb) (fun _ => k)
          · exact lv_icmp_le C.1 C.2.1 hd (jt_spec hj) (fun q => absurd q hb) (fun _ => k)
    · cases h
  · cases h
theorem ok_tableswitch (hr : OkR rec) {d lo hi : Int} {os : Array Int} (hd : decode (mco m) pc = .ok (.tableswitch d lo hi os, k)) (h : (match st with
    | .int x :: r => if x.toInt < lo ∨ hi < x.toInt then (jt pc d).bind (fun t => rec m t ls r σ) else (os[(x.toInt - lo).toNat]?).bind (fun off => (jt pc off).bind (fun t => rec m t ls r σ))
    | _ => none) = some (r, σ')) : Gm m pc ls st σ r σ' := by
  split at h
  · rename_i x r0
    split at h
    · rename_i hb
      cases hj : jt pc d with
      | none => rw [hj] at h; cases h
      | some t =>
        rw [hj] at h
        refine gm_pure (hr _ _ _ _ _ _ _ h) ?_
        intro b0 D cy av L xs p l e R s mid args below meth c n0 Z H locs lsx cells slots C hl hW hS k
        exact lv_tableOut C.1 C.2.1 hd hb (jt_spec hj) k
    · rename_i hb
      cases ho : os[(x.toInt - lo).toNat]? with
      | none => rw [ho] at h; cases h
      | some off =>
        rw [ho] at h
        dsimp only [Option.bind_some] at h
        cases hj : jt pc off with
        | none => rw [hj] at h; cases h
        | some t =>
          rw [hj] at h
          refine gm_pure (hr _ _ _ _ _ _ _ h) ?_
          intro b0 D cy av L xs p l e R s mid args below meth c n0 Z H locs lsx cells slots C hl hW hS k
          exact lv_tableIn C.1 C.2.1 hd (fun q => hb (Or.inl q)) (fun q => hb (Or.inr q)) ho (jt_spec hj) k
  · cases h
end OPS
end
section
/-! SOUNDNESS, 3: what the tables say, and instructions on cells -/
theorem fl_spec {o i x y z : Nat} (h : fl o i = some (x, y, z)) : ∃ g, okF (o, i, x, y, z, g) = true := by
  unfold fl at h
  obtain ⟨e, he, hq⟩ := Option.map_eq_some_iff.mp h
  have h1 := List.find?_some he
  have h2 := List.mem_of_find?_eq_some he
  have h3 := List.all_eq_true.mp flt_ok e h2
  simp only [Bool.and_eq_true, beq_iff_eq] at h1
  obtain ⟨a, b, c, d, f, g⟩ := e
  cases hq
  obtain ⟨rfl, rfl⟩ := h1
  exact ⟨g, h3⟩
theorem ck_spec {o i x y z : Nat} (h : ck o i = some (x, y, z)) : ∃ g, okC (o, i, x, y, z, g) = true := by
  unfold ck at h
  obtain ⟨e, he, hq⟩ := Option.map_eq_some_iff.mp h
  have h1 := List.find?_some he
  have h2 := List.mem_of_find?_eq_some he
  have h3 := List.all_eq_true.mp ctl_ok e h2
  simp only [Bool.and_eq_true, beq_iff_eq] at h1
  obtain ⟨a, b, c, d, f, g⟩ := e
  cases hq
  obtain ⟨rfl, rfl⟩ := h1
  exact ⟨g, h3⟩
theorem pk_spec {c t : Nat} (h : pk c = some t) : ∃ g, okP (c, t, g) = true := by
  unfold pk at h
  obtain ⟨e, he, hq⟩ := Option.map_eq_some_iff.mp h
  have h1 := List.find?_some he
  have h2 := List.mem_of_find?_eq_some he
  have h3 := List.all_eq_true.mp plt_ok e h2
  simp only [beq_iff_eq] at h1
  obtain ⟨a, b, g⟩ := e
  cases hq
  subst h1
  exact ⟨g, h3⟩
theorem nwc_spec {o i c : Nat} (h : nwc o i = some c) : Cond.classLink (Rc o) i (Rc c) ∈ Big ∧ Cond.instantiable (Rc c) (nf c) ∈ Big ∧ Cond.initialized (Rc c) ∈ Big ∧ c < 13 := by
  unfold nwc at h
  obtain ⟨e, he, hq⟩ := Option.map_eq_some_iff.mp h
  have h1 := List.find?_some he
  have h2 := List.mem_of_find?_eq_some he
  have h3 := List.all_eq_true.mp nwl_ok e h2
  simp only [Bool.and_eq_true, beq_iff_eq] at h1
  obtain ⟨a, b, c', d, f, g⟩ := e
  cases hq
  obtain ⟨rfl, rfl⟩ := h1
  simp only [okN, Bool.and_eq_true, decide_eq_true_eq] at h3
  exact ⟨okw_in h3.1.1.1, okw_in h3.1.1.2, okw_in h3.1.2, h3.2⟩
theorem cs_spec {o i : Nat} {v : Value} (h : cs o i = some v) : (∃ x, v = .int x ∧ Cond.constant (Rc o) i x ∈ Big) ∨ (∃ x, v = .long x ∧ Cond.constantLong (Rc o) i x ∈ Big) ∨ ∃ j : Nat, v = .ref (1010 + j) ∧ j < 5 ∧ o = 6 ∧ (sti.getD j (0, "")).1 = i := by
  unfold cs at h
  obtain ⟨e, he, hq⟩ := Option.map_eq_some_iff.mp h
  have h1 := List.find?_some he
  have h2 := List.mem_of_find?_eq_some he
  have h3 := List.all_eq_true.mp csl_ok e h2
  simp only [Bool.and_eq_true, beq_iff_eq] at h1
  obtain ⟨a, b, c', d, f⟩ := e
  obtain ⟨rfl, rfl⟩ := h1
  dsimp only at hq
  match c', h3, hq with
  | 0, h3, hq => exact Or.inl ⟨_, hq.symm, okw_in h3⟩
  | 1, h3, hq => exact Or.inr (Or.inl ⟨_, hq.symm, okw_in h3⟩)
  | 2, h3, hq =>
    simp only [okS, Bool.and_eq_true, decide_eq_true_eq] at h3
    obtain ⟨⟨⟨h4, h5⟩, h6⟩, h7⟩ := h3
    have hj : d.toNat - 1010 < 5 := by omega
    have he : 1010 + (d.toNat - 1010) = d.toNat := by omega
    refine Or.inr (Or.inr ⟨d.toNat - 1010, ?_, hj, h4, h7⟩)
    rw [he, ← hq]
    simp
  | n + 3, h3, hq => simp [okS] at h3
theorem cl_get : ∀ c, c < 13 → vwCl[c]? = some (Rc c, Tc c, nf c) := by
  intro c hc
  match c, hc with
  | 0, _ => rfl
  | 1, _ => rfl
  | 2, _ => rfl
  | 3, _ => rfl
  | 4, _ => rfl
  | 5, _ => rfl
  | 6, _ => rfl
  | 7, _ => rfl
  | 8, _ => rfl
  | 9, _ => rfl
  | 10, _ => rfl
  | 11, _ => rfl
  | 12, _ => rfl
  | n + 13, h => omega
theorem lay_in : ∀ c, c < 13 → ∀ w ∈ u_ws (Rc c) (Tc c) (nf c), w ∈ Big := by
  intro c hc w hw
  have h := List.all_eq_true.mp (List.all_eq_true.mp lays_ok c (List.mem_range.mpr hc)) w hw
  simp only [Bool.and_eq_true, decide_eq_true_eq] at h
  exact List.mem_filter.mpr ⟨h.1, h.2⟩
theorem nm_c : ∀ c, c < 13 → ∀ a, a < nf c → ∀ b, b < nf c → a ≠ b → (Tc c a).2.1 ≠ (Tc c b).2.1 := by
  intro c hc
  match c, hc with
  | 0, _ => exact nmX0
  | 1, _ => exact nmX1
  | 2, _ => exact nmX2
  | 3, _ => exact nmX3
  | 4, _ => exact nmX4
  | 5, _ => exact nmX5
  | 6, _ => exact nmX6
  | 7, _ => exact nmX7
  | 8, _ => exact nmX8
  | 9, _ => exact nmX9
  | 10, _ => exact nmX10
  | 11, _ => exact nmX11
  | 12, _ => exact nmX12
  | n + 13, h => omega
theorem ty_c : ∀ c, c < 13 → ∀ k, k < nf c → parseFieldDescriptor (Tc c k).2.2.1 = some (tyc c k) := by
  intro c hc
  match c, hc with
  | 0, _ => exact tyX0_ok
  | 1, _ => exact tyX1_ok
  | 2, _ => exact tyX2_ok
  | 3, _ => exact tyX3_ok
  | 4, _ => exact tyX4_ok
  | 5, _ => exact tyX5_ok
  | 6, _ => exact tyX6_ok
  | 7, _ => exact tyX7_ok
  | 8, _ => exact tyX8_ok
  | 9, _ => exact tyX9_ok
  | 10, _ => exact tyX10_ok
  | 11, _ => exact tyX11_ok
  | 12, _ => exact tyX12_ok
  | n + 13, h => omega
/-- kinds of fields and their types -/
def okT (c k : Nat) : Bool := match ft c k with
  | 0 => decide (tyc c k = .int)
  | 1 => decide (tyc c k = .long)
  | 2 => (match tyc c k with
    | .object _ => true
    | .array _ => true
    | _ => false)
  | _ => false
theorem okT_all : (List.range 13).all (fun c => (List.range (nf c)).all (fun k => okT c k)) = true := by decide +kernel
theorem okT_at {c k : Nat} (hc : c < 13) (hk : k < nf c) : okT c k = true := List.all_eq_true.mp (List.all_eq_true.mp okT_all c (List.mem_range.mpr hc)) k (List.mem_range.mpr hk)
theorem ft_0 {c k : Nat} (hc : c < 13) (hk : k < nf c) (h : ft c k = 0) : tyc c k = .int := by
  have := okT_at hc hk
  simpa [okT, h] using this
theorem ft_1 {c k : Nat} (hc : c < 13) (hk : k < nf c) (h : ft c k = 1) : tyc c k = .long := by
  have := okT_at hc hk
  simpa [okT, h] using this
theorem ft_2 {c k : Nat} (hc : c < 13) (hk : k < nf c) (h : ft c k = 2) : (∃ n, tyc c k = .object n) ∨ ∃ t, tyc c k = .array t := by
  have := okT_at hc hk
  simp only [okT, h] at this
  cases ht : tyc c k <;> simp [ht] at this <;> simp
theorem ft_3 {c k : Nat} (hc : c < 13) (hk : k < nf c) : ft c k = 0 ∨ ft c k = 1 ∨ ft c k = 2 := by
  have := okT_at hc hk
  unfold okT at this
  split at this
  · exact Or.inl (by assumption)
  · exact Or.inr (Or.inl (by assumption))
  · exact Or.inr (Or.inr (by assumption))
  · cases this
theorem rf_lt (a k : Nat) : rf a k < 100 := by
  unfold rf
  rw [List.getD_eq_getElem?_getD, List.getD_eq_getElem?_getD]
  cases h : rft[a]? with
  | none => simp
  | some row =>
    simp only [Option.getD_some]
    cases h2 : row[k]? with
    | none => simp
    | some x =>
      have h3 := List.all_eq_true.mp (List.all_eq_true.mp rft_ok row (List.mem_of_getElem? h)) x (List.mem_of_getElem? h2)
      simpa using h3
theorem isA_spec {σ : Sto} {a k : Nat} (h : isA σ a k = true) : a < σ.1 ∧ (tg a).1 = k := by
  simpa [isA] using h
theorem cv_own {b0 : Nat} {av : Nat → Value} {a : Nat} (h : a < 1000) : cv b0 av (.ref a) = .ref (b0 + a) := by simp [cv, h]
theorem ce_obj {b0 : Nat} {cy : Nat → ClassId} {σ : Sto} {a c : Nat} (h : (tg a).1 = c) (hc : c < 13) : ce b0 cy σ a = .inr (c, (List.range (nf c)).map (fvc b0 σ a c)) := by
  subst h
  simp [ce, hc]
theorem ce_arr {b0 : Nat} {cy : Nat → ClassId} {σ : Sto} {a c : Nat} (h : (tg a).1 = c) (h1 : ¬ c < 13) (h2 : c < 23) : ce b0 cy σ a = .inl (cy c, (tg a).2, .inl (σ.2.2.1 a)) := by
  subst h
  simp [ce, h1, h2]
theorem ce_ref {b0 : Nat} {cy : Nat → ClassId} {σ : Sto} {a c : Nat} (h : (tg a).1 = c) (h1 : ¬ c < 13) (h2 : ¬ c < 23) : ce b0 cy σ a = .inl (cy c, (tg a).2, .inr (.inr (.inr (.inr (fun j => if σ.2.1 a j = true then some (b0 + rf a j) else none))))) := by
  subst h
  simp [ce, h1, h2]
theorem fvc_congr {b0 : Nat} {σ σ' : Sto} {a c k : Nat} (h1 : σ'.2.1 a k = σ.2.1 a k) (h2 : σ'.2.2.1 a k = σ.2.2.1 a k) (h3 : σ'.2.2.2 a k = σ.2.2.2 a k) : fvc b0 σ' a c k = fvc b0 σ a c k := by
  unfold fvc
  rw [h1, h2, h3]
theorem ce_congr {b0 : Nat} {cy : Nat → ClassId} {σ σ' : Sto} {a : Nat} (h1 : σ'.2.1 a = σ.2.1 a) (h2 : σ'.2.2.1 a = σ.2.2.1 a) (h3 : σ'.2.2.2 a = σ.2.2.2 a) : ce b0 cy σ' a = ce b0 cy σ a := by
  have e : fvc b0 σ' a (tg a).1 = fvc b0 σ a (tg a).1 := funext fun k => fvc_congr (congrFun h1 k) (congrFun h2 k) (congrFun h3 k)
  unfold ce
  rw [e, h2, h1]
theorem fval_cv {b0 : Nat} {av : Nat → Value} {σ : Sto} {a c k : Nat} {v : Value} (h : fval σ a c k = some v) : cv b0 av v = fvc b0 σ a c k := by
  unfold fval at h
  split at h
  · rename_i h2
    cases h; simp [fvc, h2, cv]
  · rename_i h2
    cases h; simp [fvc, h2, cv]
  · rename_i h2
    split at h
    · rename_i h3
      cases h
      have := rf_lt a k
      simp [fvc, h2, h3, cv, show rf a k < 1000 by omega]
    · cases h
  · cases h
theorem wr_cell {b0 : Nat} {D : va_G} {cy : Nat → ClassId} {L : Nat} {xs : Nat → Int32} {σ : Sto} {H : Heap} (hW : Wr b0 D cy L xs σ H) {a : Nat} (h : a < σ.1) : a < 1000 := by
  have := hW.2.1
  omega
theorem sI_ce_o {b0 : Nat} {cy : Nat → ClassId} {σ : Sto} {a b j : Nat} {x : Int32} (h : b ≠ a) : ce b0 cy (sI σ a j x) b = ce b0 cy σ b := ce_congr rfl (va_up_ne _ _ h) rfl
theorem sL_ce_o {b0 : Nat} {cy : Nat → ClassId} {σ : Sto} {a b j : Nat} {x : Int64} (h : b ≠ a) : ce b0 cy (sL σ a j x) b = ce b0 cy σ b := ce_congr rfl rfl (va_up_ne _ _ h)
theorem sB_ce_o {b0 : Nat} {cy : Nat → ClassId} {σ : Sto} {a b j : Nat} (h : b ≠ a) : ce b0 cy (sB σ a j) b = ce b0 cy σ b := ce_congr (va_up_ne _ _ h) rfl rfl
theorem map_set {b0 : Nat} {σ σ' : Sto} {a c j : Nat} {v : Value} (hj : j < nf c) (h1 : fvc b0 σ' a c j = v) (h2 : ∀ k, k < nf c → k ≠ j → fvc b0 σ' a c k = fvc b0 σ a c k) : (List.range (nf c)).map (fvc b0 σ' a c) = ((List.range (nf c)).map (fvc b0 σ a c)).set j v := by
  apply List.ext_getElem?
  intro i
  rw [List.getElem?_set]
  by_cases hi : i < nf c
  · by_cases e : j = i
    · subst e
      simp [hj, h1]
    · rw [if_neg e]
      simp [hi, h2 i hi (fun q => e q.symm)]
  · by_cases e : j = i
    · omega
    · simp [hi, e]
theorem sI_ce {b0 : Nat} {cy : Nat → ClassId} {σ : Sto} {a c j : Nat} {x : Int32} (h : (tg a).1 = c) (hc : c < 13) (hj : j < nf c) (hf : ft c j = 0) : ce b0 cy (sI σ a j x) a = .inr (c, ((List.range (nf c)).map (fvc b0 σ a c)).set j (.int x)) := by
  rw [ce_obj h hc, map_set (v := .int x) (σ := σ) hj]
  · simp [fvc, hf, sI, va_up, upd]
  · intro k hk hne
    exact fvc_congr rfl (by simp [sI, va_up, upd, hne]) rfl
theorem sL_ce {b0 : Nat} {cy : Nat → ClassId} {σ : Sto} {a c j : Nat} {x : Int64} (h : (tg a).1 = c) (hc : c < 13) (hj : j < nf c) (hf : ft c j = 1) : ce b0 cy (sL σ a j x) a = .inr (c, ((List.range (nf c)).map (fvc b0 σ a c)).set j (.long x)) := by
  rw [ce_obj h hc, map_set (v := .long x) (σ := σ) hj]
  · simp [fvc, hf, sL, va_up]
  · intro k hk hne
    exact fvc_congr rfl rfl (by simp [sL, va_up, hne])
theorem sB_ce {b0 : Nat} {cy : Nat → ClassId} {σ : Sto} {a c j : Nat} (h : (tg a).1 = c) (hc : c < 13) (hj : j < nf c) (hf : ft c j = 2) : ce b0 cy (sB σ a j) a = .inr (c, ((List.range (nf c)).map (fvc b0 σ a c)).set j (.ref (b0 + rf a j))) := by
  rw [ce_obj h hc, map_set (v := .ref (b0 + rf a j)) (σ := σ) hj]
  · simp [fvc, hf, sB, va_up]
  · intro k hk hne
    exact fvc_congr (by simp [sB, va_up, hne]) rfl rfl
theorem sI_ca {b0 : Nat} {cy : Nat → ClassId} {σ : Sto} {a c j : Nat} {x : Int32} (h : (tg a).1 = c) (h1 : ¬ c < 13) (h2 : c < 23) : ce b0 cy (sI σ a j x) a = .inl (cy c, (tg a).2, .inl (upd (σ.2.2.1 a) j x)) := by
  rw [ce_arr h h1 h2]
  simp [sI, va_up]
theorem sB_ca {b0 : Nat} {cy : Nat → ClassId} {σ : Sto} {a c j : Nat} (h : (tg a).1 = c) (h1 : ¬ c < 13) (h2 : ¬ c < 23) : ce b0 cy (sB σ a j) a = .inl (cy c, (tg a).2, .inr (.inr (.inr (.inr (va_up (fun j => if σ.2.1 a j = true then some (b0 + rf a j) else none) j (some (b0 + rf a j))))))) := by
  rw [ce_ref h h1 h2]
  have e : (fun k => if (sB σ a j).2.1 a k = true then some (b0 + rf a k) else none) = va_up (fun j => if σ.2.1 a j = true then some (b0 + rf a j) else none) j (some (b0 + rf a j)) := by
    funext k
    by_cases e : k = j
    · subst e; simp [sB, va_up]
    · simp [sB, va_up, e]
  rw [e]
/-- the world behind a store -/
theorem wr_set {b0 : Nat} {D : va_G} {cy : Nat → ClassId} {L : Nat} {xs : Nat → Int32} {σ σ' : Sto} {H1 : Heap} {a : Nat} {e : va_E} (h0 : σ.1 ≤ 100 ∧ (σ.2.1 999 0 = true → σ.2.2.1 999 0 = nI L ∧ σ.2.2.1 1000 = xs)) (ha : a < σ.1) (hn : σ'.1 = σ.1) (he : ce b0 cy σ' a = e) (ho : ∀ b, b ≠ a → ce b0 cy σ' b = ce b0 cy σ b) (hI : ∀ b, b ≠ a → σ'.2.2.1 b = σ.2.2.1 b) (hB : ∀ b, b ≠ a → σ'.2.1 b = σ.2.1 b) (hP : va_P D vwCl ((wl b0 cy σ).set a (b0 + a, e)) H1) : Wr b0 D cy L xs σ' H1 := by
  rw [wl_set hn he (fun b _ h => ho b h)] at hP
  refine ⟨hP, by omega, fun hf => ?_⟩
  rw [hB 999 (by omega)] at hf
  rw [hI 999 (by omega), hI 1000 (by omega)]
  exact h0.2 hf
theorem gm_heap {m pc pc1 : Nat} {ls st st1 : Vs} {σ σ1 : Sto} {r : Option Value} {σ' : Sto} (hg : Gm m pc1 ls st1 σ1 r σ') (hn : σ1.1 = σ.1)
    (step : ∀ (b0 : Nat) (D : va_G) (cy : Nat → ClassId) (av : Nat → Value) (L : Nat) (xs : Nat → Int32) (p : Program) (l : Launch) (e : Env) (R : Room) (s : State) (mid : MethodId) (args : Array Value) (below : List Frame) (meth : Method) (c : Code) (n0 : Nat) (Z : State → Prop) (H : Heap) (locs : List Loc) (lsx : Array Slot) (cells slots : Nat),
      Ctx b0 D cy av L xs m p R s mid args meth c n0 → Lr b0 av lsx (mml m) ls → Wr b0 D cy L xs σ H → va_S (fun q => b0 ≤ q) s.heap H locs → (∀ (H1 : Heap) (locs1 : List Loc), Wr b0 D cy L xs σ1 H1 → va_S (fun q => b0 ≤ q) s.heap H1 locs1 → W p l e R s mid args below meth c H1 locs1 cells slots Z (F0 mid pc1 lsx (st1.map (cv b0 av)))) → W p l e R s mid args below meth c H locs cells slots Z (F0 mid pc lsx (st.map (cv b0 av)))) : Gm m pc ls st σ r σ' := by
  refine ⟨hn ▸ hg.1, ?_⟩
  intro b0 D cy av L xs p l e R s mid args below meth c n0 Z C H locs lsx hl hW hS h0 hc hk
  refine step _ _ _ _ _ _ _ _ _ _ _ _ _ _ _ _ _ _ _ _ _ _ _ C hl hW hS (fun H1 locs1 hW1 hS1 => ?_)
  have := hg.2 _ _ _ _ _ _ _ _ _ _ _ _ _ _ _ _ _ _ C _ _ _ hl hW1 hS1 (by rw [hn]; exact h0) hc hk
  rw [hn] at this
  exact this
end
section
/-! SOUNDNESS, 4: fields, arrays, constants, returns -/
section OPS
variable {rec : Rec} {m pc k : Nat} {ls st : Vs} {σ : Sto} {r : Option Value} {σ' : Sto}
theorem w_get {b0 : Nat} {D : va_G} {cy : Nat → ClassId} {av : Nat → Value} {L : Nat} {xs : Nat → Int32} {m : Nat} {p : Program} {l : Launch} {e : Env} {R : Room} {s : State} {mid : MethodId} {args : Array Value} {below : List Frame} {meth : Method} {c0 : Code} {n0 : Nat} {Z : State → Prop} {H : Heap} {locs : List Loc} {lsx : Array Slot} {cells slots : Nat} {σ : Sto} {rest : List Value} {pc a c j n : Nat} {v : Value}
    (C : Ctx b0 D cy av L xs m p R s mid args meth c0 n0) (hW : Wr b0 D cy L xs σ H) (hd : decode (mco m) pc = .ok (.getfield n, 3)) (hf : fl (mcl m) n = some (0, c, j)) (ha : isA σ a c = true) (hv : fval σ a c j = some v) (k : W p l e R s mid args below meth c0 H locs cells slots Z (F0 mid (pc + 3) lsx (cv b0 av v :: rest))) : W p l e R s mid args below meth c0 H locs cells slots Z (F0 mid pc lsx (.ref (b0 + a) :: rest)) := by
  obtain ⟨g, hg⟩ := fl_spec hf
  simp only [okF, Bool.and_eq_true, decide_eq_true_eq] at hg
  obtain ⟨⟨⟨h1, h2⟩, h3⟩, h4⟩ := hg
  obtain ⟨ha1, ha2⟩ := isA_spec ha
  obtain ⟨hx, hb, hml, hown, hts, hin, hC, hs0, hfr, hlo⟩ := id C
  refine va_get (own := Rc (mcl m)) (ref := Rc c) (C := Rc c) (T := Tc c) (N := nf c) (ci := c) (index := n) hx hb hts (lay_in c h3) hown hC.1 hW.1 a (fs := (List.range (nf c)).map (fvc b0 σ a c)) ?_ (cl_get c h3) j h4 (hts _ (okw_in h1)) ?_ (v := cv b0 av v) ?_ hd k
  · rw [wl_get ha1, ce_obj ha2 h3]
  · intro x hx
    rw [h2] at hx
    exact hx
  · rw [fval_cv hv]
    simp [h4]
theorem ok_getfield (hr : OkR rec) {n : Nat} (hd : decode (mco m) pc = .ok (.getfield n, k)) (h : (if k = 3 then (match st with
    | .ref a :: r => (match fl (mcl m) n with
      | some (0, c, j) => if isA σ a c = true ∧ j < nf c then (fval σ a c j).bind (fun v => rec m (pc + 3) ls (v :: r) σ) else none
      | some (1, 0, _) => if 1010 ≤ a ∧ a < 1015 then rec m (pc + 3) ls (.ref (a + 10) :: r) σ else none
      | some (1, _, _) => if 1010 ≤ a ∧ a < 1015 then rec m (pc + 3) ls (.int 0 :: r) σ else none
      | _ => none)
    | _ => none) else none) = some (r, σ')) : Gm m pc ls st σ r σ' := by
  split at h
  · rename_i hk; subst hk
    split at h
    · rename_i a r0
      split at h
      · rename_i c j hf
        split at h
        · rename_i hc
          cases hv : fval σ a c j with
          | none => rw [hv] at h; cases h
          | some v =>
            rw [hv] at h
            refine gm_pure (hr _ _ _ _ _ _ _ h) ?_
            intro b0 D cy av L xs p l e R s mid args below meth c0 n0 Z H locs lsx cells slots C hl hW hS k
            rw [List.map_cons, cv_own (wr_cell hW (isA_spec hc.1).1)]
            exact w_get C hW hd hf hc.1 hv k
        · cases h
      · rename_i z hf
        split at h
        · rename_i hc
          obtain ⟨g, hg⟩ := fl_spec hf
          refine gm_pure (hr _ _ _ _ _ _ _ h) ?_
          intro b0 D cy av L xs p l e R s mid args below meth c0 n0 Z H locs lsx cells slots C hl hW hS k
          obtain ⟨hx, hb, hml, hown, hts, hin, hC, hs0, hfr, hlo⟩ := id C
          obtain ⟨-, -, -, -, -, -, -, -, -, adK, adV, hE, hR⟩ := id hC
          obtain ⟨hc1, hc2⟩ := hc
          obtain ⟨j, rfl⟩ := Nat.exists_eq_add_of_le hc1
          have hc2 : (1010 : Nat) + j < 1015 := hc2
          have hj : j < 5 := by omega
          have e1 : cv b0 av (.ref (1010 + j)) = .ref (adK j) := by
            simp only [cv, show ¬ 1010 + j < 1000 by omega, if_false]; exact (hR j hj).1
          have e2 : cv b0 av (.ref (1010 + j + 10)) = .ref (adV j) := by
            rw [show 1010 + j + 10 = 1020 + j by omega]
            simp only [cv, show ¬ 1020 + j < 1000 by omega, if_false]; exact (hR j hj).2.1
          rw [List.map_cons, e1]
          rw [List.map_cons, e2] at k
          exact vk_getf hx hb (hE.1 j hj).2.2.1 hS hown (hts _ (okw_in hg)) (fun _ q => q) hd k
        · cases h
      · rename_i y z hne hf
        split at h
        · rename_i hc
          obtain ⟨g, hg⟩ := fl_spec hf
          have hg' : okw g (.fieldLink (Rc (mcl m)) n "java/lang/String" "coder" "B") = true := by
            cases y with
            | zero => exact (hne rfl).elim
            | succ y => exact hg
          refine gm_pure (hr _ _ _ _ _ _ _ h) ?_
          intro b0 D cy av L xs p l e R s mid args below meth c0 n0 Z H locs lsx cells slots C hl hW hS k
          obtain ⟨hx, hb, hml, hown, hts, hin, hC, hs0, hfr, hlo⟩ := id C
          obtain ⟨-, -, -, -, -, -, -, -, -, adK, adV, hE, hR⟩ := id hC
          obtain ⟨hc1, hc2⟩ := hc
          obtain ⟨j, rfl⟩ := Nat.exists_eq_add_of_le hc1
          have hc2 : (1010 : Nat) + j < 1015 := hc2
          have hj : j < 5 := by omega
          have e1 : cv b0 av (.ref (1010 + j)) = .ref (adK j) := by
            simp only [cv, show ¬ 1010 + j < 1000 by omega, if_false]; exact (hR j hj).1
          rw [List.map_cons, e1]
          exact vk_getf hx hb (hE.1 j hj).2.1 hS hown (hts _ (okw_in hg')) (fun _ q => q) hd k
        · cases h
      · cases h
    · cases h
  · cases h
theorem w_put {b0 : Nat} {D : va_G} {cy : Nat → ClassId} {av : Nat → Value} {L : Nat} {xs : Nat → Int32} {m : Nat} {p : Program} {l : Launch} {e : Env} {R : Room} {s : State} {mid : MethodId} {args : Array Value} {below : List Frame} {meth : Method} {c0 : Code} {n0 : Nat} {Z : State → Prop} {H : Heap} {locs : List Loc} {lsx : Array Slot} {cells slots : Nat} {σ : Sto} {rest : List Value} {pc a c j n : Nat} {v : Value}
    (C : Ctx b0 D cy av L xs m p R s mid args meth c0 n0) (hW : Wr b0 D cy L xs σ H) (hS : va_S (fun q => b0 ≤ q) s.heap H locs) (hd : decode (mco m) pc = .ok (.putfield n, 3)) (hf : fl (mcl m) n = some (0, c, j)) (ha : isA σ a c = true) (hfin : (Tc c j).2.2.2 = true → (mna m).name = "<init>" ∧ mcl m = c)
    (hn : narrow (tyc c j) v = v) (hfit : fits (tyc c j) v = true) (k : ∀ (H1 : Heap) (locs1 : List Loc), va_P D vwCl ((wl b0 cy σ).set a (b0 + a, .inr (c, ((List.range (nf c)).map (fvc b0 σ a c)).set j v))) H1 → va_S (fun q => b0 ≤ q) s.heap H1 locs1 → W p l e R s mid args below meth c0 H1 locs1 cells slots Z (F0 mid (pc + 3) lsx rest)) : W p l e R s mid args below meth c0 H locs cells slots Z (F0 mid pc lsx (v :: .ref (b0 + a) :: rest)) := by
  obtain ⟨g, hg⟩ := fl_spec hf
  simp only [okF, Bool.and_eq_true, decide_eq_true_eq] at hg
  obtain ⟨⟨⟨h1, h2⟩, h3⟩, h4⟩ := hg
  obtain ⟨ha1, ha2⟩ := isA_spec ha
  obtain ⟨hx, hb, hml, hown, hts, hin, hC, hs0, hfr, hlo⟩ := id C
  have he : (wl b0 cy σ)[a]? = some (b0 + a, .inr (c, (List.range (nf c)).map (fvc b0 σ a c))) := by rw [wl_get ha1, ce_obj ha2 h3]
  have hsame : ∀ x, s.fieldFound? (Tc c j).1 (Tc c j).2.1 (Tc c j).2.2.1 = some x → s.fieldFound? (Rc c) (Tc c j).2.1 (Tc c j).2.2.1 = some x := fun x q => by rw [h2] at q; exact q
  cases hq : (Tc c j).2.2.2 with
  | false => exact va_put (own := Rc (mcl m)) (ref := Rc c) (C := Rc c) (T := Tc c) (N := nf c) (ci := c) (index := n) hx hb hts (lay_in c h3) (tyc c) (ty_c c h3) (nm_c c h3) hown hC.1 hW.1 (wl_D b0 cy σ) hS a he (cl_get c h3) j h4 (hts _ (okw_in h1)) hsame hq (ty_c c h3 j h4) hn hfit (by simp [h4]) hd (fun H1 locs1 q1 q2 q3 => k H1 locs1 q1 q3)
  | true =>
    obtain ⟨f1, f2⟩ := hfin hq
    exact va_putF (own := Rc (mcl m)) (ref := Rc c) (C := Rc c) (T := Tc c) (N := nf c) (ci := c) (index := n) hx hb hts (lay_in c h3) (tyc c) (ty_c c h3) (nm_c c h3) hown hC.1 hW.1 (wl_D b0 cy σ) hS a he (cl_get c h3) j h4 (hts _ (okw_in h1)) hsame hq (hin f1) (by rw [h2, f2]) (ty_c c h3 j h4) hn hfit (by simp [h4]) hd (fun H1 locs1 q1 q2 q3 => k H1 locs1 q1 q3)
theorem ok_putfield (hr : OkR rec) {n : Nat} (hd : decode (mco m) pc = .ok (.putfield n, k)) (h : (if k = 3 then (match st with
    | v :: .ref a :: r => (match fl (mcl m) n with
      | some (0, c, j) => if isA σ a c = true ∧ j < nf c ∧ ((Tc c j).2.2.2 = true → (mna m).name = "<init>" ∧ mcl m = c) then (fput σ a c j v).bind (fun σ1 => rec m (pc + 3) ls r σ1) else none
      | _ => none)
    | _ => none) else none) = some (r, σ')) : Gm m pc ls st σ r σ' := by
  split at h
  · rename_i hk; subst hk
    split at h
    · rename_i v a r0
      split at h
      · rename_i c j hf
        split at h
        · rename_i hc
          obtain ⟨hc1, hc2, hc3⟩ := hc
          obtain ⟨g, hg⟩ := fl_spec hf
          simp only [okF, Bool.and_eq_true, decide_eq_true_eq] at hg
          have h13 : c < 13 := hg.1.2
          obtain ⟨ha1, ha2⟩ := isA_spec hc1
          cases hv : fput σ a c j v with
          | none => rw [hv] at h; cases h
          | some σ1 =>
            rw [hv] at h
            dsimp only [Option.bind_some] at h
            unfold fput at hv
            split at hv
            · rename_i x
              split at hv
              · rename_i h0
                cases hv
                refine gm_heap (hr _ _ _ _ _ _ _ h) rfl ?_
                intro b0 D cy av L xs p l e R s mid args below meth c0 n0 Z H locs lsx cells slots C hl hW hS k
                rw [List.map_cons, List.map_cons, cv_own (wr_cell hW ha1)]
                exact w_put C hW hS hd hf hc1 hc3 (by rw [ft_0 h13 hc2 h0]; rfl) (by rw [ft_0 h13 hc2 h0]; rfl) (fun H1 locs1 q1 q3 => k H1 locs1 (wr_set hW.2 ha1 rfl (sI_ce ha2 h13 hc2 h0) (fun b hb => sI_ce_o hb) (fun b hb => va_up_ne _ _ hb) (fun b hb => rfl) q1) q3)
              · cases hv
            · rename_i x
              split at hv
              · rename_i h0
                cases hv
                refine gm_heap (hr _ _ _ _ _ _ _ h) rfl ?_
                intro b0 D cy av L xs p l e R s mid args below meth c0 n0 Z H locs lsx cells slots C hl hW hS k
                rw [List.map_cons, List.map_cons, cv_own (wr_cell hW ha1)]
                exact w_put C hW hS hd hf hc1 hc3 (by rw [ft_1 h13 hc2 h0]; rfl) (by rw [ft_1 h13 hc2 h0]; rfl) (fun H1 locs1 q1 q3 => k H1 locs1 (wr_set hW.2 ha1 rfl (sL_ce ha2 h13 hc2 h0) (fun b hb => sL_ce_o hb) (fun b hb => rfl) (fun b hb => rfl) q1) q3)
              · cases hv
            · rename_i x
              split at hv
              · rename_i h0
                cases hv
                obtain ⟨h0, hx⟩ := h0
                subst hx
                refine gm_heap (hr _ _ _ _ _ _ _ h) rfl ?_
                intro b0 D cy av L xs p l e R s mid args below meth c0 n0 Z H locs lsx cells slots C hl hW hS k
                have hlt := rf_lt a j
                rw [List.map_cons, List.map_cons, cv_own (wr_cell hW ha1), cv_own (show rf a j < 1000 by omega)]
                exact w_put C hW hS hd hf hc1 hc3 (by rcases ft_2 h13 hc2 h0 with ⟨q, hq⟩ | ⟨q, hq⟩ <;> rw [hq] <;> rfl) (by rcases ft_2 h13 hc2 h0 with ⟨q, hq⟩ | ⟨q, hq⟩ <;> rw [hq] <;> rfl) (fun H1 locs1 q1 q3 => k H1 locs1 (wr_set hW.2 ha1 rfl (sB_ce ha2 h13 hc2 h0) (fun b hb => sB_ce_o hb) (fun b hb => rfl) (fun b hb => va_up_ne _ _ hb) q1) q3)
              · cases hv
            · cases hv
        · cases h
      · cases h
    · cases h
  · cases h
theorem ok_getstatic (hr : OkR rec) {n : Nat} (hd : decode (mco m) pc = .ok (.getstatic n, k)) (h : (if k = 3 then (match fl (mcl m) n with
    | some (2, 1, _) => rec m (pc + 3) ls (.int 1 :: st) σ
    | some (2, w, _) => rec m (pc + 3) ls (.ref w :: st) σ
    | _ => none) else none) = some (r, σ')) : Gm m pc ls st σ r σ' := by
  split at h
  · rename_i hk; subst hk
    split at h
    · rename_i z hf
      obtain ⟨g, hg⟩ := fl_spec hf
      simp only [okF, Bool.and_eq_true, decide_eq_true_eq] at hg
      refine gm_pure (hr _ _ _ _ _ _ _ h) ?_
      intro b0 D cy av L xs p l e R s mid args below meth c0 n0 Z H locs lsx cells slots C hl hW hS k
      obtain ⟨hx, hb, hml, hown, hts, hin, hC, hs0, hfr, hlo⟩ := id C
      exact va_gets hx hb hC.2.2.2.2.2.1 hS hown (hts _ (okw_in hg.1)) (fun _ q => q) hd k
    · rename_i w z hne hf
      obtain ⟨g, hg⟩ := fl_spec hf
      simp only [okF, Bool.and_eq_true, decide_eq_true_eq] at hg
      obtain ⟨hg, hw⟩ := hg
      refine gm_pure (hr _ _ _ _ _ _ _ h) ?_
      intro b0 D cy av L xs p l e R s mid args below meth c0 n0 Z H locs lsx cells slots C hl hW hS k
      obtain ⟨hx, hb, hml, hown, hts, hin, hC, hs0, hfr, hlo⟩ := id C
      obtain ⟨-, -, -, -, -, -, hF, h9, -⟩ := id hC
      rw [List.map_cons] at k
      rcases hw with rfl | rfl | rfl | rfl | rfl
      · exact (hne rfl).elim
      · obtain ⟨t, e1, e2, -⟩ := h9 0 (by omega)
        rw [show cv b0 av (.ref 1001) = .ref t from e1] at k
        exact va_gets hx hb e2 hS hown (hts _ (okw_in hg)) (fun _ q => q) hd k
      · obtain ⟨t, e1, e2, -⟩ := h9 1 (by omega)
        rw [show cv b0 av (.ref 1002) = .ref t from e1] at k
        exact va_gets hx hb e2 hS hown (hts _ (okw_in hg)) (fun _ q => q) hd k
      · obtain ⟨t, e1, e2, -⟩ := h9 2 (by omega)
        rw [show cv b0 av (.ref 1003) = .ref t from e1] at k
        exact va_gets hx hb e2 hS hown (hts _ (okw_in hg)) (fun _ q => q) hd k
      · exact va_gets hx hb hF hS hown (hts _ (okw_in hg)) (fun _ q => q) hd k
    · cases h
  · cases h
end OPS
end
section
/-! SOUNDNESS, 5: arrays, constants, increments, returns -/
section OPS
variable {rec : Rec} {m pc k : Nat} {ls st : Vs} {σ : Sto} {r : Option Value} {σ' : Sto}
theorem inb_vp {i : Int32} {n : Nat} (h : inbB i n = true) : vp_in i n := (inb_iff i n).mp h
theorem ok_iaload (hr : OkR rec) (hd : decode (mco m) pc = .ok (.iaload, k)) (h : (if k = 1 then (match st with
    | .int i :: .ref a :: r => if isA σ a 20 = true ∧ inbB i (tg a).2 = true then rec m (pc + 1) ls (.int (σ.2.2.1 a i.toNatClampNeg) :: r) σ else (match olen σ a with
      | some n => if inbB i n = true then rec m (pc + 1) ls (.int (oval σ a i.toNatClampNeg) :: r) σ else none
      | none => none)
    | _ => none) else none) = some (r, σ')) : Gm m pc ls st σ r σ' := by
  split at h
  · rename_i hk; subst hk
    split at h
    · rename_i i a r0
      split at h
      · rename_i hc
        obtain ⟨hc, hi⟩ := hc
        obtain ⟨ha1, ha2⟩ := isA_spec hc
        refine gm_pure (hr _ _ _ _ _ _ _ h) ?_
        intro b0 D cy av L xs p l e R s mid args below meth c0 n0 Z H locs lsx cells slots C hl hW hS k
        obtain ⟨hx, hb, hml, hown, hts, hin, hC, hs0, hfr, hlo⟩ := id C
        rw [List.map_cons, List.map_cons, cv_own (wr_cell hW ha1)]
        exact va_iald hx hb hC.1 hW.1 a 0 (by rw [wl_get ha1, ce_arr ha2 (by omega) (by omega)]) rfl (inb_vp hi) hd k
      · split at h
        · rename_i n hn
          split at h
          · rename_i hi
            refine gm_pure (hr _ _ _ _ _ _ _ h) ?_
            intro b0 D cy av L xs p l e R s mid args below meth c0 n0 Z H locs lsx cells slots C hl hW hS k
            obtain ⟨hx, hb, hml, hown, hts, hin, hC, hs0, hfr, hlo⟩ := id C
            obtain ⟨-, -, -, -, -, -, -, h9, ⟨t, ht, hL, hT⟩, -⟩ := id hC
            unfold olen at hn
            split at hn
            · rename_i ha
              obtain ⟨ha, hfl⟩ := ha
              subst ha
              cases hn
              have hWs := hW.2.2 hfl
              rw [List.map_cons, List.map_cons, show cv b0 av (.ref 1000) = .ref t from ht]
              rw [hWs.1, nI_clamp hL] at hi
              refine va_ti hx hb hT hS (inb_vp hi) (v := .int (oval σ 1000 i.toNatClampNeg)) ?_ hd k
              show Value.int (xs _) = _
              rw [← hWs.2]
              rfl
            · split at hn
              · rename_i ha
                have hn := Option.some.inj hn
                subst hn
                obtain ⟨ha1, ha2⟩ := ha
                obtain ⟨j, rfl⟩ := Nat.exists_eq_add_of_le ha1
                have ha2 : (1001 : Nat) + j ≤ 1003 := ha2
                have hj : j < 3 := by omega
                obtain ⟨t2, e1, -, e3⟩ := h9 j hj
                rw [show 1001 + j - 1001 = j by omega] at hi
                have e0 : cv b0 av (.ref (1001 + j)) = .ref t2 := by
                  simp only [cv, show ¬ 1001 + j < 1000 by omega, if_false]; exact e1
                rw [List.map_cons, List.map_cons, e0]
                refine va_ti hx hb e3 hS (inb_vp hi) (v := .int (oval σ (1001 + j) i.toNatClampNeg)) ?_ hd k
                show Value.int _ = _
                simp only [oval, show ¬ 1001 + j = 1000 by omega, if_false, show 1001 + j - 1001 = j by omega]
              · cases hn
          · cases h
        · cases h
    · cases h
  · cases h
theorem ok_baload (hr : OkR rec) (hd : decode (mco m) pc = .ok (.baload, k)) (h : (if k = 1 then (match st with
    | .int i :: .ref a :: r => if (isA σ a 21 = true ∨ isA σ a 22 = true) ∧ inbB i (tg a).2 = true then rec m (pc + 1) ls (.int (σ.2.2.1 a i.toNatClampNeg) :: r) σ else if 1020 ≤ a ∧ a < 1025 ∧ inbB i (stb.getD (a - 1020) []).length = true then rec m (pc + 1) ls (.int ((stb.getD (a - 1020) []).getD i.toNatClampNeg 0) :: r) σ else none
    | _ => none) else none) = some (r, σ')) : Gm m pc ls st σ r σ' := by
  split at h
  · rename_i hk; subst hk
    split at h
    · rename_i i a r0
      split at h
      · rename_i hc
        obtain ⟨hc, hi⟩ := hc
        refine gm_pure (hr _ _ _ _ _ _ _ h) ?_
        intro b0 D cy av L xs p l e R s mid args below meth c0 n0 Z H locs lsx cells slots C hl hW hS k
        obtain ⟨hx, hb, hml, hown, hts, hin, hC, hs0, hfr, hlo⟩ := id C
        rcases hc with hc | hc
        · obtain ⟨ha1, ha2⟩ := isA_spec hc
          rw [List.map_cons, List.map_cons, cv_own (wr_cell hW ha1)]
          exact va_bald hx hb hC.1 hW.1 a 1 (by rw [wl_get ha1, ce_arr ha2 (by omega) (by omega)]) rfl (inb_vp hi) hd k
        · obtain ⟨ha1, ha2⟩ := isA_spec hc
          rw [List.map_cons, List.map_cons, cv_own (wr_cell hW ha1)]
          exact va_zald hx hb hC.1 hW.1 a 2 (by rw [wl_get ha1, ce_arr ha2 (by omega) (by omega)]) rfl (inb_vp hi) hd k
      · split at h
        · rename_i hc
          obtain ⟨hc1, hc2, hi⟩ := hc
          refine gm_pure (hr _ _ _ _ _ _ _ h) ?_
          intro b0 D cy av L xs p l e R s mid args below meth c0 n0 Z H locs lsx cells slots C hl hW hS k
          obtain ⟨hx, hb, hml, hown, hts, hin, hC, hs0, hfr, hlo⟩ := id C
          obtain ⟨-, -, -, -, -, -, -, -, -, adK, adV, hE, hR⟩ := id hC
          obtain ⟨j, rfl⟩ := Nat.exists_eq_add_of_le hc1
          have hc2 : (1020 : Nat) + j < 1025 := hc2
          have hj : j < 5 := by omega
          rw [show 1020 + j - 1020 = j by omega] at hi k
          have e0 : cv b0 av (.ref (1020 + j)) = .ref (adV j) := by
            simp only [cv, show ¬ 1020 + j < 1000 by omega, if_false]; exact (hR j hj).2.1
          have hln : sln.getD j 0 = (stb.getD j []).length := by
            have : ∀ j, j < 5 → sln.getD j 0 = (stb.getD j []).length := by decide
            exact this j hj
          rw [List.map_cons, List.map_cons, e0]
          have hT := (hE.1 j hj).2.2.2
          rw [hln] at hT
          exact va_tb hx hb hT hS (inb_vp hi) (v := .int ((stb.getD j []).getD i.toNatClampNeg 0)) rfl hd k
        · cases h
    · cases h
  · cases h
theorem ok_iastore (hr : OkR rec) (hd : decode (mco m) pc = .ok (.iastore, k)) (h : (if k = 1 then (match st with
    | .int x :: .int i :: .ref a :: r => if isA σ a 20 = true ∧ inbB i (tg a).2 = true then rec m (pc + 1) ls r (sI σ a i.toNatClampNeg x) else none
    | _ => none) else none) = some (r, σ')) : Gm m pc ls st σ r σ' := by
  split at h
  · rename_i hk; subst hk
    split at h
    · rename_i x i a r0
      split at h
      · rename_i hc
        obtain ⟨hc, hi⟩ := hc
        obtain ⟨ha1, ha2⟩ := isA_spec hc
        refine gm_heap (hr _ _ _ _ _ _ _ h) rfl ?_
        intro b0 D cy av L xs p l e R s mid args below meth c0 n0 Z H locs lsx cells slots C hl hW hS k
        obtain ⟨hx, hb, hml, hown, hts, hin, hC, hs0, hfr, hlo⟩ := id C
        rw [List.map_cons, List.map_cons, List.map_cons, cv_own (wr_cell hW ha1)]
        exact va_iast hx hb hC.1 hW.1 (wl_D b0 cy σ) hS a 0 (by rw [wl_get ha1, ce_arr ha2 (by omega) (by omega)]) rfl (inb_vp hi) hd (fun H1 locs1 q1 q2 q3 => k H1 locs1 (wr_set hW.2 ha1 rfl (sI_ca ha2 (by omega) (by omega)) (fun b hb => sI_ce_o hb) (fun b hb => va_up_ne _ _ hb) (fun b hb => rfl) q1) q3)
      · cases h
    · cases h
  · cases h
theorem ok_bastore (hr : OkR rec) (hd : decode (mco m) pc = .ok (.bastore, k)) (h : (if k = 1 then (match st with
    | .int x :: .int i :: .ref a :: r => if isA σ a 21 = true ∧ inbB i (tg a).2 = true then rec m (pc + 1) ls r (sI σ a i.toNatClampNeg (vp_nar .byte x)) else if isA σ a 22 = true ∧ inbB i (tg a).2 = true then rec m (pc + 1) ls r (sI σ a i.toNatClampNeg (vp_nar .boolean x)) else none
    | _ => none) else none) = some (r, σ')) : Gm m pc ls st σ r σ' := by
  split at h
  · rename_i hk; subst hk
    split at h
    · rename_i x i a r0
      split at h
      · rename_i hc
        obtain ⟨hc, hi⟩ := hc
        obtain ⟨ha1, ha2⟩ := isA_spec hc
        refine gm_heap (hr _ _ _ _ _ _ _ h) rfl ?_
        intro b0 D cy av L xs p l e R s mid args below meth c0 n0 Z H locs lsx cells slots C hl hW hS k
        obtain ⟨hx, hb, hml, hown, hts, hin, hC, hs0, hfr, hlo⟩ := id C
        rw [List.map_cons, List.map_cons, List.map_cons, cv_own (wr_cell hW ha1)]
        exact va_bast hx hb hC.1 hW.1 (wl_D b0 cy σ) hS a 1 (by rw [wl_get ha1, ce_arr ha2 (by omega) (by omega)]) rfl (inb_vp hi) hd (fun H1 locs1 q1 q2 q3 => k H1 locs1 (wr_set hW.2 ha1 rfl (sI_ca ha2 (by omega) (by omega)) (fun b hb => sI_ce_o hb) (fun b hb => va_up_ne _ _ hb) (fun b hb => rfl) q1) q3)
      · split at h
        · rename_i hc
          obtain ⟨hc, hi⟩ := hc
          obtain ⟨ha1, ha2⟩ := isA_spec hc
          refine gm_heap (hr _ _ _ _ _ _ _ h) rfl ?_
          intro b0 D cy av L xs p l e R s mid args below meth c0 n0 Z H locs lsx cells slots C hl hW hS k
          obtain ⟨hx, hb, hml, hown, hts, hin, hC, hs0, hfr, hlo⟩ := id C
          rw [List.map_cons, List.map_cons, List.map_cons, cv_own (wr_cell hW ha1)]
          exact va_zast hx hb hC.1 hW.1 (wl_D b0 cy σ) hS a 2 (by rw [wl_get ha1, ce_arr ha2 (by omega) (by omega)]) rfl (inb_vp hi) hd (fun H1 locs1 q1 q2 q3 => k H1 locs1 (wr_set hW.2 ha1 rfl (sI_ca ha2 (by omega) (by omega)) (fun b hb => sI_ce_o hb) (fun b hb => va_up_ne _ _ hb) (fun b hb => rfl) q1) q3)
        · cases h
    · cases h
  · cases h
theorem ok_aaload (hr : OkR rec) (hd : decode (mco m) pc = .ok (.aaload, k)) (h : (if k = 1 then (match st with
    | .int i :: .ref a :: r => if (isA σ a 23 = true ∨ isA σ a 24 = true ∨ isA σ a 25 = true) ∧ inbB i (tg a).2 = true ∧ σ.2.1 a i.toNatClampNeg = true then rec m (pc + 1) ls (.ref (rf a i.toNatClampNeg) :: r) σ else none
    | _ => none) else none) = some (r, σ')) : Gm m pc ls st σ r σ' := by
  split at h
  · rename_i hk; subst hk
    split at h
    · rename_i i a r0
      split at h
      · rename_i hc
        obtain ⟨hc, hi, hini⟩ := hc
        refine gm_pure (hr _ _ _ _ _ _ _ h) ?_
        intro b0 D cy av L xs p l e R s mid args below meth c0 n0 Z H locs lsx cells slots C hl hW hS k
        obtain ⟨hx, hb, hml, hown, hts, hin, hC, hs0, hfr, hlo⟩ := id C
        have hlt := rf_lt a i.toNatClampNeg
        rw [List.map_cons, cv_own (show rf a i.toNatClampNeg < 1000 by omega)] at k
        have hk1 : va_rf (if σ.2.1 a i.toNatClampNeg = true then some (b0 + rf a i.toNatClampNeg) else none) = .ref (b0 + rf a i.toNatClampNeg) := by rw [if_pos hini]; rfl
        rcases hc with hc | hc | hc
        · obtain ⟨ha1, ha2⟩ := isA_spec hc
          rw [List.map_cons, List.map_cons, cv_own (wr_cell hW ha1)]
          exact va_aldq (C := RX5) hx hb hC.1 hW.1 a 3 (by rw [wl_get ha1, ce_ref ha2 (by omega) (by omega)]) rfl (inb_vp hi) hd (by rw [hk1]; exact k)
        · obtain ⟨ha1, ha2⟩ := isA_spec hc
          rw [List.map_cons, List.map_cons, cv_own (wr_cell hW ha1)]
          exact va_aldq (C := RX9) hx hb hC.1 hW.1 a 4 (by rw [wl_get ha1, ce_ref ha2 (by omega) (by omega)]) rfl (inb_vp hi) hd (by rw [hk1]; exact k)
        · obtain ⟨ha1, ha2⟩ := isA_spec hc
          rw [List.map_cons, List.map_cons, cv_own (wr_cell hW ha1)]
          have hv := inb_vp hi
          have hlt : i.toNatClampNeg < (tg a).2 := Nat.not_le.mp fun q => hv (Or.inr q)
          have ha : (wl b0 cy σ)[a]? = some (b0 + a, .inl (cy 25, (tg a).2, .inr (.inr (.inr (.inr (fun j => if σ.2.1 a j = true then some (b0 + rf a j) else none)))))) := by rw [wl_get ha1, ce_ref ha2 (by omega) (by omega)]
          exact W.aald (v := .ref (b0 + rf a i.toNatClampNeg)) (ty := .array .int) hx hb (hW.1 a _ ha) ((hC.1.2 5 _ rfl).1 (tg a).2 (fun j => va_rf (if σ.2.1 a j = true then some (b0 + rf a j) else none))) rfl (fun q => by cases q) (by show ¬ (i < 0 ∨ (arrV _ _ _).slots.size ≤ _); rw [arrV_size]; exact hv) (by show (arrV _ _ _).slots[_]? = _; rw [arrV_read _ _ hlt, hk1]) rfl rfl hd k
      · cases h
    · cases h
  · cases h
theorem ok_aastore (hr : OkR rec) (hd : decode (mco m) pc = .ok (.aastore, k)) (h : (if k = 1 then (match st with
    | .ref x :: .int i :: .ref a :: r => if ((isA σ a 23 = true ∧ (tg x).1 ≤ 8 ∧ (pk (tg x).1).isSome = true) ∨ (isA σ a 24 = true ∧ (tg x).1 = 9)) ∧ x < σ.1 ∧ inbB i (tg a).2 = true ∧ rf a i.toNatClampNeg = x then rec m (pc + 1) ls r (sB σ a i.toNatClampNeg) else none
    | _ => none) else none) = some (r, σ')) : Gm m pc ls st σ r σ' := by
  split at h
  · rename_i hk; subst hk
    split at h
    · rename_i x i a r0
      split at h
      · rename_i hc
        obtain ⟨hc, hxl, hi, hrf⟩ := hc
        refine gm_heap (hr _ _ _ _ _ _ _ h) rfl ?_
        intro b0 D cy av L xs p l e R s mid args below meth c0 n0 Z H locs lsx cells slots C hl hW hS k
        obtain ⟨hx, hb, hml, hown, hts, hin, hC, hs0, hfr, hlo⟩ := id C
        have hx1 : cv b0 av (.ref x) = .ref (b0 + x) := cv_own (wr_cell hW hxl)
        rcases hc with ⟨hc, hx8, hpk⟩ | ⟨hc, hx9⟩
        · obtain ⟨ha1, ha2⟩ := isA_spec hc
          rw [List.map_cons, List.map_cons, List.map_cons, cv_own (wr_cell hW ha1), hx1]
          have hpc : (tg x).1 = 5 ∨ ((tg x).1 = 0 ∨ (tg x).1 = 1 ∨ (tg x).1 = 2 ∨ (tg x).1 = 3 ∨ (tg x).1 = 8) := by
            have : ∀ c, c ≤ 8 → (pk c).isSome = true → c = 5 ∨ (c = 0 ∨ c = 1 ∨ c = 2 ∨ c = 3 ∨ c = 8) := by decide
            exact this _ hx8 hpk
          have hw := fun (H1 : Heap) (locs1 : List Loc) (q1 : va_P D vwCl ((wl b0 cy σ).set a (b0 + a, .inl (cy 23, (tg a).2, .inr (.inr (.inr (.inr (va_up (fun j => if σ.2.1 a j = true then some (b0 + rf a j) else none) i.toNatClampNeg (some (b0 + x)))))))) ) H1) (_ : va_D (fun q => b0 ≤ q) ((wl b0 cy σ).set a (b0 + a, .inl (cy 23, (tg a).2, .inr (.inr (.inr (.inr (va_up (fun j => if σ.2.1 a j = true then some (b0 + rf a j) else none) i.toNatClampNeg (some (b0 + x))))))))) ) (q3 : va_S (fun q => b0 ≤ q) s.heap H1 locs1) => k H1 locs1 (wr_set hW.2 ha1 rfl (by rw [sB_ca ha2 (by omega) (by omega), hrf]) (fun b hb => sB_ce_o hb) (fun b hb => rfl) (fun b hb => va_up_ne _ _ hb) q1) q3
          rcases hpc with h5 | ho
          · exact va_astq hx hb hC.1 hW.1 (wl_D b0 cy σ) hS a 3 x 5 (r := (RX5, TX5, 0)) (by rw [wl_get ha1, ce_ref ha2 (by omega) (by omega)]) rfl (by rw [wl_get hxl, ce_obj h5 (by omega)]) rfl (inb_vp hi) hd hw
          · have h13 : (tg x).1 < 13 := by omega
            exact va_astqO hx hb hC.1 hW.1 (wl_D b0 cy σ) hS a 3 x (tg x).1 (E := RX5) (r := (Rc (tg x).1, Tc (tg x).1, nf (tg x).1)) (by rw [wl_get ha1, ce_ref ha2 (by omega) (by omega)]) rfl (hC.2.2.2.1 _ ho) (by rw [wl_get hxl, ce_obj rfl h13]) (cl_get _ h13) (inb_vp hi) hd hw
        · obtain ⟨ha1, ha2⟩ := isA_spec hc
          rw [List.map_cons, List.map_cons, List.map_cons, cv_own (wr_cell hW ha1), hx1]
          exact va_astq hx hb hC.1 hW.1 (wl_D b0 cy σ) hS a 4 x 9 (r := (RX9, TX9, 6)) (by rw [wl_get ha1, ce_ref ha2 (by omega) (by omega)]) rfl (by rw [wl_get hxl, ce_obj hx9 (by omega)]) rfl (inb_vp hi) hd (fun H1 locs1 q1 q2 q3 => k H1 locs1 (wr_set hW.2 ha1 rfl (by rw [sB_ca ha2 (by omega) (by omega), hrf]) (fun b hb => sB_ce_o hb) (fun b hb => rfl) (fun b hb => va_up_ne _ _ hb) q1) q3)
      · cases h
    · cases h
  · cases h
theorem ok_arraylength (hr : OkR rec) (hd : decode (mco m) pc = .ok (.arraylength, k)) (h : (if k = 1 then (match st with
    | .ref a :: r => if a < σ.1 ∧ 20 ≤ (tg a).1 ∧ (tg a).1 < 23 then rec m (pc + 1) ls (.int (Int32.ofNat (tg a).2) :: r) σ else if 1020 ≤ a ∧ a < 1025 then rec m (pc + 1) ls (.int (Int32.ofNat (stb.getD (a - 1020) []).length) :: r) σ else if a = 1000 ∧ σ.2.1 999 0 = true then rec m (pc + 1) ls (.int (σ.2.2.1 999 0) :: r) σ else none
    | _ => none) else none) = some (r, σ')) : Gm m pc ls st σ r σ' := by
  split at h
  · rename_i hk; subst hk
    split at h
    · rename_i a r0
      split at h
      · rename_i hc
        obtain ⟨ha1, h20, h23⟩ := hc
        refine gm_pure (hr _ _ _ _ _ _ _ h) ?_
        intro b0 D cy av L xs p l e R s mid args below meth c0 n0 Z H locs lsx cells slots C hl hW hS k
        obtain ⟨hx, hb, hml, hown, hts, hin, hC, hs0, hfr, hlo⟩ := id C
        rw [List.map_cons, cv_own (wr_cell hW ha1)]
        have hcs : (tg a).1 = 20 ∨ (tg a).1 = 21 ∨ (tg a).1 = 22 := by omega
        rcases hcs with h | h | h
        · exact va_alen hx hb hC.1 hW.1 a 0 (x := ((tg a).2, .inl (σ.2.2.1 a))) (ty := .int) (by rw [wl_get ha1, ce_arr h (by omega) (by omega)]) rfl rfl hd k
        · exact va_alen hx hb hC.1 hW.1 a 1 (x := ((tg a).2, .inl (σ.2.2.1 a))) (ty := .byte) (by rw [wl_get ha1, ce_arr h (by omega) (by omega)]) rfl rfl hd k
        · exact va_alen hx hb hC.1 hW.1 a 2 (x := ((tg a).2, .inl (σ.2.2.1 a))) (ty := .boolean) (by rw [wl_get ha1, ce_arr h (by omega) (by omega)]) rfl rfl hd k
      · split at h
        · rename_i hc
          obtain ⟨hc1, hc2⟩ := hc
          refine gm_pure (hr _ _ _ _ _ _ _ h) ?_
          intro b0 D cy av L xs p l e R s mid args below meth c0 n0 Z H locs lsx cells slots C hl hW hS k
          obtain ⟨hx, hb, hml, hown, hts, hin, hC, hs0, hfr, hlo⟩ := id C
          obtain ⟨-, -, -, -, -, -, -, -, -, adK, adV, hE, hR⟩ := id hC
          obtain ⟨j, rfl⟩ := Nat.exists_eq_add_of_le hc1
          have hc2 : (1020 : Nat) + j < 1025 := hc2
          have hj : j < 5 := by omega
          rw [show 1020 + j - 1020 = j by omega] at k
          have e0 : cv b0 av (.ref (1020 + j)) = .ref (adV j) := by
            simp only [cv, show ¬ 1020 + j < 1000 by omega, if_false]; exact (hR j hj).2.1
          have hln : sln.getD j 0 = (stb.getD j []).length := by
            have : ∀ j, j < 5 → sln.getD j 0 = (stb.getD j []).length := by decide
            exact this j hj
          rw [List.map_cons, e0]
          have hT := (hE.1 j hj).2.2.2
          rw [hln] at hT
          exact va_tlen hx hb hT hS rfl hd k
        · split at h
          · rename_i ha
            obtain ⟨ha, hfl⟩ := ha
            subst ha
            refine gm_pure (hr _ _ _ _ _ _ _ h) ?_
            intro b0 D cy av L xs p l e R s mid args below meth c0 n0 Z H locs lsx cells slots C hl hW hS k
            obtain ⟨hx, hb, hml, hown, hts, hin, hC, hs0, hfr, hlo⟩ := id C
            obtain ⟨-, -, -, -, -, -, -, -, ⟨t, ht, hL, hT⟩, -⟩ := id hC
            rw [List.map_cons, show cv b0 av (.ref 1000) = .ref t from ht]
            exact va_tlen hx hb hT hS (v := σ.2.2.1 999 0) (hW.2.2 hfl).1.symm hd k
          · cases h
    · cases h
  · cases h
theorem ok_ldc (hr : OkR rec) {n : Nat} (hd : decode (mco m) pc = .ok (.ldc n, k)) (h : (if k = 2 then (match cs (mcl m) n with
    | some (.int x) => psh rec 2 (.int x) m pc ls st σ
    | some (.ref x) => psh rec 2 (.ref x) m pc ls st σ
    | _ => none) else none) = some (r, σ')) : Gm m pc ls st σ r σ' := by
  split at h
  · rename_i hk; subst hk
    split at h
    · rename_i x hc
      rcases cs_spec hc with ⟨y, hy, hw⟩ | ⟨y, hy, hw⟩ | ⟨j, hy, hj, ho, hi⟩
      · cases hy
        refine gm_pure (hr _ _ _ _ _ _ _ h) ?_
        intro b0 D cy av L xs p l e R s mid args below meth c0 n0 Z H locs lsx cells slots C hl hW hS k
        obtain ⟨hx, hb, hml, hown, hts, hin, hC, hs0, hfr, hlo⟩ := id C
        exact lv_ldc hx hb hown (hts _ hw) hd k
      · cases hy
      · cases hy
    · rename_i x hc
      rcases cs_spec hc with ⟨y, hy, hw⟩ | ⟨y, hy, hw⟩ | ⟨j, hy, hj, ho, hi⟩
      · cases hy
      · cases hy
      · cases hy
        refine gm_pure (hr _ _ _ _ _ _ _ h) ?_
        intro b0 D cy av L xs p l e R s mid args below meth c0 n0 Z H locs lsx cells slots C hl hW hS k
        obtain ⟨hx, hb, hml, hown, hts, hin, hC, hs0, hfr, hlo⟩ := id C
        obtain ⟨-, -, -, -, -, -, -, -, -, adK, adV, hE, hR⟩ := id hC
        have e0 : cv b0 av (.ref (1010 + j)) = .ref (adK j) := by
          simp only [cv, show ¬ 1010 + j < 1000 by omega, if_false]; exact (hR j hj).1
        rw [List.map_cons, e0] at k
        rw [ho] at hown
        have hZ := (hR j hj).2.2
        rw [hi] at hZ
        exact va_ldcS hx hb (own := RX6) hown hZ hd k
    · cases h
  · cases h
theorem ok_ldc_w (hr : OkR rec) {n : Nat} (hd : decode (mco m) pc = .ok (.ldc_w n, k)) (h : (if k = 3 then (match cs (mcl m) n with
    | some (.int x) => psh rec 3 (.int x) m pc ls st σ
    | _ => none) else none) = some (r, σ')) : Gm m pc ls st σ r σ' := by
  split at h
  · rename_i hk; subst hk
    split at h
    · rename_i x hc
      rcases cs_spec hc with ⟨y, hy, hw⟩ | ⟨y, hy, hw⟩ | ⟨j, hy, hj, ho, hi⟩
      · cases hy
        refine gm_pure (hr _ _ _ _ _ _ _ h) ?_
        intro b0 D cy av L xs p l e R s mid args below meth c0 n0 Z H locs lsx cells slots C hl hW hS k
        obtain ⟨hx, hb, hml, hown, hts, hin, hC, hs0, hfr, hlo⟩ := id C
        exact lv_ldcw hx hb hown (hts _ hw) hd k
      · cases hy
      · cases hy
    · cases h
  · cases h
theorem ok_ldc2_w (hr : OkR rec) {n : Nat} (hd : decode (mco m) pc = .ok (.ldc2_w n, k)) (h : (if k = 3 then (match cs (mcl m) n with
    | some (.long x) => psh rec 3 (.long x) m pc ls st σ
    | _ => none) else none) = some (r, σ')) : Gm m pc ls st σ r σ' := by
  split at h
  · rename_i hk; subst hk
    split at h
    · rename_i x hc
      rcases cs_spec hc with ⟨y, hy, hw⟩ | ⟨y, hy, hw⟩ | ⟨j, hy, hj, ho, hi⟩
      · cases hy
      · cases hy
        refine gm_pure (hr _ _ _ _ _ _ _ h) ?_
        intro b0 D cy av L xs p l e R s mid args below meth c0 n0 Z H locs lsx cells slots C hl hW hS k
        obtain ⟨hx, hb, hml, hown, hts, hin, hC, hs0, hfr, hlo⟩ := id C
        exact lv_ldc2 hx hb hown (hts _ hw) hd k
      · cases hy
    · cases h
  · cases h
theorem ok_iinc (hr : OkR rec) {n : Nat} {d : Int} (hd : decode (mco m) pc = .ok (.iinc n d, k)) (h : (if k = 3 then (match lget ls n with
    | .int x => if n < mml m then rec m (pc + 3) (sto1 ls n (.int (x + Int32.ofInt d))) st σ else none
    | _ => none) else none) = some (r, σ')) : Gm m pc ls st σ r σ' := by
  split at h
  · rename_i hk; subst hk
    split at h
    · rename_i x hx
      split at h
      · rename_i hlt
        refine gm_loc (hr _ _ _ _ _ _ _ h) ?_
        intro b0 D cy av L xs p l e R s mid args below meth c0 n0 Z H locs lsx cells slots C hl hW hS k
        have hm : (n, Value.int x) ∈ lvl b0 av ls := by
          refine lvl_mem.mpr ⟨.int x, ?_, fun q => (by cases q), rfl⟩
          unfold lget at hx
          rw [List.getD_eq_getElem?_getD] at hx
          cases hl2 : ls[n]? with
          | none => rw [hl2] at hx; cases hx
          | some w => rw [hl2] at hx; exact congrArg some hx
        obtain ⟨q, hq⟩ := List.getElem?_of_mem hm
        exact lv_iinc (k := q) C.1 C.2.1 hd hl.lv hq rfl hlt rfl (fun lsx1 h1 => k lsx1 (Lr.of1 C.av h1))
      · cases h
    · cases h
  · cases h
theorem gm_ret {x : Option Value} (hR : Rd m pc x) (he : ∀ (b0 : Nat) (av : Nat → Value), st.map (cv b0 av) = x.toList.map (cv b0 av)) : Gm m pc ls st σ x σ := by
  refine ⟨Nat.le_refl _, ?_⟩
  intro b0 D cy av L xs p l e R s mid args below meth c0 n0 Z C H locs lsx hl hW hS hn hc hk
  rw [he]
  exact hk pc H locs lsx hW hS hR
theorem ok_ireturn (hd : decode (mco m) pc = .ok (.ireturn, k)) (h : (if k = 1 then (match st with
    | [.int x] => (match mre m with
      | some .int => some (some (.int x), σ)
      | some .boolean => if x = 0 ∨ x = 1 then some (some (.int x), σ) else none
      | some .byte => if narrow .byte (.int x) = .int x then some (some (.int x), σ) else none
      | some .char => if narrow .char (.int x) = .int x then some (some (.int x), σ) else none
      | _ => none)
    | _ => none) else none) = some (r, σ')) : Gm m pc ls st σ r σ' := by
  split at h
  · rename_i hk; subst hk
    split at h
    · rename_i x
      split at h
      · rename_i hm
        cases h
        exact gm_ret ⟨hd, .int, hm, rfl⟩ (fun _ _ => rfl)
      · rename_i hm
        split at h
        · rename_i hb
          cases h
          exact gm_ret ⟨hd, .boolean, hm, by rcases hb with rfl | rfl <;> rfl⟩ (fun _ _ => rfl)
        · cases h
      · rename_i hm
        split at h
        · rename_i hb
          cases h
          exact gm_ret ⟨hd, .byte, hm, hb⟩ (fun _ _ => rfl)
        · cases h
      · rename_i hm
        split at h
        · rename_i hb
          cases h
          exact gm_ret ⟨hd, .char, hm, hb⟩ (fun _ _ => rfl)
        · cases h
      · cases h
    · cases h
  · cases h
theorem ok_lreturn (hd : decode (mco m) pc = .ok (.lreturn, k)) (h : (if k = 1 then (match st with
    | [.long x] => if mre m = some .long then some (some (.long x), σ) else none
    | _ => none) else none) = some (r, σ')) : Gm m pc ls st σ r σ' := by
  split at h
  · rename_i hk; subst hk
    split at h
    · split at h
      · rename_i hm
        cases h
        exact gm_ret ⟨hd, hm⟩ (fun _ _ => rfl)
      · cases h
    · cases h
  · cases h
theorem ok_areturn (hd : decode (mco m) pc = .ok (.areturn, k)) (h : (if k = 1 then (match st with
    | [.ref x] => if mre m = some (.object RX9) ∧ x < 1000 then some (some (.ref x), σ) else none
    | _ => none) else none) = some (r, σ')) : Gm m pc ls st σ r σ' := by
  split at h
  · rename_i hk; subst hk
    split at h
    · split at h
      · rename_i hm
        cases h
        exact gm_ret ⟨hd, hm.2, hm.1⟩ (fun _ _ => rfl)
      · cases h
    · cases h
  · cases h
theorem ok_return (hd : decode (mco m) pc = .ok (.return_, k)) (h : (if k = 1 then (match st with
    | [] => if mre m = none then some (none, σ) else none
    | _ => none) else none) = some (r, σ')) : Gm m pc ls st σ r σ' := by
  split at h
  · rename_i hk; subst hk
    split at h
    · split at h
      · rename_i hm
        cases h
        exact gm_ret ⟨hd, hm⟩ (fun _ _ => rfl)
      · cases h
    · cases h
  · cases h
end OPS
end
section
/-! SOUNDNESS, 6: new cells -/
theorem fresh {b0 q : Nat} {D : va_G} {cy : Nat → ClassId} {σ : Sto} {e : va_E} {H1 : Heap} (hP : va_P D vwCl (wl b0 cy σ ++ [(q, e)]) H1) (hD : va_D (fun q => b0 ≤ q) (wl b0 cy σ ++ [(q, e)])) (hsz : H1.size ≤ b0 + σ.1 + 1) : q = b0 + σ.1 := by
  have hlen : (wl b0 cy σ).length = σ.1 := by simp [wl]
  have hi : (wl b0 cy σ ++ [(q, e)])[σ.1]? = some (q, e) := by
    rw [List.getElem?_append_right (by omega), hlen, Nat.sub_self]
    rfl
  have h1 : q < H1.size := (hP σ.1 _ hi).lt
  have h2 : b0 ≤ q := hD.2 σ.1 _ hi
  by_cases hq : q - b0 < σ.1
  · have hj : (wl b0 cy σ ++ [(q, e)])[q - b0]? = some (b0 + (q - b0), ce b0 cy σ (q - b0)) := by
      rw [List.getElem?_append_left (by omega), wl_get hq]
    have := hD.1 (q - b0) σ.1 _ _ hj hi (by show b0 + (q - b0) = q; omega)
    omega
  · omega
theorem gm_new {m pc pc1 N : Nat} {ls st rest0 : Vs} {σ : Sto} {r : Option Value} {σ' : Sto} (hg : Gm m pc1 ls (.ref σ.1 :: rest0) (sN σ) r σ') (h100 : σ.1 < 100) (hN : ssz σ.1 = N)
    (step : ∀ (b0 : Nat) (D : va_G) (cy : Nat → ClassId) (av : Nat → Value) (L : Nat) (xs : Nat → Int32) (p : Program) (l : Launch) (e : Env) (R : Room) (s : State) (mid : MethodId) (args : Array Value) (below : List Frame) (meth : Method) (c : Code) (n0 : Nat) (Z : State → Prop) (H : Heap) (locs : List Loc) (lsx : Array Slot) (cells slots : Nat),
      Ctx b0 D cy av L xs m p R s mid args meth c n0 → Wr b0 D cy L xs σ H → va_S (fun q => b0 ≤ q) s.heap H locs → cells + 1 ≤ R.cells → slots + N ≤ R.slots → (∀ (q : Nat) (H1 : Heap), va_P D vwCl (wl b0 cy σ ++ [(q, ce b0 cy (sN σ) σ.1)]) H1 → va_D (fun q => b0 ≤ q) (wl b0 cy σ ++ [(q, ce b0 cy (sN σ) σ.1)]) → va_S (fun q => b0 ≤ q) s.heap H1 locs → W p l e R s mid args below meth c H1 locs (cells + 1) (slots + N) Z (F0 mid pc1 lsx (.ref q :: rest0.map (cv b0 av)))) → W p l e R s mid args below meth c H locs cells slots Z (F0 mid pc lsx (st.map (cv b0 av)))) : Gm m pc ls st σ r σ' := by
  have hle : σ.1 + 1 ≤ σ'.1 := hg.1
  refine ⟨by omega, ?_⟩
  intro b0 D cy av L xs p l e R s mid args below meth c n0 Z C H locs lsx hl hW hS hn hc hk
  have hs1 : ss (σ.1 + 1) ≤ ss σ'.1 := ss_mono hle
  have hs2 : ss n0 ≤ ss σ.1 := ss_mono hn
  rw [ss_succ, hN] at hs1
  obtain ⟨hc1, hc2⟩ := id hc
  refine step _ _ _ _ _ _ _ _ _ _ _ _ _ _ _ _ _ _ _ _ _ _ _ C hW hS (by omega) (by omega) (fun q H1 hP hD hS1 => ?_)
  intro T hT X
  have hsz : H1.size ≤ b0 + σ.1 + 1 := by
    have h1 := X.heapSize
    have h2 := C.2.2.2.2.2.2.2.1
    rw [hT] at h1
    omega
  have hq := fresh hP hD hsz
  subst hq
  rw [wl_push (σ' := sN σ) rfl rfl (fun b hb => ce_congr (va_up_ne _ _ (by omega)) (va_up_ne _ _ (by omega)) (va_up_ne _ _ (by omega)))] at hP
  have hW1 : Wr b0 D cy L xs (sN σ) H1 := by
    refine ⟨hP, by show σ.1 + 1 ≤ 100; omega, fun hf => ?_⟩
    have hf : va_up σ.2.1 σ.1 (fun _ => false) 999 0 = true := hf
    rw [va_up_ne _ _ (by omega)] at hf
    show va_up σ.2.2.1 σ.1 _ 999 0 = _ ∧ va_up σ.2.2.1 σ.1 _ 1000 = _
    rw [va_up_ne _ _ (by omega), va_up_ne _ _ (by omega)]
    exact hW.2.2 hf
  have hw := hg.2 _ _ _ _ _ _ _ _ _ _ _ _ _ _ _ _ _ _ C _ _ _ hl hW1 hS1 (by show n0 ≤ σ.1 + 1; omega) hc hk
  rw [List.map_cons, cv_own (show σ.1 < 1000 by omega)] at hw
  refine W.cs ?_ ?_ hw T hT X
  · show σ.1 - n0 + 1 = σ.1 + 1 - n0
    omega
  · show ss σ.1 - ss n0 + N = ss (σ.1 + 1) - ss n0
    rw [ss_succ, hN]
    omega
theorem tg_le (a : Nat) : (tg a).2 ≤ 300 := by
  unfold tg
  rw [List.getD_eq_getElem?_getD]
  cases h : lyt[a]? with
  | none => simp
  | some x =>
    have h2 : lyt.all (fun x => decide (x.2 ≤ 300)) = true := by decide +kernel
    simpa using List.all_eq_true.mp h2 x (List.mem_of_getElem? h)
theorem arr_in : Cond.arrayClass .int ∈ Big ∧ Cond.arrayClass .byte ∈ Big ∧ Cond.arrayClass .boolean ∈ Big := by
  have h : (decide (Cond.arrayClass .int ∈ lw_tbl) && decide (Cond.arrayClass .byte ∈ lw_tbl) && decide (Cond.arrayClass .boolean ∈ lw_tbl)) = true := by decide +kernel
  simp only [Bool.and_eq_true, decide_eq_true_eq] at h
  exact ⟨List.mem_filter.mpr ⟨h.1.1, rfl⟩, List.mem_filter.mpr ⟨h.1.2, rfl⟩, List.mem_filter.mpr ⟨h.2, rfl⟩⟩
theorem newc_spec {σ : Sto} {k n : Nat} (h : newc σ k n = true) : tg σ.1 = (k, n) ∧ σ.1 < 100 := by
  simpa [newc] using h
section OPS
variable {rec : Rec} {m pc k : Nat} {ls st : Vs} {σ : Sto} {r : Option Value} {σ' : Sto}
theorem ok_new (hr : OkR rec) {n : Nat} (hd : decode (mco m) pc = .ok (.new n, k)) (h : (if k = 3 then (match nwc (mcl m) n with
    | some c => if newc σ c (nf c) = true then rec m (pc + 3) ls (.ref σ.1 :: st) (sN σ) else none
    | none => none) else none) = some (r, σ')) : Gm m pc ls st σ r σ' := by
  split at h
  · rename_i hk; subst hk
    split at h
    · rename_i c hc
      obtain ⟨w1, w2, w3, h13⟩ := nwc_spec hc
      split at h
      · rename_i hn
        obtain ⟨ht, h100⟩ := newc_spec hn
        refine gm_new (N := nf c) (hr _ _ _ _ _ _ _ h) h100 (by simp [ssz, ht, h13]) ?_
        intro b0 D cy av L xs p l e R s mid args below meth c0 n0 Z H locs lsx cells slots C hW hS hcl hsl k
        obtain ⟨hx, hb, hml, hown, hts, hin, hC, hs0, hfr, hlo⟩ := id C
        rw [ce_obj (c := c) (by rw [ht]) h13] at k
        refine va_new (own := Rc (mcl m)) (C := Rc c) (T := Tc c) (N := nf c) (ci := c) hx hb hts (lay_in c h13) (tyc c) (ty_c c h13) hown (hts _ w1) (hts _ w2) (hts _ w3) hC.1 hW.1 (wl_D b0 cy σ) hS (fun q hq => by show b0 ≤ q; omega) (cl_get c h13) (fs := (List.range (nf c)).map (fvc b0 (sN σ) σ.1 c)) ?_ hcl hsl hd k
        intro j hj
        have e : vp_V ((List.range (nf c)).map (fvc b0 (sN σ) σ.1 c)) j = fvc b0 (sN σ) σ.1 c j := by simp [vp_V, hj]
        rw [e]
        rcases ft_3 h13 hj with hf | hf | hf
        · rw [ft_0 h13 hj hf]; simp [fvc, hf, sN, va_up, defaultValue]
        · rw [ft_1 h13 hj hf]; simp [fvc, hf, sN, va_up, defaultValue]
        · rcases ft_2 h13 hj hf with ⟨q, hq⟩ | ⟨q, hq⟩ <;> rw [hq] <;> simp [fvc, hf, sN, va_up, defaultValue]
      · cases h
    · cases h
  · cases h
theorem same_cls {s : State} {D : va_G} {tys : List (ClassId × FieldType)} {cA cB : ClassId} {ty : FieldType} {t0 : Nat} (hK : va_K D vwCl tys s) (h0 : tys[t0]? = some (cB, ty)) (hK2 : va_K D vwCl (tys ++ [(cA, ty)]) s) : cA = cB := by
  have h1 := (hK.2 t0 _ h0).2
  have h2 := (hK2.2 tys.length (cA, ty) (by rw [List.getElem?_append_right (Nat.le_refl _), Nat.sub_self]; rfl)).2
  cases ty with
  | object C =>
    obtain ⟨_, _, -, -, -, q1⟩ := h1
    obtain ⟨_, _, -, -, -, q2⟩ := h2
    exact Option.some.inj (q2.symm.trans q1)
  | _ => exact Option.some.inj (h2.symm.trans h1)
theorem w_newa {b0 : Nat} {D : va_G} {cy : Nat → ClassId} {av : Nat → Value} {L : Nat} {xs : Nat → Int32} {m : Nat} {p : Program} {l : Launch} {e : Env} {R : Room} {s : State} {mid : MethodId} {args : Array Value} {below : List Frame} {meth : Method} {c0 : Code} {n0 : Nat} {Z : State → Prop} {H : Heap} {locs : List Loc} {lsx : Array Slot} {cells slots : Nat} {σ : Sto} {rest : List Value} {pc c t0 : Nat} {n : Int32} {aty : ArrayType} {ty : FieldType}
    (C : Ctx b0 D cy av L xs m p R s mid args meth c0 n0) (hW : Wr b0 D cy L xs σ H) (hS : va_S (fun q => b0 ≤ q) s.heap H locs) (hd : decode (mco m) pc = .ok (.newarray aty, 2)) (hty : newarray.typeOf aty = ty) (hw : Cond.arrayClass ty ∈ Big) (h0 : (tyl cy)[t0]? = some (cy c, ty)) (hc1 : ¬ c < 13) (hc2 : c < 23) (hdef : defaultValue ty = .int 0) (hby : componentBytes ty ≤ 4)
    (ht : tg σ.1 = (c, n.toNatClampNeg)) (hn : ¬ n < 0) (hcl : cells + 1 ≤ R.cells) (hsl : slots + n.toNatClampNeg ≤ R.slots) (k : ∀ (q : Nat) (H1 : Heap), va_P D vwCl (wl b0 cy σ ++ [(q, ce b0 cy (sN σ) σ.1)]) H1 → va_D (fun q => b0 ≤ q) (wl b0 cy σ ++ [(q, ce b0 cy (sN σ) σ.1)]) → va_S (fun q => b0 ≤ q) s.heap H1 locs → W p l e R s mid args below meth c0 H1 locs (cells + 1) (slots + n.toNatClampNeg) Z (F0 mid (pc + 2) lsx (.ref q :: rest))) : W p l e R s mid args below meth c0 H locs cells slots Z (F0 mid pc lsx (.int n :: rest)) := by
  obtain ⟨hx, hb, hml, hown, hts, hin, hC, hs0, hfr, hlo⟩ := id C
  have hce : ce b0 cy (sN σ) σ.1 = .inl (cy c, n.toNatClampNeg, .inl (fun _ => 0)) := by
    rw [ce_arr (c := c) (by rw [ht]) hc1 hc2, ht]
    simp [sN, va_up]
  rw [hce] at k
  have hle := tg_le σ.1
  rw [ht] at hle
  have hle : n.toNatClampNeg ≤ 300 := hle
  refine va_newa hx hb (atype := aty) (by rw [hty]; exact hts _ hw) hty hC.1 hW.1 (wl_D b0 cy σ) hS (fun q hq => by show b0 ≤ q; omega) (a0 := (n.toNatClampNeg, .inl (fun _ => 0))) ?_ hn rfl ?_ hcl hsl hd (fun q cA H1 hK2 hP hD hS1 => ?_)
  · intro cA
    rw [hdef]
    rfl
  · calc n.toNatClampNeg * componentBytes ty ≤ 300 * 4 := Nat.mul_le_mul hle hby
      _ ≤ 536870912 := by omega
  · have e := same_cls hC.1 h0 hK2
    subst e
    exact k q H1 hP hD hS1
theorem ok_newarray (hr : OkR rec) {ty : ArrayType} (hd : decode (mco m) pc = .ok (.newarray ty, k)) (h : (if k = 2 then (match st with
    | .int n :: r => (match ty with
      | .int => if newc σ 20 n.toNatClampNeg = true ∧ ¬ n < 0 then rec m (pc + 2) ls (.ref σ.1 :: r) (sN σ) else none
      | .byte => if newc σ 21 n.toNatClampNeg = true ∧ ¬ n < 0 then rec m (pc + 2) ls (.ref σ.1 :: r) (sN σ) else none
      | .boolean => if newc σ 22 n.toNatClampNeg = true ∧ ¬ n < 0 then rec m (pc + 2) ls (.ref σ.1 :: r) (sN σ) else none
      | _ => none)
    | _ => none) else none) = some (r, σ')) : Gm m pc ls st σ r σ' := by
  split at h
  · rename_i hk; subst hk
    split at h
    · rename_i n r0
      split at h
      · split at h
        · rename_i hn
          obtain ⟨ht, h100⟩ := newc_spec hn.1
          refine gm_new (N := n.toNatClampNeg) (hr _ _ _ _ _ _ _ h) h100 (by simp [ssz, ht]) ?_
          intro b0 D cy av L xs p l e R s mid args below meth c0 n0 Z H locs lsx cells slots C hW hS hcl hsl k
          exact w_newa (t0 := 0) (c := 20) C hW hS hd rfl arr_in.1 rfl (by omega) (by omega) rfl (by decide) ht hn.2 hcl hsl k
        · cases h
      · split at h
        · rename_i hn
          obtain ⟨ht, h100⟩ := newc_spec hn.1
          refine gm_new (N := n.toNatClampNeg) (hr _ _ _ _ _ _ _ h) h100 (by simp [ssz, ht]) ?_
          intro b0 D cy av L xs p l e R s mid args below meth c0 n0 Z H locs lsx cells slots C hW hS hcl hsl k
          exact w_newa (t0 := 1) (c := 21) C hW hS hd rfl arr_in.2.1 rfl (by omega) (by omega) rfl (by decide) ht hn.2 hcl hsl k
        · cases h
      · split at h
        · rename_i hn
          obtain ⟨ht, h100⟩ := newc_spec hn.1
          refine gm_new (N := n.toNatClampNeg) (hr _ _ _ _ _ _ _ h) h100 (by simp [ssz, ht]) ?_
          intro b0 D cy av L xs p l e R s mid args below meth c0 n0 Z H locs lsx cells slots C hW hS hcl hsl k
          exact w_newa (t0 := 2) (c := 22) C hW hS hd rfl arr_in.2.2 rfl (by omega) (by omega) rfl (by decide) ht hn.2 hcl hsl k
        · cases h
      · cases h
    · cases h
  · cases h
theorem w_newq {b0 : Nat} {D : va_G} {cy : Nat → ClassId} {av : Nat → Value} {L : Nat} {xs : Nat → Int32} {m : Nat} {p : Program} {l : Launch} {e : Env} {R : Room} {s : State} {mid : MethodId} {args : Array Value} {below : List Frame} {meth : Method} {c0 : Code} {n0 : Nat} {Z : State → Prop} {H : Heap} {locs : List Loc} {lsx : Array Slot} {cells slots : Nat} {σ : Sto} {rest : List Value} {pc c t0 i : Nat} {n : Int32} {E : String}
    (C : Ctx b0 D cy av L xs m p R s mid args meth c0 n0) (hW : Wr b0 D cy L xs σ H) (hS : va_S (fun q => b0 ≤ q) s.heap H locs) (hd : decode (mco m) pc = .ok (.anewarray i, 3)) (hw : Cond.classLink (Rc (mcl m)) i E ∈ Big) (hov : va_AO E s) (h0 : (tyl cy)[t0]? = some (cy c, .object E)) (hc1 : ¬ c < 13) (hc2 : ¬ c < 23)
    (ht : tg σ.1 = (c, n.toNatClampNeg)) (hn : ¬ n < 0) (hcl : cells + 1 ≤ R.cells) (hsl : slots + n.toNatClampNeg ≤ R.slots) (k : ∀ (q : Nat) (H1 : Heap), va_P D vwCl (wl b0 cy σ ++ [(q, ce b0 cy (sN σ) σ.1)]) H1 → va_D (fun q => b0 ≤ q) (wl b0 cy σ ++ [(q, ce b0 cy (sN σ) σ.1)]) → va_S (fun q => b0 ≤ q) s.heap H1 locs → W p l e R s mid args below meth c0 H1 locs (cells + 1) (slots + n.toNatClampNeg) Z (F0 mid (pc + 3) lsx (.ref q :: rest))) : W p l e R s mid args below meth c0 H locs cells slots Z (F0 mid pc lsx (.int n :: rest)) := by
  obtain ⟨hx, hb, hml, hown, hts, hin, hC, hs0, hfr, hlo⟩ := id C
  have hce : ce b0 cy (sN σ) σ.1 = .inl (cy c, n.toNatClampNeg, .inr (.inr (.inr (.inr (fun _ => none))))) := by
    rw [ce_ref (c := c) (by rw [ht]) hc1 hc2, ht]
    simp [sN, va_up]
  rw [hce] at k
  have hle := tg_le σ.1
  rw [ht] at hle
  have hle : n.toNatClampNeg ≤ 300 := hle
  refine va_newq hx hb hown (hts _ hw) hov hC.1 hW.1 (wl_D b0 cy σ) hS (fun q hq => by show b0 ≤ q; omega) hn rfl (by omega) hcl hsl hd (fun q cA H1 hK2 hP hD hS1 => ?_)
  have e := same_cls hC.1 h0 hK2
  subst e
  exact k q H1 hP hD hS1
theorem ok_anewarray (hr : OkR rec) {n : Nat} (hd : decode (mco m) pc = .ok (.anewarray n, k)) (h : (if k = 3 then (match st with
    | .int x :: r => (match nwc (mcl m) n with
      | some 5 => if newc σ 23 x.toNatClampNeg = true ∧ ¬ x < 0 then rec m (pc + 3) ls (.ref σ.1 :: r) (sN σ) else none
      | some 9 => if newc σ 24 x.toNatClampNeg = true ∧ ¬ x < 0 then rec m (pc + 3) ls (.ref σ.1 :: r) (sN σ) else none
      | _ => none)
    | _ => none) else none) = some (r, σ')) : Gm m pc ls st σ r σ' := by
  split at h
  · rename_i hk; subst hk
    split at h
    · rename_i x r0
      split at h
      · rename_i hc
        obtain ⟨w1, -, -, -⟩ := nwc_spec hc
        split at h
        · rename_i hn
          obtain ⟨ht, h100⟩ := newc_spec hn.1
          refine gm_new (N := x.toNatClampNeg) (hr _ _ _ _ _ _ _ h) h100 (by simp [ssz, ht]) ?_
          intro b0 D cy av L xs p l e R s mid args below meth c0 n0 Z H locs lsx cells slots C hW hS hcl hsl k
          exact w_newq (t0 := 3) (c := 23) C hW hS hd w1 C.2.2.2.2.2.2.1.2.2.1.1 rfl (by omega) (by omega) ht hn.2 hcl hsl k
        · cases h
      · rename_i hc
        obtain ⟨w1, -, -, -⟩ := nwc_spec hc
        split at h
        · rename_i hn
          obtain ⟨ht, h100⟩ := newc_spec hn.1
          refine gm_new (N := x.toNatClampNeg) (hr _ _ _ _ _ _ _ h) h100 (by simp [ssz, ht]) ?_
          intro b0 D cy av L xs p l e R s mid args below meth c0 n0 Z H locs lsx cells slots C hW hS hcl hsl k
          exact w_newq (t0 := 4) (c := 24) C hW hS hd w1 C.2.2.2.2.2.2.1.2.2.1.2.1 rfl (by omega) (by omega) ht hn.2 hcl hsl k
        · cases h
      · cases h
    · cases h
  · cases h
end OPS
end
section
/-! SOUNDNESS, 7: new int[6][8] (vr_o is claim/NAMES's own row on the outer array) -/
theorem vr_o (c : ClassId) (N h0 : Nat) : ∀ i : Nat, Jvm.Free.Multi.outerC c N h0 i = arrV c N (fun j => va_rf (if j < i then some (h0 + 1 + j) else none))
  | 0 => by
    show ({ cls := c, slots := Array.replicate N .null, vm := .none } : Cell) = _
    rw [arrV_new]
    refine congrArg (arrV c N) (funext fun j => ?_)
    simp [va_rf]
  | i + 1 => by
    show (Jvm.Free.Multi.outerC c N h0 i).setSlot i (.ref (h0 + 1 + i)) = _
    rw [vr_o c N h0 i, arrV_store]
    refine congrArg (arrV c N) (funext fun j => ?_)
    by_cases e : j = i
    · subst e
      simp [updV, va_rf]
    · by_cases h : j < i
      · simp [updV, e, h, Nat.lt_succ_of_lt h]
      · simp [updV, e, h, show ¬ j < i + 1 by omega]
theorem ml_in : Cond.classLink RX11 60 ("[" ++ (FieldType.array .int).toString) ∈ Big := by
  have h : (decide (Cond.classLink RX11 60 ("[" ++ (FieldType.array .int).toString) ∈ lw_tbl) && goodWord (Cond.classLink RX11 60 ("[" ++ (FieldType.array .int).toString))) = true := by decide +kernel
  simp only [Bool.and_eq_true, decide_eq_true_eq] at h
  exact List.mem_filter.mpr ⟨h.1, h.2⟩
/-- the store behind it -/
def sM (σ : Sto) : Sto := sB (sB (sB (sB (sB (sB (sN (sN (sN (sN (sN (sN (sN σ))))))) 79 0) 79 1) 79 2) 79 3) 79 4) 79 5
theorem sM_n {σ : Sto} (h : σ.1 = 79) : (sM σ).1 = 86 := by simp [sM, sB, sN, h]
theorem sM_row {σ : Sto} (h : σ.1 = 79) (j : Nat) : (sM σ).2.1 79 j = decide (j < 6) := by
  by_cases hj : j < 6
  · rcases (show j = 0 ∨ j = 1 ∨ j = 2 ∨ j = 3 ∨ j = 4 ∨ j = 5 by omega) with rfl | rfl | rfl | rfl | rfl | rfl <;> simp [sM, sB, sN, va_up, h]
  · simp [sM, sB, sN, va_up, h, show j ≠ 0 by omega, show j ≠ 1 by omega, show j ≠ 2 by omega, show j ≠ 3 by omega, show j ≠ 4 by omega, show j ≠ 5 by omega, hj]
theorem sM_old {σ : Sto} (h : σ.1 = 79) {a : Nat} (ha : a < 79 ∨ 86 ≤ a) : (sM σ).2.1 a = σ.2.1 a ∧ (sM σ).2.2.1 a = σ.2.2.1 a ∧ (sM σ).2.2.2 a = σ.2.2.2 a := by
  simp [sM, sB, sN, va_up, h, show a ≠ 79 by omega, show a ≠ 80 by omega, show a ≠ 81 by omega, show a ≠ 82 by omega, show a ≠ 83 by omega, show a ≠ 84 by omega, show a ≠ 85 by omega]
theorem sM_new {σ : Sto} (h : σ.1 = 79) {a : Nat} (h1 : 79 < a) (h2 : a < 86) : (sM σ).2.2.1 a = fun _ => 0 := by
  rcases (show a = 80 ∨ a = 81 ∨ a = 82 ∨ a = 83 ∨ a = 84 ∨ a = 85 by omega) with rfl | rfl | rfl | rfl | rfl | rfl <;> simp [sM, sB, sN, va_up, h]
theorem sM_tg : tg 79 = (25, 6) ∧ (∀ a, 79 < a → a < 86 → tg a = (20, 8)) ∧ (∀ j, j < 6 → rf 79 j = 80 + j) ∧ ss 86 = ss 79 + 54 := by
  refine ⟨by decide, ?_, by decide, by decide⟩
  intro a h1 h2
  rcases (show a = 80 ∨ a = 81 ∨ a = 82 ∨ a = 83 ∨ a = 84 ∨ a = 85 by omega) with rfl | rfl | rfl | rfl | rfl | rfl <;> decide
section OPS
variable {rec : Rec} {m pc k : Nat} {ls st : Vs} {σ : Sto} {r : Option Value} {σ' : Sto}
theorem ok_multianewarray (hr : OkR rec) {n d : Nat} (hd : decode (mco m) pc = .ok (.multianewarray n d, k)) (h : (if k = 4 ∧ d = 2 ∧ n = 60 ∧ mcl m = 11 then (match st with
    | .int 8 :: .int 6 :: r => if σ.1 = 79 then rec m (pc + 4) ls (.ref σ.1 :: r) (sB (sB (sB (sB (sB (sB (sN (sN (sN (sN (sN (sN (sN σ))))))) 79 0) 79 1) 79 2) 79 3) 79 4) 79 5) else none
    | _ => none) else none) = some (r, σ')) : Gm m pc ls st σ r σ' := by
  split at h
  · rename_i hk
    obtain ⟨rfl, rfl, rfl, hmc⟩ := hk
    split at h
    · rename_i r0
      split at h
      · rename_i h79
        have hg : Gm m (pc + 4) ls (.ref σ.1 :: r0) (sM σ) r σ' := hr _ _ _ _ _ _ _ h
        have hn1 := sM_n h79
        obtain ⟨hg1, hg2⟩ := hg
        rw [hn1] at hg1
        refine ⟨by omega, ?_⟩
        intro b0 D cy av L xs p l e R s mid args below meth c0 n0 Z C H locs lsx hl hW hS hn hc hk
        obtain ⟨hx, hb, hml, hown, hts, hin, hC, hs0, hfr, hlo⟩ := id C
        obtain ⟨tg79, tgn, rf79, ss79⟩ := sM_tg
        have hs1 : ss 86 ≤ ss σ'.1 := ss_mono hg1
        have hs2 : ss n0 ≤ ss 79 := ss_mono (by omega)
        obtain ⟨hc1, hc2⟩ := id hc
        intro T hT X
        have hsz : H.size = b0 + 79 := by
          have h1 := X.heapSize
          rw [hT] at h1
          have h2 := (hW.1 78 _ (wl_get (by omega))).lt
          dsimp only at h2
          omega
        rw [hmc] at hown
        obtain ⟨vm₁, cA, comp, -, fA, fC, -, -, X', step⟩ := X.multianewarray2F (ty := .int) (n := 6) (k := 8) hx (own := RX11) hown (hts _ ml_in) hC.2.2.1.2.2 (hts _ arr_in.1) (g := F0 mid pc lsx (.int 8 :: .int 6 :: r0.map (cv b0 av))) rfl (by rw [hb]; exact hd) rfl (by decide) (by decide) (by decide) (by decide) (by decide) rfl rfl
          (by show σ.1 - n0 + (1 + 6) ≤ R.cells; omega) (by show ss σ.1 - ss n0 + (6 + 6 * 8) ≤ R.slots; rw [h79]; omega)
        have eA : cA = cy 25 := Option.some.inj (fA.symm.trans (hC.1.2 5 _ rfl).2)
        have eC : comp = cy 20 := Option.some.inj (fC.symm.trans (hC.1.2 0 _ rfl).2)
        subst eA
        subst eC
        have e6 : (6 : Int32).toNatClampNeg = 6 := by decide
        have e8 : (8 : Int32).toNatClampNeg = 8 := by decide
        rw [e6, e8] at X' step
        generalize hF : Jvm.Free.Multi.fill (T.setVm vm₁) (cy 25) (cy 20) 6 8 (defaultValue .int) 6 = F at X' step
        have hTh : (T.setVm vm₁).heap = H := hT
        obtain ⟨f1, f2, -, -⟩ := Jvm.Free.Multi.fill_facts (T.setVm vm₁) (cy 25) (cy 20) 6 8 (defaultValue .int) 6
        rw [hF, hTh] at f1 f2
        have hold : ∀ x : Nat, x < H.size → F.heap[x]? = H[x]? := fun x hx => by
          have := Jvm.Free.Multi.fill_old (T.setVm vm₁) (cy 25) (cy 20) 6 8 (defaultValue .int) (a := x) (by rw [hTh]; exact hx) 6
          rw [hF, hTh] at this
          exact this
        have hrow : ∀ j : Nat, j < 6 → F.heap[H.size + 1 + j]? = some (Jvm.Free.Multi.innerC (cy 20) 8 (.int 0)) := fun j hj => by
          have := Jvm.Free.Multi.fill_inner (T.setVm vm₁) (cy 25) (cy 20) 6 8 (defaultValue .int) 6 j hj
          rw [hF, hTh] at this
          exact this
        rw [vr_o, hsz] at f2
        rw [hsz] at hrow
        have hP : va_P D vwCl (wl b0 cy (sM σ)) F.heap := by
          intro a q hq
          have ha : a < 86 := by
            have := (List.getElem?_eq_some_iff.mp hq).1
            simpa [wl, hn1] using this
          rw [wl_get (by omega)] at hq
          cases hq
          by_cases h1 : a < 79
          · have h0 := hW.1 a _ (wl_get (by omega))
            obtain ⟨q1, q2, q3⟩ := sM_old h79 (Or.inl h1)
            rw [ce_congr q1 q2 q3]
            exact h0.kept (hold _ (by show b0 + a < H.size; omega))
          · by_cases h2 : a = 79
            · subst h2
              rw [ce_ref (c := 25) (by rw [tg79]) (by omega) (by omega), tg79]
              show F.heap[b0 + 79]? = some (vp_cell _ _)
              rw [f2, vp_cell_q]
              refine congrArg some (congrArg (arrV (cy 25) 6) (funext fun j => ?_))
              rw [sM_row h79]
              by_cases hj : j < 6
              · simp only [hj, decide_true, if_true]
                rw [rf79 j hj]
                exact congrArg Value.ref (show (b0 + 79 + 1 + j : Nat) = b0 + (80 + j) by omega)
              · simp [hj]
            · rw [ce_arr (c := 20) (by rw [tgn a (by omega) ha]) (by omega) (by omega), tgn a (by omega) ha, sM_new h79 (by omega) ha]
              show F.heap[b0 + a]? = some (vp_cell _ _)
              have := hrow (a - 80) (by omega)
              rw [show b0 + 79 + 1 + (a - 80) = b0 + a by omega] at this
              rw [this, vp_cell_i]
              unfold Jvm.Free.Multi.innerC
              rw [arrV_new]
        have hW1 : Wr b0 D cy L xs (sM σ) F.heap := by
          refine ⟨hP, by omega, fun hf => ?_⟩
          rw [(sM_old h79 (a := 999) (Or.inr (by omega))).1] at hf
          rw [(sM_old h79 (a := 999) (Or.inr (by omega))).2.1, (sM_old h79 (a := 1000) (Or.inr (by omega))).2.1]
          exact hW.2.2 hf
        have hS1 : va_S (fun q => b0 ≤ q) s.heap F.heap locs := ⟨by have := hS.1; omega, fun x h1 h2 => (hold x (Nat.lt_of_lt_of_le h1 hS.1)).trans (hS.2.1 x h1 h2), hS.2.2⟩
        have hw := hg2 _ _ _ _ _ _ _ _ _ _ _ _ _ _ _ _ _ _ C _ _ _ hl hW1 hS1 (by omega) hc hk
        rw [List.map_cons, cv_own (show σ.1 < 1000 by omega), hn1] at hw
        have hw2 := W.cs (cells := σ.1 - n0 + 1 + 6) (slots := ss σ.1 - ss n0 + 6 + 6 * 8) (by omega) (by rw [h79]; omega) hw
        obtain ⟨t, a1, b1⟩ := hw2 F rfl X'
        refine ⟨t, step t ?_, b1⟩
        have et : T.heap.size = b0 + σ.1 := by rw [hT, hsz, h79]
        rw [et]
        exact a1
      · cases h
    · cases h
  · cases h
end OPS
end
section
/-! SOUNDNESS, 8: calls -/
theorem lcv_len (b0 : Nat) (av : Nat → Value) (hav : ∀ k, (av k).category = 1) (as : Vs) : (lg_sl (as.map (cv b0 av))).length = (lcv as).length := by
  induction as with
  | nil => rfl
  | cons v vs ih =>
    have e1 : lg_sl ((v :: vs).map (cv b0 av)) = (if (cv b0 av v).category = 2 then [.val (cv b0 av v), .second] else [.val (cv b0 av v)]) ++ lg_sl (vs.map (cv b0 av)) := by simp [lg_sl]
    have e2 : lcv (v :: vs) = lcv [v] ++ lcv vs := by simp [lcv]
    rw [e1, e2, List.length_append, List.length_append, ih]
    congr 1
    cases v with
    | ref a =>
      have : (cv b0 av (.ref a)).category = 1 := by
        unfold cv
        dsimp only
        split
        · rfl
        · exact hav a
      simp [this, lcv]
    | _ => simp [lcv, cv, Value.category]
theorem lcv_get (b0 : Nat) (av : Nat → Value) (hav : ∀ k, (av k).category = 1) (as : Vs) : ∀ (i : Nat) (v : Value), (lcv as)[i]? = some v → v ≠ .null → (lg_sl (as.map (cv b0 av)))[i]? = some (.val (cv b0 av v)) := by
  induction as with
  | nil => intro i v h; simp [lcv] at h
  | cons x vs ih =>
    intro i v h hv
    have e1 : lg_sl ((x :: vs).map (cv b0 av)) = (if (cv b0 av x).category = 2 then [.val (cv b0 av x), .second] else [.val (cv b0 av x)]) ++ lg_sl (vs.map (cv b0 av)) := by simp [lg_sl]
    have e2 : lcv (x :: vs) = lcv [x] ++ lcv vs := by simp [lcv]
    rw [e1]
    rw [e2] at h
    have one : ∀ {l : Vs} {y : Slot} {z : Value}, ([z] ++ l)[i]? = some v → (z = v → y = .val (cv b0 av v)) → (∀ j, i = j + 1 → l[j]? = some v → (lg_sl (vs.map (cv b0 av)))[j]? = some (.val (cv b0 av v))) → ([y] ++ lg_sl (vs.map (cv b0 av)))[i]? = some (.val (cv b0 av v)) := by
      intro l y z h1 h2 h3
      cases i with
      | zero =>
        simp at h1
        simp [h2 h1]
      | succ j =>
        simp at h1
        simp [h3 j rfl h1]
    have hcat : (cv b0 av x).category = 1 → lcv [x] = [x] → ((if (cv b0 av x).category = 2 then [Slot.val (cv b0 av x), Slot.second] else [Slot.val (cv b0 av x)]) ++ lg_sl (vs.map (cv b0 av)))[i]? = some (.val (cv b0 av v)) := by
      intro h1 h2
      rw [h2] at h
      rw [if_neg (by omega)]
      exact one h (fun q => by rw [q]) (fun j hj q => ih j v q hv)
    have hcat2 : (cv b0 av x).category = 2 → ∀ z, lcv [x] = [z, .null] → (z ≠ .null → z = x) → ((if (cv b0 av x).category = 2 then [Slot.val (cv b0 av x), Slot.second] else [Slot.val (cv b0 av x)]) ++ lg_sl (vs.map (cv b0 av)))[i]? = some (.val (cv b0 av v)) := by
      intro h1 z h2 h3
      rw [h2] at h
      rw [if_pos h1]
      match i, h with
      | 0, h =>
        simp at h
        subst h
        simp [h3 hv]
      | 1, h =>
        simp at h
        exact absurd h.symm hv
      | j + 2, h =>
        simp at h
        simp [ih j v h hv]
    cases x with
    | ref a =>
      refine hcat ?_ rfl
      unfold cv
      dsimp only
      split
      · rfl
      · exact hav a
    | int a => exact hcat rfl rfl
    | float a => exact hcat rfl rfl
    | null => exact hcat rfl rfl
    | retAddr a => exact hcat rfl rfl
    | long a => exact hcat2 rfl (.long a) rfl (fun _ => rfl)
    | double a => exact hcat2 rfl .null rfl (fun q => absurd rfl q)
/-- the locals at a method's entry -/
theorem Lr.entry {b0 : Nat} {av : Nat → Value} (hav : ∀ k, (av k).category = 1) {as : Vs} {n : Nat} (hn : (lcv as).length ≤ n) : Lr b0 av ((lg_sl (as.map (cv b0 av)) ++ List.replicate (n - (lg_sl (as.map (cv b0 av))).length) Slot.unset).toArray) n (lcs n as) := by
  have hl := lcv_len b0 av hav as
  have he := lv_entry (as.map (cv b0 av)) (n := n) (by rw [hl]; exact hn)
  refine ⟨he.1, he.2.1, fun i v h hv => ?_⟩
  unfold lcs at h
  by_cases hi : i < (lcv as).length
  · rw [List.getElem?_append_left hi] at h
    have := lcv_get b0 av hav as i v h hv
    simp only [List.getElem?_toArray]
    rw [List.getElem?_append_left (by rw [hl]; exact hi)]
    exact this
  · rw [List.getElem?_append_right (by omega)] at h
    have := List.eq_of_mem_replicate (List.mem_of_getElem? h)
    exact absurd this hv
/-- a method's contract, at one run of the interpreter -/
def Px (b0 : Nat) (D : va_G) (cy : Nat → ClassId) (av : Nat → Value) (L : Nat) (xs : Nat → Int32) (as : Vs) (σ : Sto) : Array Value → State → Prop := va_Pc (as.map (cv b0 av)) (fun U => Cx b0 D cy av L xs U U.heap ∧ Wr b0 D cy L xs σ U.heap ∧ U.heap.size = b0 + σ.1)
def Qx (b0 : Nat) (D : va_G) (cy : Nat → ClassId) (av : Nat → Value) (L : Nat) (xs : Nat → Int32) (r : Option Value) (σ1 : Sto) : Array Value → State → Outcome → State → Prop := fun _ st oc t => oc = .returned (r.map (cv b0 av)) ∧ Wr b0 D cy L xs σ1 t.heap ∧ va_F (fun q => b0 ≤ q) st t
def wsx (t : Nat) : List Cond := .code (mna t) (mco t) (mml t) (mre t) :: Big
def rmx (t : Nat) (σ σ1 : Sto) : Room := { frames := mhg t, cells := σ1.1 - σ.1, slots := ss σ1.1 - ss σ.1, locals := 31 * mhg t }
theorem mt_ok {t : Nat} (h : t < 212) : (mna t).cls = Rc (mcl t) ∧ plainFor (mna t) = true ∧ (mna t).cls ≠ "java/lang/invoke/MethodHandle" ∧ (mna t).cls ≠ "java/lang/invoke/VarHandle" ∧ mml t ≤ 12 := by
  have hl : mtl.length = 212 := by decide +kernel
  have hm : mt t ∈ mtl := by
    unfold mt
    rw [List.getD_eq_getElem?_getD, List.getElem?_eq_getElem (by omega)]
    exact List.getElem_mem _
  have := List.all_eq_true.mp mtl_ok _ hm
  simp only [okM, Bool.and_eq_true, decide_eq_true_eq] at this
  obtain ⟨⟨⟨⟨h1, h2⟩, h3⟩, h4⟩, h5⟩ := this
  exact ⟨h1, h2, h3, h4, h5⟩
theorem code_in {t : Nat} (h : t < 211) : Cond.code (mna t) (mco t) (mml t) (mre t) ∈ Big := by
  have : lw_tbl[cdl.getD t 0]? = some (.code (mna t) (mco t) (mml t) (mre t)) := by
    rcases (show t < 30 ∨ (30 ≤ t ∧ t < 60) ∨ (60 ≤ t ∧ t < 90) ∨ (90 ≤ t ∧ t < 120) ∨ (120 ≤ t ∧ t < 150) ∨ (150 ≤ t ∧ t < 180) ∨ (180 ≤ t ∧ t < 210) ∨ (210 ≤ t ∧ t < 211) by omega) with q | q | q | q | q | q | q | q
    · exact cdl_ok_0 t (Nat.zero_le _) q
    · exact cdl_ok_30 t q.1 q.2
    · exact cdl_ok_60 t q.1 q.2
    · exact cdl_ok_90 t q.1 q.2
    · exact cdl_ok_120 t q.1 q.2
    · exact cdl_ok_150 t q.1 q.2
    · exact cdl_ok_180 t q.1 q.2
    · exact cdl_ok_210 t q.1 q.2
  exact List.mem_filter.mpr ⟨List.mem_of_getElem? this, rfl⟩
theorem met_of {t : Nat} {as : Vs} {σ σ1 : Sto} {r : Option Value} (ht : t < 212) (hg : Gm t 0 (lcs (mml t) as) [] σ r σ1) (hlen : (lcv as).length ≤ mml t) (b0 : Nat) (D : va_G) (cy : Nat → ClassId) (av : Nat → Value) (L : Nat) (xs : Nat → Int32) (l : Launch) :
    Met l (mna t) (wsx t) (rmx t σ σ1) (Px b0 D cy av L xs as σ) (Qx b0 D cy av L xs r σ1) (σ1.1 - σ.1) (ss σ1.1 - ss σ.1) (fun q => b0 ≤ q) := by
  obtain ⟨k1, k2, k3, k4, k5⟩ := mt_ok ht
  refine va_MetF (cc := mco t) (maxL := mml t) (ret := mre t) k2 rfl ?_
  intro p e s m args below meth c s₁ B hml hv
  obtain ⟨rfl, hC, hW, hsz⟩ := hv
  have hav := hC.2.2.2.2.1
  have hts0 := atoms_spec (ws := wsx t) B.pre
  have hts : ∀ w ∈ Big, w.before (as.map (cv b0 av)).toArray s = true := fun w hw => hts0 w (List.mem_cons_of_mem _ hw)
  have hown : s.vm.findClass (mna t).cls = some m.cls := findClass_of_methodNamed B.named
  rw [k1] at hown
  have hname : meth.name = (mna t).name := (name_of_methodNamed B.named B.method).1
  have C : Ctx b0 D cy av L xs t p (headSpec (wsx t) (rmx t σ σ1)).room s m (as.map (cv b0 av)).toArray meth c σ.1 := ⟨B.exec, B.bytes, hml, hown, hts, fun q => by rw [hname]; exact q, hC, hsz, Nat.le_refl _, Nat.le_refl _⟩
  rw [lg_entry_eq]
  have hb2 : σ1.1 ≤ σ.1 + (σ1.1 - σ.1) ∧ ss σ1.1 ≤ ss σ.1 + (ss σ1.1 - ss σ.1) := ⟨by omega, by omega⟩
  have hlocks := B.notSynchronized
  have hx := B.exec
  have hb := B.bytes
  have hr := B.returns
  have hw := hg.2 b0 D cy av L xs p l e (headSpec (wsx t) (rmx t σ σ1)).room s m (as.map (cv b0 av)).toArray below meth c σ.1 (MQ below (Qx b0 D cy av L xs r σ1) (as.map (cv b0 av)).toArray s (σ1.1 - σ.1) (ss σ1.1 - ss σ.1) (fun q => b0 ≤ q)) C s.heap [] _ (Lr.entry hav hlen) hW va_S.rf (Nat.le_refl _) hb2 ?_
  · rw [Nat.sub_self, Nat.sub_self] at hw
    exact hw
  · intro pc1 H1 locs1 lsx1 hW1 hS1 hR
    have hf : ∀ q ∈ locs1, (fun q : Nat => b0 ≤ q) q.base := hS1.2.2
    match r, hR with
    | none, hR => exact W.vret hx hb (by rw [hr]; exact hR.2) (fun u hu _ => ⟨rfl, by rw [hu]; exact hW1, hS1.F hu⟩) hf hR.1 hlocks
    | some (.int x), hR =>
      obtain ⟨h1, ty, h2, h3⟩ := hR
      exact W.zret hx hb (ty := ty) (by rw [hr]; exact h2) h3 (fun u hu _ => ⟨rfl, by rw [hu]; exact hW1, hS1.F hu⟩) hf h1 hlocks
    | some (.long x), hR => exact W.lret hx hb (by rw [hr]; exact hR.2) (fun u hu _ => ⟨rfl, by rw [hu]; exact hW1, hS1.F hu⟩) hf hR.1 hlocks
    | some (.ref x), hR =>
      obtain ⟨h1, h2, h3⟩ := hR
      have e : cv b0 av (.ref x) = .ref (b0 + x) := cv_own h2
      show W _ _ _ _ _ _ _ _ _ _ _ _ _ _ _ (F0 m pc1 lsx1 [cv b0 av (.ref x)])
      rw [e]
      exact W.aret hx hb (rt := .object RX9) (by rw [hr]; exact h3) (Or.inl ⟨_, rfl⟩) (Or.inr ⟨_, rfl⟩) (fun u hu _ => ⟨by rw [← e]; rfl, by rw [hu]; exact hW1, hS1.F hu⟩) hf h1 hlocks
/-- behind a call -/
theorem call_on {p : Program} {l : Launch} {e : Env} {R : Room} {s : State} {m : MethodId} {args : Array Value} {below : List Frame} {meth : Method} {c : Code} {H : Heap} {locs : List Loc} {cells slots mc ms : Nat} {Q : State → Prop} {pc : Nat} {ls : Array Slot} {rest st0 : List Value} {a : Array Value} {b0 : Nat} {D : va_G} {cy : Nat → ClassId} {av : Nat → Value} {L : Nat} {xs : Nat → Int32} {r : Option Value} {σ1 : Sto}
    (hr : va_Run p l e R s m args below meth c H locs cells slots mc ms (F0 m pc ls st0) rest (Qx b0 D cy av L xs r σ1 a) (fun q => b0 ≤ q)) (hS : va_S (fun q => b0 ≤ q) s.heap H locs)
    (kk : ∀ (H1 : Heap) (locs1 : List Loc), Wr b0 D cy L xs σ1 H1 → va_S (fun q => b0 ≤ q) s.heap H1 locs1 → W p l e R s m args below meth c H1 locs1 (cells + mc) (slots + ms) Q (F0 m (pc + 3) ls ((r.map (cv b0 av)).toList ++ rest))) : W p l e R s m args below meth c H locs cells slots Q (F0 m pc ls st0) := by
  intro T hT X
  obtain ⟨v, st₀, t, T', L, h0, X', hL, e1, e2, ⟨hv, hb, hz, hk⟩, st⟩ := hr T hT X
  cases hv
  rw [h0] at hz hk
  obtain ⟨t2, a1, b1⟩ := kk T'.heap (locs ++ L) (by rw [e1]; exact hb)
    ⟨Nat.le_trans hS.1 (by rw [e1]; exact hz), fun q h1 h2 => by rw [e1, hk q (Nat.lt_of_lt_of_le h1 hS.1) h2]; exact hS.2.1 q h1 h2, fun q hq => by
      rcases List.mem_append.mp hq with h | h
      · exact hS.2.2 q h
      · exact hL q h⟩ T' rfl X'
  exact ⟨t2, st t2 a1, b1⟩
theorem px_blind {b0 : Nat} {D : va_G} {cy : Nat → ClassId} {av : Nat → Value} {L : Nat} {xs : Nat → Int32} {as : Vs} {σ : Sto} : FrameBlind (Px b0 D cy av L xs as σ) := by
  intro a U g mk h
  obtain ⟨h1, h2, h3, h4⟩ := h
  exact ⟨h1, h2.next (U := U.calling g mk a) (State.WarmedH.refl U) (fun _ _ _ => rfl), h3, h4⟩
theorem px_at {b0 : Nat} {D : va_G} {cy : Nat → ClassId} {av : Nat → Value} {L : Nat} {xs : Nat → Int32} {as : Vs} {σ : Sto} {s : State} {H : Heap} {locs : List Loc} (hC : Cx b0 D cy av L xs s s.heap) (hW : Wr b0 D cy L xs σ H) (hS : va_S (fun q => b0 ≤ q) s.heap H locs) (hsz : H.size = b0 + σ.1) : ∀ U : State, U.heap = H → s.WarmedH U.vm → Px b0 D cy av L xs as σ (as.map (cv b0 av)).toArray U := by
  intro U hU hw
  refine ⟨rfl, ?_, by rw [hU]; exact hW, by rw [hU]; exact hsz⟩
  rw [hU]
  exact hC.next hw hS.2.1
theorem gin {l : List Cond} (h : ∀ w ∈ l, w ∈ Big) : GoodIn Big l := fun w hw => ⟨h w hw, (big_good w (h w hw)).2⟩
theorem pop_map {b0 : Nat} {av : Nat → Value} {st : Vs} {n : Nat} : st.map (cv b0 av) = ((pop st n).map (cv b0 av)).reverse ++ (st.drop n).map (cv b0 av) := by
  unfold pop
  rw [List.map_reverse, List.reverse_reverse, ← List.map_append, List.take_append_drop]
theorem pop_cons {st : Vs} {n : Nat} {v : Value} (h : lget (pop st (n + 1)) 0 = v) (hn : n < st.length) : ∃ as, pop st (n + 1) = v :: as ∧ as.length = n := by
  have hl : (pop st (n + 1)).length = n + 1 := by
    unfold pop
    rw [List.length_reverse, List.length_take]
    omega
  cases hp : pop st (n + 1) with
  | nil => rw [hp] at hl; cases hl
  | cons w as =>
    rw [hp] at h hl
    refine ⟨as, ?_, by simpa using hl⟩
    have : w = v := by simpa [lget] using h
    rw [this]
theorem cat_le {b0 : Nat} {av : Nat → Value} (l : Vs) : ((l.map (cv b0 av)).map fun v => v.category).sum ≤ 2 * l.length := by
  induction l with
  | nil => simp
  | cons v vs ih =>
    rw [List.map_cons, List.map_cons, List.sum_cons, List.length_cons]
    have := lv_cat (cv b0 av v)
    omega
/-- the heap's size, by the count of cells -/
theorem W.sz {p : Program} {l : Launch} {e : Env} {R : Room} {s : State} {m : MethodId} {args : Array Value} {below : List Frame} {meth : Method} {c : Code} {H : Heap} {locs : List Loc} {cells slots : Nat} {Q : State → Prop} {g : JFrame} (h : H.size ≤ s.heap.size + cells → W p l e R s m args below meth c H locs cells slots Q g) : W p l e R s m args below meth c H locs cells slots Q g := fun T hT X => h (by rw [← hT]; exact X.heapSize) T hT X
theorem wr_ge {b0 : Nat} {D : va_G} {cy : Nat → ClassId} {L : Nat} {xs : Nat → Int32} {σ : Sto} {s : State} {H : Heap} {n0 : Nat} (hW : Wr b0 D cy L xs σ H) (hs : s.heap.size = b0 + n0) (hle : s.heap.size ≤ H.size) : b0 + σ.1 ≤ H.size := by
  by_cases h : σ.1 = 0
  · omega
  · have := (hW.1 (σ.1 - 1) _ (wl_get (by omega))).lt
    dsimp only at this
    omega
end
section
/-! SOUNDNESS, 9: the invoke instructions, and the whole -/
theorem gm_call {t m pc : Nat} {as ls st rest : Vs} {σ σ1 : Sto} {r1 r : Option Value} {σ' : Sto} (hgt : Gm t 0 (lcs (mml t) as) [] σ r1 σ1) (hg : Gm m (pc + 3) ls (r1.toList ++ rest) σ1 r σ') (hlen : (lcv as).length ≤ mml t) (hh : mhg t < mhg m) (ht : t < 211)
    (run : ∀ (b0 : Nat) (D : va_G) (cy : Nat → ClassId) (av : Nat → Value) (L : Nat) (xs : Nat → Int32) (p : Program) (l : Launch) (e : Env) (R : Room) (s : State) (mid : MethodId) (args : Array Value) (below : List Frame) (meth : Method) (c : Code) (n0 : Nat) (H : Heap) (locs : List Loc) (lsx : Array Slot) (cells slots : Nat),
      Ctx b0 D cy av L xs m p R s mid args meth c n0 → Lr b0 av lsx (mml m) ls → Wr b0 D cy L xs σ H → va_S (fun q => b0 ≤ q) s.heap H locs → ((rmx t σ σ1).frames + 1 ≤ R.frames ∧ 8 + (mml t + 11) + (rmx t σ σ1).locals ≤ R.locals) → (cells + (σ1.1 - σ.1) ≤ R.cells ∧ slots + (ss σ1.1 - ss σ.1) ≤ R.slots) → H.size = b0 + σ.1 →
      Met l (mna t) (wsx t) (rmx t σ σ1) (Px b0 D cy av L xs as σ) (Qx b0 D cy av L xs r1 σ1) (σ1.1 - σ.1) (ss σ1.1 - ss σ.1) (fun q => b0 ≤ q) →
      va_Run p l e R s mid args below meth c H locs cells slots (σ1.1 - σ.1) (ss σ1.1 - ss σ.1) (F0 mid pc lsx (st.map (cv b0 av))) (rest.map (cv b0 av)) (Qx b0 D cy av L xs r1 σ1 (as.map (cv b0 av)).toArray) (fun q => b0 ≤ q)) : Gm m pc ls st σ r σ' := by
  have h1 := hgt.1
  have h2 := hg.1
  refine ⟨by omega, ?_⟩
  intro b0 D cy av L xs p l e R s mid args below meth c n0 Z C H locs lsx hl hW hS hn hc hk
  obtain ⟨hx, hb, hml, hown, hts, hin, hC, hs0, hfr, hlo⟩ := id C
  obtain ⟨k1, k2, k3, k4, k5⟩ := mt_ok (t := t) (by omega)
  have s1 := ss_mono hn
  have s2 := ss_mono h1
  have s3 := ss_mono h2
  obtain ⟨hc1, hc2⟩ := id hc
  refine W.sz (fun hsz => ?_)
  have hge := wr_ge hW hs0 hS.1
  refine call_on (run b0 D cy av L xs p l e R s mid args below meth c n0 H locs lsx (σ.1 - n0) (ss σ.1 - ss n0) C hl hW hS ⟨by show mhg t + 1 ≤ R.frames; omega, by show 8 + (mml t + 11) + 31 * mhg t ≤ R.locals; omega⟩ ⟨by omega, by omega⟩ (by omega) (met_of (by omega) hgt hlen b0 D cy av L xs l)) hS (fun H1 locs1 hW1 hS1 => ?_)
  have hw := hg.2 _ _ _ _ _ _ _ _ _ _ _ _ _ _ _ _ _ _ C _ _ _ hl hW1 hS1 (by omega) hc hk
  have e1 : (r1.map (cv b0 av)).toList ++ rest.map (cv b0 av) = (r1.toList ++ rest).map (cv b0 av) := by
    cases r1 <;> simp
  rw [e1]
  exact W.cs (by omega) (by omega) hw
theorem ck0 {o i t n : Nat} (h : ck o i = some (0, t, n)) : Cond.methodLink (Rc o) i (mna t) ∈ Big ∧ Cond.instanceMethod (mna t) ∈ Big ∧ Cond.selects (mna t).cls (mna t) (mna t) ∈ Big ∧ Cond.initialized (mna t).cls ∈ Big ∧ t < 211 ∧ (parseMethodDescriptor (mna t).desc).map (fun d => d.parameters.length) = some n := by
  obtain ⟨g, hg⟩ := ck_spec h
  match g, hg with
  | [a, b, c, d, f], hg =>
    simp only [okC, Bool.and_eq_true, decide_eq_true_eq] at hg
    obtain ⟨⟨⟨⟨⟨h1, h2⟩, h3⟩, h4⟩, h5⟩, h6⟩ := hg
    exact ⟨okw_in h1, okw_in h2, okw_in h3, okw_in h4, h5, h6⟩
  | [], hg => simp [okC] at hg
  | [_], hg => simp [okC] at hg
  | [_, _], hg => simp [okC] at hg
  | [_, _, _], hg => simp [okC] at hg
  | [_, _, _, _], hg => simp [okC] at hg
  | _ :: _ :: _ :: _ :: _ :: _ :: _, hg => simp [okC] at hg
theorem ck1 {o i t n : Nat} (h : ck o i = some (1, t, n)) : Cond.methodLink (Rc o) i (mna t) ∈ Big ∧ Cond.static (mna t) ∈ Big ∧ Cond.initialized (mna t).cls ∈ Big ∧ t < 211 ∧ (parseMethodDescriptor (mna t).desc).map (fun d => d.parameters.length) = some n := by
  obtain ⟨g, hg⟩ := ck_spec h
  match g, hg with
  | [a, b, c, d], hg =>
    simp only [okC, Bool.and_eq_true, decide_eq_true_eq] at hg
    obtain ⟨⟨⟨⟨h1, h2⟩, h3⟩, h4⟩, h5⟩ := hg
    exact ⟨okw_in h1, okw_in h2, okw_in h3, h4, h5⟩
  | [], hg => simp [okC] at hg
  | [_], hg => simp [okC] at hg
  | [_, _], hg => simp [okC] at hg
  | [_, _, _], hg => simp [okC] at hg
  | _ :: _ :: _ :: _ :: _ :: _, hg => simp [okC] at hg
theorem nsl_in {o i t : Nat} (h : nsl.any (fun q => decide (q.1 = Rc o ∧ q.2.1 = i ∧ q.2.2.1 = t)) = true) : ∃ host, (Rc o, i, t, host) ∈ nsl := by
  obtain ⟨⟨a, b, c, d⟩, h1, h2⟩ := List.any_eq_true.mp h
  simp only [decide_eq_true_eq] at h2
  obtain ⟨rfl, rfl, rfl⟩ := h2
  exact ⟨d, h1⟩
theorem ck2 {o i t n : Nat} (h : ck o i = some (2, t, n)) : Cond.static (mna t) ∈ Big ∧ Cond.initialized (mna t).cls ∈ Big ∧ t < 211 ∧ (parseMethodDescriptor (mna t).desc).map (fun d => d.parameters.length) = some n ∧ ∃ host, (Rc o, i, t, host) ∈ nsl := by
  obtain ⟨g, hg⟩ := ck_spec h
  match g, hg with
  | [a, b, c], hg =>
    simp only [okC, Bool.and_eq_true, decide_eq_true_eq] at hg
    obtain ⟨⟨⟨⟨h1, h2⟩, h3⟩, h4⟩, h5⟩ := hg
    exact ⟨okw_in h1, okw_in h2, h3, h4, nsl_in h5⟩
  | [], hg => simp [okC] at hg
  | [_], hg => simp [okC] at hg
  | [_, _], hg => simp [okC] at hg
  | _ :: _ :: _ :: _ :: _, hg => simp [okC] at hg
theorem ck3 {o i t n : Nat} (h : ck o i = some (3, t, n)) : Cond.methodLink (Rc o) i (mna t) ∈ Big ∧ Cond.instanceMethod (mna t) ∈ Big ∧ Cond.initialized (mna t).cls ∈ Big ∧ t < 211 ∧ (parseMethodDescriptor (mna t).desc).map (fun d => d.parameters.length) = some n ∧ (mna t).name = "<init>" ∧ mre t = none := by
  obtain ⟨g, hg⟩ := ck_spec h
  match g, hg with
  | [a, b, c, d], hg =>
    simp only [okC, Bool.and_eq_true, decide_eq_true_eq] at hg
    obtain ⟨⟨⟨⟨⟨⟨h1, h2⟩, h3⟩, h4⟩, h5⟩, h6⟩, h7⟩ := hg
    exact ⟨okw_in h1, okw_in h2, okw_in h3, h4, h5, h6, h7⟩
  | [], hg => simp [okC] at hg
  | [_], hg => simp [okC] at hg
  | [_, _], hg => simp [okC] at hg
  | [_, _, _], hg => simp [okC] at hg
  | _ :: _ :: _ :: _ :: _ :: _, hg => simp [okC] at hg
theorem ck4 {o i t n : Nat} (h : ck o i = some (4, t, n)) : Cond.instanceMethod (mna t) ∈ Big ∧ Cond.initialized (mna t).cls ∈ Big ∧ t < 211 ∧ (parseMethodDescriptor (mna t).desc).map (fun d => d.parameters.length) = some n ∧ (∃ host, (Rc o, i, t, host) ∈ nsl) ∧ (mna t).name = "<init>" ∧ mre t = none := by
  obtain ⟨g, hg⟩ := ck_spec h
  match g, hg with
  | [a, b, c], hg =>
    simp only [okC, Bool.and_eq_true, decide_eq_true_eq] at hg
    obtain ⟨⟨⟨⟨⟨⟨h1, h2⟩, h3⟩, h4⟩, h5⟩, h6⟩, h7⟩ := hg
    exact ⟨okw_in h1, okw_in h2, h3, h4, nsl_in h5, h6, h7⟩
  | [], hg => simp [okC] at hg
  | [_], hg => simp [okC] at hg
  | [_, _], hg => simp [okC] at hg
  | _ :: _ :: _ :: _ :: _, hg => simp [okC] at hg
theorem ck5 {o i t n : Nat} (h : ck o i = some (5, t, n)) : Cond.methodLink (Rc o) i (mna t) ∈ Big ∧ Cond.sameMethod (mna t).cls (mna t).cls (mna t).name (mna t).desc ∈ Big ∧ Cond.superclass (Rc o) (mna t).cls ∈ Big ∧ Cond.instanceMethod (mna t) ∈ Big ∧ Cond.initialized (mna t).cls ∈ Big ∧ t < 211 ∧ (parseMethodDescriptor (mna t).desc).map (fun d => d.parameters.length) = some n ∧ (mna t).name ≠ "<init>" := by
  obtain ⟨g, hg⟩ := ck_spec h
  match g, hg with
  | [a, b, c, d, e, f], hg =>
    simp only [okC, Bool.and_eq_true, decide_eq_true_eq] at hg
    obtain ⟨⟨⟨⟨⟨⟨⟨h1, h2⟩, h3⟩, h4⟩, h5⟩, h6⟩, h7⟩, h8⟩ := hg
    exact ⟨okw_in h1, okw_in h2, okw_in h3, okw_in h4, okw_in h5, h6, h7, h8⟩
  | [], hg => simp [okC] at hg
  | [_], hg => simp [okC] at hg
  | [_, _], hg => simp [okC] at hg
  | [_, _, _], hg => simp [okC] at hg
  | [_, _, _, _], hg => simp [okC] at hg
  | [_, _, _, _, _], hg => simp [okC] at hg
  | _ :: _ :: _ :: _ :: _ :: _ :: _ :: _, hg => simp [okC] at hg
theorem ck6 {o i t n : Nat} (h : ck o i = some (6, t, n)) : Cond.methodLink (Rc o) i Lib.objectInit ∈ Big ∧ Cond.instanceMethod Lib.objectInit ∈ Big ∧ Cond.code Lib.objectInit ⟨#[0xb1]⟩ 1 none ∈ Big := by
  obtain ⟨g, hg⟩ := ck_spec h
  match g, hg with
  | [a, b, c], hg =>
    simp only [okC, Bool.and_eq_true] at hg
    exact ⟨okw_in hg.1.1, okw_in hg.1.2, okw_in hg.2⟩
  | [], hg => simp [okC] at hg
  | [_], hg => simp [okC] at hg
  | [_, _], hg => simp [okC] at hg
  | _ :: _ :: _ :: _ :: _, hg => simp [okC] at hg
theorem ck7 {o i t n : Nat} (h : ck o i = some (7, t, n)) : Cond.methodLink (Rc o) i yX5_pull ∈ Big ∧ Cond.sameMethod yX5_pull.cls yX5_pull.cls yX5_pull.name yX5_pull.desc ∈ Big ∧ Cond.instanceMethod yX5_pull ∈ Big ∧ mna t = yX5_pull ∧ n = 4 := by
  obtain ⟨g, hg⟩ := ck_spec h
  match g, hg with
  | [a, b, c, d], hg =>
    simp only [okC, Bool.and_eq_true, decide_eq_true_eq] at hg
    obtain ⟨⟨⟨⟨h1, h2⟩, h3⟩, h4⟩, h5⟩ := hg
    rw [h4] at h1 h2 h3
    exact ⟨okw_in h1, okw_in h2, okw_in h3, h4, h5⟩
  | [], hg => simp [okC] at hg
  | [_], hg => simp [okC] at hg
  | [_, _], hg => simp [okC] at hg
  | [_, _, _], hg => simp [okC] at hg
  | _ :: _ :: _ :: _ :: _ :: _, hg => simp [okC] at hg
theorem ck8 {o i t n : Nat} (h : ck o i = some (8, t, n)) : Cond.methodLink (Rc o) i arraycopyName ∈ Big ∧ Cond.native arraycopyName ∈ Big ∧ Cond.static arraycopyName ∈ Big ∧ Cond.initialized "java/lang/System" ∈ Big := by
  obtain ⟨g, hg⟩ := ck_spec h
  match g, hg with
  | [a, b, c, d], hg =>
    simp only [okC, Bool.and_eq_true] at hg
    exact ⟨okw_in hg.1.1.1, okw_in hg.1.1.2, okw_in hg.1.2, okw_in hg.2⟩
  | [], hg => simp [okC] at hg
  | [_], hg => simp [okC] at hg
  | [_, _], hg => simp [okC] at hg
  | [_, _, _], hg => simp [okC] at hg
  | _ :: _ :: _ :: _ :: _ :: _, hg => simp [okC] at hg
theorem pkw {c t : Nat} (h : pk c = some t) : Cond.selects (Rc c) yX5_pull (mna t) ∈ Big ∧ Cond.instanceMethod (mna t) ∈ Big ∧ Cond.initialized (mna t).cls ∈ Big ∧ t < 211 ∧ c < 13 := by
  obtain ⟨g, hg⟩ := pk_spec h
  match g, hg with
  | [a, b, d, f], hg =>
    simp only [okP, Bool.and_eq_true, decide_eq_true_eq] at hg
    obtain ⟨⟨⟨⟨⟨h1, h2⟩, h3⟩, h4⟩, h5⟩, h6⟩ := hg
    exact ⟨okw_in h1, okw_in h2, okw_in h3, h4, h5⟩
  | [], hg => simp [okP] at hg
  | [_], hg => simp [okP] at hg
  | [_, _], hg => simp [okP] at hg
  | [_, _, _], hg => simp [okP] at hg
  | _ :: _ :: _ :: _ :: _ :: _, hg => simp [okP] at hg
theorem mhg_0 {m : Nat} (h : ¬ 1 ≤ mhg m) : mcl m = 99 := by
  have hm : mhg m = 0 := by omega
  unfold mhg mt at hm
  unfold mcl mt
  rw [List.getD_eq_getElem?_getD] at hm ⊢
  cases hq : mtl[m]? with
  | none => rfl
  | some x =>
    rw [hq] at hm
    have h2 : mtl.all (fun x => decide (x.2.2.2.2.2 ≠ 0)) = true := by decide +kernel
    have h3 := List.all_eq_true.mp h2 x (List.mem_of_getElem? hq)
    simp only [decide_eq_true_eq] at h3
    exact absurd hm h3
theorem ck_99 (i : Nat) : ck 99 i = none := by
  unfold ck
  rw [List.find?_eq_none.mpr]
  · rfl
  · intro x hx
    have h2 : ctl.all (fun e => !(e.1 == 99)) = true := by decide +kernel
    have h3 := List.all_eq_true.mp h2 x hx
    simp at h3
    simp [h3]
theorem mcl_lt {t : Nat} (h : t < 211) : mcl t < 20 := by
  have h9 : (mtl.take 211).all (fun x => decide (x.2.2.2.2.1 < 20)) = true := by decide +kernel
  have hl : (mtl.take 211).length = 211 := by decide +kernel
  have hm : mt t ∈ mtl.take 211 := by
    have e : (mtl.take 211)[t]? = mtl[t]? := by rw [List.getElem?_take, if_pos h]
    have h1 : t < (mtl.take 211).length := by omega
    have h2 := List.getElem_mem h1
    have h3 : mt t = (mtl.take 211)[t] := by
      unfold mt
      rw [List.getD_eq_getElem?_getD, ← e, List.getElem?_eq_getElem h1]
      rfl
    rw [h3]
    exact h2
  have h10 := List.all_eq_true.mp h9 _ hm
  simp only [decide_eq_true_eq] at h10
  exact h10
theorem tg_kind {a : Nat} (h : a < 100) : (tg a).1 < 13 ∨ 20 ≤ (tg a).1 := by
  have hlt : a < lyt.length := by
    have : lyt.length = 100 := by decide
    omega
  have hmem : tg a ∈ lyt := by
    unfold tg
    rw [List.getD_eq_getElem?_getD, List.getElem?_eq_getElem hlt]
    exact List.getElem_mem _
  have h2 : lyt.all (fun x => decide (x.1 < 13 ∨ 20 ≤ x.1)) = true := by decide +kernel
  have h3 := List.all_eq_true.mp h2 _ hmem
  simpa using h3
theorem kind_13 {σ : Sto} {a t : Nat} (h : isA σ a (mcl t) = true) (h100 : σ.1 ≤ 100) (ht : t < 211) : mcl t < 13 := by
  obtain ⟨h1, h2⟩ := isA_spec h
  have h3 := tg_kind (a := a) (by omega)
  have h4 := mcl_lt ht
  omega
section OPS
variable {rec : Rec} {m pc k : Nat} {ls st : Vs} {σ : Sto} {r : Option Value} {σ' : Sto}
theorem goM_spec (hr : OkR rec) {t : Nat} {as rest : Vs} (h : goM rec t as m pc ls rest σ = some (r, σ')) : ∃ (r1 : Option Value) (σ1 : Sto), Gm t 0 (lcs (mml t) as) [] σ r1 σ1 ∧ Gm m (pc + 3) ls (r1.toList ++ rest) σ1 r σ' ∧ rest.length ≤ 4 ∧ (lcv as).length ≤ mml t ∧ mhg t < mhg m := by
  unfold goM at h
  split at h
  · rename_i hc
    cases hq : rec t 0 (lcs (mml t) as) [] σ with
    | none => rw [hq] at h; cases h
    | some q =>
      rw [hq] at h
      exact ⟨q.1, q.2, hr _ _ _ _ _ _ _ hq, hr _ _ _ _ _ _ _ h, hc.1, hc.2.1, hc.2.2⟩
  · cases h
theorem ok_static {t n i : Nat} (hr : OkR rec) (hd : decode (mco m) pc = .ok (.invokestatic i, 3)) (hck : ck (mcl m) i = some (1, t, n)) (hn : n ≤ st.length) (h : goM rec t (pop st n) m pc ls (st.drop n) σ = some (r, σ')) : Gm m pc ls st σ r σ' := by
  obtain ⟨r1, σ1, g1, g2, g3, g4, g5⟩ := goM_spec hr h
  obtain ⟨w1, w2, w3, ht, hp⟩ := ck1 hck
  obtain ⟨k1, k2, k3, k4, k5⟩ := mt_ok (t := t) (by omega)
  refine gm_call g1 g2 g4 g5 ht ?_
  intro b0 D cy av L xs p l e R s mid args below meth c n0 H locs lsx cells slots C hl hW hS hR hf hsz hM
  obtain ⟨hx, hb, hml, hown, hts, hin, hC, hs0, hfr, hlo⟩ := id C
  refine va_runS (As := (pop st n).map (cv b0 av)) ⟨hx, hb, hml, hown, hts⟩ hM (va_cwS n hts (gin (fun w hw => ?_)) rfl rfl rfl ⟨k3, k4, hp⟩ hR) ⟨px_blind, px_at hC hW hS hsz⟩ rfl ?_ hl.1 pop_map (lv_room (Nat.le_trans (cat_le _) (by omega))) hd hf
  · unfold va_wsS wsx at hw
    rcases List.mem_append.mp hw with h | h
    · simp at h
      rcases h with rfl | rfl | rfl
      · exact w1
      · exact w2
      · exact w3
    · rcases List.mem_cons.mp h with rfl | h
      · exact code_in ht
      · exact h
  · unfold pop
    simp
    omega
theorem ok_staticN {t n i : Nat} (hr : OkR rec) (hd : decode (mco m) pc = .ok (.invokestatic i, 3)) (hck : ck (mcl m) i = some (2, t, n)) (hn : n ≤ st.length) (h : goM rec t (pop st n) m pc ls (st.drop n) σ = some (r, σ')) : Gm m pc ls st σ r σ' := by
  obtain ⟨r1, σ1, g1, g2, g3, g4, g5⟩ := goM_spec hr h
  obtain ⟨w2, w3, ht, hp, host, hns⟩ := ck2 hck
  obtain ⟨k1, k2, k3, k4, k5⟩ := mt_ok (t := t) (by omega)
  refine gm_call g1 g2 g4 g5 ht ?_
  intro b0 D cy av L xs p l e R s mid args below meth c n0 H locs lsx cells slots C hl hW hS hR hf hsz hM
  obtain ⟨hx, hb, hml, hown, hts, hin, hC, hs0, hfr, hlo⟩ := id C
  have hnw : va_Nw (.methodLinkNest (Rc (mcl m)) i (mna t) host) s := hC.2.1 (Rc (mcl m), i, t, host) hns
  refine va_runSN (As := (pop st n).map (cv b0 av)) (host := host) ⟨hx, hb, hml, hown, hts⟩ hM ⟨va_cnB n hts (gin (fun w hw => ?_)) rfl rfl rfl hnw (hts _ w3) ⟨k3, k4, hp⟩ hR, hts _ w2, trivial⟩ ⟨px_blind, px_at hC hW hS hsz⟩ rfl ?_ hl.1 pop_map (lv_room (Nat.le_trans (cat_le _) (by omega))) hd hf
  · rcases List.mem_cons.mp hw with rfl | h
    · exact code_in ht
    · exact h
  · unfold pop
    simp
    omega
theorem ok_copy {t n i : Nat} (hr : OkR rec) (hd : decode (mco m) pc = .ok (.invokestatic i, 3)) (hck : ck (mcl m) i = some (8, t, n)) (h : (match st with
    | .int n :: .int dp :: .ref a1 :: .int sp :: .ref a0 :: r => if isA σ a0 20 = true ∧ isA σ a1 20 = true ∧ ¬ sp < 0 ∧ ¬ dp < 0 ∧ ¬ n < 0 ∧ sp.toNatClampNeg + n.toNatClampNeg ≤ (tg a0).2 ∧ dp.toNatClampNeg + n.toNatClampNeg ≤ (tg a1).2 ∧ r.length ≤ 4 then rec m (pc + 3) ls r (cpy σ a0 a1 sp dp n) else none
    | _ => none) = some (r, σ')) : Gm m pc ls st σ r σ' := by
  obtain ⟨w1, w2, w3, w4⟩ := ck8 hck
  split at h
  · rename_i n dp a1 sp a0 r0
    split at h
    · rename_i hc
      obtain ⟨c1, c2, c3, c4, c5, c6, c7, c8⟩ := hc
      obtain ⟨d1, d2⟩ := isA_spec c1
      obtain ⟨e1, e2⟩ := isA_spec c2
      by_cases hmh : 1 ≤ mhg m
      · refine gm_heap (hr _ _ _ _ _ _ _ h) rfl ?_
        intro b0 D cy av L xs p l e R s mid args below meth c0 n0 Z H locs lsx cells slots C hl hW hS k
        obtain ⟨hx, hb, hml, hown, hts, hin, hC, hs0, hfr, hlo⟩ := id C
        rw [List.map_cons, List.map_cons, List.map_cons, List.map_cons, List.map_cons, cv_own (wr_cell hW d1), cv_own (wr_cell hW e1)]
        have hct := cat_le (b0 := b0) (av := av) r0
        refine va_copyi hx hb (hml.trans hl.1.symm) hown (hts _ w1) (hts _ w2) (hts _ w3) (hts _ w4) hC.1 hW.1 (wl_D b0 cy σ) hS a0 a1 0 0 (by rw [wl_get d1, ce_arr d2 (by omega) (by omega)]) (by rw [wl_get e1, ce_arr e2 (by omega) (by omega)]) rfl rfl rfl c3 c4 c5 c6 c7 (fun _ _ => rfl) (by omega) ?_ hd (fun H1 locs1 q1 q2 q3 => k H1 locs1 (wr_set hW.2 e1 rfl ?_ (fun b hb => ce_congr rfl (va_up_ne _ _ hb) rfl) (fun b hb => va_up_ne _ _ hb) (fun b hb => rfl) q1) q3)
        · have e : nativeFrameWords "java/lang/System" "arraycopy" 5 = 7 := by decide
          rw [e]
          omega
        · rw [ce_arr e2 (by omega) (by omega)]
          simp [cpy, va_up]
      · exfalso
        rw [mhg_0 hmh, ck_99] at hck
        cases hck
    · cases h
  · cases h
theorem ok_invokestatic (hr : OkR rec) {i : Nat} (hd : decode (mco m) pc = .ok (.invokestatic i, k)) (h : (if k = 3 then doS rec i m pc ls st σ else none) = some (r, σ')) : Gm m pc ls st σ r σ' := by
  split at h
  · rename_i hk; subst hk
    unfold doS at h
    split at h
    · rename_i t n hck
      split at h
      · rename_i hn
        exact ok_static hr hd hck hn h
      · cases h
    · rename_i t n hck
      split at h
      · rename_i hn
        exact ok_staticN hr hd hck hn h
      · cases h
    · rename_i t n hck
      exact ok_copy hr hd hck h
    · cases h
  · cases h
theorem ok_invokevirtual (hr : OkR rec) {i : Nat} (hd : decode (mco m) pc = .ok (.invokevirtual i, k)) (h : (if k = 3 then doV rec i m pc ls st σ else none) = some (r, σ')) : Gm m pc ls st σ r σ' := by
  split at h
  · rename_i hk; subst hk
    unfold doV at h
    split at h
    · rename_i t n hck
      split at h
      · rename_i a ha
        split at h
        · rename_i hc
          obtain ⟨hc, hn⟩ := hc
          obtain ⟨as, hpop, hal⟩ := pop_cons ha hn
          obtain ⟨r1, σ1, g1, g2, g3, g4, g5⟩ := goM_spec hr h
          obtain ⟨w1, w2, w3, w4, ht, hp⟩ := ck0 hck
          obtain ⟨k1, k2, k3, k4, k5⟩ := mt_ok (t := t) (by omega)
          refine gm_call g1 g2 g4 g5 ht ?_
          intro b0 D cy av L xs p l e R s mid args below meth c n0 H locs lsx cells slots C hl hW hS hR hf hsz hM
          obtain ⟨hx, hb, hml, hown, hts, hin, hC, hs0, hfr, hlo⟩ := id C
          have hrecv : ∃ b : Nat, cv b0 av (.ref a) = .ref b ∧ ∃ cellB : Cell, H[b]? = some cellB ∧ cellB.vm.isStatics = false ∧ s.vm.findClass (mna t).cls = some cellB.cls := by
            rcases hc with hc | ⟨h13, hc1, hc2⟩
            · obtain ⟨ha1, ha2⟩ := isA_spec hc
              refine ⟨b0 + a, cv_own (wr_cell hW ha1), ?_⟩
              have h13 : mcl t < 13 := kind_13 hc hW.2.1 ht
              have := va_recv hC.1 hW.1 (ci := mcl t) (q0 := a) (cl_get _ h13) (by rw [wl_get ha1, ce_obj ha2 h13])
              rw [k1]
              exact this
            · obtain ⟨-, -, -, -, -, -, -, -, -, adK, adV, hE, hRR⟩ := id hC
              obtain ⟨j, rfl⟩ := Nat.exists_eq_add_of_le hc1
              have hc2 : (1010 : Nat) + j < 1015 := hc2
              have hj : j < 5 := by omega
              refine ⟨adK j, ?_, ?_⟩
              · simp only [cv, show ¬ 1010 + j < 1000 by omega, if_false]; exact (hRR j hj).1
              · have := vk_recv hE hj hS
                rw [k1, h13]
                exact this
          obtain ⟨b, hb1, hb2⟩ := hrecv
          have hmap : (pop st (n + 1)).map (cv b0 av) = .ref b :: as.map (cv b0 av) := by rw [hpop, List.map_cons, hb1]
          rw [hmap]
          refine va_runV (C := (mna t).cls) (As := as.map (cv b0 av)) ⟨hx, hb, hml, hown, hts⟩ hM (cwV n hts (gin (fun w hw => ?_)) rfl rfl rfl ⟨rfl, k3, k4, hp⟩ hR) ⟨px_blind, hb2, ?_⟩ rfl (by simp [hal]) hl.1 ?_ (lv_room (Nat.le_trans (cat_le _) (by omega))) hd hf
          · unfold wsV wsx at hw
            rcases List.mem_append.mp hw with h | h
            · simp at h
              rcases h with rfl | rfl | rfl | rfl
              · exact w1
              · exact w2
              · exact w3
              · exact w4
            · rcases List.mem_cons.mp h with rfl | h
              · exact code_in ht
              · exact h
          · rw [← hmap]
            exact px_at hC hW hS hsz
          · show st.map (cv b0 av) = _
            rw [pop_map (n := n + 1), hmap]
            simp
        · cases h
      · cases h
    · rename_i t0 n hck
      split at h
      · rename_i a ha
        split at h
        · rename_i hc
          obtain ⟨ha1, hn⟩ := hc
          split at h
          · rename_i t hpk
            obtain ⟨as, hpop, hal⟩ := pop_cons ha hn
            obtain ⟨r1, σ1, g1, g2, g3, g4, g5⟩ := goM_spec hr h
            obtain ⟨w1, w2, w3, -, hn4⟩ := ck7 hck
            obtain ⟨v1, v2, v3, ht, h13⟩ := pkw hpk
            subst hn4
            obtain ⟨k1, k2, k3, k4, k5⟩ := mt_ok (t := t) (by omega)
            refine gm_call g1 g2 g4 g5 ht ?_
            intro b0 D cy av L xs p l e R s mid args below meth c n0 H locs lsx cells slots C hl hW hS hR hf hsz hM
            obtain ⟨hx, hb, hml, hown, hts, hin, hC, hs0, hfr, hlo⟩ := id C
            have hmap : (pop st (4 + 1)).map (cv b0 av) = .ref (b0 + a) :: as.map (cv b0 av) := by rw [hpop, List.map_cons, cv_own (wr_cell hW ha1)]
            rw [hmap]
            have hcode5 : Cond.code ⟨yX5_pull.cls, yX5_pull.name, yX5_pull.desc⟩ cX5_pull 5 (some .int) ∈ Big := code_in (t := 14) (by decide)
            refine va_runU (C := Rc (tg a).1) (owner := yX5_pull.cls) (x := yX5_pull) (As := as.map (cv b0 av)) ⟨hx, hb, hml, hown, hts⟩ hM (va_cwO 4 hts (gin (fun w hw => ?_)) rfl rfl rfl hcode5 ⟨by decide, by decide, by decide +kernel⟩ hR) ⟨px_blind, va_recv hC.1 hW.1 (ci := (tg a).1) (q0 := a) (cl_get _ h13) (by rw [wl_get ha1, ce_obj rfl h13]), ?_⟩ rfl (by simp [hal]) hl.1 ?_ (lv_room (Nat.le_trans (cat_le _) (by omega))) hd hf
            · unfold va_wsO wsx at hw
              rcases List.mem_append.mp hw with h | h
              · simp at h
                rcases h with rfl | rfl | rfl | rfl | rfl | rfl
                · exact w1
                · exact w2
                · exact w3
                · exact v1
                · exact v2
                · exact v3
              · rcases List.mem_cons.mp h with rfl | h
                · exact code_in ht
                · exact h
            · rw [← hmap]
              exact px_at hC hW hS hsz
            · show st.map (cv b0 av) = _
              rw [pop_map (n := 4 + 1), hmap]
              simp
          · cases h
        · cases h
      · cases h
    · cases h
  · cases h
theorem ok_invokespecial (hr : OkR rec) {i : Nat} (hd : decode (mco m) pc = .ok (.invokespecial i, k)) (h : (if k = 3 then doI rec i m pc ls st σ else none) = some (r, σ')) : Gm m pc ls st σ r σ' := by
  split at h
  · rename_i hk; subst hk
    unfold doI at h
    split at h
    · rename_i t n hck
      split at h
      · rename_i a ha
        split at h
        · rename_i hc
          obtain ⟨ha1, hn⟩ := hc
          obtain ⟨as, hpop, hal⟩ := pop_cons ha hn
          obtain ⟨r1, σ1, g1, g2, g3, g4, g5⟩ := goM_spec hr h
          obtain ⟨w1, w2, w3, ht, hp, hini, hre⟩ := ck3 hck
          obtain ⟨k1, k2, k3, k4, k5⟩ := mt_ok (t := t) (by omega)
          refine gm_call g1 g2 g4 g5 ht ?_
          intro b0 D cy av L xs p l e R s mid args below meth c n0 H locs lsx cells slots C hl hW hS hR hf hsz hM
          obtain ⟨hx, hb, hml, hown, hts, hin, hC, hs0, hfr, hlo⟩ := id C
          have hmap : (pop st (n + 1)).map (cv b0 av) = .ref (b0 + a) :: as.map (cv b0 av) := by rw [hpop, List.map_cons, cv_own (wr_cell hW ha1)]
          rw [hmap]
          refine va_runI (As := as.map (cv b0 av)) ⟨hx, hb, hml, hown, hts⟩ hM (cwI n hts (gin (fun w hw => ?_)) (by unfold wsx; rw [hre]) rfl rfl (hts _ w3) (hts _ w1) (hts _ w2) hini ⟨k3, k4, hp⟩ hR) ⟨px_blind, ?_⟩ rfl (by simp [hal]) hl.1 ?_ (lv_room (Nat.le_trans (cat_le _) (by omega))) hd hf
          · rcases List.mem_cons.mp hw with rfl | h
            · exact code_in ht
            · exact h
          · rw [← hmap]
            exact px_at hC hW hS hsz
          · show st.map (cv b0 av) = _
            rw [pop_map (n := n + 1), hmap]
            simp
        · cases h
      · cases h
    · rename_i t n hck
      split at h
      · rename_i a ha
        split at h
        · rename_i hc
          obtain ⟨ha1, hn⟩ := hc
          obtain ⟨as, hpop, hal⟩ := pop_cons ha hn
          obtain ⟨r1, σ1, g1, g2, g3, g4, g5⟩ := goM_spec hr h
          obtain ⟨w2, w3, ht, hp, ⟨host, hns⟩, hini, hre⟩ := ck4 hck
          obtain ⟨k1, k2, k3, k4, k5⟩ := mt_ok (t := t) (by omega)
          refine gm_call g1 g2 g4 g5 ht ?_
          intro b0 D cy av L xs p l e R s mid args below meth c n0 H locs lsx cells slots C hl hW hS hR hf hsz hM
          obtain ⟨hx, hb, hml, hown, hts, hin, hC, hs0, hfr, hlo⟩ := id C
          have hmap : (pop st (n + 1)).map (cv b0 av) = .ref (b0 + a) :: as.map (cv b0 av) := by rw [hpop, List.map_cons, cv_own (wr_cell hW ha1)]
          rw [hmap]
          have hnw : va_Nw (.methodLinkNest (Rc (mcl m)) i (mna t) host) s := hC.2.1 (Rc (mcl m), i, t, host) hns
          refine va_runIN (As := as.map (cv b0 av)) (host := host) ⟨hx, hb, hml, hown, hts⟩ hM ⟨va_cnB n hts (gin (fun w hw => ?_)) (by unfold wsx; rw [hre]) rfl rfl hnw (hts _ w3) ⟨k3, k4, hp⟩ hR, hini, hts _ w2⟩ ⟨px_blind, ?_⟩ rfl (by simp [hal]) hl.1 ?_ (lv_room (Nat.le_trans (cat_le _) (by omega))) hd hf
          · rcases List.mem_cons.mp hw with rfl | h
            · exact code_in ht
            · exact h
          · rw [← hmap]
            exact px_at hC hW hS hsz
          · show st.map (cv b0 av) = _
            rw [pop_map (n := n + 1), hmap]
            simp
        · cases h
      · cases h
    · rename_i t n hck
      split at h
      · rename_i a ha
        split at h
        · rename_i hc
          obtain ⟨ha1, h13, hn⟩ := hc
          obtain ⟨as, hpop, hal⟩ := pop_cons ha hn
          obtain ⟨r1, σ1, g1, g2, g3, g4, g5⟩ := goM_spec hr h
          obtain ⟨w1, w2, w3, w4, w5, ht, hp, hni⟩ := ck5 hck
          obtain ⟨k1, k2, k3, k4, k5⟩ := mt_ok (t := t) (by omega)
          refine gm_call g1 g2 g4 g5 ht ?_
          intro b0 D cy av L xs p l e R s mid args below meth c n0 H locs lsx cells slots C hl hW hS hR hf hsz hM
          obtain ⟨hx, hb, hml, hown, hts, hin, hC, hs0, hfr, hlo⟩ := id C
          have hmap : (pop st (n + 1)).map (cv b0 av) = .ref (b0 + a) :: as.map (cv b0 av) := by rw [hpop, List.map_cons, cv_own (wr_cell hW ha1)]
          rw [hmap]
          refine va_runSU (C := Rc (tg a).1) (As := as.map (cv b0 av)) (hC.1.1 _ _ (cl_get _ h13)).2 ⟨hx, hb, hml, hown, hts⟩ hM (va_cwSU n hts (gin (fun w hw => ?_)) rfl rfl rfl ⟨hni, hp⟩ hR) ⟨px_blind, va_recv hC.1 hW.1 (ci := (tg a).1) (q0 := a) (cl_get _ h13) (by rw [wl_get ha1, ce_obj rfl h13]), ?_⟩ rfl (by simp [hal]) hl.1 ?_ (lv_room (Nat.le_trans (cat_le _) (by omega))) hd hf
          · unfold va_wsSU wsx at hw
            rcases List.mem_append.mp hw with h | h
            · simp at h
              rcases h with rfl | rfl | rfl | rfl | rfl
              · exact w1
              · exact w2
              · exact w3
              · exact w4
              · exact w5
            · rcases List.mem_cons.mp h with rfl | h
              · exact code_in ht
              · exact h
          · rw [← hmap]
            exact px_at hC hW hS hsz
          · show st.map (cv b0 av) = _
            rw [pop_map (n := n + 1), hmap]
            simp
        · cases h
      · cases h
    · rename_i t n hck
      split at h
      · rename_i a r0
        split at h
        · rename_i hc
          obtain ⟨ha1, hr4⟩ := hc
          obtain ⟨w1, w2, w3⟩ := ck6 hck
          by_cases hmh : 1 ≤ mhg m
          · refine gm_pure (hr _ _ _ _ _ _ _ h) ?_
            intro b0 D cy av L xs p l e R s mid args below meth c0 n0 Z H locs lsx cells slots C hl hW hS k
            obtain ⟨hx, hb, hml, hown, hts, hin, hC, hs0, hfr, hlo⟩ := id C
            rw [List.map_cons, cv_own (wr_cell hW ha1)]
            have hct := cat_le (b0 := b0) (av := av) r0
            exact W.objInit hx hb hown (hts _ w1) (hts _ w2) (hts _ w3) rfl (hl.1.trans hml.symm) rfl hd (by omega) (by have := lv_room (m := mid) (pc := pc) (ls := lsx) (rest := .ref (b0 + a) :: r0.map (cv b0 av)) (st := r0.map (cv b0 av)) (by omega); omega) k
          · exfalso
            rw [mhg_0 hmh, ck_99] at hck
            cases hck
        · cases h
      · cases h
    · cases h
  · cases h
end OPS
end
section
/-! SOUNDNESS, 10: every run of the interpreter is the machine's -/
theorem stp_ok {rec : Rec} (hr : OkR rec) {i : Instr} {k m pc : Nat} {ls st : Vs} {σ : Sto} {r : Option Value} {σ' : Sto} (hd : decode (mco m) pc = .ok (i, k)) (h : stp rec i k m pc ls st σ = some (r, σ')) : Gm m pc ls st σ r σ' := by
  unfold stp at h
  split at h
  · exact ok_iload_n hr hd h
  · exact ok_iload hr hd h
  · exact ok_lload_n hr hd h
  · exact ok_lload hr hd h
  · exact ok_aload_n hr hd h
  · exact ok_aload hr hd h
  · exact ok_istore_n hr hd h
  · exact ok_istore hr hd h
  · exact ok_lstore_n hr hd h
  · exact ok_lstore hr hd h
  · exact ok_astore_n hr hd h
  · exact ok_astore hr hd h
  · exact ok_iconst hr hd h
  · exact ok_bipush hr hd h
  · exact ok_sipush hr hd h
  · exact ok_lconst hr hd h
  · exact ok_ldc hr hd h
  · exact ok_ldc_w hr hd h
  · exact ok_ldc2_w hr hd h
  · exact ok_iinc hr hd h
  · exact ok_iadd hr hd h
  · exact ok_isub hr hd h
  · exact ok_imul hr hd h
  · exact ok_iand hr hd h
  · exact ok_ior hr hd h
  · exact ok_ixor hr hd h
  · exact ok_ishl hr hd h
  · exact ok_ishr hr hd h
  · exact ok_iushr hr hd h
  · exact ok_irem hr hd h
  · exact ok_ladd hr hd h
  · exact ok_lmul hr hd h
  · exact ok_ldiv hr hd h
  · exact ok_lrem hr hd h
  · exact ok_lcmp hr hd h
  · exact ok_i2l hr hd h
  · exact ok_i2b hr hd h
  · exact ok_i2c hr hd h
  · exact ok_dup hr hd h
  · exact ok_dup2 hr hd h
  · exact ok_pop hr hd h
  · exact ok_ifCond hr hd h
  · exact ok_if_icmp hr hd h
  · exact ok_goto hr hd h
  · exact ok_tableswitch hr hd h
  · exact ok_getfield hr hd h
  · exact ok_putfield hr hd h
  · exact ok_getstatic hr hd h
  · exact ok_iaload hr hd h
  · exact ok_baload hr hd h
  · exact ok_iastore hr hd h
  · exact ok_bastore hr hd h
  · exact ok_aaload hr hd h
  · exact ok_aastore hr hd h
  · exact ok_arraylength hr hd h
  · exact ok_new hr hd h
  · exact ok_newarray hr hd h
  · exact ok_anewarray hr hd h
  · exact ok_multianewarray hr hd h
  · exact ok_invokevirtual hr hd h
  · exact ok_invokestatic hr hd h
  · exact ok_invokespecial hr hd h
  · exact ok_ireturn hd h
  · exact ok_lreturn hd h
  · exact ok_areturn hd h
  · exact ok_return hd h
  · cases h
theorem snd (f : Nat) : OkR (run f) := by
  induction f with
  | zero => intro m pc ls st σ r σ' h; cases h
  | succ f ih =>
    intro m pc ls st σ r σ' h
    simp only [run] at h
    split at h
    · rename_i i k hd
      exact stp_ok ih hd h
    · cases h
end
section
/-! THE CLAIM OUT OF ONE WALK OF THE LAW'S BODY. Your part is whole_start (and what it stands on); all else here is the same for every law, but numbers. -/
def R_law : String := "YearStretchLaw"
def lw_P (b : Addr) (xs : List Int32) (args : Array Value) (s : State) : Prop := args = #[.ref b] ∧ s.IntsAt b xs ∧ xs.length ≤ 256 ∧ (Jvm.Cond.and given_1 narrow_1).before args s = true
def lw_Q (_ : Array Value) (s : State) (o : Outcome) (t : State) : Prop := o = .returned (some (.int 1)) ∧ Framed s o t [] 600000 7302250
def lw_Z (below : List Frame) (a : Array Value) (s : State) : State → Prop := fun t => ∃ o, t.status = .running ∧ Ended t below o ∧ lw_Q a s o t
/-- the law's own end, with 1 on the stack, nothing written that was there before, its room as the claim has it -/
theorem lw_ret {p : Program} {l : Launch} {e : Env} {s : State} {m : MethodId} {below : List Frame} {meth : Method} {c : Code} {b : Nat} (hx : p.tables.exec = Jvm.exec) (hb : c.code = code) (hr : meth.sig.returnType = ret) (hlocks : meth.locks = false) {pc : Nat} {H : Heap} {ls : Array Slot} (hdg : decode code pc = .ok (.ireturn, 1)) : W p l e room_1 s m #[Value.ref b] below meth c H [] 600000 7302250 (lw_Z below #[Value.ref b] s) (F0 m pc ls [.int 1]) := by
  intro T hT X
  obtain ⟨fs, hret, hrun, hended, hW, hframe⟩ := X.leave (v := some (.int 1)) (hlocks := hlocks) (fun h => by rw [hr] at h; cases h)
  have hmeth' : T.vm.method? m = some meth := X.method'
  refine ⟨T.setFrames fs, ?_, .returned (some (.int 1)), hrun, hended, rfl, ⟨_, rfl⟩, hW, hframe⟩
  jvm_step X.here [X.here.top, hx, hb, hdg, hmeth', hr, ret, narrow_b1]
  (try refine ⟨rfl, ?_⟩); (try refine ⟨rfl, ?_⟩)
  first | (intro acts; rw [hret _ acts rfl rfl rfl]) | rw [hret _ _ rfl rfl rfl]
  exact Steps.refl _
/-- what holds at the law's entry: the machine, the code, the tables' words (any of lw_tbl by 'hts w (by decide +kernel)'), the script of L ints xs at the cell b, what the Statement gives of the start (any of its parts by flat_of_before) -/
def lw_At (p : Program) (s : State) (m : MethodId) (meth : Method) (c : Code) (b L : Nat) (xs : Nat → Int32) : Prop :=
  p.tables.exec = Jvm.exec ∧ c.code = code ∧ meth.sig.returnType = ret ∧ c.maxLocals = 4 ∧ s.vm.findClass R_law = some m.cls ∧ (∀ w ∈ lw_tbl, w.before #[Value.ref b] s = true) ∧ va_X b L xs s s.heap ∧ b < s.heap.size ∧ meth.locks = false ∧ (Jvm.Cond.and given_1 narrow_1).before #[Value.ref b] s = true
/-! THE START: what the Statement gives, and the law out of a run of the interpreter -/
theorem arrT {s : State} {ty : FieldType} {c : ClassId} {k : Class} {comp : ClassId} (h2 : s.vm.classes[c]? = some k) (h3 : k.kind = .array comp ty) : ArrOfT s c ty := fun n z => ⟨fun q h => (by cases h), k, h2, comp, h3⟩
theorem in_tbl_nest : nsl.all (fun q => decide (Cond.methodLinkNest q.1 q.2.1 (mna q.2.2.1) q.2.2.2 ∈ lw_tbl)) = true := by decide +kernel
theorem in_tbl_cast : ([0, 1, 2, 3, 8] : List Nat).all (fun c => decide (Cond.castable (Rc c) RX5 ∈ lw_tbl)) = true := by decide +kernel
theorem in_tbl_inst : (List.range 13).all (fun c => decide (Cond.instantiable (Rc c) (nf c) ∈ lw_tbl)) = true := by decide +kernel
theorem in_tbl_over : (decide (Cond.arrayOver (.object RX5) ∈ lw_tbl) && decide (Cond.arrayOver (.object RX9) ∈ lw_tbl) && decide (Cond.arrayOver (.array .int) ∈ lw_tbl)) = true := by decide +kernel
theorem in_tbl_stat : ([1, 1001, 1002, 1003, 2000] : List Nat).all (fun w => decide (Cond.laysStatic (stn w).1 (stn w).2.1 (stn w).2.2 ∈ lw_tbl) && decide (Cond.initialized (stn w).1 ∈ lw_tbl)) = true := by decide +kernel
theorem in_tbl_str : sti.all (fun q => decide (Cond.stringRef RX6 q.1 q.2 ∈ lw_tbl)) = true := by decide +kernel
/-- what the Statement says of the start, flat -/
def nrw : List Cond := flatC (Jvm.Cond.and given_1 narrow_1)
theorem in_nrw_cs : Cond.eq (.static "java/lang/String" "COMPACT_STRINGS" "Z") (.int 1) ∈ nrw := by decide +kernel
theorem in_nrw_sf : Cond.isRef (.static "jdk/internal/util/Preconditions" "SIOOBE_FORMATTER" "Ljava/util/function/BiFunction;") ∈ nrw := by decide +kernel
theorem in_nrw_ot : (List.range 3).all (fun j => decide (Cond.arrayOf (.static RX6 (stn (1001 + j)).2.1 "[I") .int ∈ nrw) && decide (Cond.eq (.length (.static RX6 (stn (1001 + j)).2.1 "[I")) (.int (Int32.ofNat (otb.getD j []).length)) ∈ nrw) && (List.range (otb.getD j []).length).all (fun i => decide (Cond.eq (.elem (.static RX6 (stn (1001 + j)).2.1 "[I") (.int (Int32.ofNat i))) (.int ((otb.getD j []).getD i 0)) ∈ nrw))) = true := by decide +kernel
def stm (j : Nat) : Term := .string RX6 (sti.getD j (0, "")).1
theorem in_nrw_st : (List.range 5).all (fun j => decide (Cond.exactly (stm j) "java/lang/String" ∈ nrw) && decide (Cond.eq (.field (stm j) "java/lang/String" "coder" "B") (.int 0) ∈ nrw) && decide (Cond.arrayOf (.field (stm j) "java/lang/String" "value" "[B") .byte ∈ nrw) && decide (Cond.eq (.length (.field (stm j) "java/lang/String" "value" "[B")) (.int (Int32.ofNat (sln.getD j 0))) ∈ nrw) && (List.range (sln.getD j 0)).all (fun i => decide (Cond.eq (.elem (.field (stm j) "java/lang/String" "value" "[B") (.int (Int32.ofNat i))) (.int ((stb.getD j []).getD i 0)) ∈ nrw))) = true := by decide +kernel
theorem in_nrw_ne : (List.range 5).all (fun i => (List.range 5).all (fun j => decide (i = j) || decide (Cond.not (Cond.eq (stm i) (stm j)) ∈ nrw) || decide (Cond.not (Cond.eq (stm j) (stm i)) ∈ nrw))) = true := by decide +kernel
theorem all5 {P : Nat → Bool} {n j : Nat} (h : (List.range n).all P = true) (hj : j < n) : P j = true := List.all_eq_true.mp h j (List.mem_range.mpr hj)
set_option maxHeartbeats 4000000 in
theorem start_cx {p : Program} {s : State} {m : MethodId} {meth : Method} {c : Code} {b L : Nat} {xs : Nat → Int32} (hL : L ≤ 256) (C0 : lw_At p s m meth c b L xs) : ∃ (D : va_G) (cy : Nat → ClassId) (av : Nat → Value), av 1000 = .ref b ∧ Cx s.heap.size D cy av L xs s s.heap := by
  obtain ⟨hx, hb, hr, hml, hown, hts, hX, hbl, hlocks, hgv⟩ := id C0
  have hA : ∀ a : Nat, a < s.heap.size → ¬ s.heap.size ≤ a := fun a h => Nat.not_le.mpr h
  have hn : ∀ w ∈ nrw, w.before #[Value.ref b] s = true := flat_of_before _ hgv
  -- classes
  have hK0 : ∀ k, k < 13 → ∃ q : ClassId × (Nat → Nat), u_Kn s (Rc k) (Tc k) (nf k) q.1 q.2 := by
    intro k hk
    have h1 := all5 in_tbl_inst hk
    simp only [decide_eq_true_eq] at h1
    obtain ⟨c0, i0, h⟩ := u_known (C := Rc k) (T := Tc k) (N := nf k) (n := nf k) hts (fun w hw => (List.mem_filter.mp (lay_in k hk w hw)).1) (hts _ h1)
    exact ⟨(c0, i0), h⟩
  have hK1 : ∀ k : Nat, ∃ q : ClassId × (Nat → Nat), k < 13 → u_Kn s (Rc k) (Tc k) (nf k) q.1 q.2 := by
    intro k
    by_cases hk : k < 13
    · obtain ⟨q, hq⟩ := hK0 k hk
      exact ⟨q, fun _ => hq⟩
    · exact ⟨((0 : Nat), fun _ => 0), fun h => absurd h hk⟩
  obtain ⟨dq, hdq⟩ := Classical.axiomOfChoice hK1
  -- arrays' classes
  have hov := in_tbl_over
  simp only [Bool.and_eq_true, decide_eq_true_eq] at hov
  obtain ⟨⟨ov1, ov2⟩, ov3⟩ := hov
  obtain ⟨a1, a2, a3⟩ := arr_in
  have tb : ∀ w ∈ Big, w.before #[Value.ref b] s = true := big_hts hts
  obtain ⟨c20, k20, m20, f20, g20, h20⟩ := Cond.arrayClass_spec (tb _ a1)
  obtain ⟨c21, k21, m21, f21, g21, h21⟩ := Cond.arrayClass_spec (tb _ a2)
  obtain ⟨c22, k22, m22, f22, g22, h22⟩ := Cond.arrayClass_spec (tb _ a3)
  obtain ⟨m23, c23, k23, e23, -, g23, h23, f23⟩ := Cond.arrayOver_spec (hts _ ov1)
  obtain ⟨m24, c24, k24, e24, -, g24, h24, f24⟩ := Cond.arrayOver_spec (hts _ ov2)
  obtain ⟨m25, c25, k25, e25, -, g25, h25, f25⟩ := Jvm.Stand.arrayOver_specB (hts _ ov3)
  obtain ⟨cy, hcy⟩ : ∃ cy : Nat → ClassId, cy = fun k => if k = 20 then c20 else if k = 21 then c21 else if k = 22 then c22 else if k = 23 then c23 else if k = 24 then c24 else c25 := ⟨_, rfl⟩
  have y20 : cy 20 = c20 := by simp [hcy]
  have y21 : cy 21 = c21 := by simp [hcy]
  have y22 : cy 22 = c22 := by simp [hcy]
  have y23 : cy 23 = c23 := by simp [hcy]
  have y24 : cy 24 = c24 := by simp [hcy]
  have y25 : cy 25 = c25 := by simp [hcy]
  have hK : va_K (fun k => (dq k).1, fun k => (dq k).2) vwCl (tyl cy) s := by
    refine ⟨fun k q hq => ?_, fun k q hq => ?_⟩
    · have hk : k < 13 := by
        have := (List.getElem?_eq_some_iff.mp hq).1
        simpa [vwCl] using this
      rw [cl_get k hk] at hq
      cases hq
      exact hdq k hk
    · have hk : k < 6 := by
        have := (List.getElem?_eq_some_iff.mp hq).1
        simpa [tyl] using this
      match k, hk, hq with
      | 0, _, hq => cases hq; rw [y20]; exact ⟨arrT g20 h20, f20⟩
      | 1, _, hq => cases hq; rw [y21]; exact ⟨arrT g21 h21, f21⟩
      | 2, _, hq => cases hq; rw [y22]; exact ⟨arrT g22 h22, f22⟩
      | 3, _, hq => cases hq; rw [y23]; exact ⟨arrT g23 h23, k23, m23, g23, h23, e23, f23⟩
      | 4, _, hq => cases hq; rw [y24]; exact ⟨arrT g24 h24, k24, m24, g24, h24, e24, f24⟩
      | 5, _, hq => cases hq; rw [y25]; exact ⟨arrT g25 h25, f25⟩
  -- statics
  have hst := fun w (hw : w ∈ ([1, 1001, 1002, 1003, 2000] : List Nat)) => List.all_eq_true.mp in_tbl_stat w hw
  have lay : ∀ w ∈ ([1, 1001, 1002, 1003, 2000] : List Nat), (Cond.laysStatic (stn w).1 (stn w).2.1 (stn w).2.2).before #[Value.ref b] s = true ∧ (Cond.initialized (stn w).1).before #[Value.ref b] s = true := fun w hw => by
    have := hst w hw
    simp only [Bool.and_eq_true, decide_eq_true_eq] at this
    exact ⟨hts _ this.1, hts _ this.2⟩
  have hZ1 : va_Z "java/lang/String" "COMPACT_STRINGS" "Z" (.int 1) (fun q => s.heap.size ≤ q) s s.heap := va_Zof (lay 1 (by simp)).1 (lay 1 (by simp)).2 (va_eqi (hn _ in_nrw_cs)) hA
  obtain ⟨vF, hvF, hZF⟩ : ∃ v : Value, v.category = 1 ∧ va_Z "jdk/internal/util/Preconditions" "SIOOBE_FORMATTER" "Ljava/util/function/BiFunction;" v (fun q => s.heap.size ≤ q) s s.heap := by
    rcases va_Zqof (A := fun q => s.heap.size ≤ q) (lay 2000 (by simp)).1 (lay 2000 (by simp)).2 (hn _ in_nrw_sf) hA with h | ⟨t, h⟩
    · exact ⟨.null, rfl, h⟩
    · exact ⟨.ref t, rfl, h⟩
  have hT1 : ∀ j : Nat, ∃ t : Nat, j < 3 → va_Z RX6 (stn (1001 + j)).2.1 "[I" (.ref t) (fun q => s.heap.size ≤ q) s s.heap ∧ va_T .int t (otb.getD j []).length (fun i => .int ((otb.getD j []).getD i 0)) (fun q => s.heap.size ≤ q) s s.heap := by
    intro j
    by_cases hj : j < 3
    · have h := all5 in_nrw_ot hj
      simp only [Bool.and_eq_true, decide_eq_true_eq, List.all_eq_true, List.mem_range] at h
      obtain ⟨⟨q1, q2⟩, q3⟩ := h
      have hlen : (otb.getD j []).length < 2 ^ 31 := by
        have : ∀ j, j < 3 → (otb.getD j []).length < 2 ^ 31 := by decide
        exact this j hj
      obtain ⟨t, ht, hT⟩ := va_Tof (A := fun q => s.heap.size ≤ q) (f := fun i => .int ((otb.getD j []).getD i 0)) hlen (hn _ q1) (va_eqt (hn _ q2)) (fun i hi => va_eqt (hn _ (q3 i hi))) hA
      refine ⟨t, fun _ => ⟨?_, hT⟩⟩
      have hl := lay (1001 + j) (by rcases (show j = 0 ∨ j = 1 ∨ j = 2 by omega) with rfl | rfl | rfl <;> simp)
      have e1 : (stn (1001 + j)).1 = RX6 ∧ (stn (1001 + j)).2.2 = "[I" := by
        rcases (show j = 0 ∨ j = 1 ∨ j = 2 by omega) with rfl | rfl | rfl <;> exact ⟨rfl, rfl⟩
      rw [e1.1, e1.2] at hl
      exact va_Zof hl.1 hl.2 ht hA
    · exact ⟨0, fun h => absurd h hj⟩
  obtain ⟨dt, hdt⟩ := Classical.axiomOfChoice hT1
  -- texts
  have hs5 : ∀ j, j < 5 → (Cond.exactly (stm j) "java/lang/String" ∈ nrw ∧ Cond.eq (.field (stm j) "java/lang/String" "coder" "B") (.int 0) ∈ nrw ∧ Cond.arrayOf (.field (stm j) "java/lang/String" "value" "[B") .byte ∈ nrw ∧ Cond.eq (.length (.field (stm j) "java/lang/String" "value" "[B")) (.int (Int32.ofNat (sln.getD j 0))) ∈ nrw ∧ ∀ i, i < sln.getD j 0 → Cond.eq (.elem (.field (stm j) "java/lang/String" "value" "[B") (.int (Int32.ofNat i))) (.int ((stb.getD j []).getD i 0)) ∈ nrw) := by
    intro j hj
    have h := all5 in_nrw_st hj
    simp only [Bool.and_eq_true, decide_eq_true_eq, List.all_eq_true, List.mem_range] at h
    obtain ⟨⟨⟨⟨q1, q2⟩, q3⟩, q4⟩, q5⟩ := h
    exact ⟨q1, q2, q3, q4, q5⟩
  have hsl5 : ∀ i : Nat, i < 5 → sln.getD i 0 < 2 ^ 31 := by decide
  obtain ⟨adK, adV, hS, hev⟩ := vk_Sof (A := fun q => s.heap.size ≤ q) (args := #[Value.ref b]) (s := s) (N := 5) (tm := stm) (len := sln) (byt := stb) hsl5 (fun i hi => hn _ (hs5 i hi).1) (fun i hi => hn _ (hs5 i hi).2.1) (fun i hi => hn _ (hs5 i hi).2.2.1) (fun i hi => hn _ (hs5 i hi).2.2.2.1) (fun i hi j hj => hn _ ((hs5 i hi).2.2.2.2 j hj))
    (fun i j hi hj hne => by
      have h := all5 (all5 in_nrw_ne hi) hj
      simp only [Bool.or_eq_true, decide_eq_true_eq] at h
      rcases h with (h | h) | h
      · exact absurd h hne
      · exact Or.inl (hn _ h)
      · exact Or.inr (hn _ h)) hA
  -- the script
  obtain ⟨scr, x1, x2, x3, x4, x5⟩ := hX
  have hTs : va_T .int b L (fun i => .int (xs i)) (fun q => s.heap.size ≤ q) s s.heap := ⟨scr, x1, x2, x3, by omega, by rw [x4], x5, hA b hbl⟩
  refine ⟨(fun k => (dq k).1, fun k => (dq k).2), cy, fun k => if k = 1000 then .ref b else if k < 1004 then .ref (dt (k - 1001)) else if k < 1015 then .ref (adK (k - 1010)) else if k < 1025 then .ref (adV (k - 1020)) else vF, by simp, hK, ?_, ⟨hts _ ov1, hts _ ov2, hts _ ov3⟩, ?_, ?_, hZ1, ?_, ?_, ⟨b, by simp, by omega, hTs⟩, adK, adV, hS, ?_⟩
  · intro q hq
    have h := List.all_eq_true.mp in_tbl_nest q hq
    simp only [decide_eq_true_eq] at h
    exact va_Nw.of rfl (hts _ h)
  · intro k hk
    have h := List.all_eq_true.mp in_tbl_cast k (by simp; omega)
    simp only [decide_eq_true_eq] at h
    exact va_Nw.of rfl (hts _ h)
  · intro k
    dsimp only
    split
    · rfl
    · split
      · rfl
      · split
        · rfl
        · split
          · rfl
          · exact hvF
  · simpa using hZF
  · intro j hj
    have h := hdt j hj
    refine ⟨dt j, ?_, h.1, h.2⟩
    dsimp only
    rw [if_neg (by omega), if_pos (by omega), show 1001 + j - 1001 = j by omega]
  · intro j hj
    refine ⟨?_, ?_, ?_⟩
    · dsimp only
      rw [if_neg (by omega), if_neg (by omega), if_pos (by omega), show 1010 + j - 1010 = j by omega]
    · dsimp only
      rw [if_neg (by omega), if_neg (by omega), if_neg (by omega), if_pos (by omega), show 1020 + j - 1020 = j by omega]
    · have hmem : sti.getD j (0, "") ∈ sti := by
        have hl : sti.length = 5 := by decide
        rw [List.getD_eq_getElem?_getD, List.getElem?_eq_getElem (by omega)]
        exact List.getElem_mem _
      have h := List.all_eq_true.mp in_tbl_str _ hmem
      simp only [decide_eq_true_eq] at h
      have h1 := hev j hj
      exact vk_R.of (hts _ h) h1
/-- a new object, at the machine -/
theorem w_new {b0 : Nat} {D : va_G} {cy : Nat → ClassId} {av : Nat → Value} {L : Nat} {xs : Nat → Int32} {m : Nat} {p : Program} {l : Launch} {e : Env} {R : Room} {s : State} {mid : MethodId} {args : Array Value} {below : List Frame} {meth : Method} {c0 : Code} {n0 : Nat} {Z : State → Prop} {H : Heap} {locs : List Loc} {lsx : Array Slot} {σ : Sto} {rest : List Value} {pc i c : Nat}
    (C : Ctx b0 D cy av L xs m p R s mid args meth c0 n0) (hW : Wr b0 D cy L xs σ H) (hS : va_S (fun q => b0 ≤ q) s.heap H locs) (h0 : n0 ≤ σ.1) (hd : decode (mco m) pc = .ok (.new i, 3)) (hc : nwc (mcl m) i = some c) (hnew : newc σ c (nf c) = true) (hcl : σ.1 + 1 ≤ n0 + R.cells) (hsl : ss (σ.1 + 1) ≤ ss n0 + R.slots)
    (k : ∀ H1 : Heap, Wr b0 D cy L xs (sN σ) H1 → va_S (fun q => b0 ≤ q) s.heap H1 locs → W p l e R s mid args below meth c0 H1 locs (σ.1 + 1 - n0) (ss (σ.1 + 1) - ss n0) Z (F0 mid (pc + 3) lsx (.ref (b0 + σ.1) :: rest))) : W p l e R s mid args below meth c0 H locs (σ.1 - n0) (ss σ.1 - ss n0) Z (F0 mid pc lsx rest) := by
  obtain ⟨w1, w2, w3, h13⟩ := nwc_spec hc
  obtain ⟨ht, h100⟩ := newc_spec hnew
  have hN : ssz σ.1 = nf c := by simp [ssz, ht, h13]
  have hs2 : ss n0 ≤ ss σ.1 := ss_mono h0
  rw [ss_succ, hN] at hsl
  obtain ⟨hx, hb, hml, hown, hts, hin, hC, hs0, hfr, hlo⟩ := id C
  refine va_new (own := Rc (mcl m)) (C := Rc c) (T := Tc c) (N := nf c) (ci := c) hx hb hts (lay_in c h13) (tyc c) (ty_c c h13) hown (hts _ w1) (hts _ w2) (hts _ w3) hC.1 hW.1 (wl_D b0 cy σ) hS (fun q hq => by show b0 ≤ q; omega) (cl_get c h13) (fs := (List.range (nf c)).map (fvc b0 (sN σ) σ.1 c)) ?_ (by omega) (by omega) hd (fun q H1 hP hD hS1 => ?_)
  · intro j hj
    have e : vp_V ((List.range (nf c)).map (fvc b0 (sN σ) σ.1 c)) j = fvc b0 (sN σ) σ.1 c j := by simp [vp_V, hj]
    rw [e]
    rcases ft_3 h13 hj with hf | hf | hf
    · rw [ft_0 h13 hj hf]; simp [fvc, hf, sN, va_up, defaultValue]
    · rw [ft_1 h13 hj hf]; simp [fvc, hf, sN, va_up, defaultValue]
    · rcases ft_2 h13 hj hf with ⟨q, hq⟩ | ⟨q, hq⟩ <;> rw [hq] <;> simp [fvc, hf, sN, va_up, defaultValue]
  · rw [← ce_obj (b0 := b0) (cy := cy) (σ := sN σ) (a := σ.1) (c := c) (by rw [ht]) h13] at hP hD
    intro T hT X
    have hsz : H1.size ≤ b0 + σ.1 + 1 := by
      have h1 := X.heapSize
      have h2 := C.2.2.2.2.2.2.2.1
      rw [hT] at h1
      omega
    have hq := fresh hP hD hsz
    subst hq
    rw [wl_push (σ' := sN σ) rfl rfl (fun b hb => ce_congr (va_up_ne _ _ (by omega)) (va_up_ne _ _ (by omega)) (va_up_ne _ _ (by omega)))] at hP
    have hW1 : Wr b0 D cy L xs (sN σ) H1 := by
      refine ⟨hP, by show σ.1 + 1 ≤ 100; omega, fun hf => ?_⟩
      have hf : va_up σ.2.1 σ.1 (fun _ => false) 999 0 = true := hf
      rw [va_up_ne _ _ (by omega)] at hf
      show va_up σ.2.2.1 σ.1 _ 999 0 = _ ∧ va_up σ.2.2.1 σ.1 _ 1000 = _
      rw [va_up_ne _ _ (by omega), va_up_ne _ _ (by omega)]
      exact hW.2.2 hf
    refine W.cs ?_ ?_ (k H1 hW1 hS1) T hT X
    · omega
    · rw [ss_succ, hN]
      omega
/-- a constructor without arguments, at the machine -/
theorem w_init {b0 : Nat} {D : va_G} {cy : Nat → ClassId} {av : Nat → Value} {L : Nat} {xs : Nat → Int32} {m : Nat} {p : Program} {l : Launch} {e : Env} {R : Room} {s : State} {mid : MethodId} {args : Array Value} {below : List Frame} {meth : Method} {c0 : Code} {n0 : Nat} {Z : State → Prop} {H : Heap} {locs : List Loc} {lsx : Array Slot} {σ σ1 : Sto} {rest : List Value} {pc i t a : Nat}
    (C : Ctx b0 D cy av L xs m p R s mid args meth c0 n0) (hls : lsx.size = mml m) (hW : Wr b0 D cy L xs σ H) (hS : va_S (fun q => b0 ≤ q) s.heap H locs) (h0 : n0 ≤ σ.1) (hd : decode (mco m) pc = .ok (.invokespecial i, 3)) (hck : ck (mcl m) i = some (3, t, 0)) (hg : Gm t 0 (lcs (mml t) [.ref a]) [] σ none σ1) (hmh : mhg t < mhg m) (hm1 : 1 ≤ mml t) (ha1 : a < σ.1) (hr8 : (rest.map fun v => v.category).sum ≤ 8) (hcl : σ1.1 ≤ n0 + R.cells) (hsl : ss σ1.1 ≤ ss n0 + R.slots)
    (k : ∀ (H1 : Heap) (locs1 : List Loc), Wr b0 D cy L xs σ1 H1 → va_S (fun q => b0 ≤ q) s.heap H1 locs1 → W p l e R s mid args below meth c0 H1 locs1 (σ1.1 - n0) (ss σ1.1 - ss n0) Z (F0 mid (pc + 3) lsx rest)) : W p l e R s mid args below meth c0 H locs (σ.1 - n0) (ss σ.1 - ss n0) Z (F0 mid pc lsx (.ref (b0 + a) :: rest)) := by
  obtain ⟨w1, w2, w3, ht, hp, hini, hre⟩ := ck3 hck
  obtain ⟨k1, k2, k3, k4, k5⟩ := mt_ok (t := t) (by omega)
  obtain ⟨hx, hb, hml, hown, hts, hin, hC, hs0, hfr, hlo⟩ := id C
  have h1 := hg.1
  have s1 := ss_mono h0
  have s2 := ss_mono h1
  refine W.sz (fun hsz => ?_)
  have hge := wr_ge hW hs0 hS.1
  have hM := met_of (t := t) (by omega) hg (by show 1 ≤ mml t; exact hm1) b0 D cy av L xs l
  have hmap : ([.ref a] : Vs).map (cv b0 av) = [.ref (b0 + a)] := by
    show [cv b0 av (.ref a)] = _
    rw [cv_own (wr_cell hW ha1)]
  refine call_on (r := none) (a := ([.ref (b0 + a)] : List Value).toArray) (va_runI (As := []) (rest := rest) ⟨hx, hb, hml, hown, hts⟩ hM (cwI 0 hts (gin (fun w hw => ?_)) (by unfold wsx; rw [hre]) rfl rfl (hts _ w3) (hts _ w1) (hts _ w2) hini ⟨k3, k4, hp⟩ ⟨by show mhg t + 1 ≤ R.frames; omega, by show 8 + (mml t + 11) + 31 * mhg t ≤ R.locals; omega⟩) ⟨px_blind, ?_⟩ rfl rfl hls rfl (lv_room hr8) hd ⟨by omega, by omega⟩) hS (fun H1 locs1 hW1 hS1 => ?_)
  · rcases List.mem_cons.mp hw with rfl | h
    · exact code_in ht
    · exact h
  · rw [← hmap]
    exact px_at hC hW hS (by omega)
  · exact W.cs (by omega) (by omega) (k H1 locs1 hW1 hS1)
/-! both constructors, by the kernel -/
def c00 : Sto := (0, fun _ _ => false, fun _ _ => 0, fun _ _ => 0)
/-- what must hold behind both constructors: every reference is set; the numbers that are looked at -/
def ini_ok (τ : Sto) : Bool := (List.range 100).all (fun a => (List.range (if (tg a).1 < 13 then nf (tg a).1 else if (tg a).1 < 23 then 0 else (tg a).2)).all (fun k => (decide ((tg a).1 < 13) && decide (ft (tg a).1 k ≠ 2)) || τ.2.1 a k))
def val_ok (τ : Sto) : Bool :=
  (List.range 8).all (fun k => τ.2.2.1 10 k == 7) && τ.2.2.1 9 1 == 0 && τ.2.2.1 9 2 == 0 && τ.2.2.1 11 1 == 0 && τ.2.2.1 13 1 == 0 && τ.2.2.1 15 1 == 0 && τ.2.2.1 17 3 == 0 && τ.2.2.1 17 4 == 0 && τ.2.2.1 61 0 == 0 && τ.2.2.1 61 1 == 0 && τ.2.2.1 62 3 == 0 && τ.2.2.1 0 9 == 0 && τ.2.2.1 0 10 == 0 && τ.2.2.1 0 11 == 0 && τ.2.2.2 0 7 == 0 && τ.2.2.2 0 8 == 1
  && (List.range 62).all (fun k => τ.2.2.1 87 k == (if 5 ≤ k ∧ k < 13 then 7 else 0)) && τ.2.2.1 89 0 == 0 && τ.2.2.1 89 1 == 0 && τ.2.2.1 90 0 == 0 && τ.2.2.1 90 1 == 0 && τ.2.2.1 90 2 == 0 && τ.2.2.2 86 4 == 0 && τ.2.2.2 86 5 == 1 && τ.2.2.1 86 15 == 0
def chk2 : Bool := match run 5000 63 0 [.ref 0, .null, .null] [] (sN c00) with
  | some (none, σ) => decide (σ.1 = 86) && (match run 5000 112 0 [.ref 86] [] (sN σ) with
    | some (none, τ) => decide (τ.1 = 100) && ini_ok τ && val_ok τ && decide (σ.1 = 86)
    | _ => false)
  | _ => false
set_option maxRecDepth 100000 in
theorem chk2_ok : chk2 = true := by decide +kernel
theorem made : ∃ σ τ : Sto, run 5000 63 0 [.ref 0, .null, .null] [] (sN c00) = some (none, σ) ∧ σ.1 = 86 ∧ run 5000 112 0 [.ref 86] [] (sN σ) = some (none, τ) ∧ τ.1 = 100 ∧ ini_ok τ = true ∧ val_ok τ = true := by
  have h := chk2_ok
  unfold chk2 at h
  split at h
  · rename_i σ h1
    simp only [Bool.and_eq_true, decide_eq_true_eq] at h
    obtain ⟨h2, h3⟩ := h
    split at h3
    · rename_i τ h4
      simp only [Bool.and_eq_true, decide_eq_true_eq] at h3
      exact ⟨σ, τ, h1, h2, h4, h3.1.1.1, h3.1.1.2, h3.1.2⟩
    · cases h3
  · cases h
/-- the stores of the run behind the constructors: all cells are made, all references set -/
def Sg (I : Nat → Nat → Int32) (J : Nat → Nat → Int64) : Sto := (100, fun _ _ => true, I, J)
def I0 (τ : Sto) (L : Nat) (xs : Nat → Int32) : Nat → Nat → Int32 := fun a => if a = 999 then (fun _ => nI L) else if a = 1000 then xs else τ.2.2.1 a
theorem arrV_ext {cA : ClassId} {N : Nat} {f g : Nat → Value} (h : ∀ j, j < N → f j = g j) : arrV cA N f = arrV cA N g := by
  unfold arrV
  congr 1
  apply Array.ext_getElem?
  intro i
  by_cases hi : i < N
  · simp [hi, h i hi]
  · simp [hi]
theorem wr_sg {b0 : Nat} {D : va_G} {cy : Nat → ClassId} {L : Nat} {xs : Nat → Int32} {τ : Sto} {H : Heap} (hW : Wr b0 D cy L xs τ H) (hn : τ.1 = 100) (hi : ini_ok τ = true) : Wr b0 D cy L xs (Sg (I0 τ L xs) τ.2.2.2) H := by
  have hP : va_P D vwCl (wl b0 cy (Sg (I0 τ L xs) τ.2.2.2)) H := by
    intro a q hq
    have ha : a < 100 := by
      have := (List.getElem?_eq_some_iff.mp hq).1
      simpa [wl, Sg] using this
    rw [wl_get (show a < 100 from ha)] at hq
    cases hq
    have h0 := hW.1 a _ (wl_get (by omega))
    have hI : I0 τ L xs a = τ.2.2.1 a := by
      unfold I0
      rw [if_neg (by omega), if_neg (by omega)]
    have h1 := List.all_eq_true.mp (List.all_eq_true.mp hi a (List.mem_range.mpr ha))
    by_cases h13 : (tg a).1 < 13
    · have e : ce b0 cy (Sg (I0 τ L xs) τ.2.2.2) a = ce b0 cy τ a := by
        rw [ce_obj rfl h13, ce_obj rfl h13]
        congr 2
        apply List.map_congr_left
        intro k hk
        have hk2 := h1 k (by rw [if_pos h13]; exact hk)
        simp only [h13, decide_true, Bool.true_and, Bool.or_eq_true, decide_eq_true_eq] at hk2
        rcases hk2 with h | h
        · rcases ft_3 h13 (List.mem_range.mp hk) with q | q | q
          · simp [fvc, q, Sg, hI]
          · simp [fvc, q, Sg]
          · exact absurd q h
        · exact fvc_congr h.symm (congrFun hI k) rfl
      rw [e]
      exact h0
    · by_cases h23 : (tg a).1 < 23
      · have e : ce b0 cy (Sg (I0 τ L xs) τ.2.2.2) a = ce b0 cy τ a := by
          rw [ce_arr rfl h13 h23, ce_arr rfl h13 h23]
          show Sum.inl (cy (tg a).1, (tg a).2, Sum.inl (I0 τ L xs a)) = _
          rw [hI]
        rw [e]
        exact h0
      · rw [ce_ref rfl h13 h23] at h0 ⊢
        have h0 : H[b0 + a]? = some (vp_cell _ _) := h0
        show H[b0 + a]? = some (vp_cell _ _)
        rw [h0, vp_cell_q, vp_cell_q]
        congr 1
        refine arrV_ext (fun j hj => ?_)
        have hk2 := h1 j (by rw [if_neg h13, if_neg h23]; exact List.mem_range.mpr hj)
        simp only [h13, decide_false, Bool.false_and, Bool.false_or] at hk2
        rw [hk2]
        rfl
  refine ⟨hP, Nat.le_refl 100, fun _ => ⟨?_, ?_⟩⟩
  · show I0 τ L xs 999 0 = nI L
    unfold I0
    rw [if_pos rfl]
  · show I0 τ L xs 1000 = xs
    unfold I0
    rw [if_neg (by omega), if_pos rfl]
noncomputable def sig : Sto := made.choose
noncomputable def tau : Sto := made.choose_spec.choose
theorem tau_spec : run 5000 63 0 [.ref 0, .null, .null] [] (sN c00) = some (none, sig) ∧ sig.1 = 86 ∧ run 5000 112 0 [.ref 86] [] (sN sig) = some (none, tau) ∧ tau.1 = 100 ∧ ini_ok tau = true ∧ val_ok tau = true := made.choose_spec.choose_spec
theorem d211_0 : decode (mco 211) 0 = .ok (.new 7, 3) := by decide +kernel
theorem d211_3 : decode (mco 211) 3 = .ok (.dup, 1) := by decide +kernel
theorem d211_4 : decode (mco 211) 4 = .ok (.invokespecial 9, 3) := by decide +kernel
theorem d211_7 : decode (mco 211) 7 = .ok (.astore_n 1, 1) := by decide +kernel
theorem d211_8 : decode (mco 211) 8 = .ok (.new 10, 3) := by decide +kernel
theorem d211_11 : decode (mco 211) 11 = .ok (.dup, 1) := by decide +kernel
theorem d211_12 : decode (mco 211) 12 = .ok (.invokespecial 12, 3) := by decide +kernel
theorem d211_15 : decode (mco 211) 15 = .ok (.astore_n 2, 1) := by decide +kernel
set_option maxHeartbeats 4000000 in
set_option maxRecDepth 100000 in
/-- THE LAW, out of the interpreter's run behind the constructors -/
theorem law_go {p : Program} {e : Env} {s : State} {m : MethodId} {below : List Frame} {meth : Method} {c : Code} (l : Launch) {b L : Nat} {xs : Nat → Int32} (hL : L ≤ 256) (C0 : lw_At p s m meth c b L xs) {f : Nat} {σ' : Sto} (hrun : run f 211 16 [.ref 1000, .ref 0, .ref 86, .null] [] (Sg (I0 tau L xs) tau.2.2.2) = some (some (.int 1), σ')) (h100 : σ'.1 = 100) : W p l e room_1 s m #[Value.ref b] below meth c s.heap [] 0 0 (lw_Z below #[Value.ref b] s) (entryFrame m ([Value.ref b] : List Value).toArray 4) := by
  obtain ⟨D, cy, av, hav, hC⟩ := start_cx hL C0
  obtain ⟨hx, hb, hr, hml, hown, hts, hX, hbl, hlocks, hgv⟩ := id C0
  obtain ⟨t1, t2, t3, t4, t5, t6⟩ := tau_spec
  have hg1 : Gm 63 0 (lcs (mml 63) [.ref 0]) [] (sN c00) none sig := snd 5000 _ _ _ _ _ _ _ t1
  have hg2 : Gm 112 0 (lcs (mml 112) [.ref 86]) [] (sN sig) none tau := snd 5000 _ _ _ _ _ _ _ t3
  have hg := snd f _ _ _ _ _ _ _ hrun
  have C : Ctx s.heap.size D cy av L xs 211 p room_1 s m #[Value.ref b] meth c 0 := ⟨hx, hb, hml, hown, big_hts hts, fun q => absurd q (by decide), hC, by omega, by decide, by decide⟩
  have hA := C.av
  have e0 : ([Value.ref b] : List Value) = ([.ref 1000] : Vs).map (cv s.heap.size av) := by
    show _ = [cv s.heap.size av (.ref 1000)]
    rw [show cv s.heap.size av (.ref 1000) = av 1000 from rfl, hav]
  rw [lg_entry_eq]
  have hl : Lr s.heap.size av ((lg_sl ([Value.ref b] : List Value) ++ List.replicate (4 - (lg_sl ([Value.ref b] : List Value)).length) Slot.unset).toArray) (mml 211) [.ref 1000, .null, .null, .null] := by
    have := Lr.entry (b0 := s.heap.size) (av := av) hC.2.2.2.2.1 (as := [.ref 1000]) (n := 4) (by decide)
    rw [← e0] at this
    exact this
  generalize (lg_sl ([Value.ref b] : List Value) ++ List.replicate (4 - (lg_sl ([Value.ref b] : List Value)).length) Slot.unset).toArray = lsx at hl ⊢
  have er1 : room_1.cells = 600000 := rfl
  have er2 : room_1.slots = 7302250 := rfl
  have hss : ss 100 ≤ 7302250 := by decide +kernel
  have hs1 := ss_mono (show 1 ≤ 100 by omega)
  have hs86 := ss_mono (show 86 ≤ 100 by omega)
  have hs87 := ss_mono (show 87 ≤ 100 by omega)
  have hW0 : Wr s.heap.size D cy L xs c00 s.heap := by
    refine ⟨fun k q h => ?_, Nat.zero_le _, fun h => by cases h⟩
    have : (wl s.heap.size cy c00)[k]? = none := List.getElem?_eq_none (Nat.zero_le _)
    rw [this] at h
    cases h
  refine w_new (σ := c00) (c := 11) C hW0 va_S.rf (Nat.zero_le _) d211_0 (by decide +kernel) (by decide +kernel) (by show 0 + 1 ≤ 0 + room_1.cells; omega) (by show ss 1 ≤ ss 0 + room_1.slots; omega) (fun H1 hW1 hS1 => ?_)
  refine lv_dup hx hb d211_3 rfl ?_
  refine w_init (σ := sN c00) (σ1 := sig) (a := 0) C hl.1 hW1 hS1 (Nat.zero_le _) d211_4 (t := 63) (by decide +kernel) hg1 (by decide +kernel) (by decide +kernel) (by decide) (by show 1 ≤ 8; omega) (by omega) (by rw [t2]; omega) (fun H2 locs2 hW2 hS2 => ?_)
  refine lv_astore_n hx hb d211_7 rfl hl.lv (show (1 : Nat) < mml 211 by decide) rfl (fun lsx1 h1 => ?_)
  have hl1 : Lr s.heap.size av lsx1 (mml 211) [.ref 1000, .ref 0, .null, .null] := Lr.of1 (ls := [.ref 1000, .null, .null, .null]) (i := 1) (v := .ref 0) hA h1
  refine w_new (σ := sig) (c := 12) C hW2 hS2 (Nat.zero_le _) d211_8 (by decide +kernel) ?_ (by rw [t2]; omega) (by rw [t2]; show ss 87 ≤ _; omega) (fun H3 hW3 hS3 => ?_)
  · unfold newc
    rw [t2]
    decide +kernel
  refine lv_dup hx hb d211_11 rfl ?_
  have e86 : s.heap.size + sig.1 = s.heap.size + 86 := by rw [t2]
  rw [e86]
  refine w_init (σ := sN sig) (σ1 := tau) (a := 86) C hl1.1 hW3 hS3 (Nat.zero_le _) d211_12 (t := 112) (by decide +kernel) hg2 (by decide +kernel) (by decide +kernel) (by show 86 < sig.1 + 1; omega) (by show 1 ≤ 8; omega) (by omega) (by rw [t4]; omega) (fun H4 locs4 hW4 hS4 => ?_)
  refine lv_astore_n hx hb d211_15 rfl hl1.lv (show (2 : Nat) < mml 211 by decide) rfl (fun lsx2 h2 => ?_)
  have hl2 : Lr s.heap.size av lsx2 (mml 211) [.ref 1000, .ref 0, .ref 86, .null] := Lr.of1 (ls := [.ref 1000, .ref 0, .null, .null]) (i := 2) (v := .ref 86) hA h2
  have hWg := wr_sg hW4 t4 t5
  have hw := hg.2 s.heap.size D cy av L xs p l e room_1 s m #[Value.ref b] below meth c 0 (lw_Z below #[Value.ref b] s) C H4 locs4 lsx2 hl2 hWg hS4 (Nat.zero_le _) ⟨by omega, by rw [h100]; omega⟩ ?_
  · refine W.cs ?_ ?_ hw
    · rw [t4]; rfl
    · rw [t4]; rfl
  · intro pc1 H5 locs5 lsx5 hW5 hS5 hR
    obtain ⟨q1, ty, q2, q4⟩ := hR
    refine va_forget hS5.2.2 ?_
    refine W.widen (k := 600000) (n := 7302250) (by omega) (by rw [h100]; omega) ?_
    exact lw_ret hx hb hr hlocks q1
end
section
/-! RUNS: the interpreter's run to the return, with what holds there; one step of it -/
def Lq (x y : Option Res) : Prop := ∀ z, x = some z → y = some z
theorem Lq.rf {x : Option Res} : Lq x x := fun _ h => h
theorem Lq.no {y : Option Res} : Lq none y := fun _ h => by cases h
theorem Lq.ite {c : Prop} [Decidable c] {a a1 b b1 : Option Res} (h1 : Lq a a1) (h2 : Lq b b1) : Lq (if c then a else b) (if c then a1 else b1) := by
  by_cases h : c
  · rw [if_pos h, if_pos h]; exact h1
  · rw [if_neg h, if_neg h]; exact h2
theorem Lq.bind {α : Type} {o : Option α} {f g : α → Option Res} (h : ∀ a, Lq (f a) (g a)) : Lq (o.bind f) (o.bind g) := by
  cases o with
  | none => exact Lq.no
  | some a => exact h a
theorem Lq.bind2 {x y : Option Res} {f g : Res → Option Res} (h0 : Lq x y) (h : ∀ a, Lq (f a) (g a)) : Lq (x.bind f) (y.bind g) := by
  intro z hz
  cases hx : x with
  | none => rw [hx] at hz; cases hz
  | some a =>
    rw [hx] at hz
    rw [h0 a hx]
    exact h a z hz
set_option maxHeartbeats 4000000 in
theorem stp_mono {r1 r2 : Rec} (hr : ∀ (m pc : Nat) (ls st : Vs) (σ : Sto), Lq (r1 m pc ls st σ) (r2 m pc ls st σ)) (i : Instr) (k m pc : Nat) (ls st : Vs) (σ : Sto) : Lq (stp r1 i k m pc ls st σ) (stp r2 i k m pc ls st σ) := by
  have hgo : ∀ (t : Nat) (as : Vs) (m pc : Nat) (ls st : Vs) (σ : Sto), Lq (goM r1 t as m pc ls st σ) (goM r2 t as m pc ls st σ) := by
    intro t as m pc ls st σ
    unfold goM
    exact Lq.ite (Lq.bind2 (hr _ _ _ _ _) (fun q => hr _ _ _ _ _)) Lq.no
  cases i <;> first
    | exact Lq.no
    | (simp only [stp, ldI, ldL, ldA, stI, stL, stA, b2I, b2L, brn, psh, doV, doS, doI]
       repeat' (first | exact Lq.no | exact hr _ _ _ _ _ | exact hgo _ _ _ _ _ _ _ | exact Lq.rf | apply Lq.ite | (apply Lq.bind; intro _) | split))
theorem run_mono {f : Nat} : ∀ (m pc : Nat) (ls st : Vs) (σ : Sto), Lq (run f m pc ls st σ) (run (f + 1) m pc ls st σ) := by
  induction f with
  | zero => intro m pc ls st σ; exact Lq.no
  | succ f ih =>
    intro m pc ls st σ
    show Lq (match decode (mco m) pc with
      | .ok (i, k) => stp (run f) i k m pc ls st σ
      | .error _ => none) (match decode (mco m) pc with
      | .ok (i, k) => stp (run (f + 1)) i k m pc ls st σ
      | .error _ => none)
    split
    · exact stp_mono ih _ _ _ _ _ _ _
    · exact Lq.no
theorem run_le {f g : Nat} (h : f ≤ g) {m pc : Nat} {ls st : Vs} {σ : Sto} : Lq (run f m pc ls st σ) (run g m pc ls st σ) := by
  obtain ⟨k, rfl⟩ := Nat.exists_eq_add_of_le h
  induction k with
  | zero => exact Lq.rf
  | succ k ih => exact fun z hz => run_mono _ _ _ _ _ z (ih (by omega) z hz)
/-- from here the run comes to a return, and Q holds there -/
def Rn (m pc : Nat) (ls st : Vs) (σ : Sto) (Q : Option Value → Sto → Prop) : Prop := ∃ (f : Nat) (r : Option Value) (σ' : Sto), run f m pc ls st σ = some (r, σ') ∧ Q r σ'
/-- a call: the callee's run, and the caller's behind it -/
def Ca (t : Nat) (l0 : Vs) (σ : Sto) (m pc : Nat) (ls st : Vs) (Q : Option Value → Sto → Prop) : Prop := Rn t 0 l0 [] σ (fun r σ' => Rn m pc ls (r.toList ++ st) σ' Q)
theorem run_s {f m pc : Nat} {ls st : Vs} {σ : Sto} {i : Instr} {k : Nat} (hd : decode (mco m) pc = .ok (i, k)) : run (f + 1) m pc ls st σ = stp (run f) i k m pc ls st σ := by
  show (match decode (mco m) pc with
      | .ok (i, k) => stp (run f) i k m pc ls st σ
      | .error _ => none) = _
  rw [hd]
theorem Rn_of {m pc m1 pc1 : Nat} {ls st ls1 st1 : Vs} {σ σ1 : Sto} {Q : Option Value → Sto → Prop} {i : Instr} {k : Nat} (hd : decode (mco m) pc = .ok (i, k)) (h : ∀ f, stp (run f) i k m pc ls st σ = run f m1 pc1 ls1 st1 σ1) : Rn m pc ls st σ Q ↔ Rn m1 pc1 ls1 st1 σ1 Q := by
  constructor
  · rintro ⟨f, r, σ', h1, h2⟩
    cases f with
    | zero => cases h1
    | succ f =>
      rw [run_s hd, h] at h1
      exact ⟨f, r, σ', h1, h2⟩
  · rintro ⟨f, r, σ', h1, h2⟩
    exact ⟨f + 1, r, σ', by rw [run_s hd, h]; exact h1, h2⟩
theorem Rn_if {m pc m1 pc1 : Nat} {ls st ls1 st1 : Vs} {σ σ1 : Sto} {Q : Option Value → Sto → Prop} {i : Instr} {k : Nat} {c : Prop} [Decidable c] (hd : decode (mco m) pc = .ok (i, k)) (h : ∀ f, stp (run f) i k m pc ls st σ = if c then run f m1 pc1 ls1 st1 σ1 else none) : Rn m pc ls st σ Q ↔ c ∧ Rn m1 pc1 ls1 st1 σ1 Q := by
  by_cases hc : c
  · rw [Rn_of hd (fun f => by rw [h f, if_pos hc])]
    simp [hc]
  · constructor
    · rintro ⟨f, r, σ', h1, h2⟩
      cases f with
      | zero => cases h1
      | succ f =>
        rw [run_s hd, h, if_neg hc] at h1
        cases h1
    · exact fun q => absurd q.1 hc
theorem Rn_br {m pc m1 pc1 m2 pc2 : Nat} {ls st ls1 st1 ls2 st2 : Vs} {σ σ1 σ2 : Sto} {Q : Option Value → Sto → Prop} {i : Instr} {k : Nat} {c : Prop} [Decidable c] (hd : decode (mco m) pc = .ok (i, k)) (h : ∀ f, stp (run f) i k m pc ls st σ = if c then run f m1 pc1 ls1 st1 σ1 else run f m2 pc2 ls2 st2 σ2) : Rn m pc ls st σ Q ↔ if c then Rn m1 pc1 ls1 st1 σ1 Q else Rn m2 pc2 ls2 st2 σ2 Q := by
  by_cases hc : c
  · rw [Rn_of hd (fun f => by rw [h f, if_pos hc]), if_pos hc]
  · rw [Rn_of hd (fun f => by rw [h f, if_neg hc]), if_neg hc]
theorem Rn_ret {m pc : Nat} {ls st : Vs} {σ : Sto} {Q : Option Value → Sto → Prop} {i : Instr} {k : Nat} {r : Option Value} {c : Prop} [Decidable c] (hd : decode (mco m) pc = .ok (i, k)) (h : ∀ f, stp (run f) i k m pc ls st σ = if c then some (r, σ) else none) : Rn m pc ls st σ Q ↔ c ∧ Q r σ := by
  constructor
  · rintro ⟨f, r1, σ', h1, h2⟩
    cases f with
    | zero => cases h1
    | succ f =>
      rw [run_s hd, h] at h1
      split at h1
      · rename_i hc
        cases h1
        exact ⟨hc, h2⟩
      · cases h1
  · rintro ⟨hc, h2⟩
    exact ⟨1, r, σ, by rw [run_s hd, h, if_pos hc], h2⟩
theorem Rn_ca {m pc t : Nat} {as ls st st1 : Vs} {σ : Sto} {Q : Option Value → Sto → Prop} {i : Instr} {k : Nat} {c : Prop} [Decidable c] (hd : decode (mco m) pc = .ok (i, k)) (h : ∀ f, stp (run f) i k m pc ls st σ = if c then goM (run f) t as m pc ls st1 σ else none) (h4 : st1.length ≤ 4 ∧ (lcv as).length ≤ mml t ∧ mhg t < mhg m) : Rn m pc ls st σ Q ↔ c ∧ Ca t (lcs (mml t) as) σ m (pc + 3) ls st1 Q := by
  have hgo : ∀ f, goM (run f) t as m pc ls st1 σ = (run f t 0 (lcs (mml t) as) [] σ).bind (fun q => run f m (pc + 3) ls (q.1.toList ++ st1) q.2) := fun f => by
    unfold goM
    rw [if_pos h4]
  constructor
  · rintro ⟨f, r, σ', h1, h2⟩
    cases f with
    | zero => cases h1
    | succ f =>
      rw [run_s hd, h] at h1
      split at h1
      · rename_i hc
        rw [hgo] at h1
        cases hq : run f t 0 (lcs (mml t) as) [] σ with
        | none => rw [hq] at h1; cases h1
        | some q =>
          rw [hq] at h1
          exact ⟨hc, f, q.1, q.2, hq, f, r, σ', h1, h2⟩
      · cases h1
  · rintro ⟨hc, f, r1, σ1, h1, g, r, σ', h2, h3⟩
    refine ⟨max f g + 1, r, σ', ?_, h3⟩
    rw [run_s hd, h, if_pos hc, hgo, run_le (Nat.le_max_left f g) _ h1]
    exact run_le (Nat.le_max_right f g) _ h2
/-- runs end in one way -/
theorem Rn.det {m pc : Nat} {ls st : Vs} {σ : Sto} {r0 : Option Value} {σ0 : Sto} (h : Rn m pc ls st σ (fun r σ' => r = r0 ∧ σ' = σ0)) (Q : Option Value → Sto → Prop) : Rn m pc ls st σ Q ↔ Q r0 σ0 := by
  obtain ⟨f, r, σ', h1, rfl, rfl⟩ := h
  constructor
  · rintro ⟨g, r2, σ2, h2, h3⟩
    have e1 := run_le (Nat.le_max_left f g) _ h1
    have e2 := run_le (Nat.le_max_right f g) _ h2
    rw [e1] at e2
    cases e2
    exact h3
  · exact fun q => ⟨f, r, σ', h1, q⟩
theorem Rn.imp {m pc : Nat} {ls st : Vs} {σ : Sto} {P Q : Option Value → Sto → Prop} (h : Rn m pc ls st σ P) (hq : ∀ r σ', P r σ' → Q r σ') : Rn m pc ls st σ Q := by
  obtain ⟨f, r, σ', h1, h2⟩ := h
  exact ⟨f, r, σ', h1, hq r σ' h2⟩
/-- a call whose end is known -/
theorem Ca_of {t m pc : Nat} {l0 ls st : Vs} {σ σ1 : Sto} {r : Option Value} {Q : Option Value → Sto → Prop} (h : ∀ Q : Option Value → Sto → Prop, Q r σ1 → Rn t 0 l0 [] σ Q) : Ca t l0 σ m pc ls st Q ↔ Rn m pc ls (r.toList ++ st) σ1 Q := by
  unfold Ca
  rw [Rn.det (h (fun a b => a = r ∧ b = σ1) ⟨rfl, rfl⟩)]
/-- a call of whose end something is known -/
theorem Ca_imp {t m pc : Nat} {l0 ls st : Vs} {σ : Sto} {P : Option Value → Sto → Prop} {Q : Option Value → Sto → Prop} (h : Rn t 0 l0 [] σ P) (hq : ∀ r σ1, P r σ1 → Rn m pc ls (r.toList ++ st) σ1 Q) : Ca t l0 σ m pc ls st Q := h.imp hq
end
section
/-! RUNS, 2: one step of each kind over the stores behind the constructors -/
def kA (a c : Nat) : Prop := a < 100 ∧ (tg a).1 = c
def kR (a : Nat) : Prop := a < 100 ∧ 23 ≤ (tg a).1 ∧ (tg a).1 ≤ 25
def kO (a : Nat) : Prop := a < 100 ∧ (tg a).1 < 13
abbrev kL (a : Nat) : Prop := isR a
def wI (I : Nat → Nat → Int32) (a k : Nat) (x : Int32) : Nat → Nat → Int32 := va_up I a (upd (I a) k x)
def wJ (J : Nat → Nat → Int64) (a k : Nat) (x : Int64) : Nat → Nat → Int64 := va_up J a (va_up (J a) k x)
section STEPS
variable {m pc n c j a i0 : Nat} {ls st : Vs} {σ : Sto} {I : Nat → Nat → Int32} {J : Nat → Nat → Int64} {Q : Option Value → Sto → Prop}
theorem isA_sg (a c : Nat) : isA (Sg I J) a c = true ↔ kA a c := by
  unfold isA kA
  simp only [Bool.and_eq_true, decide_eq_true_eq]
  exact Iff.rfl
theorem Rn_if' {m1 pc1 : Nat} {ls1 st1 : Vs} {σ1 : Sto} {i : Instr} {k : Nat} {c c' : Prop} [Decidable c] (hcc : c ↔ c') (hd : decode (mco m) pc = .ok (i, k)) (h : ∀ f, stp (run f) i k m pc ls st σ = if c then run f m1 pc1 ls1 st1 σ1 else none) : Rn m pc ls st σ Q ↔ c' ∧ Rn m1 pc1 ls1 st1 σ1 Q := by
  rw [Rn_if hd h, hcc]
theorem g_ldc {v : Int32} (hd : decode (mco m) pc = .ok (.ldc n, 2)) (hc : cs (mcl m) n = some (.int v)) : Rn m pc ls st σ Q ↔ Rn m (pc + 2) ls (.int v :: st) σ Q := Rn_of hd (fun f => by simp [stp, hc, psh])
theorem g_ldcs {v : Nat} (hd : decode (mco m) pc = .ok (.ldc n, 2)) (hc : cs (mcl m) n = some (.ref v)) : Rn m pc ls st σ Q ↔ Rn m (pc + 2) ls (.ref v :: st) σ Q := Rn_of hd (fun f => by simp [stp, hc, psh])
theorem g_ldc_w {v : Int32} (hd : decode (mco m) pc = .ok (.ldc_w n, 3)) (hc : cs (mcl m) n = some (.int v)) : Rn m pc ls st σ Q ↔ Rn m (pc + 3) ls (.int v :: st) σ Q := Rn_of hd (fun f => by simp [stp, hc, psh])
theorem g_ldc2_w {v : Int64} (hd : decode (mco m) pc = .ok (.ldc2_w n, 3)) (hc : cs (mcl m) n = some (.long v)) : Rn m pc ls st σ Q ↔ Rn m (pc + 3) ls (.long v :: st) σ Q := Rn_of hd (fun f => by simp [stp, hc, psh])
theorem g_ifCond {cd : Jvm.ClassFile.Cond} {off : Int} {t : Nat} {x : Int32} {P : Prop} [Decidable P] (hd : decode (mco m) pc = .ok (.ifCond cd off, 3)) (ht : jt pc off = some t) (hP : cz cd x = true ↔ P) : Rn m pc ls (.int x :: st) σ Q ↔ if P then Rn m t ls st σ Q else Rn m (pc + 3) ls st σ Q := by
  rw [Rn_br (c := cz cd x = true) hd (fun f => by simp only [stp, brn, ht]; rfl)]
  simp only [hP]
theorem g_if_icmp {cd : Jvm.ClassFile.Cond} {off : Int} {t : Nat} {x y : Int32} {P : Prop} [Decidable P] (hd : decode (mco m) pc = .ok (.if_icmp cd off, 3)) (ht : jt pc off = some t) (hP : cc2 cd x y = true ↔ P) : Rn m pc ls (.int y :: .int x :: st) σ Q ↔ if P then Rn m t ls st σ Q else Rn m (pc + 3) ls st σ Q := by
  rw [Rn_br (c := cc2 cd x y = true) hd (fun f => by simp only [stp, brn, ht]; rfl)]
  simp only [hP]
theorem g_and {X A B P : Prop} (h : X ↔ (A ∧ B) ∧ P) (ha : A) : X ↔ B ∧ P := by
  rw [h, and_iff_right ha]
theorem cz_eq {x : Int32} : cz .eq x = true ↔ x = 0 := decide_eq_true_iff
theorem cz_ne {x : Int32} : cz .ne x = true ↔ ¬ x = 0 := decide_eq_true_iff
theorem cz_lt {x : Int32} : cz .lt x = true ↔ x < 0 := decide_eq_true_iff
theorem cz_ge {x : Int32} : cz .ge x = true ↔ 0 ≤ x := decide_eq_true_iff
theorem cz_gt {x : Int32} : cz .gt x = true ↔ 0 < x := decide_eq_true_iff
theorem cz_le {x : Int32} : cz .le x = true ↔ x ≤ 0 := decide_eq_true_iff
theorem cc_eq {x y : Int32} : cc2 .eq x y = true ↔ x = y := decide_eq_true_iff
theorem cc_ne {x y : Int32} : cc2 .ne x y = true ↔ ¬ x = y := decide_eq_true_iff
theorem cc_lt {x y : Int32} : cc2 .lt x y = true ↔ x < y := decide_eq_true_iff
theorem cc_ge {x y : Int32} : cc2 .ge x y = true ↔ y ≤ x := decide_eq_true_iff
theorem cc_gt {x y : Int32} : cc2 .gt x y = true ↔ y < x := decide_eq_true_iff
theorem cc_le {x y : Int32} : cc2 .le x y = true ↔ x ≤ y := decide_eq_true_iff
theorem g_tsi {d lo hi : Int} {os : Array Int} {len t : Nat} {x : Int32} {off : Int} (hd : decode (mco m) pc = .ok (.tableswitch d lo hi os, len)) (h1 : ¬ x.toInt < lo) (h2 : ¬ hi < x.toInt) (ho : os[(x.toInt - lo).toNat]? = some off) (ht : jt pc off = some t) : Rn m pc ls (.int x :: st) σ Q ↔ Rn m t ls st σ Q := Rn_of hd (fun f => by simp only [stp, h1, h2, or_self, if_false, ho, Option.bind_some, ht])
theorem g_tso {d lo hi : Int} {os : Array Int} {len t : Nat} {x : Int32} (hd : decode (mco m) pc = .ok (.tableswitch d lo hi os, len)) (h : x.toInt < lo ∨ hi < x.toInt) (ht : jt pc d = some t) : Rn m pc ls (.int x :: st) σ Q ↔ Rn m t ls st σ Q := Rn_of hd (fun f => by simp only [stp, h, if_true, Option.bind_some, ht])
theorem g_get0 (hd : decode (mco m) pc = .ok (.getfield n, 3)) (hf : fl (mcl m) n = some (0, c, j)) (hj : j < nf c) (ht : ft c j = 0) : Rn m pc ls (.ref a :: st) (Sg I J) Q ↔ kA a c ∧ Rn m (pc + 3) ls (.int (I a j) :: st) (Sg I J) Q := Rn_if' (isA_sg (I := I) (J := J) a c) hd (fun f => by simp only [stp, hf, hj, fval, ht, if_true, and_true]; rfl)
theorem g_get1 (hd : decode (mco m) pc = .ok (.getfield n, 3)) (hf : fl (mcl m) n = some (0, c, j)) (hj : j < nf c) (ht : ft c j = 1) : Rn m pc ls (.ref a :: st) (Sg I J) Q ↔ kA a c ∧ Rn m (pc + 3) ls (.long (J a j) :: st) (Sg I J) Q := Rn_if' (isA_sg (I := I) (J := J) a c) hd (fun f => by simp only [stp, hf, hj, fval, ht, if_true, and_true]; rfl)
theorem g_get2 (hd : decode (mco m) pc = .ok (.getfield n, 3)) (hf : fl (mcl m) n = some (0, c, j)) (hj : j < nf c) (ht : ft c j = 2) : Rn m pc ls (.ref a :: st) (Sg I J) Q ↔ kA a c ∧ Rn m (pc + 3) ls (.ref (rf a j) :: st) (Sg I J) Q := Rn_if' (isA_sg (I := I) (J := J) a c) hd (fun f => by simp only [stp, hf, hj, fval, ht, if_true, and_true]; rfl)
theorem g_gets0 {z : Nat} (hd : decode (mco m) pc = .ok (.getfield n, 3)) (hf : fl (mcl m) n = some (1, 0, z)) : Rn m pc ls (.ref a :: st) σ Q ↔ (1010 ≤ a ∧ a < 1015) ∧ Rn m (pc + 3) ls (.ref (a + 10) :: st) σ Q := Rn_if hd (fun f => by simp only [stp, hf]; rfl)
theorem g_gets1 {z : Nat} (hd : decode (mco m) pc = .ok (.getfield n, 3)) (hf : fl (mcl m) n = some (1, 1, z)) : Rn m pc ls (.ref a :: st) σ Q ↔ (1010 ≤ a ∧ a < 1015) ∧ Rn m (pc + 3) ls (.int 0 :: st) σ Q := Rn_if hd (fun f => by simp only [stp, hf]; rfl)
theorem g_put0 {x : Int32} (hd : decode (mco m) pc = .ok (.putfield n, 3)) (hf : fl (mcl m) n = some (0, c, j)) (hj : j < nf c) (ht : ft c j = 0) (hfin : (Tc c j).2.2.2 = false) : Rn m pc ls (.int x :: .ref a :: st) (Sg I J) Q ↔ kA a c ∧ Rn m (pc + 3) ls st (Sg (wI I a j x) J) Q := Rn_if' (isA_sg (I := I) (J := J) a c) hd (fun f => by simp only [stp, hf, hj, fput, ht, hfin, if_true, and_true, Bool.false_eq_true, false_implies]; rfl)
theorem g_put1 {x : Int64} (hd : decode (mco m) pc = .ok (.putfield n, 3)) (hf : fl (mcl m) n = some (0, c, j)) (hj : j < nf c) (ht : ft c j = 1) (hfin : (Tc c j).2.2.2 = false) : Rn m pc ls (.long x :: .ref a :: st) (Sg I J) Q ↔ kA a c ∧ Rn m (pc + 3) ls st (Sg I (wJ J a j x)) Q := Rn_if' (isA_sg (I := I) (J := J) a c) hd (fun f => by simp only [stp, hf, hj, fput, ht, hfin, if_true, and_true, Bool.false_eq_true, false_implies]; rfl)
theorem g_gst1 {z : Nat} (hd : decode (mco m) pc = .ok (.getstatic n, 3)) (hf : fl (mcl m) n = some (2, 1, z)) : Rn m pc ls st σ Q ↔ Rn m (pc + 3) ls (.int 1 :: st) σ Q := Rn_of hd (fun f => by simp only [stp, hf]; rfl)
theorem g_gst2 {w z : Nat} (hd : decode (mco m) pc = .ok (.getstatic n, 3)) (hf : fl (mcl m) n = some (2, w, z)) (hw : w ≠ 1) : Rn m pc ls st σ Q ↔ Rn m (pc + 3) ls (.ref w :: st) σ Q := Rn_of hd (fun f => by
  simp only [stp, hf, if_true])
theorem g_ialdS {i : Int32} (hd : decode (mco m) pc = .ok (.iaload, 1)) : Rn m pc ls (.int i :: .ref 1000 :: st) (Sg I J) Q ↔ inb i (I 999 0).toNatClampNeg ∧ Rn m (pc + 1) ls (.int (I 1000 i.toNatClampNeg) :: st) (Sg I J) Q := Rn_if' (inb_iff i _) hd (fun f => by simp [stp, isA, Sg, olen, oval])
theorem g_ialdT {i : Int32} (hd : decode (mco m) pc = .ok (.iaload, 1)) (h : 1001 ≤ a ∧ a ≤ 1003) : Rn m pc ls (.int i :: .ref a :: st) (Sg I J) Q ↔ inb i (otb.getD (a - 1001) []).length ∧ Rn m (pc + 1) ls (.int ((otb.getD (a - 1001) []).getD i.toNatClampNeg 0) :: st) (Sg I J) Q := Rn_if' (inb_iff i _) hd (fun f => by
  have h1 : ¬ a < 100 := by omega
  have h2 : ¬ a = 1000 := by omega
  simp only [stp, isA, Sg, h1, olen, oval, h2, h, decide_false, Bool.false_and, false_and, if_false, and_self, if_true]
  simp)
theorem g_iald {i : Int32} (hd : decode (mco m) pc = .ok (.iaload, 1)) (h : kA a 20) : Rn m pc ls (.int i :: .ref a :: st) (Sg I J) Q ↔ inb i (tg a).2 ∧ Rn m (pc + 1) ls (.int (I a i.toNatClampNeg) :: st) (Sg I J) Q := Rn_if' (inb_iff i _) hd (fun f => by
  have h1 : isA (Sg I J) a 20 = true := (isA_sg a 20).mpr h
  have h2 : olen (Sg I J) a = none := by
    have := h.1
    simp only [olen, show ¬ a = 1000 by omega, show ¬ (1001 ≤ a ∧ a ≤ 1003) by omega, false_and, if_false]
  simp only [stp, h1, h2, true_and, if_true]
  rfl)
theorem g_bald {i : Int32} (hd : decode (mco m) pc = .ok (.baload, 1)) (h : kA a 21 ∨ kA a 22) : Rn m pc ls (.int i :: .ref a :: st) (Sg I J) Q ↔ inb i (tg a).2 ∧ Rn m (pc + 1) ls (.int (I a i.toNatClampNeg) :: st) (Sg I J) Q := Rn_if' (inb_iff i _) hd (fun f => by
  have h1 : (isA (Sg I J) a 21 = true ∨ isA (Sg I J) a 22 = true) := by rw [isA_sg, isA_sg]; exact h
  have h2 : a < 100 := by rcases h with h | h <;> exact h.1
  simp only [stp, h1, true_and, if_true, show ¬ 1020 ≤ a by omega, false_and, if_false]
  rfl)
theorem g_baldT {i : Int32} (hd : decode (mco m) pc = .ok (.baload, 1)) (h : 1020 ≤ a ∧ a < 1025) : Rn m pc ls (.int i :: .ref a :: st) (Sg I J) Q ↔ inb i (stb.getD (a - 1020) []).length ∧ Rn m (pc + 1) ls (.int ((stb.getD (a - 1020) []).getD i.toNatClampNeg 0) :: st) (Sg I J) Q := Rn_if' (inb_iff i _) hd (fun f => by
  have h1 : ¬ a < 100 := by omega
  simp only [stp, isA, Sg, h1, decide_false, Bool.false_and, h.1, h.2, true_and, if_true]
  simp)
theorem g_iast {x i : Int32} (hd : decode (mco m) pc = .ok (.iastore, 1)) : Rn m pc ls (.int x :: .int i :: .ref a :: st) (Sg I J) Q ↔ (kA a 20 ∧ inb i (tg a).2) ∧ Rn m (pc + 1) ls st (Sg (wI I a i.toNatClampNeg x) J) Q := Rn_if' (c := isA (Sg I J) a 20 = true ∧ inbB i (tg a).2 = true) (by rw [isA_sg (I := I) (J := J), inb_iff]) hd (fun f => by simp only [stp]; rfl)
theorem g_bast {x i : Int32} (hd : decode (mco m) pc = .ok (.bastore, 1)) (h : kA a 21) : Rn m pc ls (.int x :: .int i :: .ref a :: st) (Sg I J) Q ↔ inb i (tg a).2 ∧ Rn m (pc + 1) ls st (Sg (wI I a i.toNatClampNeg (vp_nar .byte x)) J) Q := Rn_if' (inb_iff i _) hd (fun f => by
  have h1 : isA (Sg I J) a 21 = true := (isA_sg a 21).mpr h
  have h2 : ¬ isA (Sg I J) a 22 = true := fun q => by
    have := ((isA_sg a 22).mp q).2
    have := h.2
    omega
  simp only [stp, h1, h2, true_and, false_and, if_false, if_true]
  rfl)
theorem g_zast {x i : Int32} (hd : decode (mco m) pc = .ok (.bastore, 1)) (h : kA a 22) : Rn m pc ls (.int x :: .int i :: .ref a :: st) (Sg I J) Q ↔ inb i (tg a).2 ∧ Rn m (pc + 1) ls st (Sg (wI I a i.toNatClampNeg (vp_nar .boolean x)) J) Q := Rn_if' (inb_iff i _) hd (fun f => by
  have h1 : isA (Sg I J) a 22 = true := (isA_sg a 22).mpr h
  have h2 : ¬ isA (Sg I J) a 21 = true := fun q => by
    have := ((isA_sg a 21).mp q).2
    have := h.2
    omega
  simp only [stp, h1, h2, true_and, false_and, if_false, if_true]
  rfl)
theorem g_aald {i : Int32} (hd : decode (mco m) pc = .ok (.aaload, 1)) : Rn m pc ls (.int i :: .ref a :: st) (Sg I J) Q ↔ (kR a ∧ inb i (tg a).2) ∧ Rn m (pc + 1) ls (.ref (rf a i.toNatClampNeg) :: st) (Sg I J) Q := Rn_if' (c := (isA (Sg I J) a 23 = true ∨ isA (Sg I J) a 24 = true ∨ isA (Sg I J) a 25 = true) ∧ inbB i (tg a).2 = true ∧ (Sg I J).2.1 a i.toNatClampNeg = true) (by
  have h0 : (Sg I J).2.1 a i.toNatClampNeg = true := rfl
  rw [isA_sg (I := I) (J := J), isA_sg (I := I) (J := J), isA_sg (I := I) (J := J), inb_iff]
  simp only [h0, and_true]
  unfold kA kR
  constructor
  · rintro ⟨h, h2⟩; exact ⟨⟨by omega, by omega, by omega⟩, h2⟩
  · rintro ⟨h, h2⟩; exact ⟨by omega, h2⟩) hd (fun f => by simp only [stp]; rfl)
theorem g_alenS (hd : decode (mco m) pc = .ok (.arraylength, 1)) : Rn m pc ls (.ref 1000 :: st) (Sg I J) Q ↔ Rn m (pc + 1) ls (.int (I 999 0) :: st) (Sg I J) Q := Rn_of hd (fun f => by simp [stp, Sg])
theorem g_alenT (hd : decode (mco m) pc = .ok (.arraylength, 1)) (h : 1020 ≤ a ∧ a < 1025) : Rn m pc ls (.ref a :: st) (Sg I J) Q ↔ Rn m (pc + 1) ls (.int (Int32.ofNat (stb.getD (a - 1020) []).length) :: st) (Sg I J) Q := Rn_of hd (fun f => by
  have h1 : ¬ a < 100 := by omega
  simp only [stp, Sg, h1, false_and, if_false, h.1, h.2, and_self, if_true])
theorem g_alen (hd : decode (mco m) pc = .ok (.arraylength, 1)) (h : kA a 20) : Rn m pc ls (.ref a :: st) (Sg I J) Q ↔ Rn m (pc + 1) ls (.int (Int32.ofNat (tg a).2) :: st) (Sg I J) Q := Rn_of hd (fun f => by
  have h1 : a < (Sg I J).1 ∧ 20 ≤ (tg a).1 ∧ (tg a).1 < 23 := ⟨h.1, by rw [h.2]; omega, by rw [h.2]; omega⟩
  simp only [stp, h1, and_self, if_true])
theorem g_copy {nn dp sp : Int32} {a1 a0 t n1 i : Nat} (hd : decode (mco m) pc = .ok (.invokestatic i, 3)) (hc : ck (mcl m) i = some (8, t, n1)) (h4 : st.length ≤ 4) : Rn m pc ls (.int nn :: .int dp :: .ref a1 :: .int sp :: .ref a0 :: st) (Sg I J) Q ↔ ((kA a0 20 ∧ kA a1 20) ∧ ¬ sp < 0 ∧ ¬ dp < 0 ∧ ¬ nn < 0 ∧ sp.toNatClampNeg + nn.toNatClampNeg ≤ (tg a0).2 ∧ dp.toNatClampNeg + nn.toNatClampNeg ≤ (tg a1).2) ∧ Rn m (pc + 3) ls st (Sg (va_up I a1 (va_cpy (I a0) (I a1) sp.toNatClampNeg dp.toNatClampNeg nn.toNatClampNeg)) J) Q := Rn_if' (c := isA (Sg I J) a0 20 = true ∧ isA (Sg I J) a1 20 = true ∧ ¬ sp < 0 ∧ ¬ dp < 0 ∧ ¬ nn < 0 ∧ sp.toNatClampNeg + nn.toNatClampNeg ≤ (tg a0).2 ∧ dp.toNatClampNeg + nn.toNatClampNeg ≤ (tg a1).2 ∧ st.length ≤ 4) (by
  rw [isA_sg (I := I) (J := J), isA_sg (I := I) (J := J)]
  simp only [h4, and_true, and_assoc]) hd (fun f => by simp only [stp, doS, hc]; rfl)
theorem g_iret {x : Int32} (hd : decode (mco m) pc = .ok (.ireturn, 1)) (h : mre m = some .int) : Rn m pc ls [.int x] σ Q ↔ Q (some (.int x)) σ := by
  rw [Rn_ret (c := True) (r := some (.int x)) hd (fun f => by simp [stp, h])]
  simp
theorem g_zret {x : Int32} (hd : decode (mco m) pc = .ok (.ireturn, 1)) (h : mre m = some .boolean) : Rn m pc ls [.int x] σ Q ↔ (x = 0 ∨ x = 1) ∧ Q (some (.int x)) σ := Rn_ret hd (fun f => by simp only [stp, h]; rfl)
theorem g_bret {x : Int32} (hd : decode (mco m) pc = .ok (.ireturn, 1)) (h : mre m = some .byte) : Rn m pc ls [.int x] σ Q ↔ narrow .byte (.int x) = .int x ∧ Q (some (.int x)) σ := Rn_ret hd (fun f => by simp only [stp, h]; rfl)
theorem g_cret {x : Int32} (hd : decode (mco m) pc = .ok (.ireturn, 1)) (h : mre m = some .char) : Rn m pc ls [.int x] σ Q ↔ narrow .char (.int x) = .int x ∧ Q (some (.int x)) σ := Rn_ret hd (fun f => by simp only [stp, h]; rfl)
theorem g_lret {x : Int64} (hd : decode (mco m) pc = .ok (.lreturn, 1)) (h : mre m = some .long) : Rn m pc ls [.long x] σ Q ↔ Q (some (.long x)) σ := by
  rw [Rn_ret (c := True) (r := some (.long x)) hd (fun f => by simp [stp, h])]
  simp
theorem g_aret {x : Nat} (hd : decode (mco m) pc = .ok (.areturn, 1)) (h : mre m = some (.object RX9)) : Rn m pc ls [.ref x] σ Q ↔ x < 1000 ∧ Q (some (.ref x)) σ := Rn_ret hd (fun f => by simp [stp, h])
theorem g_vret (hd : decode (mco m) pc = .ok (.return_, 1)) (h : mre m = none) : Rn m pc ls [] σ Q ↔ Q none σ := by
  rw [Rn_ret (c := True) (r := none) hd (fun f => by simp [stp, h])]
  simp
theorem lget_0 {v : Value} {l : Vs} : lget (v :: l) 0 = v := rfl
/-- calls: the stack is the arguments, the last on top, and what is below -/
theorem g_sta1 {as l0 rest : Vs} {t nn i : Nat} (hd : decode (mco m) pc = .ok (.invokestatic i, 3)) (hc : ck (mcl m) i = some (1, t, nn)) (hst : st = as.reverse ++ rest) (hl : lcs (mml t) as = l0) (h4 : as.length = nn ∧ rest.length ≤ 4 ∧ (lcv as).length ≤ mml t ∧ mhg t < mhg m) : Rn m pc ls st (Sg I J) Q ↔ Ca t l0 (Sg I J) m (pc + 3) ls rest Q := by
  subst hl
  obtain ⟨h1, h2, h3, h5⟩ := h4
  have hp : pop st nn = as := by
    unfold pop
    rw [hst, List.take_left' (by simp [h1]), List.reverse_reverse]
  have hdr : st.drop nn = rest := by rw [hst, List.drop_left' (by simp [h1])]
  rw [Rn_ca (c := nn ≤ st.length) (t := t) (as := as) (st1 := rest) hd (fun f => by simp only [stp, doS, hc, hp, hdr]; rfl) ⟨h2, h3, h5⟩]
  simp [hst, h1]
theorem g_sta2 {as l0 rest : Vs} {t nn i : Nat} (hd : decode (mco m) pc = .ok (.invokestatic i, 3)) (hc : ck (mcl m) i = some (2, t, nn)) (hst : st = as.reverse ++ rest) (hl : lcs (mml t) as = l0) (h4 : as.length = nn ∧ rest.length ≤ 4 ∧ (lcv as).length ≤ mml t ∧ mhg t < mhg m) : Rn m pc ls st (Sg I J) Q ↔ Ca t l0 (Sg I J) m (pc + 3) ls rest Q := by
  subst hl
  obtain ⟨h1, h2, h3, h5⟩ := h4
  have hp : pop st nn = as := by
    unfold pop
    rw [hst, List.take_left' (by simp [h1]), List.reverse_reverse]
  have hdr : st.drop nn = rest := by rw [hst, List.drop_left' (by simp [h1])]
  rw [Rn_ca (c := nn ≤ st.length) (t := t) (as := as) (st1 := rest) hd (fun f => by simp only [stp, doS, hc, hp, hdr]; rfl) ⟨h2, h3, h5⟩]
  simp [hst, h1]
theorem pop_at {as rest : Vs} {nn : Nat} (hst : st = as.reverse ++ rest) (h1 : as.length = nn + 1) : pop st (nn + 1) = as ∧ st.drop (nn + 1) = rest ∧ nn < st.length := by
  refine ⟨?_, ?_, ?_⟩
  · unfold pop
    rw [hst, List.take_left' (by simp [h1]), List.reverse_reverse]
  · rw [hst, List.drop_left' (by simp [h1])]
  · rw [hst]; simp [h1]; omega
theorem g_vir {as0 l0 rest : Vs} {t nn i : Nat} (hd : decode (mco m) pc = .ok (.invokevirtual i, 3)) (hc : ck (mcl m) i = some (0, t, nn) ∧ mcl t ≠ 13) (hst : st = (.ref a :: as0 : Vs).reverse ++ rest) (hl : lcs (mml t) (.ref a :: as0) = l0) (h4 : as0.length = nn ∧ rest.length ≤ 4 ∧ (lcv (.ref a :: as0)).length ≤ mml t ∧ mhg t < mhg m) : Rn m pc ls st (Sg I J) Q ↔ kA a (mcl t) ∧ Ca t l0 (Sg I J) m (pc + 3) ls rest Q := by
  subst hl
  obtain ⟨h1, h2, h3, h5⟩ := h4
  obtain ⟨hp, hdr, hn⟩ := pop_at (nn := nn) hst (by simp [h1])
  rw [Rn_ca (c := (isA (Sg I J) a (mcl t) = true ∨ (mcl t = 13 ∧ 1010 ≤ a ∧ a < 1015)) ∧ nn < st.length) (t := t) (as := .ref a :: as0) (st1 := rest) hd (fun f => by simp only [stp, doV, hc.1, hp, hdr, lget_0]; rfl) ⟨h2, h3, h5⟩, isA_sg]
  simp [hc.2, hn]
theorem g_virS {as0 l0 rest : Vs} {t nn i : Nat} (hd : decode (mco m) pc = .ok (.invokevirtual i, 3)) (hc : ck (mcl m) i = some (0, t, nn) ∧ mcl t = 13) (hst : st = (.ref a :: as0 : Vs).reverse ++ rest) (hl : lcs (mml t) (.ref a :: as0) = l0) (h4 : as0.length = nn ∧ rest.length ≤ 4 ∧ (lcv (.ref a :: as0)).length ≤ mml t ∧ mhg t < mhg m) : Rn m pc ls st (Sg I J) Q ↔ (1010 ≤ a ∧ a < 1015) ∧ Ca t l0 (Sg I J) m (pc + 3) ls rest Q := by
  subst hl
  obtain ⟨h1, h2, h3, h5⟩ := h4
  obtain ⟨hp, hdr, hn⟩ := pop_at (nn := nn) hst (by simp [h1])
  rw [Rn_ca (c := (isA (Sg I J) a (mcl t) = true ∨ (mcl t = 13 ∧ 1010 ≤ a ∧ a < 1015)) ∧ nn < st.length) (t := t) (as := .ref a :: as0) (st1 := rest) hd (fun f => by simp only [stp, doV, hc.1, hp, hdr, lget_0]; rfl) ⟨h2, h3, h5⟩, isA_sg]
  have hno : ¬ kA a (mcl t) := fun q => by
    have := tg_kind q.1
    have := q.2
    have := hc.2
    omega
  simp [hc.2, hn]
  intro _ h
  rw [hc.2] at hno
  exact absurd h hno
theorem g_poly {as0 l0 rest : Vs} {t t0 nn i cc : Nat} (hd : decode (mco m) pc = .ok (.invokevirtual i, 3)) (hc : ck (mcl m) i = some (7, t0, nn)) (hpk : pk cc = some t) (hk : kA a cc) (hst : st = (.ref a :: as0 : Vs).reverse ++ rest) (hl : lcs (mml t) (.ref a :: as0) = l0) (h4 : as0.length = nn ∧ rest.length ≤ 4 ∧ (lcv (.ref a :: as0)).length ≤ mml t ∧ mhg t < mhg m) : Rn m pc ls st (Sg I J) Q ↔ Ca t l0 (Sg I J) m (pc + 3) ls rest Q := by
  subst hl
  obtain ⟨h1, h2, h3, h5⟩ := h4
  obtain ⟨hp, hdr, hn⟩ := pop_at (nn := nn) hst (by simp [h1])
  rw [Rn_ca (c := a < (Sg I J).1 ∧ nn < st.length) (t := t) (as := .ref a :: as0) (st1 := rest) hd (fun f => by simp only [stp, doV, hc, hp, hdr, lget_0, hk.2, hpk]; rfl) ⟨h2, h3, h5⟩]
  have : a < (Sg I J).1 := hk.1
  simp [hn, this]
theorem g_sup {as0 l0 rest : Vs} {t nn i : Nat} (hd : decode (mco m) pc = .ok (.invokespecial i, 3)) (hc : ck (mcl m) i = some (5, t, nn)) (hst : st = (.ref a :: as0 : Vs).reverse ++ rest) (hl : lcs (mml t) (.ref a :: as0) = l0) (h4 : as0.length = nn ∧ rest.length ≤ 4 ∧ (lcv (.ref a :: as0)).length ≤ mml t ∧ mhg t < mhg m) : Rn m pc ls st (Sg I J) Q ↔ kO a ∧ Ca t l0 (Sg I J) m (pc + 3) ls rest Q := by
  subst hl
  obtain ⟨h1, h2, h3, h5⟩ := h4
  obtain ⟨hp, hdr, hn⟩ := pop_at (nn := nn) hst (by simp [h1])
  rw [Rn_ca (c := a < (Sg I J).1 ∧ (tg a).1 < 13 ∧ nn < st.length) (t := t) (as := .ref a :: as0) (st1 := rest) hd (fun f => by simp only [stp, doI, hc, hp, hdr, lget_0]; rfl) ⟨h2, h3, h5⟩]
  simp only [hn, and_true]
  rfl
end STEPS
end
section
/-! SITES -/
theorem u1_0 (x0 : Nat) (v1 : Value) (v2 : Value) (v3 : Value) (v4 : Value) (v5 : Value) (st : Vs) (σ : Sto) (Q : Option Value → Sto → Prop) : Rn 1 0 [.ref x0, v1, v2, v3, v4, v5] st σ Q ↔ kL x0 ∧ Rn 1 1 [.ref x0, v1, v2, v3, v4, v5] (.ref x0 :: st) σ Q := Rn_if (show decode (mco 1) 0 = .ok (.aload_n 0, 1) by decide +kernel) (fun _ => rfl)
theorem u1_1 (v0 : Value) (x1 : Int32) (v2 : Value) (v3 : Value) (v4 : Value) (v5 : Value) (st : Vs) (σ : Sto) (Q : Option Value → Sto → Prop) : Rn 1 1 [v0, .int x1, v2, v3, v4, v5] st σ Q ↔ Rn 1 2 [v0, .int x1, v2, v3, v4, v5] (.int x1 :: st) σ Q := Rn_of (show decode (mco 1) 1 = .ok (.iload_n 1, 1) by decide +kernel) (fun _ => rfl)
theorem u1_2 (v0 : Value) (v1 : Value) (x2 : Int32) (v3 : Value) (v4 : Value) (v5 : Value) (st : Vs) (σ : Sto) (Q : Option Value → Sto → Prop) : Rn 1 2 [v0, v1, .int x2, v3, v4, v5] st σ Q ↔ Rn 1 3 [v0, v1, .int x2, v3, v4, v5] (.int x2 :: st) σ Q := Rn_of (show decode (mco 1) 2 = .ok (.iload_n 2, 1) by decide +kernel) (fun _ => rfl)
theorem u1_3 (v0 : Value) (v1 : Value) (v2 : Value) (x3 : Int32) (v4 : Value) (v5 : Value) (st : Vs) (σ : Sto) (Q : Option Value → Sto → Prop) : Rn 1 3 [v0, v1, v2, .int x3, v4, v5] st σ Q ↔ Rn 1 4 [v0, v1, v2, .int x3, v4, v5] (.int x3 :: st) σ Q := Rn_of (show decode (mco 1) 3 = .ok (.iload_n 3, 1) by decide +kernel) (fun _ => rfl)
theorem u1_4 (v0 : Value) (v1 : Value) (v2 : Value) (v3 : Value) (x4 : Int32) (v5 : Value) (st : Vs) (σ : Sto) (Q : Option Value → Sto → Prop) : Rn 1 4 [v0, v1, v2, v3, .int x4, v5] st σ Q ↔ Rn 1 6 [v0, v1, v2, v3, .int x4, v5] (.int x4 :: st) σ Q := Rn_of (show decode (mco 1) 4 = .ok (.iload 4, 2) by decide +kernel) (fun _ => rfl)
theorem u1_6 (a : Nat) (x0 : Int32) (x1 : Int32) (x2 : Int32) (x3 : Int32) (ls : Vs) (I : Nat → Nat → Int32) (J : Nat → Nat → Int64) (Q : Option Value → Sto → Prop) : Rn 1 6 ls [.int x3, .int x2, .int x1, .int x0, .ref a] (Sg I J) Q ↔ kO a ∧ Ca 14 [.ref a, .int x0, .int x1, .int x2, .int x3] (Sg I J) 1 9 ls [] Q := g_sup (t := 14) (nn := 4) (as0 := [.int x0, .int x1, .int x2, .int x3]) (show decode (mco 1) 6 = .ok (.invokespecial 7, 3) by decide +kernel) (by decide +kernel) rfl rfl ⟨rfl, Nat.le_of_ble_eq_true rfl, Nat.le_of_ble_eq_true rfl, Nat.le_of_ble_eq_true rfl⟩
theorem u1_9 (v0 : Value) (v1 : Value) (v2 : Value) (v3 : Value) (x4 : Int32) (v5 : Value) (y : Int32) (st : Vs) (σ : Sto) (Q : Option Value → Sto → Prop) : Rn 1 9 [v0, v1, v2, v3, .int x4, v5] (.int y :: st) σ Q ↔ Rn 1 11 [v0, v1, v2, v3, .int x4, .int y] st σ Q := Rn_of (show decode (mco 1) 9 = .ok (.istore 5, 2) by decide +kernel) (fun _ => rfl)
theorem u1_11 (v0 : Value) (v1 : Value) (x2 : Int32) (v3 : Value) (v4 : Value) (v5 : Value) (st : Vs) (σ : Sto) (Q : Option Value → Sto → Prop) : Rn 1 11 [v0, v1, .int x2, v3, v4, v5] st σ Q ↔ Rn 1 12 [v0, v1, .int x2, v3, v4, v5] (.int x2 :: st) σ Q := Rn_of (show decode (mco 1) 11 = .ok (.iload_n 2, 1) by decide +kernel) (fun _ => rfl)
theorem u1_12  (ls : Vs) (st : Vs) (σ : Sto) (Q : Option Value → Sto → Prop) : Rn 1 12 ls st σ Q ↔ Rn 1 13 ls (.int 2 :: st) σ Q := Rn_of (show decode (mco 1) 12 = .ok (.iconst 2, 1) by decide +kernel) (fun _ => rfl)
theorem u1_13 (x y : Int32) (ls : Vs) (st : Vs) (σ : Sto) (Q : Option Value → Sto → Prop) : Rn 1 13 ls (.int y :: .int x :: st) σ Q ↔ (¬ y = 0) ∧ Rn 1 14 ls (.int (x - x / y * y) :: st) σ Q := Rn_if (show decode (mco 1) 13 = .ok (.irem, 1) by decide +kernel) (fun _ => rfl)
theorem u1_14 (x : Int32) (ls : Vs) (st : Vs) (σ : Sto) (Q : Option Value → Sto → Prop) : Rn 1 14 ls (.int x :: st) σ Q ↔ if x = 0 then Rn 1 24 ls st σ Q else Rn 1 17 ls st σ Q := g_ifCond (show decode (mco 1) 14 = .ok (.ifCond .eq 10, 3) by decide +kernel) rfl cz_eq
theorem u1_17  (ls : Vs) (st : Vs) (σ : Sto) (Q : Option Value → Sto → Prop) : Rn 1 17 ls st σ Q ↔ Rn 1 18 ls (.int 2 :: st) σ Q := Rn_of (show decode (mco 1) 17 = .ok (.iconst 2, 1) by decide +kernel) (fun _ => rfl)
theorem u1_18 (v0 : Value) (v1 : Value) (v2 : Value) (v3 : Value) (v4 : Value) (x5 : Int32) (st : Vs) (σ : Sto) (Q : Option Value → Sto → Prop) : Rn 1 18 [v0, v1, v2, v3, v4, .int x5] st σ Q ↔ Rn 1 20 [v0, v1, v2, v3, v4, .int x5] (.int x5 :: st) σ Q := Rn_of (show decode (mco 1) 18 = .ok (.iload 5, 2) by decide +kernel) (fun _ => rfl)
theorem u1_20 (x y : Int32) (ls : Vs) (st : Vs) (σ : Sto) (Q : Option Value → Sto → Prop) : Rn 1 20 ls (.int y :: .int x :: st) σ Q ↔ Rn 1 21 ls (.int (x * y) :: st) σ Q := Rn_of (show decode (mco 1) 20 = .ok (.imul, 1) by decide +kernel) (fun _ => rfl)
theorem u1_21 (ls : Vs) (st : Vs) (σ : Sto) (Q : Option Value → Sto → Prop) : Rn 1 21 ls st σ Q ↔ Rn 1 26 ls st σ Q := Rn_of (show decode (mco 1) 21 = .ok (.goto 5, 3) by decide +kernel) (fun _ => rfl)
theorem u1_24 (v0 : Value) (v1 : Value) (v2 : Value) (v3 : Value) (v4 : Value) (x5 : Int32) (st : Vs) (σ : Sto) (Q : Option Value → Sto → Prop) : Rn 1 24 [v0, v1, v2, v3, v4, .int x5] st σ Q ↔ Rn 1 26 [v0, v1, v2, v3, v4, .int x5] (.int x5 :: st) σ Q := Rn_of (show decode (mco 1) 24 = .ok (.iload 5, 2) by decide +kernel) (fun _ => rfl)
theorem u1_26 (x : Int32) (ls : Vs) (σ : Sto) (Q : Option Value → Sto → Prop) : Rn 1 26 ls [.int x] σ Q ↔ Q (some (.int x)) σ := g_iret (show decode (mco 1) 26 = .ok (.ireturn, 1) by decide +kernel) rfl
theorem u3_0 (v0 : Value) (v1 : Value) (v2 : Value) (v3 : Value) (x4 : Int32) (st : Vs) (σ : Sto) (Q : Option Value → Sto → Prop) : Rn 3 0 [v0, v1, v2, v3, .int x4] st σ Q ↔ Rn 3 2 [v0, v1, v2, v3, .int x4] (.int x4 :: st) σ Q := Rn_of (show decode (mco 3) 0 = .ok (.iload 4, 2) by decide +kernel) (fun _ => rfl)
theorem u3_2 (v0 : Value) (v1 : Value) (v2 : Value) (x3 : Int32) (v4 : Value) (st : Vs) (σ : Sto) (Q : Option Value → Sto → Prop) : Rn 3 2 [v0, v1, v2, .int x3, v4] st σ Q ↔ Rn 3 3 [v0, v1, v2, .int x3, v4] (.int x3 :: st) σ Q := Rn_of (show decode (mco 3) 2 = .ok (.iload_n 3, 1) by decide +kernel) (fun _ => rfl)
theorem u3_3 (x y : Int32) (ls : Vs) (st : Vs) (σ : Sto) (Q : Option Value → Sto → Prop) : Rn 3 3 ls (.int y :: .int x :: st) σ Q ↔ if x ≤ y then Rn 3 18 ls st σ Q else Rn 3 6 ls st σ Q := g_if_icmp (show decode (mco 3) 3 = .ok (.if_icmp .le 15, 3) by decide +kernel) rfl cc_le
theorem u3_6 (x0 : Nat) (v1 : Value) (v2 : Value) (v3 : Value) (v4 : Value) (st : Vs) (σ : Sto) (Q : Option Value → Sto → Prop) : Rn 3 6 [.ref x0, v1, v2, v3, v4] st σ Q ↔ kL x0 ∧ Rn 3 7 [.ref x0, v1, v2, v3, v4] (.ref x0 :: st) σ Q := Rn_if (show decode (mco 3) 6 = .ok (.aload_n 0, 1) by decide +kernel) (fun _ => rfl)
theorem u3_7 (v0 : Value) (x1 : Int32) (v2 : Value) (v3 : Value) (v4 : Value) (st : Vs) (σ : Sto) (Q : Option Value → Sto → Prop) : Rn 3 7 [v0, .int x1, v2, v3, v4] st σ Q ↔ Rn 3 8 [v0, .int x1, v2, v3, v4] (.int x1 :: st) σ Q := Rn_of (show decode (mco 3) 7 = .ok (.iload_n 1, 1) by decide +kernel) (fun _ => rfl)
theorem u3_8 (v0 : Value) (v1 : Value) (x2 : Int32) (v3 : Value) (v4 : Value) (st : Vs) (σ : Sto) (Q : Option Value → Sto → Prop) : Rn 3 8 [v0, v1, .int x2, v3, v4] st σ Q ↔ Rn 3 9 [v0, v1, .int x2, v3, v4] (.int x2 :: st) σ Q := Rn_of (show decode (mco 3) 8 = .ok (.iload_n 2, 1) by decide +kernel) (fun _ => rfl)
theorem u3_9 (v0 : Value) (v1 : Value) (v2 : Value) (x3 : Int32) (v4 : Value) (st : Vs) (σ : Sto) (Q : Option Value → Sto → Prop) : Rn 3 9 [v0, v1, v2, .int x3, v4] st σ Q ↔ Rn 3 10 [v0, v1, v2, .int x3, v4] (.int x3 :: st) σ Q := Rn_of (show decode (mco 3) 9 = .ok (.iload_n 3, 1) by decide +kernel) (fun _ => rfl)
theorem u3_10 (v0 : Value) (v1 : Value) (v2 : Value) (v3 : Value) (x4 : Int32) (st : Vs) (σ : Sto) (Q : Option Value → Sto → Prop) : Rn 3 10 [v0, v1, v2, v3, .int x4] st σ Q ↔ Rn 3 12 [v0, v1, v2, v3, .int x4] (.int x4 :: st) σ Q := Rn_of (show decode (mco 3) 10 = .ok (.iload 4, 2) by decide +kernel) (fun _ => rfl)
theorem u3_12 (a : Nat) (x0 : Int32) (x1 : Int32) (x2 : Int32) (x3 : Int32) (ls : Vs) (I : Nat → Nat → Int32) (J : Nat → Nat → Int64) (Q : Option Value → Sto → Prop) : Rn 3 12 ls [.int x3, .int x2, .int x1, .int x0, .ref a] (Sg I J) Q ↔ kO a ∧ Ca 14 [.ref a, .int x0, .int x1, .int x2, .int x3] (Sg I J) 3 15 ls [] Q := g_sup (t := 14) (nn := 4) (as0 := [.int x0, .int x1, .int x2, .int x3]) (show decode (mco 3) 12 = .ok (.invokespecial 7, 3) by decide +kernel) (by decide +kernel) rfl rfl ⟨rfl, Nat.le_of_ble_eq_true rfl, Nat.le_of_ble_eq_true rfl, Nat.le_of_ble_eq_true rfl⟩
theorem u3_15 (ls : Vs) (st : Vs) (σ : Sto) (Q : Option Value → Sto → Prop) : Rn 3 15 ls st σ Q ↔ Rn 3 19 ls st σ Q := Rn_of (show decode (mco 3) 15 = .ok (.goto 4, 3) by decide +kernel) (fun _ => rfl)
theorem u3_18  (ls : Vs) (st : Vs) (σ : Sto) (Q : Option Value → Sto → Prop) : Rn 3 18 ls st σ Q ↔ Rn 3 19 ls (.int 0 :: st) σ Q := Rn_of (show decode (mco 3) 18 = .ok (.iconst 0, 1) by decide +kernel) (fun _ => rfl)
theorem u3_19 (x : Int32) (ls : Vs) (σ : Sto) (Q : Option Value → Sto → Prop) : Rn 3 19 ls [.int x] σ Q ↔ Q (some (.int x)) σ := g_iret (show decode (mco 3) 19 = .ok (.ireturn, 1) by decide +kernel) rfl
theorem u5_0 (v0 : Value) (v1 : Value) (v2 : Value) (v3 : Value) (x4 : Int32) (st : Vs) (σ : Sto) (Q : Option Value → Sto → Prop) : Rn 5 0 [v0, v1, v2, v3, .int x4] st σ Q ↔ Rn 5 2 [v0, v1, v2, v3, .int x4] (.int x4 :: st) σ Q := Rn_of (show decode (mco 5) 0 = .ok (.iload 4, 2) by decide +kernel) (fun _ => rfl)
theorem u5_2  (ls : Vs) (st : Vs) (σ : Sto) (Q : Option Value → Sto → Prop) : Rn 5 2 ls st σ Q ↔ Rn 5 3 ls (.int 5 :: st) σ Q := Rn_of (show decode (mco 5) 2 = .ok (.iconst 5, 1) by decide +kernel) (fun _ => rfl)
theorem u5_3 (x y : Int32) (ls : Vs) (st : Vs) (σ : Sto) (Q : Option Value → Sto → Prop) : Rn 5 3 ls (.int y :: .int x :: st) σ Q ↔ if x < y then Rn 5 18 ls st σ Q else Rn 5 6 ls st σ Q := g_if_icmp (show decode (mco 5) 3 = .ok (.if_icmp .lt 15, 3) by decide +kernel) rfl cc_lt
theorem u5_6 (x0 : Nat) (v1 : Value) (v2 : Value) (v3 : Value) (v4 : Value) (st : Vs) (σ : Sto) (Q : Option Value → Sto → Prop) : Rn 5 6 [.ref x0, v1, v2, v3, v4] st σ Q ↔ kL x0 ∧ Rn 5 7 [.ref x0, v1, v2, v3, v4] (.ref x0 :: st) σ Q := Rn_if (show decode (mco 5) 6 = .ok (.aload_n 0, 1) by decide +kernel) (fun _ => rfl)
theorem u5_7 (v0 : Value) (x1 : Int32) (v2 : Value) (v3 : Value) (v4 : Value) (st : Vs) (σ : Sto) (Q : Option Value → Sto → Prop) : Rn 5 7 [v0, .int x1, v2, v3, v4] st σ Q ↔ Rn 5 8 [v0, .int x1, v2, v3, v4] (.int x1 :: st) σ Q := Rn_of (show decode (mco 5) 7 = .ok (.iload_n 1, 1) by decide +kernel) (fun _ => rfl)
theorem u5_8 (v0 : Value) (v1 : Value) (x2 : Int32) (v3 : Value) (v4 : Value) (st : Vs) (σ : Sto) (Q : Option Value → Sto → Prop) : Rn 5 8 [v0, v1, .int x2, v3, v4] st σ Q ↔ Rn 5 9 [v0, v1, .int x2, v3, v4] (.int x2 :: st) σ Q := Rn_of (show decode (mco 5) 8 = .ok (.iload_n 2, 1) by decide +kernel) (fun _ => rfl)
theorem u5_9 (v0 : Value) (v1 : Value) (v2 : Value) (x3 : Int32) (v4 : Value) (st : Vs) (σ : Sto) (Q : Option Value → Sto → Prop) : Rn 5 9 [v0, v1, v2, .int x3, v4] st σ Q ↔ Rn 5 10 [v0, v1, v2, .int x3, v4] (.int x3 :: st) σ Q := Rn_of (show decode (mco 5) 9 = .ok (.iload_n 3, 1) by decide +kernel) (fun _ => rfl)
theorem u5_10 (v0 : Value) (v1 : Value) (v2 : Value) (v3 : Value) (x4 : Int32) (st : Vs) (σ : Sto) (Q : Option Value → Sto → Prop) : Rn 5 10 [v0, v1, v2, v3, .int x4] st σ Q ↔ Rn 5 12 [v0, v1, v2, v3, .int x4] (.int x4 :: st) σ Q := Rn_of (show decode (mco 5) 10 = .ok (.iload 4, 2) by decide +kernel) (fun _ => rfl)
theorem u5_12 (a : Nat) (x0 : Int32) (x1 : Int32) (x2 : Int32) (x3 : Int32) (ls : Vs) (I : Nat → Nat → Int32) (J : Nat → Nat → Int64) (Q : Option Value → Sto → Prop) : Rn 5 12 ls [.int x3, .int x2, .int x1, .int x0, .ref a] (Sg I J) Q ↔ kO a ∧ Ca 7 [.ref a, .int x0, .int x1, .int x2, .int x3] (Sg I J) 5 15 ls [] Q := g_sup (t := 7) (nn := 4) (as0 := [.int x0, .int x1, .int x2, .int x3]) (show decode (mco 5) 12 = .ok (.invokespecial 7, 3) by decide +kernel) (by decide +kernel) rfl rfl ⟨rfl, Nat.le_of_ble_eq_true rfl, Nat.le_of_ble_eq_true rfl, Nat.le_of_ble_eq_true rfl⟩
theorem u5_15 (ls : Vs) (st : Vs) (σ : Sto) (Q : Option Value → Sto → Prop) : Rn 5 15 ls st σ Q ↔ Rn 5 19 ls st σ Q := Rn_of (show decode (mco 5) 15 = .ok (.goto 4, 3) by decide +kernel) (fun _ => rfl)
theorem u5_18  (ls : Vs) (st : Vs) (σ : Sto) (Q : Option Value → Sto → Prop) : Rn 5 18 ls st σ Q ↔ Rn 5 19 ls (.int 0 :: st) σ Q := Rn_of (show decode (mco 5) 18 = .ok (.iconst 0, 1) by decide +kernel) (fun _ => rfl)
theorem u5_19 (x : Int32) (ls : Vs) (σ : Sto) (Q : Option Value → Sto → Prop) : Rn 5 19 ls [.int x] σ Q ↔ Q (some (.int x)) σ := g_iret (show decode (mco 5) 19 = .ok (.ireturn, 1) by decide +kernel) rfl
theorem u7_0 (x0 : Nat) (v1 : Value) (v2 : Value) (v3 : Value) (v4 : Value) (st : Vs) (σ : Sto) (Q : Option Value → Sto → Prop) : Rn 7 0 [.ref x0, v1, v2, v3, v4] st σ Q ↔ kL x0 ∧ Rn 7 1 [.ref x0, v1, v2, v3, v4] (.ref x0 :: st) σ Q := Rn_if (show decode (mco 7) 0 = .ok (.aload_n 0, 1) by decide +kernel) (fun _ => rfl)
theorem u7_1 (v0 : Value) (x1 : Int32) (v2 : Value) (v3 : Value) (v4 : Value) (st : Vs) (σ : Sto) (Q : Option Value → Sto → Prop) : Rn 7 1 [v0, .int x1, v2, v3, v4] st σ Q ↔ Rn 7 2 [v0, .int x1, v2, v3, v4] (.int x1 :: st) σ Q := Rn_of (show decode (mco 7) 1 = .ok (.iload_n 1, 1) by decide +kernel) (fun _ => rfl)
theorem u7_2 (v0 : Value) (v1 : Value) (x2 : Int32) (v3 : Value) (v4 : Value) (st : Vs) (σ : Sto) (Q : Option Value → Sto → Prop) : Rn 7 2 [v0, v1, .int x2, v3, v4] st σ Q ↔ Rn 7 3 [v0, v1, .int x2, v3, v4] (.int x2 :: st) σ Q := Rn_of (show decode (mco 7) 2 = .ok (.iload_n 2, 1) by decide +kernel) (fun _ => rfl)
theorem u7_3 (v0 : Value) (v1 : Value) (v2 : Value) (x3 : Int32) (v4 : Value) (st : Vs) (σ : Sto) (Q : Option Value → Sto → Prop) : Rn 7 3 [v0, v1, v2, .int x3, v4] st σ Q ↔ Rn 7 4 [v0, v1, v2, .int x3, v4] (.int x3 :: st) σ Q := Rn_of (show decode (mco 7) 3 = .ok (.iload_n 3, 1) by decide +kernel) (fun _ => rfl)
theorem u7_4 (v0 : Value) (v1 : Value) (v2 : Value) (v3 : Value) (x4 : Int32) (st : Vs) (σ : Sto) (Q : Option Value → Sto → Prop) : Rn 7 4 [v0, v1, v2, v3, .int x4] st σ Q ↔ Rn 7 6 [v0, v1, v2, v3, .int x4] (.int x4 :: st) σ Q := Rn_of (show decode (mco 7) 4 = .ok (.iload 4, 2) by decide +kernel) (fun _ => rfl)
theorem u7_6 (a : Nat) (x0 : Int32) (x1 : Int32) (x2 : Int32) (x3 : Int32) (ls : Vs) (I : Nat → Nat → Int32) (J : Nat → Nat → Int64) (Q : Option Value → Sto → Prop) : Rn 7 6 ls [.int x3, .int x2, .int x1, .int x0, .ref a] (Sg I J) Q ↔ kO a ∧ Ca 14 [.ref a, .int x0, .int x1, .int x2, .int x3] (Sg I J) 7 9 ls [] Q := g_sup (t := 14) (nn := 4) (as0 := [.int x0, .int x1, .int x2, .int x3]) (show decode (mco 7) 6 = .ok (.invokespecial 7, 3) by decide +kernel) (by decide +kernel) rfl rfl ⟨rfl, Nat.le_of_ble_eq_true rfl, Nat.le_of_ble_eq_true rfl, Nat.le_of_ble_eq_true rfl⟩
theorem u7_9  (ls : Vs) (st : Vs) (σ : Sto) (Q : Option Value → Sto → Prop) : Rn 7 9 ls st σ Q ↔ Rn 7 10 ls (.int 2 :: st) σ Q := Rn_of (show decode (mco 7) 9 = .ok (.iconst 2, 1) by decide +kernel) (fun _ => rfl)
theorem u7_10 (x y : Int32) (ls : Vs) (st : Vs) (σ : Sto) (Q : Option Value → Sto → Prop) : Rn 7 10 ls (.int y :: .int x :: st) σ Q ↔ Rn 7 11 ls (.int (x + y) :: st) σ Q := Rn_of (show decode (mco 7) 10 = .ok (.iadd, 1) by decide +kernel) (fun _ => rfl)
theorem u7_11 (x : Int32) (ls : Vs) (σ : Sto) (Q : Option Value → Sto → Prop) : Rn 7 11 ls [.int x] σ Q ↔ Q (some (.int x)) σ := g_iret (show decode (mco 7) 11 = .ok (.ireturn, 1) by decide +kernel) rfl
theorem u14_0 (v0 : Value) (x1 : Int32) (v2 : Value) (v3 : Value) (v4 : Value) (st : Vs) (σ : Sto) (Q : Option Value → Sto → Prop) : Rn 14 0 [v0, .int x1, v2, v3, v4] st σ Q ↔ Rn 14 1 [v0, .int x1, v2, v3, v4] (.int x1 :: st) σ Q := Rn_of (show decode (mco 14) 0 = .ok (.iload_n 1, 1) by decide +kernel) (fun _ => rfl)
theorem u14_1 (x : Int32) (ls : Vs) (σ : Sto) (Q : Option Value → Sto → Prop) : Rn 14 1 ls [.int x] σ Q ↔ Q (some (.int x)) σ := g_iret (show decode (mco 14) 1 = .ok (.ireturn, 1) by decide +kernel) rfl
theorem u40_0  (ls : Vs) (st : Vs) (σ : Sto) (Q : Option Value → Sto → Prop) : Rn 40 0 ls st σ Q ↔ Rn 40 1 ls (.int 0 :: st) σ Q := Rn_of (show decode (mco 40) 0 = .ok (.iconst 0, 1) by decide +kernel) (fun _ => rfl)
theorem u40_1 (x0 : Nat) (v1 : Value) (v2 : Value) (v3 : Value) (v4 : Value) (st : Vs) (σ : Sto) (Q : Option Value → Sto → Prop) : Rn 40 1 [.ref x0, v1, v2, v3, v4] st σ Q ↔ kL x0 ∧ Rn 40 2 [.ref x0, v1, v2, v3, v4] (.ref x0 :: st) σ Q := Rn_if (show decode (mco 40) 1 = .ok (.aload_n 0, 1) by decide +kernel) (fun _ => rfl)
theorem u40_2 (v0 : Value) (x1 : Int32) (v2 : Value) (v3 : Value) (v4 : Value) (st : Vs) (σ : Sto) (Q : Option Value → Sto → Prop) : Rn 40 2 [v0, .int x1, v2, v3, v4] st σ Q ↔ Rn 40 3 [v0, .int x1, v2, v3, v4] (.int x1 :: st) σ Q := Rn_of (show decode (mco 40) 2 = .ok (.iload_n 1, 1) by decide +kernel) (fun _ => rfl)
theorem u40_3 (v0 : Value) (v1 : Value) (x2 : Int32) (v3 : Value) (v4 : Value) (st : Vs) (σ : Sto) (Q : Option Value → Sto → Prop) : Rn 40 3 [v0, v1, .int x2, v3, v4] st σ Q ↔ Rn 40 4 [v0, v1, .int x2, v3, v4] (.int x2 :: st) σ Q := Rn_of (show decode (mco 40) 3 = .ok (.iload_n 2, 1) by decide +kernel) (fun _ => rfl)
theorem u40_4 (v0 : Value) (v1 : Value) (v2 : Value) (x3 : Int32) (v4 : Value) (st : Vs) (σ : Sto) (Q : Option Value → Sto → Prop) : Rn 40 4 [v0, v1, v2, .int x3, v4] st σ Q ↔ Rn 40 5 [v0, v1, v2, .int x3, v4] (.int x3 :: st) σ Q := Rn_of (show decode (mco 40) 4 = .ok (.iload_n 3, 1) by decide +kernel) (fun _ => rfl)
theorem u40_5 (v0 : Value) (v1 : Value) (v2 : Value) (v3 : Value) (x4 : Int32) (st : Vs) (σ : Sto) (Q : Option Value → Sto → Prop) : Rn 40 5 [v0, v1, v2, v3, .int x4] st σ Q ↔ Rn 40 7 [v0, v1, v2, v3, .int x4] (.int x4 :: st) σ Q := Rn_of (show decode (mco 40) 5 = .ok (.iload 4, 2) by decide +kernel) (fun _ => rfl)
theorem u40_7 (a : Nat) (x0 : Int32) (x1 : Int32) (x2 : Int32) (x3 : Int32) (w0 : Value) (ls : Vs) (I : Nat → Nat → Int32) (J : Nat → Nat → Int64) (Q : Option Value → Sto → Prop) : Rn 40 7 ls [.int x3, .int x2, .int x1, .int x0, .ref a, w0] (Sg I J) Q ↔ kO a ∧ Ca 1 [.ref a, .int x0, .int x1, .int x2, .int x3, .null] (Sg I J) 40 10 ls [w0] Q := g_sup (t := 1) (nn := 4) (as0 := [.int x0, .int x1, .int x2, .int x3]) (show decode (mco 40) 7 = .ok (.invokespecial 7, 3) by decide +kernel) (by decide +kernel) rfl rfl ⟨rfl, Nat.le_of_ble_eq_true rfl, Nat.le_of_ble_eq_true rfl, Nat.le_of_ble_eq_true rfl⟩
theorem u40_10 (v0 : Value) (v1 : Value) (x2 : Int32) (v3 : Value) (v4 : Value) (st : Vs) (σ : Sto) (Q : Option Value → Sto → Prop) : Rn 40 10 [v0, v1, .int x2, v3, v4] st σ Q ↔ Rn 40 11 [v0, v1, .int x2, v3, v4] (.int x2 :: st) σ Q := Rn_of (show decode (mco 40) 10 = .ok (.iload_n 2, 1) by decide +kernel) (fun _ => rfl)
theorem u40_11  (ls : Vs) (st : Vs) (σ : Sto) (Q : Option Value → Sto → Prop) : Rn 40 11 ls st σ Q ↔ Rn 40 12 ls (.int 4 :: st) σ Q := Rn_of (show decode (mco 40) 11 = .ok (.iconst 4, 1) by decide +kernel) (fun _ => rfl)
theorem u40_12 (x y : Int32) (ls : Vs) (st : Vs) (σ : Sto) (Q : Option Value → Sto → Prop) : Rn 40 12 ls (.int y :: .int x :: st) σ Q ↔ (¬ y = 0) ∧ Rn 40 13 ls (.int (x - x / y * y) :: st) σ Q := Rn_if (show decode (mco 40) 12 = .ok (.irem, 1) by decide +kernel) (fun _ => rfl)
theorem u40_13 (x y : Int32) (ls : Vs) (st : Vs) (σ : Sto) (Q : Option Value → Sto → Prop) : Rn 40 13 ls (.int y :: .int x :: st) σ Q ↔ Rn 40 14 ls (.int (x - y) :: st) σ Q := Rn_of (show decode (mco 40) 13 = .ok (.isub, 1) by decide +kernel) (fun _ => rfl)
theorem u40_14 (x0 : Int32) (x1 : Int32) (ls : Vs) (I : Nat → Nat → Int32) (J : Nat → Nat → Int64) (Q : Option Value → Sto → Prop) : Rn 40 14 ls [.int x1, .int x0] (Sg I J) Q ↔ Ca 197 [.int x0, .int x1] (Sg I J) 40 17 ls [] Q := g_sta1 (t := 197) (nn := 2) (as := [.int x0, .int x1]) (show decode (mco 40) 14 = .ok (.invokestatic 11, 3) by decide +kernel) (by decide +kernel) rfl rfl ⟨rfl, Nat.le_of_ble_eq_true rfl, Nat.le_of_ble_eq_true rfl, Nat.le_of_ble_eq_true rfl⟩
theorem u40_17 (x : Int32) (ls : Vs) (σ : Sto) (Q : Option Value → Sto → Prop) : Rn 40 17 ls [.int x] σ Q ↔ Q (some (.int x)) σ := g_iret (show decode (mco 40) 17 = .ok (.ireturn, 1) by decide +kernel) rfl
theorem u35_0 (x0 : Nat) (v1 : Value) (v2 : Value) (st : Vs) (σ : Sto) (Q : Option Value → Sto → Prop) : Rn 35 0 [.ref x0, v1, v2] st σ Q ↔ kL x0 ∧ Rn 35 1 [.ref x0, v1, v2] (.ref x0 :: st) σ Q := Rn_if (show decode (mco 35) 0 = .ok (.aload_n 0, 1) by decide +kernel) (fun _ => rfl)
theorem u35_1 (a : Nat) (ls : Vs) (st : Vs) (I : Nat → Nat → Int32) (J : Nat → Nat → Int64) (Q : Option Value → Sto → Prop) : Rn 35 1 ls (.ref a :: st) (Sg I J) Q ↔ kA a 7 ∧ Rn 35 4 ls (.ref (rf a 0) :: st) (Sg I J) Q := g_get2 (show decode (mco 35) 1 = .ok (.getfield 11, 3) by decide +kernel) (by decide +kernel) (by decide) (by decide)
theorem u35_4 (v0 : Value) (x1 : Int32) (v2 : Value) (st : Vs) (σ : Sto) (Q : Option Value → Sto → Prop) : Rn 35 4 [v0, .int x1, v2] st σ Q ↔ Rn 35 5 [v0, .int x1, v2] (.int x1 :: st) σ Q := Rn_of (show decode (mco 35) 4 = .ok (.iload_n 1, 1) by decide +kernel) (fun _ => rfl)
theorem u35_5  (ls : Vs) (st : Vs) (σ : Sto) (Q : Option Value → Sto → Prop) : Rn 35 5 ls st σ Q ↔ Rn 35 6 ls (.int 3 :: st) σ Q := Rn_of (show decode (mco 35) 5 = .ok (.iconst 3, 1) by decide +kernel) (fun _ => rfl)
theorem u35_6 (x y : Int32) (ls : Vs) (st : Vs) (σ : Sto) (Q : Option Value → Sto → Prop) : Rn 35 6 ls (.int y :: .int x :: st) σ Q ↔ Rn 35 7 ls (.int (x * y) :: st) σ Q := Rn_of (show decode (mco 35) 6 = .ok (.imul, 1) by decide +kernel) (fun _ => rfl)
theorem u35_7 (v0 : Value) (v1 : Value) (x2 : Int32) (st : Vs) (σ : Sto) (Q : Option Value → Sto → Prop) : Rn 35 7 [v0, v1, .int x2] st σ Q ↔ Rn 35 8 [v0, v1, .int x2] (.int x2 :: st) σ Q := Rn_of (show decode (mco 35) 7 = .ok (.iload_n 2, 1) by decide +kernel) (fun _ => rfl)
theorem u35_8 (x y : Int32) (ls : Vs) (st : Vs) (σ : Sto) (Q : Option Value → Sto → Prop) : Rn 35 8 ls (.int y :: .int x :: st) σ Q ↔ Rn 35 9 ls (.int (x + y) :: st) σ Q := Rn_of (show decode (mco 35) 8 = .ok (.iadd, 1) by decide +kernel) (fun _ => rfl)
theorem u35_9 (a : Nat) (h : kA a 20) (i : Int32) (ls : Vs) (st : Vs) (I : Nat → Nat → Int32) (J : Nat → Nat → Int64) (Q : Option Value → Sto → Prop) : Rn 35 9 ls (.int i :: .ref a :: st) (Sg I J) Q ↔ inb i (tg a).2 ∧ Rn 35 10 ls (.int (I a i.toNatClampNeg) :: st) (Sg I J) Q := g_iald (show decode (mco 35) 9 = .ok (.iaload, 1) by decide +kernel) h
theorem u35_10 (x : Int32) (ls : Vs) (σ : Sto) (Q : Option Value → Sto → Prop) : Rn 35 10 ls [.int x] σ Q ↔ Q (some (.int x)) σ := g_iret (show decode (mco 35) 10 = .ok (.ireturn, 1) by decide +kernel) rfl
theorem u37_0  (ls : Vs) (st : Vs) (σ : Sto) (Q : Option Value → Sto → Prop) : Rn 37 0 ls st σ Q ↔ Rn 37 1 ls (.int 0 :: st) σ Q := Rn_of (show decode (mco 37) 0 = .ok (.iconst 0, 1) by decide +kernel) (fun _ => rfl)
theorem u37_1 (v0 : Value) (v1 : Value) (x2 : Int32) (v3 : Value) (v4 : Value) (y : Int32) (st : Vs) (σ : Sto) (Q : Option Value → Sto → Prop) : Rn 37 1 [v0, v1, .int x2, v3, v4] (.int y :: st) σ Q ↔ Rn 37 2 [v0, v1, .int x2, .int y, v4] st σ Q := Rn_of (show decode (mco 37) 1 = .ok (.istore_n 3, 1) by decide +kernel) (fun _ => rfl)
theorem u37_2  (ls : Vs) (st : Vs) (σ : Sto) (Q : Option Value → Sto → Prop) : Rn 37 2 ls st σ Q ↔ Rn 37 3 ls (.int 0 :: st) σ Q := Rn_of (show decode (mco 37) 2 = .ok (.iconst 0, 1) by decide +kernel) (fun _ => rfl)
theorem u37_3 (v0 : Value) (v1 : Value) (v2 : Value) (x3 : Int32) (v4 : Value) (y : Int32) (st : Vs) (σ : Sto) (Q : Option Value → Sto → Prop) : Rn 37 3 [v0, v1, v2, .int x3, v4] (.int y :: st) σ Q ↔ Rn 37 5 [v0, v1, v2, .int x3, .int y] st σ Q := Rn_of (show decode (mco 37) 3 = .ok (.istore 4, 2) by decide +kernel) (fun _ => rfl)
theorem u37_5 (v0 : Value) (v1 : Value) (v2 : Value) (v3 : Value) (x4 : Int32) (st : Vs) (σ : Sto) (Q : Option Value → Sto → Prop) : Rn 37 5 [v0, v1, v2, v3, .int x4] st σ Q ↔ Rn 37 7 [v0, v1, v2, v3, .int x4] (.int x4 :: st) σ Q := Rn_of (show decode (mco 37) 5 = .ok (.iload 4, 2) by decide +kernel) (fun _ => rfl)
theorem u37_7 (x0 : Nat) (v1 : Value) (v2 : Value) (v3 : Value) (v4 : Value) (st : Vs) (σ : Sto) (Q : Option Value → Sto → Prop) : Rn 37 7 [.ref x0, v1, v2, v3, v4] st σ Q ↔ kL x0 ∧ Rn 37 8 [.ref x0, v1, v2, v3, v4] (.ref x0 :: st) σ Q := Rn_if (show decode (mco 37) 7 = .ok (.aload_n 0, 1) by decide +kernel) (fun _ => rfl)
theorem u37_8 (a : Nat) (ls : Vs) (st : Vs) (I : Nat → Nat → Int32) (J : Nat → Nat → Int64) (Q : Option Value → Sto → Prop) : Rn 37 8 ls (.ref a :: st) (Sg I J) Q ↔ kA a 7 ∧ Rn 37 11 ls (.int (I a 1) :: st) (Sg I J) Q := g_get0 (show decode (mco 37) 8 = .ok (.getfield 15, 3) by decide +kernel) (by decide +kernel) (by decide) (by decide)
theorem u37_11 (x y : Int32) (ls : Vs) (st : Vs) (σ : Sto) (Q : Option Value → Sto → Prop) : Rn 37 11 ls (.int y :: .int x :: st) σ Q ↔ if y ≤ x then Rn 37 38 ls st σ Q else Rn 37 14 ls st σ Q := g_if_icmp (show decode (mco 37) 11 = .ok (.if_icmp .ge 27, 3) by decide +kernel) rfl cc_ge
theorem u37_14 (x0 : Nat) (v1 : Value) (v2 : Value) (v3 : Value) (v4 : Value) (st : Vs) (σ : Sto) (Q : Option Value → Sto → Prop) : Rn 37 14 [.ref x0, v1, v2, v3, v4] st σ Q ↔ kL x0 ∧ Rn 37 15 [.ref x0, v1, v2, v3, v4] (.ref x0 :: st) σ Q := Rn_if (show decode (mco 37) 14 = .ok (.aload_n 0, 1) by decide +kernel) (fun _ => rfl)
theorem u37_15 (v0 : Value) (v1 : Value) (v2 : Value) (v3 : Value) (x4 : Int32) (st : Vs) (σ : Sto) (Q : Option Value → Sto → Prop) : Rn 37 15 [v0, v1, v2, v3, .int x4] st σ Q ↔ Rn 37 17 [v0, v1, v2, v3, .int x4] (.int x4 :: st) σ Q := Rn_of (show decode (mco 37) 15 = .ok (.iload 4, 2) by decide +kernel) (fun _ => rfl)
theorem u37_17 (v0 : Value) (x1 : Int32) (v2 : Value) (v3 : Value) (v4 : Value) (st : Vs) (σ : Sto) (Q : Option Value → Sto → Prop) : Rn 37 17 [v0, .int x1, v2, v3, v4] st σ Q ↔ Rn 37 18 [v0, .int x1, v2, v3, v4] (.int x1 :: st) σ Q := Rn_of (show decode (mco 37) 17 = .ok (.iload_n 1, 1) by decide +kernel) (fun _ => rfl)
theorem u37_18 (a : Nat) (x0 : Int32) (x1 : Int32) (ls : Vs) (I : Nat → Nat → Int32) (J : Nat → Nat → Int64) (Q : Option Value → Sto → Prop) : Rn 37 18 ls [.int x1, .int x0, .ref a] (Sg I J) Q ↔ kA a 7 ∧ Ca 35 [.ref a, .int x0, .int x1] (Sg I J) 37 21 ls [] Q := g_vir (t := 35) (nn := 2) (as0 := [.int x0, .int x1]) (show decode (mco 37) 18 = .ok (.invokevirtual 29, 3) by decide +kernel) (by decide +kernel) rfl rfl ⟨rfl, Nat.le_of_ble_eq_true rfl, Nat.le_of_ble_eq_true rfl, Nat.le_of_ble_eq_true rfl⟩
theorem u37_21 (v0 : Value) (v1 : Value) (x2 : Int32) (v3 : Value) (v4 : Value) (st : Vs) (σ : Sto) (Q : Option Value → Sto → Prop) : Rn 37 21 [v0, v1, .int x2, v3, v4] st σ Q ↔ Rn 37 22 [v0, v1, .int x2, v3, v4] (.int x2 :: st) σ Q := Rn_of (show decode (mco 37) 21 = .ok (.iload_n 2, 1) by decide +kernel) (fun _ => rfl)
theorem u37_22 (x y : Int32) (ls : Vs) (st : Vs) (σ : Sto) (Q : Option Value → Sto → Prop) : Rn 37 22 ls (.int y :: .int x :: st) σ Q ↔ if ¬ x = y then Rn 37 32 ls st σ Q else Rn 37 25 ls st σ Q := g_if_icmp (show decode (mco 37) 22 = .ok (.if_icmp .ne 10, 3) by decide +kernel) rfl cc_ne
theorem u37_25 (v0 : Value) (v1 : Value) (v2 : Value) (x3 : Int32) (v4 : Value) (st : Vs) (σ : Sto) (Q : Option Value → Sto → Prop) : Rn 37 25 [v0, v1, v2, .int x3, v4] st σ Q ↔ Rn 37 26 [v0, v1, v2, .int x3, v4] (.int x3 :: st) σ Q := Rn_of (show decode (mco 37) 25 = .ok (.iload_n 3, 1) by decide +kernel) (fun _ => rfl)
theorem u37_26  (ls : Vs) (st : Vs) (σ : Sto) (Q : Option Value → Sto → Prop) : Rn 37 26 ls st σ Q ↔ Rn 37 27 ls (.int 1 :: st) σ Q := Rn_of (show decode (mco 37) 26 = .ok (.iconst 1, 1) by decide +kernel) (fun _ => rfl)
theorem u37_27 (v0 : Value) (v1 : Value) (v2 : Value) (v3 : Value) (x4 : Int32) (st : Vs) (σ : Sto) (Q : Option Value → Sto → Prop) : Rn 37 27 [v0, v1, v2, v3, .int x4] st σ Q ↔ Rn 37 29 [v0, v1, v2, v3, .int x4] (.int x4 :: st) σ Q := Rn_of (show decode (mco 37) 27 = .ok (.iload 4, 2) by decide +kernel) (fun _ => rfl)
theorem u37_29 (x y : Int32) (ls : Vs) (st : Vs) (σ : Sto) (Q : Option Value → Sto → Prop) : Rn 37 29 ls (.int y :: .int x :: st) σ Q ↔ Rn 37 30 ls (.int (x <<< (y &&& 31)) :: st) σ Q := Rn_of (show decode (mco 37) 29 = .ok (.ishl, 1) by decide +kernel) (fun _ => rfl)
theorem u37_30 (x y : Int32) (ls : Vs) (st : Vs) (σ : Sto) (Q : Option Value → Sto → Prop) : Rn 37 30 ls (.int y :: .int x :: st) σ Q ↔ Rn 37 31 ls (.int (x ||| y) :: st) σ Q := Rn_of (show decode (mco 37) 30 = .ok (.ior, 1) by decide +kernel) (fun _ => rfl)
theorem u37_31 (v0 : Value) (v1 : Value) (x2 : Int32) (v3 : Value) (v4 : Value) (y : Int32) (st : Vs) (σ : Sto) (Q : Option Value → Sto → Prop) : Rn 37 31 [v0, v1, .int x2, v3, v4] (.int y :: st) σ Q ↔ Rn 37 32 [v0, v1, .int x2, .int y, v4] st σ Q := Rn_of (show decode (mco 37) 31 = .ok (.istore_n 3, 1) by decide +kernel) (fun _ => rfl)
theorem u37_32 (v0 : Value) (v1 : Value) (v2 : Value) (x3 : Int32) (x4 : Int32) (st : Vs) (σ : Sto) (Q : Option Value → Sto → Prop) : Rn 37 32 [v0, v1, v2, .int x3, .int x4] st σ Q ↔ Rn 37 35 [v0, v1, v2, .int x3, .int (x4 + 1)] st σ Q := Rn_of (show decode (mco 37) 32 = .ok (.iinc 4 1, 3) by decide +kernel) (fun _ => rfl)
theorem u37_35 (ls : Vs) (st : Vs) (σ : Sto) (Q : Option Value → Sto → Prop) : Rn 37 35 ls st σ Q ↔ Rn 37 5 ls st σ Q := Rn_of (show decode (mco 37) 35 = .ok (.goto (-30), 3) by decide +kernel) (fun _ => rfl)
theorem u37_38 (v0 : Value) (v1 : Value) (v2 : Value) (x3 : Int32) (v4 : Value) (st : Vs) (σ : Sto) (Q : Option Value → Sto → Prop) : Rn 37 38 [v0, v1, v2, .int x3, v4] st σ Q ↔ Rn 37 39 [v0, v1, v2, .int x3, v4] (.int x3 :: st) σ Q := Rn_of (show decode (mco 37) 38 = .ok (.iload_n 3, 1) by decide +kernel) (fun _ => rfl)
theorem u37_39 (x : Int32) (ls : Vs) (σ : Sto) (Q : Option Value → Sto → Prop) : Rn 37 39 ls [.int x] σ Q ↔ Q (some (.int x)) σ := g_iret (show decode (mco 37) 39 = .ok (.ireturn, 1) by decide +kernel) rfl
theorem u45_0 (x0 : Nat) (v1 : Value) (v2 : Value) (v3 : Value) (v4 : Value) (st : Vs) (σ : Sto) (Q : Option Value → Sto → Prop) : Rn 45 0 [.ref x0, v1, v2, v3, v4] st σ Q ↔ kL x0 ∧ Rn 45 1 [.ref x0, v1, v2, v3, v4] (.ref x0 :: st) σ Q := Rn_if (show decode (mco 45) 0 = .ok (.aload_n 0, 1) by decide +kernel) (fun _ => rfl)
theorem u45_1 (a : Nat) (ls : Vs) (st : Vs) (I : Nat → Nat → Int32) (J : Nat → Nat → Int64) (Q : Option Value → Sto → Prop) : Rn 45 1 ls (.ref a :: st) (Sg I J) Q ↔ kA a 9 ∧ Rn 45 4 ls (.ref (rf a 2) :: st) (Sg I J) Q := g_get2 (show decode (mco 45) 1 = .ok (.getfield 21, 3) by decide +kernel) (by decide +kernel) (by decide) (by decide)
theorem u45_4 (v0 : Value) (x1 : Int32) (v2 : Value) (v3 : Value) (v4 : Value) (st : Vs) (σ : Sto) (Q : Option Value → Sto → Prop) : Rn 45 4 [v0, .int x1, v2, v3, v4] st σ Q ↔ Rn 45 5 [v0, .int x1, v2, v3, v4] (.int x1 :: st) σ Q := Rn_of (show decode (mco 45) 4 = .ok (.iload_n 1, 1) by decide +kernel) (fun _ => rfl)
theorem u45_5  (ls : Vs) (st : Vs) (σ : Sto) (Q : Option Value → Sto → Prop) : Rn 45 5 ls st σ Q ↔ Rn 45 6 ls (.int 2 :: st) σ Q := Rn_of (show decode (mco 45) 5 = .ok (.iconst 2, 1) by decide +kernel) (fun _ => rfl)
theorem u45_6 (a : Nat) (x0 : Int32) (x1 : Int32) (ls : Vs) (I : Nat → Nat → Int32) (J : Nat → Nat → Int64) (Q : Option Value → Sto → Prop) : Rn 45 6 ls [.int x1, .int x0, .ref a] (Sg I J) Q ↔ kA a 7 ∧ Ca 35 [.ref a, .int x0, .int x1] (Sg I J) 45 9 ls [] Q := g_vir (t := 35) (nn := 2) (as0 := [.int x0, .int x1]) (show decode (mco 45) 6 = .ok (.invokevirtual 58, 3) by decide +kernel) (by decide +kernel) rfl rfl ⟨rfl, Nat.le_of_ble_eq_true rfl, Nat.le_of_ble_eq_true rfl, Nat.le_of_ble_eq_true rfl⟩
theorem u45_9 (v0 : Value) (v1 : Value) (x2 : Int32) (v3 : Value) (v4 : Value) (y : Int32) (st : Vs) (σ : Sto) (Q : Option Value → Sto → Prop) : Rn 45 9 [v0, v1, .int x2, v3, v4] (.int y :: st) σ Q ↔ Rn 45 10 [v0, v1, .int x2, .int y, v4] st σ Q := Rn_of (show decode (mco 45) 9 = .ok (.istore_n 3, 1) by decide +kernel) (fun _ => rfl)
theorem u45_10 (x0 : Nat) (v1 : Value) (v2 : Value) (v3 : Value) (v4 : Value) (st : Vs) (σ : Sto) (Q : Option Value → Sto → Prop) : Rn 45 10 [.ref x0, v1, v2, v3, v4] st σ Q ↔ kL x0 ∧ Rn 45 11 [.ref x0, v1, v2, v3, v4] (.ref x0 :: st) σ Q := Rn_if (show decode (mco 45) 10 = .ok (.aload_n 0, 1) by decide +kernel) (fun _ => rfl)
theorem u45_11 (a : Nat) (ls : Vs) (st : Vs) (I : Nat → Nat → Int32) (J : Nat → Nat → Int64) (Q : Option Value → Sto → Prop) : Rn 45 11 ls (.ref a :: st) (Sg I J) Q ↔ kA a 9 ∧ Rn 45 14 ls (.ref (rf a 0) :: st) (Sg I J) Q := g_get2 (show decode (mco 45) 11 = .ok (.getfield 38, 3) by decide +kernel) (by decide +kernel) (by decide) (by decide)
theorem u45_14 (x0 : Nat) (v1 : Value) (v2 : Value) (v3 : Value) (v4 : Value) (st : Vs) (σ : Sto) (Q : Option Value → Sto → Prop) : Rn 45 14 [.ref x0, v1, v2, v3, v4] st σ Q ↔ kL x0 ∧ Rn 45 15 [.ref x0, v1, v2, v3, v4] (.ref x0 :: st) σ Q := Rn_if (show decode (mco 45) 14 = .ok (.aload_n 0, 1) by decide +kernel) (fun _ => rfl)
theorem u45_15 (a : Nat) (ls : Vs) (st : Vs) (I : Nat → Nat → Int32) (J : Nat → Nat → Int64) (Q : Option Value → Sto → Prop) : Rn 45 15 ls (.ref a :: st) (Sg I J) Q ↔ kA a 9 ∧ Rn 45 18 ls (.ref (rf a 2) :: st) (Sg I J) Q := g_get2 (show decode (mco 45) 15 = .ok (.getfield 21, 3) by decide +kernel) (by decide +kernel) (by decide) (by decide)
theorem u45_18 (v0 : Value) (x1 : Int32) (v2 : Value) (v3 : Value) (v4 : Value) (st : Vs) (σ : Sto) (Q : Option Value → Sto → Prop) : Rn 45 18 [v0, .int x1, v2, v3, v4] st σ Q ↔ Rn 45 19 [v0, .int x1, v2, v3, v4] (.int x1 :: st) σ Q := Rn_of (show decode (mco 45) 18 = .ok (.iload_n 1, 1) by decide +kernel) (fun _ => rfl)
theorem u45_19  (ls : Vs) (st : Vs) (σ : Sto) (Q : Option Value → Sto → Prop) : Rn 45 19 ls st σ Q ↔ Rn 45 20 ls (.int 0 :: st) σ Q := Rn_of (show decode (mco 45) 19 = .ok (.iconst 0, 1) by decide +kernel) (fun _ => rfl)
theorem u45_20 (a : Nat) (x0 : Int32) (x1 : Int32) (w0 : Value) (ls : Vs) (I : Nat → Nat → Int32) (J : Nat → Nat → Int64) (Q : Option Value → Sto → Prop) : Rn 45 20 ls [.int x1, .int x0, .ref a, w0] (Sg I J) Q ↔ kA a 7 ∧ Ca 35 [.ref a, .int x0, .int x1] (Sg I J) 45 23 ls [w0] Q := g_vir (t := 35) (nn := 2) (as0 := [.int x0, .int x1]) (show decode (mco 45) 20 = .ok (.invokevirtual 58, 3) by decide +kernel) (by decide +kernel) rfl rfl ⟨rfl, Nat.le_of_ble_eq_true rfl, Nat.le_of_ble_eq_true rfl, Nat.le_of_ble_eq_true rfl⟩
theorem u45_23 (a : Nat) (i : Int32) (ls : Vs) (st : Vs) (I : Nat → Nat → Int32) (J : Nat → Nat → Int64) (Q : Option Value → Sto → Prop) : Rn 45 23 ls (.int i :: .ref a :: st) (Sg I J) Q ↔ (kR a ∧ inb i (tg a).2) ∧ Rn 45 24 ls (.ref (rf a i.toNatClampNeg) :: st) (Sg I J) Q := g_aald (show decode (mco 45) 23 = .ok (.aaload, 1) by decide +kernel)
theorem u45_24 (v0 : Value) (v1 : Value) (v2 : Value) (x3 : Int32) (v4 : Value) (y : Nat) (st : Vs) (σ : Sto) (Q : Option Value → Sto → Prop) : Rn 45 24 [v0, v1, v2, .int x3, v4] (.ref y :: st) σ Q ↔ kL y ∧ Rn 45 26 [v0, v1, v2, .int x3, .ref y] st σ Q := g_and (Rn_if (show decode (mco 45) 24 = .ok (.astore 4, 2) by decide +kernel) (fun _ => rfl)) (Nat.le_of_ble_eq_true rfl)
theorem u45_26 (v0 : Value) (v1 : Value) (v2 : Value) (v3 : Value) (x4 : Nat) (st : Vs) (σ : Sto) (Q : Option Value → Sto → Prop) : Rn 45 26 [v0, v1, v2, v3, .ref x4] st σ Q ↔ kL x4 ∧ Rn 45 28 [v0, v1, v2, v3, .ref x4] (.ref x4 :: st) σ Q := Rn_if (show decode (mco 45) 26 = .ok (.aload 4, 2) by decide +kernel) (fun _ => rfl)
theorem u45_28 (x0 : Nat) (v1 : Value) (v2 : Value) (v3 : Value) (v4 : Value) (st : Vs) (σ : Sto) (Q : Option Value → Sto → Prop) : Rn 45 28 [.ref x0, v1, v2, v3, v4] st σ Q ↔ kL x0 ∧ Rn 45 29 [.ref x0, v1, v2, v3, v4] (.ref x0 :: st) σ Q := Rn_if (show decode (mco 45) 28 = .ok (.aload_n 0, 1) by decide +kernel) (fun _ => rfl)
theorem u45_29 (a : Nat) (ls : Vs) (st : Vs) (I : Nat → Nat → Int32) (J : Nat → Nat → Int64) (Q : Option Value → Sto → Prop) : Rn 45 29 ls (.ref a :: st) (Sg I J) Q ↔ kA a 9 ∧ Rn 45 32 ls (.ref (rf a 2) :: st) (Sg I J) Q := g_get2 (show decode (mco 45) 29 = .ok (.getfield 21, 3) by decide +kernel) (by decide +kernel) (by decide) (by decide)
theorem u45_32 (v0 : Value) (x1 : Int32) (v2 : Value) (v3 : Value) (v4 : Value) (st : Vs) (σ : Sto) (Q : Option Value → Sto → Prop) : Rn 45 32 [v0, .int x1, v2, v3, v4] st σ Q ↔ Rn 45 33 [v0, .int x1, v2, v3, v4] (.int x1 :: st) σ Q := Rn_of (show decode (mco 45) 32 = .ok (.iload_n 1, 1) by decide +kernel) (fun _ => rfl)
theorem u45_33  (ls : Vs) (st : Vs) (σ : Sto) (Q : Option Value → Sto → Prop) : Rn 45 33 ls st σ Q ↔ Rn 45 34 ls (.int 1 :: st) σ Q := Rn_of (show decode (mco 45) 33 = .ok (.iconst 1, 1) by decide +kernel) (fun _ => rfl)
theorem u45_34 (a : Nat) (x0 : Int32) (x1 : Int32) (w0 : Value) (ls : Vs) (I : Nat → Nat → Int32) (J : Nat → Nat → Int64) (Q : Option Value → Sto → Prop) : Rn 45 34 ls [.int x1, .int x0, .ref a, w0] (Sg I J) Q ↔ kA a 7 ∧ Ca 35 [.ref a, .int x0, .int x1] (Sg I J) 45 37 ls [w0] Q := g_vir (t := 35) (nn := 2) (as0 := [.int x0, .int x1]) (show decode (mco 45) 34 = .ok (.invokevirtual 58, 3) by decide +kernel) (by decide +kernel) rfl rfl ⟨rfl, Nat.le_of_ble_eq_true rfl, Nat.le_of_ble_eq_true rfl, Nat.le_of_ble_eq_true rfl⟩
theorem u45_37 (x0 : Nat) (v1 : Value) (v2 : Value) (v3 : Value) (v4 : Value) (st : Vs) (σ : Sto) (Q : Option Value → Sto → Prop) : Rn 45 37 [.ref x0, v1, v2, v3, v4] st σ Q ↔ kL x0 ∧ Rn 45 38 [.ref x0, v1, v2, v3, v4] (.ref x0 :: st) σ Q := Rn_if (show decode (mco 45) 37 = .ok (.aload_n 0, 1) by decide +kernel) (fun _ => rfl)
theorem u45_38 (a : Nat) (ls : Vs) (st : Vs) (I : Nat → Nat → Int32) (J : Nat → Nat → Int64) (Q : Option Value → Sto → Prop) : Rn 45 38 ls (.ref a :: st) (Sg I J) Q ↔ kA a 9 ∧ Rn 45 41 ls (.ref (rf a 1) :: st) (Sg I J) Q := g_get2 (show decode (mco 45) 38 = .ok (.getfield 12, 3) by decide +kernel) (by decide +kernel) (by decide) (by decide)
theorem u45_41 (a : Nat) (ls : Vs) (st : Vs) (I : Nat → Nat → Int32) (J : Nat → Nat → Int64) (Q : Option Value → Sto → Prop) : Rn 45 41 ls (.ref a :: st) (Sg I J) Q ↔ kA a 10 ∧ Rn 45 44 ls (.int (I a 2) :: st) (Sg I J) Q := g_get0 (show decode (mco 45) 41 = .ok (.getfield 66, 3) by decide +kernel) (by decide +kernel) (by decide) (by decide)
theorem u45_44 (x0 : Nat) (v1 : Value) (v2 : Value) (v3 : Value) (v4 : Value) (st : Vs) (σ : Sto) (Q : Option Value → Sto → Prop) : Rn 45 44 [.ref x0, v1, v2, v3, v4] st σ Q ↔ kL x0 ∧ Rn 45 45 [.ref x0, v1, v2, v3, v4] (.ref x0 :: st) σ Q := Rn_if (show decode (mco 45) 44 = .ok (.aload_n 0, 1) by decide +kernel) (fun _ => rfl)
theorem u45_45 (a : Nat) (ls : Vs) (st : Vs) (I : Nat → Nat → Int32) (J : Nat → Nat → Int64) (Q : Option Value → Sto → Prop) : Rn 45 45 ls (.ref a :: st) (Sg I J) Q ↔ kA a 9 ∧ Rn 45 48 ls (.ref (rf a 1) :: st) (Sg I J) Q := g_get2 (show decode (mco 45) 45 = .ok (.getfield 12, 3) by decide +kernel) (by decide +kernel) (by decide) (by decide)
theorem u45_48 (a : Nat) (ls : Vs) (st : Vs) (I : Nat → Nat → Int32) (J : Nat → Nat → Int64) (Q : Option Value → Sto → Prop) : Rn 45 48 ls (.ref a :: st) (Sg I J) Q ↔ kA a 10 ∧ Rn 45 51 ls (.ref (rf a 0) :: st) (Sg I J) Q := g_get2 (show decode (mco 45) 48 = .ok (.getfield 70, 3) by decide +kernel) (by decide +kernel) (by decide) (by decide)
theorem u45_51 (v0 : Value) (v1 : Value) (v2 : Value) (x3 : Int32) (v4 : Value) (st : Vs) (σ : Sto) (Q : Option Value → Sto → Prop) : Rn 45 51 [v0, v1, v2, .int x3, v4] st σ Q ↔ Rn 45 52 [v0, v1, v2, .int x3, v4] (.int x3 :: st) σ Q := Rn_of (show decode (mco 45) 51 = .ok (.iload_n 3, 1) by decide +kernel) (fun _ => rfl)
theorem u45_52 (a : Nat) (h : kA a 20) (i : Int32) (ls : Vs) (st : Vs) (I : Nat → Nat → Int32) (J : Nat → Nat → Int64) (Q : Option Value → Sto → Prop) : Rn 45 52 ls (.int i :: .ref a :: st) (Sg I J) Q ↔ inb i (tg a).2 ∧ Rn 45 53 ls (.int (I a i.toNatClampNeg) :: st) (Sg I J) Q := g_iald (show decode (mco 45) 52 = .ok (.iaload, 1) by decide +kernel) h
theorem u45_53 (x0 : Nat) (v1 : Value) (v2 : Value) (v3 : Value) (v4 : Value) (st : Vs) (σ : Sto) (Q : Option Value → Sto → Prop) : Rn 45 53 [.ref x0, v1, v2, v3, v4] st σ Q ↔ kL x0 ∧ Rn 45 54 [.ref x0, v1, v2, v3, v4] (.ref x0 :: st) σ Q := Rn_if (show decode (mco 45) 53 = .ok (.aload_n 0, 1) by decide +kernel) (fun _ => rfl)
theorem u45_54 (a : Nat) (ls : Vs) (st : Vs) (I : Nat → Nat → Int32) (J : Nat → Nat → Int64) (Q : Option Value → Sto → Prop) : Rn 45 54 ls (.ref a :: st) (Sg I J) Q ↔ kA a 9 ∧ Rn 45 57 ls (.ref (rf a 1) :: st) (Sg I J) Q := g_get2 (show decode (mco 45) 54 = .ok (.getfield 12, 3) by decide +kernel) (by decide +kernel) (by decide) (by decide)
theorem u45_57 (a : Nat) (ls : Vs) (st : Vs) (I : Nat → Nat → Int32) (J : Nat → Nat → Int64) (Q : Option Value → Sto → Prop) : Rn 45 57 ls (.ref a :: st) (Sg I J) Q ↔ kA a 10 ∧ Rn 45 60 ls (.ref (rf a 0) :: st) (Sg I J) Q := g_get2 (show decode (mco 45) 57 = .ok (.getfield 70, 3) by decide +kernel) (by decide +kernel) (by decide) (by decide)
theorem u45_60 (v0 : Value) (v1 : Value) (x2 : Int32) (v3 : Value) (v4 : Value) (st : Vs) (σ : Sto) (Q : Option Value → Sto → Prop) : Rn 45 60 [v0, v1, .int x2, v3, v4] st σ Q ↔ Rn 45 61 [v0, v1, .int x2, v3, v4] (.int x2 :: st) σ Q := Rn_of (show decode (mco 45) 60 = .ok (.iload_n 2, 1) by decide +kernel) (fun _ => rfl)
theorem u45_61 (a : Nat) (h : kA a 20) (i : Int32) (ls : Vs) (st : Vs) (I : Nat → Nat → Int32) (J : Nat → Nat → Int64) (Q : Option Value → Sto → Prop) : Rn 45 61 ls (.int i :: .ref a :: st) (Sg I J) Q ↔ inb i (tg a).2 ∧ Rn 45 62 ls (.int (I a i.toNatClampNeg) :: st) (Sg I J) Q := g_iald (show decode (mco 45) 61 = .ok (.iaload, 1) by decide +kernel) h
theorem u45_62_0 (a : Nat) (x0 : Int32) (x1 : Int32) (x2 : Int32) (x3 : Int32) (h : kA a 0) (ls : Vs) (I : Nat → Nat → Int32) (J : Nat → Nat → Int64) (Q : Option Value → Sto → Prop) : Rn 45 62 ls [.int x3, .int x2, .int x1, .int x0, .ref a] (Sg I J) Q ↔ Ca 1 [.ref a, .int x0, .int x1, .int x2, .int x3, .null] (Sg I J) 45 65 ls [] Q := g_poly (t := 1) (t0 := 14) (cc := 0) (as0 := [.int x0, .int x1, .int x2, .int x3]) (nn := 4) (show decode (mco 45) 62 = .ok (.invokevirtual 74, 3) by decide +kernel) (by decide +kernel) (by decide +kernel) h rfl rfl ⟨rfl, Nat.le_of_ble_eq_true rfl, Nat.le_of_ble_eq_true rfl, Nat.le_of_ble_eq_true rfl⟩
theorem u45_62_1 (a : Nat) (x0 : Int32) (x1 : Int32) (x2 : Int32) (x3 : Int32) (h : kA a 1) (ls : Vs) (I : Nat → Nat → Int32) (J : Nat → Nat → Int64) (Q : Option Value → Sto → Prop) : Rn 45 62 ls [.int x3, .int x2, .int x1, .int x0, .ref a] (Sg I J) Q ↔ Ca 3 [.ref a, .int x0, .int x1, .int x2, .int x3] (Sg I J) 45 65 ls [] Q := g_poly (t := 3) (t0 := 14) (cc := 1) (as0 := [.int x0, .int x1, .int x2, .int x3]) (nn := 4) (show decode (mco 45) 62 = .ok (.invokevirtual 74, 3) by decide +kernel) (by decide +kernel) (by decide +kernel) h rfl rfl ⟨rfl, Nat.le_of_ble_eq_true rfl, Nat.le_of_ble_eq_true rfl, Nat.le_of_ble_eq_true rfl⟩
theorem u45_62_2 (a : Nat) (x0 : Int32) (x1 : Int32) (x2 : Int32) (x3 : Int32) (h : kA a 2) (ls : Vs) (I : Nat → Nat → Int32) (J : Nat → Nat → Int64) (Q : Option Value → Sto → Prop) : Rn 45 62 ls [.int x3, .int x2, .int x1, .int x0, .ref a] (Sg I J) Q ↔ Ca 5 [.ref a, .int x0, .int x1, .int x2, .int x3] (Sg I J) 45 65 ls [] Q := g_poly (t := 5) (t0 := 14) (cc := 2) (as0 := [.int x0, .int x1, .int x2, .int x3]) (nn := 4) (show decode (mco 45) 62 = .ok (.invokevirtual 74, 3) by decide +kernel) (by decide +kernel) (by decide +kernel) h rfl rfl ⟨rfl, Nat.le_of_ble_eq_true rfl, Nat.le_of_ble_eq_true rfl, Nat.le_of_ble_eq_true rfl⟩
theorem u45_62_3 (a : Nat) (x0 : Int32) (x1 : Int32) (x2 : Int32) (x3 : Int32) (h : kA a 3) (ls : Vs) (I : Nat → Nat → Int32) (J : Nat → Nat → Int64) (Q : Option Value → Sto → Prop) : Rn 45 62 ls [.int x3, .int x2, .int x1, .int x0, .ref a] (Sg I J) Q ↔ Ca 7 [.ref a, .int x0, .int x1, .int x2, .int x3] (Sg I J) 45 65 ls [] Q := g_poly (t := 7) (t0 := 14) (cc := 3) (as0 := [.int x0, .int x1, .int x2, .int x3]) (nn := 4) (show decode (mco 45) 62 = .ok (.invokevirtual 74, 3) by decide +kernel) (by decide +kernel) (by decide +kernel) h rfl rfl ⟨rfl, Nat.le_of_ble_eq_true rfl, Nat.le_of_ble_eq_true rfl, Nat.le_of_ble_eq_true rfl⟩
theorem u45_62_5 (a : Nat) (x0 : Int32) (x1 : Int32) (x2 : Int32) (x3 : Int32) (h : kA a 5) (ls : Vs) (I : Nat → Nat → Int32) (J : Nat → Nat → Int64) (Q : Option Value → Sto → Prop) : Rn 45 62 ls [.int x3, .int x2, .int x1, .int x0, .ref a] (Sg I J) Q ↔ Ca 14 [.ref a, .int x0, .int x1, .int x2, .int x3] (Sg I J) 45 65 ls [] Q := g_poly (t := 14) (t0 := 14) (cc := 5) (as0 := [.int x0, .int x1, .int x2, .int x3]) (nn := 4) (show decode (mco 45) 62 = .ok (.invokevirtual 74, 3) by decide +kernel) (by decide +kernel) (by decide +kernel) h rfl rfl ⟨rfl, Nat.le_of_ble_eq_true rfl, Nat.le_of_ble_eq_true rfl, Nat.le_of_ble_eq_true rfl⟩
theorem u45_62_8 (a : Nat) (x0 : Int32) (x1 : Int32) (x2 : Int32) (x3 : Int32) (h : kA a 8) (ls : Vs) (I : Nat → Nat → Int32) (J : Nat → Nat → Int64) (Q : Option Value → Sto → Prop) : Rn 45 62 ls [.int x3, .int x2, .int x1, .int x0, .ref a] (Sg I J) Q ↔ Ca 40 [.ref a, .int x0, .int x1, .int x2, .int x3] (Sg I J) 45 65 ls [] Q := g_poly (t := 40) (t0 := 14) (cc := 8) (as0 := [.int x0, .int x1, .int x2, .int x3]) (nn := 4) (show decode (mco 45) 62 = .ok (.invokevirtual 74, 3) by decide +kernel) (by decide +kernel) (by decide +kernel) h rfl rfl ⟨rfl, Nat.le_of_ble_eq_true rfl, Nat.le_of_ble_eq_true rfl, Nat.le_of_ble_eq_true rfl⟩
theorem u45_65 (x : Int32) (ls : Vs) (σ : Sto) (Q : Option Value → Sto → Prop) : Rn 45 65 ls [.int x] σ Q ↔ Q (some (.int x)) σ := g_iret (show decode (mco 45) 65 = .ok (.ireturn, 1) by decide +kernel) rfl
theorem u46_0  (ls : Vs) (st : Vs) (σ : Sto) (Q : Option Value → Sto → Prop) : Rn 46 0 ls st σ Q ↔ Rn 46 1 ls (.int 0 :: st) σ Q := Rn_of (show decode (mco 46) 0 = .ok (.iconst 0, 1) by decide +kernel) (fun _ => rfl)
theorem u46_1 (v0 : Value) (x1 : Int32) (v2 : Value) (v3 : Value) (y : Int32) (st : Vs) (σ : Sto) (Q : Option Value → Sto → Prop) : Rn 46 1 [v0, .int x1, v2, v3] (.int y :: st) σ Q ↔ Rn 46 2 [v0, .int x1, .int y, v3] st σ Q := Rn_of (show decode (mco 46) 1 = .ok (.istore_n 2, 1) by decide +kernel) (fun _ => rfl)
theorem u46_2 (v0 : Value) (v1 : Value) (x2 : Int32) (v3 : Value) (st : Vs) (σ : Sto) (Q : Option Value → Sto → Prop) : Rn 46 2 [v0, v1, .int x2, v3] st σ Q ↔ Rn 46 3 [v0, v1, .int x2, v3] (.int x2 :: st) σ Q := Rn_of (show decode (mco 46) 2 = .ok (.iload_n 2, 1) by decide +kernel) (fun _ => rfl)
theorem u46_3 (x0 : Nat) (v1 : Value) (v2 : Value) (v3 : Value) (st : Vs) (σ : Sto) (Q : Option Value → Sto → Prop) : Rn 46 3 [.ref x0, v1, v2, v3] st σ Q ↔ kL x0 ∧ Rn 46 4 [.ref x0, v1, v2, v3] (.ref x0 :: st) σ Q := Rn_if (show decode (mco 46) 3 = .ok (.aload_n 0, 1) by decide +kernel) (fun _ => rfl)
theorem u46_4 (a : Nat) (ls : Vs) (st : Vs) (I : Nat → Nat → Int32) (J : Nat → Nat → Int64) (Q : Option Value → Sto → Prop) : Rn 46 4 ls (.ref a :: st) (Sg I J) Q ↔ kA a 9 ∧ Rn 46 7 ls (.ref (rf a 2) :: st) (Sg I J) Q := g_get2 (show decode (mco 46) 4 = .ok (.getfield 21, 3) by decide +kernel) (by decide +kernel) (by decide) (by decide)
theorem u46_7 (a : Nat) (ls : Vs) (st : Vs) (I : Nat → Nat → Int32) (J : Nat → Nat → Int64) (Q : Option Value → Sto → Prop) : Rn 46 7 ls (.ref a :: st) (Sg I J) Q ↔ kA a 7 ∧ Rn 46 10 ls (.int (I a 1) :: st) (Sg I J) Q := g_get0 (show decode (mco 46) 7 = .ok (.getfield 80, 3) by decide +kernel) (by decide +kernel) (by decide) (by decide)
theorem u46_10 (x y : Int32) (ls : Vs) (st : Vs) (σ : Sto) (Q : Option Value → Sto → Prop) : Rn 46 10 ls (.int y :: .int x :: st) σ Q ↔ if y ≤ x then Rn 46 64 ls st σ Q else Rn 46 13 ls st σ Q := g_if_icmp (show decode (mco 46) 10 = .ok (.if_icmp .ge 54, 3) by decide +kernel) rfl cc_ge
theorem u46_13 (v0 : Value) (x1 : Int32) (v2 : Value) (v3 : Value) (st : Vs) (σ : Sto) (Q : Option Value → Sto → Prop) : Rn 46 13 [v0, .int x1, v2, v3] st σ Q ↔ Rn 46 14 [v0, .int x1, v2, v3] (.int x1 :: st) σ Q := Rn_of (show decode (mco 46) 13 = .ok (.iload_n 1, 1) by decide +kernel) (fun _ => rfl)
theorem u46_14  (ls : Vs) (st : Vs) (σ : Sto) (Q : Option Value → Sto → Prop) : Rn 46 14 ls st σ Q ↔ Rn 46 15 ls (.int 1 :: st) σ Q := Rn_of (show decode (mco 46) 14 = .ok (.iconst 1, 1) by decide +kernel) (fun _ => rfl)
theorem u46_15 (v0 : Value) (v1 : Value) (x2 : Int32) (v3 : Value) (st : Vs) (σ : Sto) (Q : Option Value → Sto → Prop) : Rn 46 15 [v0, v1, .int x2, v3] st σ Q ↔ Rn 46 16 [v0, v1, .int x2, v3] (.int x2 :: st) σ Q := Rn_of (show decode (mco 46) 15 = .ok (.iload_n 2, 1) by decide +kernel) (fun _ => rfl)
theorem u46_16 (x y : Int32) (ls : Vs) (st : Vs) (σ : Sto) (Q : Option Value → Sto → Prop) : Rn 46 16 ls (.int y :: .int x :: st) σ Q ↔ Rn 46 17 ls (.int (x <<< (y &&& 31)) :: st) σ Q := Rn_of (show decode (mco 46) 16 = .ok (.ishl, 1) by decide +kernel) (fun _ => rfl)
theorem u46_17 (x y : Int32) (ls : Vs) (st : Vs) (σ : Sto) (Q : Option Value → Sto → Prop) : Rn 46 17 ls (.int y :: .int x :: st) σ Q ↔ Rn 46 18 ls (.int (x &&& y) :: st) σ Q := Rn_of (show decode (mco 46) 17 = .ok (.iand, 1) by decide +kernel) (fun _ => rfl)
theorem u46_18 (x : Int32) (ls : Vs) (st : Vs) (σ : Sto) (Q : Option Value → Sto → Prop) : Rn 46 18 ls (.int x :: st) σ Q ↔ if ¬ x = 0 then Rn 46 24 ls st σ Q else Rn 46 21 ls st σ Q := g_ifCond (show decode (mco 46) 18 = .ok (.ifCond .ne 6, 3) by decide +kernel) rfl cz_ne
theorem u46_21 (ls : Vs) (st : Vs) (σ : Sto) (Q : Option Value → Sto → Prop) : Rn 46 21 ls st σ Q ↔ Rn 46 58 ls st σ Q := Rn_of (show decode (mco 46) 21 = .ok (.goto 37, 3) by decide +kernel) (fun _ => rfl)
theorem u46_24 (x0 : Nat) (v1 : Value) (v2 : Value) (v3 : Value) (st : Vs) (σ : Sto) (Q : Option Value → Sto → Prop) : Rn 46 24 [.ref x0, v1, v2, v3] st σ Q ↔ kL x0 ∧ Rn 46 25 [.ref x0, v1, v2, v3] (.ref x0 :: st) σ Q := Rn_if (show decode (mco 46) 24 = .ok (.aload_n 0, 1) by decide +kernel) (fun _ => rfl)
theorem u46_25 (v0 : Value) (v1 : Value) (x2 : Int32) (v3 : Value) (st : Vs) (σ : Sto) (Q : Option Value → Sto → Prop) : Rn 46 25 [v0, v1, .int x2, v3] st σ Q ↔ Rn 46 26 [v0, v1, .int x2, v3] (.int x2 :: st) σ Q := Rn_of (show decode (mco 46) 25 = .ok (.iload_n 2, 1) by decide +kernel) (fun _ => rfl)
theorem u46_26 (a : Nat) (x0 : Int32) (ls : Vs) (I : Nat → Nat → Int32) (J : Nat → Nat → Int64) (Q : Option Value → Sto → Prop) : Rn 46 26 ls [.int x0, .ref a] (Sg I J) Q ↔ kA a 9 ∧ Ca 44 [.ref a, .int x0] (Sg I J) 46 29 ls [] Q := g_vir (t := 44) (nn := 1) (as0 := [.int x0]) (show decode (mco 46) 26 = .ok (.invokevirtual 83, 3) by decide +kernel) (by decide +kernel) rfl rfl ⟨rfl, Nat.le_of_ble_eq_true rfl, Nat.le_of_ble_eq_true rfl, Nat.le_of_ble_eq_true rfl⟩
theorem u46_29 (v0 : Value) (v1 : Value) (x2 : Int32) (v3 : Value) (y : Int32) (st : Vs) (σ : Sto) (Q : Option Value → Sto → Prop) : Rn 46 29 [v0, v1, .int x2, v3] (.int y :: st) σ Q ↔ Rn 46 30 [v0, v1, .int x2, .int y] st σ Q := Rn_of (show decode (mco 46) 29 = .ok (.istore_n 3, 1) by decide +kernel) (fun _ => rfl)
theorem u46_30 (v0 : Value) (v1 : Value) (v2 : Value) (x3 : Int32) (st : Vs) (σ : Sto) (Q : Option Value → Sto → Prop) : Rn 46 30 [v0, v1, v2, .int x3] st σ Q ↔ Rn 46 31 [v0, v1, v2, .int x3] (.int x3 :: st) σ Q := Rn_of (show decode (mco 46) 30 = .ok (.iload_n 3, 1) by decide +kernel) (fun _ => rfl)
theorem u46_31  (ls : Vs) (st : Vs) (σ : Sto) (Q : Option Value → Sto → Prop) : Rn 46 31 ls st σ Q ↔ Rn 46 32 ls (.int (-1) :: st) σ Q := Rn_of (show decode (mco 46) 31 = .ok (.iconst (-1), 1) by decide +kernel) (fun _ => rfl)
theorem u46_32 (x y : Int32) (ls : Vs) (st : Vs) (σ : Sto) (Q : Option Value → Sto → Prop) : Rn 46 32 ls (.int y :: .int x :: st) σ Q ↔ if x = y then Rn 46 58 ls st σ Q else Rn 46 35 ls st σ Q := g_if_icmp (show decode (mco 46) 32 = .ok (.if_icmp .eq 26, 3) by decide +kernel) rfl cc_eq
theorem u46_35 (x0 : Nat) (v1 : Value) (v2 : Value) (v3 : Value) (st : Vs) (σ : Sto) (Q : Option Value → Sto → Prop) : Rn 46 35 [.ref x0, v1, v2, v3] st σ Q ↔ kL x0 ∧ Rn 46 36 [.ref x0, v1, v2, v3] (.ref x0 :: st) σ Q := Rn_if (show decode (mco 46) 35 = .ok (.aload_n 0, 1) by decide +kernel) (fun _ => rfl)
theorem u46_36 (a : Nat) (ls : Vs) (st : Vs) (I : Nat → Nat → Int32) (J : Nat → Nat → Int64) (Q : Option Value → Sto → Prop) : Rn 46 36 ls (.ref a :: st) (Sg I J) Q ↔ kA a 9 ∧ Rn 46 39 ls (.ref (rf a 1) :: st) (Sg I J) Q := g_get2 (show decode (mco 46) 36 = .ok (.getfield 12, 3) by decide +kernel) (by decide +kernel) (by decide) (by decide)
theorem u46_39 (v0 : Value) (v1 : Value) (v2 : Value) (x3 : Int32) (st : Vs) (σ : Sto) (Q : Option Value → Sto → Prop) : Rn 46 39 [v0, v1, v2, .int x3] st σ Q ↔ Rn 46 40 [v0, v1, v2, .int x3] (.int x3 :: st) σ Q := Rn_of (show decode (mco 46) 39 = .ok (.iload_n 3, 1) by decide +kernel) (fun _ => rfl)
theorem u46_40 (x0 : Nat) (v1 : Value) (v2 : Value) (v3 : Value) (st : Vs) (σ : Sto) (Q : Option Value → Sto → Prop) : Rn 46 40 [.ref x0, v1, v2, v3] st σ Q ↔ kL x0 ∧ Rn 46 41 [.ref x0, v1, v2, v3] (.ref x0 :: st) σ Q := Rn_if (show decode (mco 46) 40 = .ok (.aload_n 0, 1) by decide +kernel) (fun _ => rfl)
theorem u46_41 (a : Nat) (ls : Vs) (st : Vs) (I : Nat → Nat → Int32) (J : Nat → Nat → Int64) (Q : Option Value → Sto → Prop) : Rn 46 41 ls (.ref a :: st) (Sg I J) Q ↔ kA a 9 ∧ Rn 46 44 ls (.ref (rf a 2) :: st) (Sg I J) Q := g_get2 (show decode (mco 46) 41 = .ok (.getfield 21, 3) by decide +kernel) (by decide +kernel) (by decide) (by decide)
theorem u46_44 (v0 : Value) (v1 : Value) (x2 : Int32) (v3 : Value) (st : Vs) (σ : Sto) (Q : Option Value → Sto → Prop) : Rn 46 44 [v0, v1, .int x2, v3] st σ Q ↔ Rn 46 45 [v0, v1, .int x2, v3] (.int x2 :: st) σ Q := Rn_of (show decode (mco 46) 44 = .ok (.iload_n 2, 1) by decide +kernel) (fun _ => rfl)
theorem u46_45  (ls : Vs) (st : Vs) (σ : Sto) (Q : Option Value → Sto → Prop) : Rn 46 45 ls st σ Q ↔ Rn 46 46 ls (.int 2 :: st) σ Q := Rn_of (show decode (mco 46) 45 = .ok (.iconst 2, 1) by decide +kernel) (fun _ => rfl)
theorem u46_46 (a : Nat) (x0 : Int32) (x1 : Int32) (w0 : Value) (w1 : Value) (ls : Vs) (I : Nat → Nat → Int32) (J : Nat → Nat → Int64) (Q : Option Value → Sto → Prop) : Rn 46 46 ls [.int x1, .int x0, .ref a, w0, w1] (Sg I J) Q ↔ kA a 7 ∧ Ca 35 [.ref a, .int x0, .int x1] (Sg I J) 46 49 ls [w0, w1] Q := g_vir (t := 35) (nn := 2) (as0 := [.int x0, .int x1]) (show decode (mco 46) 46 = .ok (.invokevirtual 58, 3) by decide +kernel) (by decide +kernel) rfl rfl ⟨rfl, Nat.le_of_ble_eq_true rfl, Nat.le_of_ble_eq_true rfl, Nat.le_of_ble_eq_true rfl⟩
theorem u46_49 (x0 : Nat) (v1 : Value) (v2 : Value) (v3 : Value) (st : Vs) (σ : Sto) (Q : Option Value → Sto → Prop) : Rn 46 49 [.ref x0, v1, v2, v3] st σ Q ↔ kL x0 ∧ Rn 46 50 [.ref x0, v1, v2, v3] (.ref x0 :: st) σ Q := Rn_if (show decode (mco 46) 49 = .ok (.aload_n 0, 1) by decide +kernel) (fun _ => rfl)
theorem u46_50 (v0 : Value) (v1 : Value) (x2 : Int32) (v3 : Value) (st : Vs) (σ : Sto) (Q : Option Value → Sto → Prop) : Rn 46 50 [v0, v1, .int x2, v3] st σ Q ↔ Rn 46 51 [v0, v1, .int x2, v3] (.int x2 :: st) σ Q := Rn_of (show decode (mco 46) 50 = .ok (.iload_n 2, 1) by decide +kernel) (fun _ => rfl)
theorem u46_51 (v0 : Value) (v1 : Value) (v2 : Value) (x3 : Int32) (st : Vs) (σ : Sto) (Q : Option Value → Sto → Prop) : Rn 46 51 [v0, v1, v2, .int x3] st σ Q ↔ Rn 46 52 [v0, v1, v2, .int x3] (.int x3 :: st) σ Q := Rn_of (show decode (mco 46) 51 = .ok (.iload_n 3, 1) by decide +kernel) (fun _ => rfl)
theorem u46_52 (a : Nat) (x0 : Int32) (x1 : Int32) (w0 : Value) (w1 : Value) (w2 : Value) (ls : Vs) (I : Nat → Nat → Int32) (J : Nat → Nat → Int64) (Q : Option Value → Sto → Prop) : Rn 46 52 ls [.int x1, .int x0, .ref a, w0, w1, w2] (Sg I J) Q ↔ kA a 9 ∧ Ca 45 [.ref a, .int x0, .int x1, .null, .null] (Sg I J) 46 55 ls [w0, w1, w2] Q := g_vir (t := 45) (nn := 2) (as0 := [.int x0, .int x1]) (show decode (mco 46) 52 = .ok (.invokevirtual 86, 3) by decide +kernel) (by decide +kernel) rfl rfl ⟨rfl, Nat.le_of_ble_eq_true rfl, Nat.le_of_ble_eq_true rfl, Nat.le_of_ble_eq_true rfl⟩
theorem u46_55 (a : Nat) (x0 : Int32) (x1 : Int32) (x2 : Int32) (ls : Vs) (I : Nat → Nat → Int32) (J : Nat → Nat → Int64) (Q : Option Value → Sto → Prop) : Rn 46 55 ls [.int x2, .int x1, .int x0, .ref a] (Sg I J) Q ↔ kA a 10 ∧ Ca 58 [.ref a, .int x0, .int x1, .int x2, .null] (Sg I J) 46 58 ls [] Q := g_vir (t := 58) (nn := 3) (as0 := [.int x0, .int x1, .int x2]) (show decode (mco 46) 55 = .ok (.invokevirtual 89, 3) by decide +kernel) (by decide +kernel) rfl rfl ⟨rfl, Nat.le_of_ble_eq_true rfl, Nat.le_of_ble_eq_true rfl, Nat.le_of_ble_eq_true rfl⟩
theorem u46_58 (v0 : Value) (x1 : Int32) (x2 : Int32) (v3 : Value) (st : Vs) (σ : Sto) (Q : Option Value → Sto → Prop) : Rn 46 58 [v0, .int x1, .int x2, v3] st σ Q ↔ Rn 46 61 [v0, .int x1, .int (x2 + 1), v3] st σ Q := Rn_of (show decode (mco 46) 58 = .ok (.iinc 2 1, 3) by decide +kernel) (fun _ => rfl)
theorem u46_61 (ls : Vs) (st : Vs) (σ : Sto) (Q : Option Value → Sto → Prop) : Rn 46 61 ls st σ Q ↔ Rn 46 2 ls st σ Q := Rn_of (show decode (mco 46) 61 = .ok (.goto (-59), 3) by decide +kernel) (fun _ => rfl)
theorem u46_64 (x0 : Nat) (v1 : Value) (v2 : Value) (v3 : Value) (st : Vs) (σ : Sto) (Q : Option Value → Sto → Prop) : Rn 46 64 [.ref x0, v1, v2, v3] st σ Q ↔ kL x0 ∧ Rn 46 65 [.ref x0, v1, v2, v3] (.ref x0 :: st) σ Q := Rn_if (show decode (mco 46) 64 = .ok (.aload_n 0, 1) by decide +kernel) (fun _ => rfl)
theorem u46_65 (a : Nat) (ls : Vs) (st : Vs) (I : Nat → Nat → Int32) (J : Nat → Nat → Int64) (Q : Option Value → Sto → Prop) : Rn 46 65 ls (.ref a :: st) (Sg I J) Q ↔ kA a 9 ∧ Rn 46 68 ls (.ref (rf a 1) :: st) (Sg I J) Q := g_get2 (show decode (mco 46) 65 = .ok (.getfield 12, 3) by decide +kernel) (by decide +kernel) (by decide) (by decide)
theorem u46_68 (x : Nat) (ls : Vs) (st : Vs) (σ : Sto) (Q : Option Value → Sto → Prop) : Rn 46 68 ls (.ref x :: st) σ Q ↔ kL x ∧ Rn 46 69 ls (.ref x :: .ref x :: st) σ Q := Rn_if (show decode (mco 46) 68 = .ok (.dup, 1) by decide +kernel) (fun _ => rfl)
theorem u46_69 (a : Nat) (ls : Vs) (st : Vs) (I : Nat → Nat → Int32) (J : Nat → Nat → Int64) (Q : Option Value → Sto → Prop) : Rn 46 69 ls (.ref a :: st) (Sg I J) Q ↔ kA a 10 ∧ Rn 46 72 ls (.int (I a 2) :: st) (Sg I J) Q := g_get0 (show decode (mco 46) 69 = .ok (.getfield 66, 3) by decide +kernel) (by decide +kernel) (by decide) (by decide)
theorem u46_72  (ls : Vs) (st : Vs) (σ : Sto) (Q : Option Value → Sto → Prop) : Rn 46 72 ls st σ Q ↔ Rn 46 73 ls (.int 1 :: st) σ Q := Rn_of (show decode (mco 46) 72 = .ok (.iconst 1, 1) by decide +kernel) (fun _ => rfl)
theorem u46_73 (x y : Int32) (ls : Vs) (st : Vs) (σ : Sto) (Q : Option Value → Sto → Prop) : Rn 46 73 ls (.int y :: .int x :: st) σ Q ↔ Rn 46 74 ls (.int (x + y) :: st) σ Q := Rn_of (show decode (mco 46) 73 = .ok (.iadd, 1) by decide +kernel) (fun _ => rfl)
theorem u46_74 (x : Int32) (a : Nat) (ls : Vs) (st : Vs) (I : Nat → Nat → Int32) (J : Nat → Nat → Int64) (Q : Option Value → Sto → Prop) : Rn 46 74 ls (.int x :: .ref a :: st) (Sg I J) Q ↔ kA a 10 ∧ Rn 46 77 ls st (Sg (wI I a 2 x) J) Q := g_put0 (show decode (mco 46) 74 = .ok (.putfield 66, 3) by decide +kernel) (by decide +kernel) (by decide) (by decide) (by decide)
theorem u46_77 (ls : Vs) (σ : Sto) (Q : Option Value → Sto → Prop) : Rn 46 77 ls [] σ Q ↔ Q none σ := g_vret (show decode (mco 46) 77 = .ok (.return_, 1) by decide +kernel) rfl
theorem u47_0  (ls : Vs) (st : Vs) (σ : Sto) (Q : Option Value → Sto → Prop) : Rn 47 0 ls st σ Q ↔ Rn 47 1 ls (.int 0 :: st) σ Q := Rn_of (show decode (mco 47) 0 = .ok (.iconst 0, 1) by decide +kernel) (fun _ => rfl)
theorem u47_1 (v0 : Value) (v1 : Value) (x2 : Int32) (v3 : Value) (y : Int32) (st : Vs) (σ : Sto) (Q : Option Value → Sto → Prop) : Rn 47 1 [v0, v1, .int x2, v3] (.int y :: st) σ Q ↔ Rn 47 2 [v0, v1, .int x2, .int y] st σ Q := Rn_of (show decode (mco 47) 1 = .ok (.istore_n 3, 1) by decide +kernel) (fun _ => rfl)
theorem u47_2 (v0 : Value) (v1 : Value) (v2 : Value) (x3 : Int32) (st : Vs) (σ : Sto) (Q : Option Value → Sto → Prop) : Rn 47 2 [v0, v1, v2, .int x3] st σ Q ↔ Rn 47 3 [v0, v1, v2, .int x3] (.int x3 :: st) σ Q := Rn_of (show decode (mco 47) 2 = .ok (.iload_n 3, 1) by decide +kernel) (fun _ => rfl)
theorem u47_3 (v0 : Value) (v1 : Value) (x2 : Int32) (v3 : Value) (st : Vs) (σ : Sto) (Q : Option Value → Sto → Prop) : Rn 47 3 [v0, v1, .int x2, v3] st σ Q ↔ Rn 47 4 [v0, v1, .int x2, v3] (.int x2 :: st) σ Q := Rn_of (show decode (mco 47) 3 = .ok (.iload_n 2, 1) by decide +kernel) (fun _ => rfl)
theorem u47_4 (x y : Int32) (ls : Vs) (st : Vs) (σ : Sto) (Q : Option Value → Sto → Prop) : Rn 47 4 ls (.int y :: .int x :: st) σ Q ↔ if y ≤ x then Rn 47 18 ls st σ Q else Rn 47 7 ls st σ Q := g_if_icmp (show decode (mco 47) 4 = .ok (.if_icmp .ge 14, 3) by decide +kernel) rfl cc_ge
theorem u47_7 (x0 : Nat) (v1 : Value) (v2 : Value) (v3 : Value) (st : Vs) (σ : Sto) (Q : Option Value → Sto → Prop) : Rn 47 7 [.ref x0, v1, v2, v3] st σ Q ↔ kL x0 ∧ Rn 47 8 [.ref x0, v1, v2, v3] (.ref x0 :: st) σ Q := Rn_if (show decode (mco 47) 7 = .ok (.aload_n 0, 1) by decide +kernel) (fun _ => rfl)
theorem u47_8 (v0 : Value) (x1 : Int32) (v2 : Value) (v3 : Value) (st : Vs) (σ : Sto) (Q : Option Value → Sto → Prop) : Rn 47 8 [v0, .int x1, v2, v3] st σ Q ↔ Rn 47 9 [v0, .int x1, v2, v3] (.int x1 :: st) σ Q := Rn_of (show decode (mco 47) 8 = .ok (.iload_n 1, 1) by decide +kernel) (fun _ => rfl)
theorem u47_9 (a : Nat) (x0 : Int32) (ls : Vs) (I : Nat → Nat → Int32) (J : Nat → Nat → Int64) (Q : Option Value → Sto → Prop) : Rn 47 9 ls [.int x0, .ref a] (Sg I J) Q ↔ kA a 9 ∧ Ca 46 [.ref a, .int x0, .null, .null] (Sg I J) 47 12 ls [] Q := g_vir (t := 46) (nn := 1) (as0 := [.int x0]) (show decode (mco 47) 9 = .ok (.invokevirtual 93, 3) by decide +kernel) (by decide +kernel) rfl rfl ⟨rfl, Nat.le_of_ble_eq_true rfl, Nat.le_of_ble_eq_true rfl, Nat.le_of_ble_eq_true rfl⟩
theorem u47_12 (v0 : Value) (v1 : Value) (x2 : Int32) (x3 : Int32) (st : Vs) (σ : Sto) (Q : Option Value → Sto → Prop) : Rn 47 12 [v0, v1, .int x2, .int x3] st σ Q ↔ Rn 47 15 [v0, v1, .int x2, .int (x3 + 1)] st σ Q := Rn_of (show decode (mco 47) 12 = .ok (.iinc 3 1, 3) by decide +kernel) (fun _ => rfl)
theorem u47_15 (ls : Vs) (st : Vs) (σ : Sto) (Q : Option Value → Sto → Prop) : Rn 47 15 ls st σ Q ↔ Rn 47 2 ls st σ Q := Rn_of (show decode (mco 47) 15 = .ok (.goto (-13), 3) by decide +kernel) (fun _ => rfl)
theorem u47_18 (ls : Vs) (σ : Sto) (Q : Option Value → Sto → Prop) : Rn 47 18 ls [] σ Q ↔ Q none σ := g_vret (show decode (mco 47) 18 = .ok (.return_, 1) by decide +kernel) rfl
theorem u57_0 (x0 : Nat) (v1 : Value) (v2 : Value) (v3 : Value) (st : Vs) (σ : Sto) (Q : Option Value → Sto → Prop) : Rn 57 0 [.ref x0, v1, v2, v3] st σ Q ↔ kL x0 ∧ Rn 57 1 [.ref x0, v1, v2, v3] (.ref x0 :: st) σ Q := Rn_if (show decode (mco 57) 0 = .ok (.aload_n 0, 1) by decide +kernel) (fun _ => rfl)
theorem u57_1 (a : Nat) (ls : Vs) (st : Vs) (I : Nat → Nat → Int32) (J : Nat → Nat → Int64) (Q : Option Value → Sto → Prop) : Rn 57 1 ls (.ref a :: st) (Sg I J) Q ↔ kA a 10 ∧ Rn 57 4 ls (.int (I a 2) :: st) (Sg I J) Q := g_get0 (show decode (mco 57) 1 = .ok (.getfield 25, 3) by decide +kernel) (by decide +kernel) (by decide) (by decide)
theorem u57_4  (ls : Vs) (st : Vs) (σ : Sto) (Q : Option Value → Sto → Prop) : Rn 57 4 ls st σ Q ↔ Rn 57 5 ls (.int 2 :: st) σ Q := Rn_of (show decode (mco 57) 4 = .ok (.iconst 2, 1) by decide +kernel) (fun _ => rfl)
theorem u57_5 (x y : Int32) (ls : Vs) (st : Vs) (σ : Sto) (Q : Option Value → Sto → Prop) : Rn 57 5 ls (.int y :: .int x :: st) σ Q ↔ (¬ y = 0) ∧ Rn 57 6 ls (.int (x - x / y * y) :: st) σ Q := Rn_if (show decode (mco 57) 5 = .ok (.irem, 1) by decide +kernel) (fun _ => rfl)
theorem u57_6 (x : Int32) (ls : Vs) (st : Vs) (σ : Sto) (Q : Option Value → Sto → Prop) : Rn 57 6 ls (.int x :: st) σ Q ↔ if ¬ x = 0 then Rn 57 15 ls st σ Q else Rn 57 9 ls st σ Q := g_ifCond (show decode (mco 57) 6 = .ok (.ifCond .ne 9, 3) by decide +kernel) rfl cz_ne
theorem u57_9 (v0 : Value) (x1 : Int32) (v2 : Value) (v3 : Value) (st : Vs) (σ : Sto) (Q : Option Value → Sto → Prop) : Rn 57 9 [v0, .int x1, v2, v3] st σ Q ↔ Rn 57 10 [v0, .int x1, v2, v3] (.int x1 :: st) σ Q := Rn_of (show decode (mco 57) 9 = .ok (.iload_n 1, 1) by decide +kernel) (fun _ => rfl)
theorem u57_10  (ls : Vs) (st : Vs) (σ : Sto) (Q : Option Value → Sto → Prop) : Rn 57 10 ls st σ Q ↔ Rn 57 11 ls (.int 1 :: st) σ Q := Rn_of (show decode (mco 57) 10 = .ok (.iconst 1, 1) by decide +kernel) (fun _ => rfl)
theorem u57_11 (x y : Int32) (ls : Vs) (st : Vs) (σ : Sto) (Q : Option Value → Sto → Prop) : Rn 57 11 ls (.int y :: .int x :: st) σ Q ↔ Rn 57 12 ls (.int (x - y) :: st) σ Q := Rn_of (show decode (mco 57) 11 = .ok (.isub, 1) by decide +kernel) (fun _ => rfl)
theorem u57_12 (ls : Vs) (st : Vs) (σ : Sto) (Q : Option Value → Sto → Prop) : Rn 57 12 ls st σ Q ↔ Rn 57 18 ls st σ Q := Rn_of (show decode (mco 57) 12 = .ok (.goto 6, 3) by decide +kernel) (fun _ => rfl)
theorem u57_15 (v0 : Value) (x1 : Int32) (v2 : Value) (v3 : Value) (st : Vs) (σ : Sto) (Q : Option Value → Sto → Prop) : Rn 57 15 [v0, .int x1, v2, v3] st σ Q ↔ Rn 57 16 [v0, .int x1, v2, v3] (.int x1 :: st) σ Q := Rn_of (show decode (mco 57) 15 = .ok (.iload_n 1, 1) by decide +kernel) (fun _ => rfl)
theorem u57_16  (ls : Vs) (st : Vs) (σ : Sto) (Q : Option Value → Sto → Prop) : Rn 57 16 ls st σ Q ↔ Rn 57 17 ls (.int 1 :: st) σ Q := Rn_of (show decode (mco 57) 16 = .ok (.iconst 1, 1) by decide +kernel) (fun _ => rfl)
theorem u57_17 (x y : Int32) (ls : Vs) (st : Vs) (σ : Sto) (Q : Option Value → Sto → Prop) : Rn 57 17 ls (.int y :: .int x :: st) σ Q ↔ Rn 57 18 ls (.int (x + y) :: st) σ Q := Rn_of (show decode (mco 57) 17 = .ok (.iadd, 1) by decide +kernel) (fun _ => rfl)
theorem u57_18 (v0 : Value) (x1 : Int32) (v2 : Value) (v3 : Value) (y : Int32) (st : Vs) (σ : Sto) (Q : Option Value → Sto → Prop) : Rn 57 18 [v0, .int x1, v2, v3] (.int y :: st) σ Q ↔ Rn 57 19 [v0, .int x1, .int y, v3] st σ Q := Rn_of (show decode (mco 57) 18 = .ok (.istore_n 2, 1) by decide +kernel) (fun _ => rfl)
theorem u57_19 (v0 : Value) (v1 : Value) (x2 : Int32) (v3 : Value) (st : Vs) (σ : Sto) (Q : Option Value → Sto → Prop) : Rn 57 19 [v0, v1, .int x2, v3] st σ Q ↔ Rn 57 20 [v0, v1, .int x2, v3] (.int x2 :: st) σ Q := Rn_of (show decode (mco 57) 19 = .ok (.iload_n 2, 1) by decide +kernel) (fun _ => rfl)
theorem u57_20 (x : Int32) (ls : Vs) (st : Vs) (σ : Sto) (Q : Option Value → Sto → Prop) : Rn 57 20 ls (.int x :: st) σ Q ↔ if x < 0 then Rn 57 33 ls st σ Q else Rn 57 23 ls st σ Q := g_ifCond (show decode (mco 57) 20 = .ok (.ifCond .lt 13, 3) by decide +kernel) rfl cz_lt
theorem u57_23 (v0 : Value) (v1 : Value) (x2 : Int32) (v3 : Value) (st : Vs) (σ : Sto) (Q : Option Value → Sto → Prop) : Rn 57 23 [v0, v1, .int x2, v3] st σ Q ↔ Rn 57 24 [v0, v1, .int x2, v3] (.int x2 :: st) σ Q := Rn_of (show decode (mco 57) 23 = .ok (.iload_n 2, 1) by decide +kernel) (fun _ => rfl)
theorem u57_24  (ls : Vs) (st : Vs) (σ : Sto) (Q : Option Value → Sto → Prop) : Rn 57 24 ls st σ Q ↔ Rn 57 26 ls (.int 8 :: st) σ Q := Rn_of (show decode (mco 57) 24 = .ok (.bipush 8, 2) by decide +kernel) (fun _ => rfl)
theorem u57_26 (x y : Int32) (ls : Vs) (st : Vs) (σ : Sto) (Q : Option Value → Sto → Prop) : Rn 57 26 ls (.int y :: .int x :: st) σ Q ↔ if y ≤ x then Rn 57 33 ls st σ Q else Rn 57 29 ls st σ Q := g_if_icmp (show decode (mco 57) 26 = .ok (.if_icmp .ge 7, 3) by decide +kernel) rfl cc_ge
theorem u57_29  (ls : Vs) (st : Vs) (σ : Sto) (Q : Option Value → Sto → Prop) : Rn 57 29 ls st σ Q ↔ Rn 57 30 ls (.int 1 :: st) σ Q := Rn_of (show decode (mco 57) 29 = .ok (.iconst 1, 1) by decide +kernel) (fun _ => rfl)
theorem u57_30 (ls : Vs) (st : Vs) (σ : Sto) (Q : Option Value → Sto → Prop) : Rn 57 30 ls st σ Q ↔ Rn 57 34 ls st σ Q := Rn_of (show decode (mco 57) 30 = .ok (.goto 4, 3) by decide +kernel) (fun _ => rfl)
theorem u57_33  (ls : Vs) (st : Vs) (σ : Sto) (Q : Option Value → Sto → Prop) : Rn 57 33 ls st σ Q ↔ Rn 57 34 ls (.int 0 :: st) σ Q := Rn_of (show decode (mco 57) 33 = .ok (.iconst 0, 1) by decide +kernel) (fun _ => rfl)
theorem u57_34 (v0 : Value) (v1 : Value) (x2 : Int32) (v3 : Value) (y : Int32) (st : Vs) (σ : Sto) (Q : Option Value → Sto → Prop) : Rn 57 34 [v0, v1, .int x2, v3] (.int y :: st) σ Q ↔ Rn 57 35 [v0, v1, .int x2, .int y] st σ Q := Rn_of (show decode (mco 57) 34 = .ok (.istore_n 3, 1) by decide +kernel) (fun _ => rfl)
theorem u57_35 (v0 : Value) (v1 : Value) (v2 : Value) (x3 : Int32) (st : Vs) (σ : Sto) (Q : Option Value → Sto → Prop) : Rn 57 35 [v0, v1, v2, .int x3] st σ Q ↔ Rn 57 36 [v0, v1, v2, .int x3] (.int x3 :: st) σ Q := Rn_of (show decode (mco 57) 35 = .ok (.iload_n 3, 1) by decide +kernel) (fun _ => rfl)
theorem u57_36 (x : Int32) (ls : Vs) (st : Vs) (σ : Sto) (Q : Option Value → Sto → Prop) : Rn 57 36 ls (.int x :: st) σ Q ↔ if x = 0 then Rn 57 55 ls st σ Q else Rn 57 39 ls st σ Q := g_ifCond (show decode (mco 57) 36 = .ok (.ifCond .eq 19, 3) by decide +kernel) rfl cz_eq
theorem u57_39 (x0 : Nat) (v1 : Value) (v2 : Value) (v3 : Value) (st : Vs) (σ : Sto) (Q : Option Value → Sto → Prop) : Rn 57 39 [.ref x0, v1, v2, v3] st σ Q ↔ kL x0 ∧ Rn 57 40 [.ref x0, v1, v2, v3] (.ref x0 :: st) σ Q := Rn_if (show decode (mco 57) 39 = .ok (.aload_n 0, 1) by decide +kernel) (fun _ => rfl)
theorem u57_40 (v0 : Value) (x1 : Int32) (v2 : Value) (v3 : Value) (st : Vs) (σ : Sto) (Q : Option Value → Sto → Prop) : Rn 57 40 [v0, .int x1, v2, v3] st σ Q ↔ Rn 57 41 [v0, .int x1, v2, v3] (.int x1 :: st) σ Q := Rn_of (show decode (mco 57) 40 = .ok (.iload_n 1, 1) by decide +kernel) (fun _ => rfl)
theorem u57_41 (v0 : Value) (v1 : Value) (x2 : Int32) (v3 : Value) (st : Vs) (σ : Sto) (Q : Option Value → Sto → Prop) : Rn 57 41 [v0, v1, .int x2, v3] st σ Q ↔ Rn 57 42 [v0, v1, .int x2, v3] (.int x2 :: st) σ Q := Rn_of (show decode (mco 57) 41 = .ok (.iload_n 2, 1) by decide +kernel) (fun _ => rfl)
theorem u57_42 (x0 : Int32) (x1 : Int32) (w0 : Value) (ls : Vs) (I : Nat → Nat → Int32) (J : Nat → Nat → Int64) (Q : Option Value → Sto → Prop) : Rn 57 42 ls [.int x1, .int x0, w0] (Sg I J) Q ↔ Ca 198 [.int x0, .int x1] (Sg I J) 57 45 ls [w0] Q := g_sta1 (t := 198) (nn := 2) (as := [.int x0, .int x1]) (show decode (mco 57) 42 = .ok (.invokestatic 34, 3) by decide +kernel) (by decide +kernel) rfl rfl ⟨rfl, Nat.le_of_ble_eq_true rfl, Nat.le_of_ble_eq_true rfl, Nat.le_of_ble_eq_true rfl⟩
theorem u57_45 (a : Nat) (x0 : Int32) (ls : Vs) (I : Nat → Nat → Int32) (J : Nat → Nat → Int64) (Q : Option Value → Sto → Prop) : Rn 57 45 ls [.int x0, .ref a] (Sg I J) Q ↔ kA a 10 ∧ Ca 55 [.ref a, .int x0] (Sg I J) 57 48 ls [] Q := g_vir (t := 55) (nn := 1) (as0 := [.int x0]) (show decode (mco 57) 45 = .ok (.invokevirtual 40, 3) by decide +kernel) (by decide +kernel) rfl rfl ⟨rfl, Nat.le_of_ble_eq_true rfl, Nat.le_of_ble_eq_true rfl, Nat.le_of_ble_eq_true rfl⟩
theorem u57_48 (x : Int32) (ls : Vs) (st : Vs) (σ : Sto) (Q : Option Value → Sto → Prop) : Rn 57 48 ls (.int x :: st) σ Q ↔ if ¬ x = 0 then Rn 57 55 ls st σ Q else Rn 57 51 ls st σ Q := g_ifCond (show decode (mco 57) 48 = .ok (.ifCond .ne 7, 3) by decide +kernel) rfl cz_ne
theorem u57_51 (v0 : Value) (v1 : Value) (x2 : Int32) (v3 : Value) (st : Vs) (σ : Sto) (Q : Option Value → Sto → Prop) : Rn 57 51 [v0, v1, .int x2, v3] st σ Q ↔ Rn 57 52 [v0, v1, .int x2, v3] (.int x2 :: st) σ Q := Rn_of (show decode (mco 57) 51 = .ok (.iload_n 2, 1) by decide +kernel) (fun _ => rfl)
theorem u57_52 (ls : Vs) (st : Vs) (σ : Sto) (Q : Option Value → Sto → Prop) : Rn 57 52 ls st σ Q ↔ Rn 57 56 ls st σ Q := Rn_of (show decode (mco 57) 52 = .ok (.goto 4, 3) by decide +kernel) (fun _ => rfl)
theorem u57_55  (ls : Vs) (st : Vs) (σ : Sto) (Q : Option Value → Sto → Prop) : Rn 57 55 ls st σ Q ↔ Rn 57 56 ls (.int (-1) :: st) σ Q := Rn_of (show decode (mco 57) 55 = .ok (.iconst (-1), 1) by decide +kernel) (fun _ => rfl)
theorem u57_56 (x : Int32) (ls : Vs) (σ : Sto) (Q : Option Value → Sto → Prop) : Rn 57 56 ls [.int x] σ Q ↔ Q (some (.int x)) σ := g_iret (show decode (mco 57) 56 = .ok (.ireturn, 1) by decide +kernel) rfl
theorem u58_0 (v0 : Value) (v1 : Value) (v2 : Value) (x3 : Int32) (v4 : Value) (st : Vs) (σ : Sto) (Q : Option Value → Sto → Prop) : Rn 58 0 [v0, v1, v2, .int x3, v4] st σ Q ↔ Rn 58 1 [v0, v1, v2, .int x3, v4] (.int x3 :: st) σ Q := Rn_of (show decode (mco 58) 0 = .ok (.iload_n 3, 1) by decide +kernel) (fun _ => rfl)
theorem u58_1 (x0 : Nat) (v1 : Value) (v2 : Value) (v3 : Value) (v4 : Value) (st : Vs) (σ : Sto) (Q : Option Value → Sto → Prop) : Rn 58 1 [.ref x0, v1, v2, v3, v4] st σ Q ↔ kL x0 ∧ Rn 58 2 [.ref x0, v1, v2, v3, v4] (.ref x0 :: st) σ Q := Rn_if (show decode (mco 58) 1 = .ok (.aload_n 0, 1) by decide +kernel) (fun _ => rfl)
theorem u58_2 (a : Nat) (ls : Vs) (st : Vs) (I : Nat → Nat → Int32) (J : Nat → Nat → Int64) (Q : Option Value → Sto → Prop) : Rn 58 2 ls (.ref a :: st) (Sg I J) Q ↔ kA a 10 ∧ Rn 58 5 ls (.ref (rf a 0) :: st) (Sg I J) Q := g_get2 (show decode (mco 58) 2 = .ok (.getfield 9, 3) by decide +kernel) (by decide +kernel) (by decide) (by decide)
theorem u58_5 (v0 : Value) (x1 : Int32) (v2 : Value) (v3 : Value) (v4 : Value) (st : Vs) (σ : Sto) (Q : Option Value → Sto → Prop) : Rn 58 5 [v0, .int x1, v2, v3, v4] st σ Q ↔ Rn 58 6 [v0, .int x1, v2, v3, v4] (.int x1 :: st) σ Q := Rn_of (show decode (mco 58) 5 = .ok (.iload_n 1, 1) by decide +kernel) (fun _ => rfl)
theorem u58_6 (a : Nat) (h : kA a 20) (i : Int32) (ls : Vs) (st : Vs) (I : Nat → Nat → Int32) (J : Nat → Nat → Int64) (Q : Option Value → Sto → Prop) : Rn 58 6 ls (.int i :: .ref a :: st) (Sg I J) Q ↔ inb i (tg a).2 ∧ Rn 58 7 ls (.int (I a i.toNatClampNeg) :: st) (Sg I J) Q := g_iald (show decode (mco 58) 6 = .ok (.iaload, 1) by decide +kernel) h
theorem u58_7  (ls : Vs) (st : Vs) (σ : Sto) (Q : Option Value → Sto → Prop) : Rn 58 7 ls st σ Q ↔ Rn 58 9 ls (.int 99 :: st) σ Q := Rn_of (show decode (mco 58) 7 = .ok (.bipush 99, 2) by decide +kernel) (fun _ => rfl)
theorem u58_9 (x0 : Nat) (v1 : Value) (v2 : Value) (v3 : Value) (v4 : Value) (st : Vs) (σ : Sto) (Q : Option Value → Sto → Prop) : Rn 58 9 [.ref x0, v1, v2, v3, v4] st σ Q ↔ kL x0 ∧ Rn 58 10 [.ref x0, v1, v2, v3, v4] (.ref x0 :: st) σ Q := Rn_if (show decode (mco 58) 9 = .ok (.aload_n 0, 1) by decide +kernel) (fun _ => rfl)
theorem u58_10 (a : Nat) (ls : Vs) (st : Vs) (I : Nat → Nat → Int32) (J : Nat → Nat → Int64) (Q : Option Value → Sto → Prop) : Rn 58 10 ls (.ref a :: st) (Sg I J) Q ↔ kA a 10 ∧ Rn 58 13 ls (.ref (rf a 0) :: st) (Sg I J) Q := g_get2 (show decode (mco 58) 10 = .ok (.getfield 9, 3) by decide +kernel) (by decide +kernel) (by decide) (by decide)
theorem u58_13 (v0 : Value) (v1 : Value) (x2 : Int32) (v3 : Value) (v4 : Value) (st : Vs) (σ : Sto) (Q : Option Value → Sto → Prop) : Rn 58 13 [v0, v1, .int x2, v3, v4] st σ Q ↔ Rn 58 14 [v0, v1, .int x2, v3, v4] (.int x2 :: st) σ Q := Rn_of (show decode (mco 58) 13 = .ok (.iload_n 2, 1) by decide +kernel) (fun _ => rfl)
theorem u58_14 (a : Nat) (h : kA a 20) (i : Int32) (ls : Vs) (st : Vs) (I : Nat → Nat → Int32) (J : Nat → Nat → Int64) (Q : Option Value → Sto → Prop) : Rn 58 14 ls (.int i :: .ref a :: st) (Sg I J) Q ↔ inb i (tg a).2 ∧ Rn 58 15 ls (.int (I a i.toNatClampNeg) :: st) (Sg I J) Q := g_iald (show decode (mco 58) 14 = .ok (.iaload, 1) by decide +kernel) h
theorem u58_15 (x y : Int32) (ls : Vs) (st : Vs) (σ : Sto) (Q : Option Value → Sto → Prop) : Rn 58 15 ls (.int y :: .int x :: st) σ Q ↔ Rn 58 16 ls (.int (x - y) :: st) σ Q := Rn_of (show decode (mco 58) 15 = .ok (.isub, 1) by decide +kernel) (fun _ => rfl)
theorem u58_16 (x0 : Int32) (x1 : Int32) (w0 : Value) (ls : Vs) (I : Nat → Nat → Int32) (J : Nat → Nat → Int64) (Q : Option Value → Sto → Prop) : Rn 58 16 ls [.int x1, .int x0, w0] (Sg I J) Q ↔ Ca 198 [.int x0, .int x1] (Sg I J) 58 19 ls [w0] Q := g_sta1 (t := 198) (nn := 2) (as := [.int x0, .int x1]) (show decode (mco 58) 16 = .ok (.invokestatic 34, 3) by decide +kernel) (by decide +kernel) rfl rfl ⟨rfl, Nat.le_of_ble_eq_true rfl, Nat.le_of_ble_eq_true rfl, Nat.le_of_ble_eq_true rfl⟩
theorem u58_19 (x0 : Int32) (x1 : Int32) (ls : Vs) (I : Nat → Nat → Int32) (J : Nat → Nat → Int64) (Q : Option Value → Sto → Prop) : Rn 58 19 ls [.int x1, .int x0] (Sg I J) Q ↔ Ca 198 [.int x0, .int x1] (Sg I J) 58 22 ls [] Q := g_sta1 (t := 198) (nn := 2) (as := [.int x0, .int x1]) (show decode (mco 58) 19 = .ok (.invokestatic 34, 3) by decide +kernel) (by decide +kernel) rfl rfl ⟨rfl, Nat.le_of_ble_eq_true rfl, Nat.le_of_ble_eq_true rfl, Nat.le_of_ble_eq_true rfl⟩
theorem u58_22 (v0 : Value) (v1 : Value) (v2 : Value) (x3 : Int32) (v4 : Value) (y : Int32) (st : Vs) (σ : Sto) (Q : Option Value → Sto → Prop) : Rn 58 22 [v0, v1, v2, .int x3, v4] (.int y :: st) σ Q ↔ Rn 58 24 [v0, v1, v2, .int x3, .int y] st σ Q := Rn_of (show decode (mco 58) 22 = .ok (.istore 4, 2) by decide +kernel) (fun _ => rfl)
theorem u58_24 (x0 : Nat) (v1 : Value) (v2 : Value) (v3 : Value) (v4 : Value) (st : Vs) (σ : Sto) (Q : Option Value → Sto → Prop) : Rn 58 24 [.ref x0, v1, v2, v3, v4] st σ Q ↔ kL x0 ∧ Rn 58 25 [.ref x0, v1, v2, v3, v4] (.ref x0 :: st) σ Q := Rn_if (show decode (mco 58) 24 = .ok (.aload_n 0, 1) by decide +kernel) (fun _ => rfl)
theorem u58_25 (a : Nat) (ls : Vs) (st : Vs) (I : Nat → Nat → Int32) (J : Nat → Nat → Int64) (Q : Option Value → Sto → Prop) : Rn 58 25 ls (.ref a :: st) (Sg I J) Q ↔ kA a 10 ∧ Rn 58 28 ls (.ref (rf a 0) :: st) (Sg I J) Q := g_get2 (show decode (mco 58) 25 = .ok (.getfield 9, 3) by decide +kernel) (by decide +kernel) (by decide) (by decide)
theorem u58_28 (v0 : Value) (x1 : Int32) (v2 : Value) (v3 : Value) (v4 : Value) (st : Vs) (σ : Sto) (Q : Option Value → Sto → Prop) : Rn 58 28 [v0, .int x1, v2, v3, v4] st σ Q ↔ Rn 58 29 [v0, .int x1, v2, v3, v4] (.int x1 :: st) σ Q := Rn_of (show decode (mco 58) 28 = .ok (.iload_n 1, 1) by decide +kernel) (fun _ => rfl)
theorem u58_29 (x : Int32) (y : Nat) (ls : Vs) (st : Vs) (σ : Sto) (Q : Option Value → Sto → Prop) : Rn 58 29 ls (.int x :: .ref y :: st) σ Q ↔ kL y ∧ Rn 58 30 ls (.int x :: .ref y :: .int x :: .ref y :: st) σ Q := Rn_if (show decode (mco 58) 29 = .ok (.dup2, 1) by decide +kernel) (fun _ => rfl)
theorem u58_30 (a : Nat) (h : kA a 20) (i : Int32) (ls : Vs) (st : Vs) (I : Nat → Nat → Int32) (J : Nat → Nat → Int64) (Q : Option Value → Sto → Prop) : Rn 58 30 ls (.int i :: .ref a :: st) (Sg I J) Q ↔ inb i (tg a).2 ∧ Rn 58 31 ls (.int (I a i.toNatClampNeg) :: st) (Sg I J) Q := g_iald (show decode (mco 58) 30 = .ok (.iaload, 1) by decide +kernel) h
theorem u58_31 (v0 : Value) (v1 : Value) (v2 : Value) (v3 : Value) (x4 : Int32) (st : Vs) (σ : Sto) (Q : Option Value → Sto → Prop) : Rn 58 31 [v0, v1, v2, v3, .int x4] st σ Q ↔ Rn 58 33 [v0, v1, v2, v3, .int x4] (.int x4 :: st) σ Q := Rn_of (show decode (mco 58) 31 = .ok (.iload 4, 2) by decide +kernel) (fun _ => rfl)
theorem u58_33 (x y : Int32) (ls : Vs) (st : Vs) (σ : Sto) (Q : Option Value → Sto → Prop) : Rn 58 33 ls (.int y :: .int x :: st) σ Q ↔ Rn 58 34 ls (.int (x - y) :: st) σ Q := Rn_of (show decode (mco 58) 33 = .ok (.isub, 1) by decide +kernel) (fun _ => rfl)
theorem u58_34 (x i : Int32) (a : Nat) (ls : Vs) (st : Vs) (I : Nat → Nat → Int32) (J : Nat → Nat → Int64) (Q : Option Value → Sto → Prop) : Rn 58 34 ls (.int x :: .int i :: .ref a :: st) (Sg I J) Q ↔ (kA a 20 ∧ inb i (tg a).2) ∧ Rn 58 35 ls st (Sg (wI I a i.toNatClampNeg x) J) Q := g_iast (show decode (mco 58) 34 = .ok (.iastore, 1) by decide +kernel)
theorem u58_35 (x0 : Nat) (v1 : Value) (v2 : Value) (v3 : Value) (v4 : Value) (st : Vs) (σ : Sto) (Q : Option Value → Sto → Prop) : Rn 58 35 [.ref x0, v1, v2, v3, v4] st σ Q ↔ kL x0 ∧ Rn 58 36 [.ref x0, v1, v2, v3, v4] (.ref x0 :: st) σ Q := Rn_if (show decode (mco 58) 35 = .ok (.aload_n 0, 1) by decide +kernel) (fun _ => rfl)
theorem u58_36 (a : Nat) (ls : Vs) (st : Vs) (I : Nat → Nat → Int32) (J : Nat → Nat → Int64) (Q : Option Value → Sto → Prop) : Rn 58 36 ls (.ref a :: st) (Sg I J) Q ↔ kA a 10 ∧ Rn 58 39 ls (.ref (rf a 0) :: st) (Sg I J) Q := g_get2 (show decode (mco 58) 36 = .ok (.getfield 9, 3) by decide +kernel) (by decide +kernel) (by decide) (by decide)
theorem u58_39 (v0 : Value) (v1 : Value) (x2 : Int32) (v3 : Value) (v4 : Value) (st : Vs) (σ : Sto) (Q : Option Value → Sto → Prop) : Rn 58 39 [v0, v1, .int x2, v3, v4] st σ Q ↔ Rn 58 40 [v0, v1, .int x2, v3, v4] (.int x2 :: st) σ Q := Rn_of (show decode (mco 58) 39 = .ok (.iload_n 2, 1) by decide +kernel) (fun _ => rfl)
theorem u58_40 (x : Int32) (y : Nat) (ls : Vs) (st : Vs) (σ : Sto) (Q : Option Value → Sto → Prop) : Rn 58 40 ls (.int x :: .ref y :: st) σ Q ↔ kL y ∧ Rn 58 41 ls (.int x :: .ref y :: .int x :: .ref y :: st) σ Q := Rn_if (show decode (mco 58) 40 = .ok (.dup2, 1) by decide +kernel) (fun _ => rfl)
theorem u58_41 (a : Nat) (h : kA a 20) (i : Int32) (ls : Vs) (st : Vs) (I : Nat → Nat → Int32) (J : Nat → Nat → Int64) (Q : Option Value → Sto → Prop) : Rn 58 41 ls (.int i :: .ref a :: st) (Sg I J) Q ↔ inb i (tg a).2 ∧ Rn 58 42 ls (.int (I a i.toNatClampNeg) :: st) (Sg I J) Q := g_iald (show decode (mco 58) 41 = .ok (.iaload, 1) by decide +kernel) h
theorem u58_42 (v0 : Value) (v1 : Value) (v2 : Value) (v3 : Value) (x4 : Int32) (st : Vs) (σ : Sto) (Q : Option Value → Sto → Prop) : Rn 58 42 [v0, v1, v2, v3, .int x4] st σ Q ↔ Rn 58 44 [v0, v1, v2, v3, .int x4] (.int x4 :: st) σ Q := Rn_of (show decode (mco 58) 42 = .ok (.iload 4, 2) by decide +kernel) (fun _ => rfl)
theorem u58_44 (x y : Int32) (ls : Vs) (st : Vs) (σ : Sto) (Q : Option Value → Sto → Prop) : Rn 58 44 ls (.int y :: .int x :: st) σ Q ↔ Rn 58 45 ls (.int (x + y) :: st) σ Q := Rn_of (show decode (mco 58) 44 = .ok (.iadd, 1) by decide +kernel) (fun _ => rfl)
theorem u58_45 (x i : Int32) (a : Nat) (ls : Vs) (st : Vs) (I : Nat → Nat → Int32) (J : Nat → Nat → Int64) (Q : Option Value → Sto → Prop) : Rn 58 45 ls (.int x :: .int i :: .ref a :: st) (Sg I J) Q ↔ (kA a 20 ∧ inb i (tg a).2) ∧ Rn 58 46 ls st (Sg (wI I a i.toNatClampNeg x) J) Q := g_iast (show decode (mco 58) 45 = .ok (.iastore, 1) by decide +kernel)
theorem u58_46 (ls : Vs) (σ : Sto) (Q : Option Value → Sto → Prop) : Rn 58 46 ls [] σ Q ↔ Q none σ := g_vret (show decode (mco 58) 46 = .ok (.return_, 1) by decide +kernel) rfl
theorem u44_0 (x0 : Nat) (v1 : Value) (st : Vs) (σ : Sto) (Q : Option Value → Sto → Prop) : Rn 44 0 [.ref x0, v1] st σ Q ↔ kL x0 ∧ Rn 44 1 [.ref x0, v1] (.ref x0 :: st) σ Q := Rn_if (show decode (mco 44) 0 = .ok (.aload_n 0, 1) by decide +kernel) (fun _ => rfl)
theorem u44_1 (a : Nat) (ls : Vs) (st : Vs) (I : Nat → Nat → Int32) (J : Nat → Nat → Int64) (Q : Option Value → Sto → Prop) : Rn 44 1 ls (.ref a :: st) (Sg I J) Q ↔ kA a 9 ∧ Rn 44 4 ls (.ref (rf a 1) :: st) (Sg I J) Q := g_get2 (show decode (mco 44) 1 = .ok (.getfield 12, 3) by decide +kernel) (by decide +kernel) (by decide) (by decide)
theorem u44_4 (x0 : Nat) (v1 : Value) (st : Vs) (σ : Sto) (Q : Option Value → Sto → Prop) : Rn 44 4 [.ref x0, v1] st σ Q ↔ kL x0 ∧ Rn 44 5 [.ref x0, v1] (.ref x0 :: st) σ Q := Rn_if (show decode (mco 44) 4 = .ok (.aload_n 0, 1) by decide +kernel) (fun _ => rfl)
theorem u44_5 (a : Nat) (ls : Vs) (st : Vs) (I : Nat → Nat → Int32) (J : Nat → Nat → Int64) (Q : Option Value → Sto → Prop) : Rn 44 5 ls (.ref a :: st) (Sg I J) Q ↔ kA a 9 ∧ Rn 44 8 ls (.ref (rf a 2) :: st) (Sg I J) Q := g_get2 (show decode (mco 44) 5 = .ok (.getfield 21, 3) by decide +kernel) (by decide +kernel) (by decide) (by decide)
theorem u44_8 (v0 : Value) (x1 : Int32) (st : Vs) (σ : Sto) (Q : Option Value → Sto → Prop) : Rn 44 8 [v0, .int x1] st σ Q ↔ Rn 44 9 [v0, .int x1] (.int x1 :: st) σ Q := Rn_of (show decode (mco 44) 8 = .ok (.iload_n 1, 1) by decide +kernel) (fun _ => rfl)
theorem u44_9  (ls : Vs) (st : Vs) (σ : Sto) (Q : Option Value → Sto → Prop) : Rn 44 9 ls st σ Q ↔ Rn 44 10 ls (.int 2 :: st) σ Q := Rn_of (show decode (mco 44) 9 = .ok (.iconst 2, 1) by decide +kernel) (fun _ => rfl)
theorem u44_10 (a : Nat) (x0 : Int32) (x1 : Int32) (w0 : Value) (ls : Vs) (I : Nat → Nat → Int32) (J : Nat → Nat → Int64) (Q : Option Value → Sto → Prop) : Rn 44 10 ls [.int x1, .int x0, .ref a, w0] (Sg I J) Q ↔ kA a 7 ∧ Ca 35 [.ref a, .int x0, .int x1] (Sg I J) 44 13 ls [w0] Q := g_vir (t := 35) (nn := 2) (as0 := [.int x0, .int x1]) (show decode (mco 44) 10 = .ok (.invokevirtual 58, 3) by decide +kernel) (by decide +kernel) rfl rfl ⟨rfl, Nat.le_of_ble_eq_true rfl, Nat.le_of_ble_eq_true rfl, Nat.le_of_ble_eq_true rfl⟩
theorem u44_13 (a : Nat) (x0 : Int32) (ls : Vs) (I : Nat → Nat → Int32) (J : Nat → Nat → Int64) (Q : Option Value → Sto → Prop) : Rn 44 13 ls [.int x0, .ref a] (Sg I J) Q ↔ kA a 10 ∧ Ca 57 [.ref a, .int x0, .null, .null] (Sg I J) 44 16 ls [] Q := g_vir (t := 57) (nn := 1) (as0 := [.int x0]) (show decode (mco 44) 13 = .ok (.invokevirtual 62, 3) by decide +kernel) (by decide +kernel) rfl rfl ⟨rfl, Nat.le_of_ble_eq_true rfl, Nat.le_of_ble_eq_true rfl, Nat.le_of_ble_eq_true rfl⟩
theorem u44_16 (x : Int32) (ls : Vs) (σ : Sto) (Q : Option Value → Sto → Prop) : Rn 44 16 ls [.int x] σ Q ↔ Q (some (.int x)) σ := g_iret (show decode (mco 44) 16 = .ok (.ireturn, 1) by decide +kernel) rfl
theorem u197_0 (x0 : Int32) (v1 : Value) (st : Vs) (σ : Sto) (Q : Option Value → Sto → Prop) : Rn 197 0 [.int x0, v1] st σ Q ↔ Rn 197 1 [.int x0, v1] (.int x0 :: st) σ Q := Rn_of (show decode (mco 197) 0 = .ok (.iload_n 0, 1) by decide +kernel) (fun _ => rfl)
theorem u197_1 (v0 : Value) (x1 : Int32) (st : Vs) (σ : Sto) (Q : Option Value → Sto → Prop) : Rn 197 1 [v0, .int x1] st σ Q ↔ Rn 197 2 [v0, .int x1] (.int x1 :: st) σ Q := Rn_of (show decode (mco 197) 1 = .ok (.iload_n 1, 1) by decide +kernel) (fun _ => rfl)
theorem u197_2 (x y : Int32) (ls : Vs) (st : Vs) (σ : Sto) (Q : Option Value → Sto → Prop) : Rn 197 2 ls (.int y :: .int x :: st) σ Q ↔ if x < y then Rn 197 9 ls st σ Q else Rn 197 5 ls st σ Q := g_if_icmp (show decode (mco 197) 2 = .ok (.if_icmp .lt 7, 3) by decide +kernel) rfl cc_lt
theorem u197_5 (x0 : Int32) (v1 : Value) (st : Vs) (σ : Sto) (Q : Option Value → Sto → Prop) : Rn 197 5 [.int x0, v1] st σ Q ↔ Rn 197 6 [.int x0, v1] (.int x0 :: st) σ Q := Rn_of (show decode (mco 197) 5 = .ok (.iload_n 0, 1) by decide +kernel) (fun _ => rfl)
theorem u197_6 (ls : Vs) (st : Vs) (σ : Sto) (Q : Option Value → Sto → Prop) : Rn 197 6 ls st σ Q ↔ Rn 197 10 ls st σ Q := Rn_of (show decode (mco 197) 6 = .ok (.goto 4, 3) by decide +kernel) (fun _ => rfl)
theorem u197_9 (v0 : Value) (x1 : Int32) (st : Vs) (σ : Sto) (Q : Option Value → Sto → Prop) : Rn 197 9 [v0, .int x1] st σ Q ↔ Rn 197 10 [v0, .int x1] (.int x1 :: st) σ Q := Rn_of (show decode (mco 197) 9 = .ok (.iload_n 1, 1) by decide +kernel) (fun _ => rfl)
theorem u197_10 (x : Int32) (ls : Vs) (σ : Sto) (Q : Option Value → Sto → Prop) : Rn 197 10 ls [.int x] σ Q ↔ Q (some (.int x)) σ := g_iret (show decode (mco 197) 10 = .ok (.ireturn, 1) by decide +kernel) rfl
theorem u198_0 (x0 : Int32) (v1 : Value) (st : Vs) (σ : Sto) (Q : Option Value → Sto → Prop) : Rn 198 0 [.int x0, v1] st σ Q ↔ Rn 198 1 [.int x0, v1] (.int x0 :: st) σ Q := Rn_of (show decode (mco 198) 0 = .ok (.iload_n 0, 1) by decide +kernel) (fun _ => rfl)
theorem u198_1 (v0 : Value) (x1 : Int32) (st : Vs) (σ : Sto) (Q : Option Value → Sto → Prop) : Rn 198 1 [v0, .int x1] st σ Q ↔ Rn 198 2 [v0, .int x1] (.int x1 :: st) σ Q := Rn_of (show decode (mco 198) 1 = .ok (.iload_n 1, 1) by decide +kernel) (fun _ => rfl)
theorem u198_2 (x y : Int32) (ls : Vs) (st : Vs) (σ : Sto) (Q : Option Value → Sto → Prop) : Rn 198 2 ls (.int y :: .int x :: st) σ Q ↔ if y < x then Rn 198 9 ls st σ Q else Rn 198 5 ls st σ Q := g_if_icmp (show decode (mco 198) 2 = .ok (.if_icmp .gt 7, 3) by decide +kernel) rfl cc_gt
theorem u198_5 (x0 : Int32) (v1 : Value) (st : Vs) (σ : Sto) (Q : Option Value → Sto → Prop) : Rn 198 5 [.int x0, v1] st σ Q ↔ Rn 198 6 [.int x0, v1] (.int x0 :: st) σ Q := Rn_of (show decode (mco 198) 5 = .ok (.iload_n 0, 1) by decide +kernel) (fun _ => rfl)
theorem u198_6 (ls : Vs) (st : Vs) (σ : Sto) (Q : Option Value → Sto → Prop) : Rn 198 6 ls st σ Q ↔ Rn 198 10 ls st σ Q := Rn_of (show decode (mco 198) 6 = .ok (.goto 4, 3) by decide +kernel) (fun _ => rfl)
theorem u198_9 (v0 : Value) (x1 : Int32) (st : Vs) (σ : Sto) (Q : Option Value → Sto → Prop) : Rn 198 9 [v0, .int x1] st σ Q ↔ Rn 198 10 [v0, .int x1] (.int x1 :: st) σ Q := Rn_of (show decode (mco 198) 9 = .ok (.iload_n 1, 1) by decide +kernel) (fun _ => rfl)
theorem u198_10 (x : Int32) (ls : Vs) (σ : Sto) (Q : Option Value → Sto → Prop) : Rn 198 10 ls [.int x] σ Q ↔ Q (some (.int x)) σ := g_iret (show decode (mco 198) 10 = .ok (.ireturn, 1) by decide +kernel) rfl
theorem u55_0 (x0 : Nat) (v1 : Value) (st : Vs) (σ : Sto) (Q : Option Value → Sto → Prop) : Rn 55 0 [.ref x0, v1] st σ Q ↔ kL x0 ∧ Rn 55 1 [.ref x0, v1] (.ref x0 :: st) σ Q := Rn_if (show decode (mco 55) 0 = .ok (.aload_n 0, 1) by decide +kernel) (fun _ => rfl)
theorem u55_1 (a : Nat) (ls : Vs) (st : Vs) (I : Nat → Nat → Int32) (J : Nat → Nat → Int64) (Q : Option Value → Sto → Prop) : Rn 55 1 ls (.ref a :: st) (Sg I J) Q ↔ kA a 10 ∧ Rn 55 4 ls (.int (I a 1) :: st) (Sg I J) Q := g_get0 (show decode (mco 55) 1 = .ok (.getfield 21, 3) by decide +kernel) (by decide +kernel) (by decide) (by decide)
theorem u55_4 (v0 : Value) (x1 : Int32) (st : Vs) (σ : Sto) (Q : Option Value → Sto → Prop) : Rn 55 4 [v0, .int x1] st σ Q ↔ Rn 55 5 [v0, .int x1] (.int x1 :: st) σ Q := Rn_of (show decode (mco 55) 4 = .ok (.iload_n 1, 1) by decide +kernel) (fun _ => rfl)
theorem u55_5 (x y : Int32) (ls : Vs) (st : Vs) (σ : Sto) (Q : Option Value → Sto → Prop) : Rn 55 5 ls (.int y :: .int x :: st) σ Q ↔ Rn 55 6 ls (.int (x >>> (y &&& 31)) :: st) σ Q := Rn_of (show decode (mco 55) 5 = .ok (.ishr, 1) by decide +kernel) (fun _ => rfl)
theorem u55_6  (ls : Vs) (st : Vs) (σ : Sto) (Q : Option Value → Sto → Prop) : Rn 55 6 ls st σ Q ↔ Rn 55 7 ls (.int 1 :: st) σ Q := Rn_of (show decode (mco 55) 6 = .ok (.iconst 1, 1) by decide +kernel) (fun _ => rfl)
theorem u55_7 (x y : Int32) (ls : Vs) (st : Vs) (σ : Sto) (Q : Option Value → Sto → Prop) : Rn 55 7 ls (.int y :: .int x :: st) σ Q ↔ Rn 55 8 ls (.int (x &&& y) :: st) σ Q := Rn_of (show decode (mco 55) 7 = .ok (.iand, 1) by decide +kernel) (fun _ => rfl)
theorem u55_8 (x : Int32) (ls : Vs) (σ : Sto) (Q : Option Value → Sto → Prop) : Rn 55 8 ls [.int x] σ Q ↔ Q (some (.int x)) σ := g_iret (show decode (mco 55) 8 = .ok (.ireturn, 1) by decide +kernel) rfl
theorem u56_0 (x0 : Nat) (v1 : Value) (st : Vs) (σ : Sto) (Q : Option Value → Sto → Prop) : Rn 56 0 [.ref x0, v1] st σ Q ↔ kL x0 ∧ Rn 56 1 [.ref x0, v1] (.ref x0 :: st) σ Q := Rn_if (show decode (mco 56) 0 = .ok (.aload_n 0, 1) by decide +kernel) (fun _ => rfl)
theorem u56_1 (x : Nat) (ls : Vs) (st : Vs) (σ : Sto) (Q : Option Value → Sto → Prop) : Rn 56 1 ls (.ref x :: st) σ Q ↔ kL x ∧ Rn 56 2 ls (.ref x :: .ref x :: st) σ Q := Rn_if (show decode (mco 56) 1 = .ok (.dup, 1) by decide +kernel) (fun _ => rfl)
theorem u56_2 (a : Nat) (ls : Vs) (st : Vs) (I : Nat → Nat → Int32) (J : Nat → Nat → Int64) (Q : Option Value → Sto → Prop) : Rn 56 2 ls (.ref a :: st) (Sg I J) Q ↔ kA a 10 ∧ Rn 56 5 ls (.int (I a 1) :: st) (Sg I J) Q := g_get0 (show decode (mco 56) 2 = .ok (.getfield 21, 3) by decide +kernel) (by decide +kernel) (by decide) (by decide)
theorem u56_5  (ls : Vs) (st : Vs) (σ : Sto) (Q : Option Value → Sto → Prop) : Rn 56 5 ls st σ Q ↔ Rn 56 6 ls (.int 1 :: st) σ Q := Rn_of (show decode (mco 56) 5 = .ok (.iconst 1, 1) by decide +kernel) (fun _ => rfl)
theorem u56_6 (v0 : Value) (x1 : Int32) (st : Vs) (σ : Sto) (Q : Option Value → Sto → Prop) : Rn 56 6 [v0, .int x1] st σ Q ↔ Rn 56 7 [v0, .int x1] (.int x1 :: st) σ Q := Rn_of (show decode (mco 56) 6 = .ok (.iload_n 1, 1) by decide +kernel) (fun _ => rfl)
theorem u56_7 (x y : Int32) (ls : Vs) (st : Vs) (σ : Sto) (Q : Option Value → Sto → Prop) : Rn 56 7 ls (.int y :: .int x :: st) σ Q ↔ Rn 56 8 ls (.int (x <<< (y &&& 31)) :: st) σ Q := Rn_of (show decode (mco 56) 7 = .ok (.ishl, 1) by decide +kernel) (fun _ => rfl)
theorem u56_8 (x y : Int32) (ls : Vs) (st : Vs) (σ : Sto) (Q : Option Value → Sto → Prop) : Rn 56 8 ls (.int y :: .int x :: st) σ Q ↔ Rn 56 9 ls (.int (x ^^^ y) :: st) σ Q := Rn_of (show decode (mco 56) 8 = .ok (.ixor, 1) by decide +kernel) (fun _ => rfl)
theorem u56_9 (x : Int32) (a : Nat) (ls : Vs) (st : Vs) (I : Nat → Nat → Int32) (J : Nat → Nat → Int64) (Q : Option Value → Sto → Prop) : Rn 56 9 ls (.int x :: .ref a :: st) (Sg I J) Q ↔ kA a 10 ∧ Rn 56 12 ls st (Sg (wI I a 1 x) J) Q := g_put0 (show decode (mco 56) 9 = .ok (.putfield 21, 3) by decide +kernel) (by decide +kernel) (by decide) (by decide) (by decide)
theorem u56_12 (ls : Vs) (σ : Sto) (Q : Option Value → Sto → Prop) : Rn 56 12 ls [] σ Q ↔ Q none σ := g_vret (show decode (mco 56) 12 = .ok (.return_, 1) by decide +kernel) rfl
theorem u20_0 (x0 : Nat) (v1 : Value) (v2 : Value) (v3 : Value) (v4 : Value) (st : Vs) (σ : Sto) (Q : Option Value → Sto → Prop) : Rn 20 0 [.ref x0, v1, v2, v3, v4] st σ Q ↔ kL x0 ∧ Rn 20 1 [.ref x0, v1, v2, v3, v4] (.ref x0 :: st) σ Q := Rn_if (show decode (mco 20) 0 = .ok (.aload_n 0, 1) by decide +kernel) (fun _ => rfl)
theorem u20_1 (a : Nat) (ls : Vs) (st : Vs) (I : Nat → Nat → Int32) (J : Nat → Nat → Int64) (Q : Option Value → Sto → Prop) : Rn 20 1 ls (.ref a :: st) (Sg I J) Q ↔ kA a 6 ∧ Rn 20 4 ls (.int (I a 6) :: st) (Sg I J) Q := g_get0 (show decode (mco 20) 1 = .ok (.getfield 42, 3) by decide +kernel) (by decide +kernel) (by decide) (by decide)
theorem u20_4  (ls : Vs) (st : Vs) (σ : Sto) (Q : Option Value → Sto → Prop) : Rn 20 4 ls st σ Q ↔ Rn 20 5 ls (.int 1 :: st) σ Q := Rn_of (show decode (mco 20) 4 = .ok (.iconst 1, 1) by decide +kernel) (fun _ => rfl)
theorem u20_5 (x y : Int32) (ls : Vs) (st : Vs) (σ : Sto) (Q : Option Value → Sto → Prop) : Rn 20 5 ls (.int y :: .int x :: st) σ Q ↔ if ¬ x = y then Rn 20 15 ls st σ Q else Rn 20 8 ls st σ Q := g_if_icmp (show decode (mco 20) 5 = .ok (.if_icmp .ne 10, 3) by decide +kernel) rfl cc_ne
theorem u20_8 (x0 : Nat) (v1 : Value) (v2 : Value) (v3 : Value) (v4 : Value) (st : Vs) (σ : Sto) (Q : Option Value → Sto → Prop) : Rn 20 8 [.ref x0, v1, v2, v3, v4] st σ Q ↔ kL x0 ∧ Rn 20 9 [.ref x0, v1, v2, v3, v4] (.ref x0 :: st) σ Q := Rn_if (show decode (mco 20) 8 = .ok (.aload_n 0, 1) by decide +kernel) (fun _ => rfl)
theorem u20_9 (a : Nat) (ls : Vs) (I : Nat → Nat → Int32) (J : Nat → Nat → Int64) (Q : Option Value → Sto → Prop) : Rn 20 9 ls [.ref a] (Sg I J) Q ↔ kA a 6 ∧ Ca 26 [.ref a] (Sg I J) 20 12 ls [] Q := g_vir (t := 26) (nn := 0) (as0 := []) (show decode (mco 20) 9 = .ok (.invokevirtual 49, 3) by decide +kernel) (by decide +kernel) rfl rfl ⟨rfl, Nat.le_of_ble_eq_true rfl, Nat.le_of_ble_eq_true rfl, Nat.le_of_ble_eq_true rfl⟩
theorem u20_12 (ls : Vs) (st : Vs) (σ : Sto) (Q : Option Value → Sto → Prop) : Rn 20 12 ls st σ Q ↔ Rn 20 16 ls st σ Q := Rn_of (show decode (mco 20) 12 = .ok (.goto 4, 3) by decide +kernel) (fun _ => rfl)
theorem u20_15  (ls : Vs) (st : Vs) (σ : Sto) (Q : Option Value → Sto → Prop) : Rn 20 15 ls st σ Q ↔ Rn 20 16 ls (.int (-1) :: st) σ Q := Rn_of (show decode (mco 20) 15 = .ok (.iconst (-1), 1) by decide +kernel) (fun _ => rfl)
theorem u20_16 (v0 : Value) (x1 : Int32) (v2 : Value) (v3 : Value) (v4 : Value) (y : Int32) (st : Vs) (σ : Sto) (Q : Option Value → Sto → Prop) : Rn 20 16 [v0, .int x1, v2, v3, v4] (.int y :: st) σ Q ↔ Rn 20 17 [v0, .int x1, .int y, v3, v4] st σ Q := Rn_of (show decode (mco 20) 16 = .ok (.istore_n 2, 1) by decide +kernel) (fun _ => rfl)
theorem u20_17 (v0 : Value) (v1 : Value) (x2 : Int32) (v3 : Value) (v4 : Value) (st : Vs) (σ : Sto) (Q : Option Value → Sto → Prop) : Rn 20 17 [v0, v1, .int x2, v3, v4] st σ Q ↔ Rn 20 18 [v0, v1, .int x2, v3, v4] (.int x2 :: st) σ Q := Rn_of (show decode (mco 20) 17 = .ok (.iload_n 2, 1) by decide +kernel) (fun _ => rfl)
theorem u20_18  (ls : Vs) (st : Vs) (σ : Sto) (Q : Option Value → Sto → Prop) : Rn 20 18 ls st σ Q ↔ Rn 20 19 ls (.int (-1) :: st) σ Q := Rn_of (show decode (mco 20) 18 = .ok (.iconst (-1), 1) by decide +kernel) (fun _ => rfl)
theorem u20_19 (x y : Int32) (ls : Vs) (st : Vs) (σ : Sto) (Q : Option Value → Sto → Prop) : Rn 20 19 ls (.int y :: .int x :: st) σ Q ↔ if x = y then Rn 20 43 ls st σ Q else Rn 20 22 ls st σ Q := g_if_icmp (show decode (mco 20) 19 = .ok (.if_icmp .eq 24, 3) by decide +kernel) rfl cc_eq
theorem u20_22 (v0 : Value) (x1 : Int32) (v2 : Value) (v3 : Value) (v4 : Value) (st : Vs) (σ : Sto) (Q : Option Value → Sto → Prop) : Rn 20 22 [v0, .int x1, v2, v3, v4] st σ Q ↔ Rn 20 23 [v0, .int x1, v2, v3, v4] (.int x1 :: st) σ Q := Rn_of (show decode (mco 20) 22 = .ok (.iload_n 1, 1) by decide +kernel) (fun _ => rfl)
theorem u20_23 (v0 : Value) (v1 : Value) (x2 : Int32) (v3 : Value) (v4 : Value) (st : Vs) (σ : Sto) (Q : Option Value → Sto → Prop) : Rn 20 23 [v0, v1, .int x2, v3, v4] st σ Q ↔ Rn 20 24 [v0, v1, .int x2, v3, v4] (.int x2 :: st) σ Q := Rn_of (show decode (mco 20) 23 = .ok (.iload_n 2, 1) by decide +kernel) (fun _ => rfl)
theorem u20_24 (x : Int32) (ls : Vs) (st : Vs) (σ : Sto) (Q : Option Value → Sto → Prop) : Rn 20 24 ls (.int x :: st) σ Q ↔ if ¬ x = 0 then Rn 20 31 ls st σ Q else Rn 20 27 ls st σ Q := g_ifCond (show decode (mco 20) 24 = .ok (.ifCond .ne 7, 3) by decide +kernel) rfl cz_ne
theorem u20_27  (ls : Vs) (st : Vs) (σ : Sto) (Q : Option Value → Sto → Prop) : Rn 20 27 ls st σ Q ↔ Rn 20 28 ls (.int 1 :: st) σ Q := Rn_of (show decode (mco 20) 27 = .ok (.iconst 1, 1) by decide +kernel) (fun _ => rfl)
theorem u20_28 (ls : Vs) (st : Vs) (σ : Sto) (Q : Option Value → Sto → Prop) : Rn 20 28 ls st σ Q ↔ Rn 20 32 ls st σ Q := Rn_of (show decode (mco 20) 28 = .ok (.goto 4, 3) by decide +kernel) (fun _ => rfl)
theorem u20_31  (ls : Vs) (st : Vs) (σ : Sto) (Q : Option Value → Sto → Prop) : Rn 20 31 ls st σ Q ↔ Rn 20 32 ls (.int 0 :: st) σ Q := Rn_of (show decode (mco 20) 31 = .ok (.iconst 0, 1) by decide +kernel) (fun _ => rfl)
theorem u20_32 (x y : Int32) (ls : Vs) (st : Vs) (σ : Sto) (Q : Option Value → Sto → Prop) : Rn 20 32 ls (.int y :: .int x :: st) σ Q ↔ if ¬ x = y then Rn 20 43 ls st σ Q else Rn 20 35 ls st σ Q := g_if_icmp (show decode (mco 20) 32 = .ok (.if_icmp .ne 11, 3) by decide +kernel) rfl cc_ne
theorem u20_35 (x0 : Nat) (v1 : Value) (v2 : Value) (v3 : Value) (v4 : Value) (st : Vs) (σ : Sto) (Q : Option Value → Sto → Prop) : Rn 20 35 [.ref x0, v1, v2, v3, v4] st σ Q ↔ kL x0 ∧ Rn 20 36 [.ref x0, v1, v2, v3, v4] (.ref x0 :: st) σ Q := Rn_if (show decode (mco 20) 35 = .ok (.aload_n 0, 1) by decide +kernel) (fun _ => rfl)
theorem u20_36 (v0 : Value) (v1 : Value) (x2 : Int32) (v3 : Value) (v4 : Value) (st : Vs) (σ : Sto) (Q : Option Value → Sto → Prop) : Rn 20 36 [v0, v1, .int x2, v3, v4] st σ Q ↔ Rn 20 37 [v0, v1, .int x2, v3, v4] (.int x2 :: st) σ Q := Rn_of (show decode (mco 20) 36 = .ok (.iload_n 2, 1) by decide +kernel) (fun _ => rfl)
theorem u20_37 (a : Nat) (x0 : Int32) (ls : Vs) (I : Nat → Nat → Int32) (J : Nat → Nat → Int64) (Q : Option Value → Sto → Prop) : Rn 20 37 ls [.int x0, .ref a] (Sg I J) Q ↔ kA a 6 ∧ Ca 21 [.ref a, .int x0] (Sg I J) 20 40 ls [] Q := g_vir (t := 21) (nn := 1) (as0 := [.int x0]) (show decode (mco 20) 37 = .ok (.invokevirtual 53, 3) by decide +kernel) (by decide +kernel) rfl rfl ⟨rfl, Nat.le_of_ble_eq_true rfl, Nat.le_of_ble_eq_true rfl, Nat.le_of_ble_eq_true rfl⟩
theorem u20_40 (x : Int32) (ls : Vs) (st : Vs) (σ : Sto) (Q : Option Value → Sto → Prop) : Rn 20 40 ls (.int x :: st) σ Q ↔ if x = 0 then Rn 20 45 ls st σ Q else Rn 20 43 ls st σ Q := g_ifCond (show decode (mco 20) 40 = .ok (.ifCond .eq 5, 3) by decide +kernel) rfl cz_eq
theorem u20_43  (ls : Vs) (st : Vs) (σ : Sto) (Q : Option Value → Sto → Prop) : Rn 20 43 ls st σ Q ↔ Rn 20 44 ls (.int 0 :: st) σ Q := Rn_of (show decode (mco 20) 43 = .ok (.iconst 0, 1) by decide +kernel) (fun _ => rfl)
theorem u20_44 (x : Int32) (ls : Vs) (σ : Sto) (Q : Option Value → Sto → Prop) : Rn 20 44 ls [.int x] σ Q ↔ (x = 0 ∨ x = 1) ∧ Q (some (.int x)) σ := g_zret (show decode (mco 20) 44 = .ok (.ireturn, 1) by decide +kernel) rfl
theorem u20_45  (ls : Vs) (st : Vs) (σ : Sto) (Q : Option Value → Sto → Prop) : Rn 20 45 ls st σ Q ↔ Rn 20 46 ls (.int 0 :: st) σ Q := Rn_of (show decode (mco 20) 45 = .ok (.iconst 0, 1) by decide +kernel) (fun _ => rfl)
theorem u20_46 (v0 : Value) (v1 : Value) (x2 : Int32) (v3 : Value) (v4 : Value) (y : Int32) (st : Vs) (σ : Sto) (Q : Option Value → Sto → Prop) : Rn 20 46 [v0, v1, .int x2, v3, v4] (.int y :: st) σ Q ↔ Rn 20 47 [v0, v1, .int x2, .int y, v4] st σ Q := Rn_of (show decode (mco 20) 46 = .ok (.istore_n 3, 1) by decide +kernel) (fun _ => rfl)
theorem u20_47 (v0 : Value) (v1 : Value) (v2 : Value) (x3 : Int32) (v4 : Value) (st : Vs) (σ : Sto) (Q : Option Value → Sto → Prop) : Rn 20 47 [v0, v1, v2, .int x3, v4] st σ Q ↔ Rn 20 48 [v0, v1, v2, .int x3, v4] (.int x3 :: st) σ Q := Rn_of (show decode (mco 20) 47 = .ok (.iload_n 3, 1) by decide +kernel) (fun _ => rfl)
theorem u20_48 (ls : Vs) (st : Vs) (σ : Sto) (Q : Option Value → Sto → Prop) : Rn 20 48 ls st σ Q ↔ Rn 20 51 ls (.ref 1001 :: st) σ Q := g_gst2 (show decode (mco 20) 48 = .ok (.getstatic 57, 3) by decide +kernel) (by decide +kernel) (by decide)
theorem u20_51 (v0 : Value) (v1 : Value) (x2 : Int32) (v3 : Value) (v4 : Value) (st : Vs) (σ : Sto) (Q : Option Value → Sto → Prop) : Rn 20 51 [v0, v1, .int x2, v3, v4] st σ Q ↔ Rn 20 52 [v0, v1, .int x2, v3, v4] (.int x2 :: st) σ Q := Rn_of (show decode (mco 20) 51 = .ok (.iload_n 2, 1) by decide +kernel) (fun _ => rfl)
theorem u20_52 (a : Nat) (h : 1001 ≤ a ∧ a ≤ 1003) (i : Int32) (ls : Vs) (st : Vs) (I : Nat → Nat → Int32) (J : Nat → Nat → Int64) (Q : Option Value → Sto → Prop) : Rn 20 52 ls (.int i :: .ref a :: st) (Sg I J) Q ↔ inb i (otb.getD (a - 1001) []).length ∧ Rn 20 53 ls (.int ((otb.getD (a - 1001) []).getD i.toNatClampNeg 0) :: st) (Sg I J) Q := g_ialdT (show decode (mco 20) 52 = .ok (.iaload, 1) by decide +kernel) h
theorem u20_53 (x y : Int32) (ls : Vs) (st : Vs) (σ : Sto) (Q : Option Value → Sto → Prop) : Rn 20 53 ls (.int y :: .int x :: st) σ Q ↔ if y ≤ x then Rn 20 122 ls st σ Q else Rn 20 56 ls st σ Q := g_if_icmp (show decode (mco 20) 53 = .ok (.if_icmp .ge 69, 3) by decide +kernel) rfl cc_ge
theorem u20_56 (x0 : Nat) (v1 : Value) (v2 : Value) (v3 : Value) (v4 : Value) (st : Vs) (σ : Sto) (Q : Option Value → Sto → Prop) : Rn 20 56 [.ref x0, v1, v2, v3, v4] st σ Q ↔ kL x0 ∧ Rn 20 57 [.ref x0, v1, v2, v3, v4] (.ref x0 :: st) σ Q := Rn_if (show decode (mco 20) 56 = .ok (.aload_n 0, 1) by decide +kernel) (fun _ => rfl)
theorem u20_57 (a : Nat) (ls : Vs) (I : Nat → Nat → Int32) (J : Nat → Nat → Int64) (Q : Option Value → Sto → Prop) : Rn 20 57 ls [.ref a] (Sg I J) Q ↔ kA a 6 ∧ Ca 23 [.ref a] (Sg I J) 20 60 ls [] Q := g_vir (t := 23) (nn := 0) (as0 := []) (show decode (mco 20) 57 = .ok (.invokevirtual 39, 3) by decide +kernel) (by decide +kernel) rfl rfl ⟨rfl, Nat.le_of_ble_eq_true rfl, Nat.le_of_ble_eq_true rfl, Nat.le_of_ble_eq_true rfl⟩
theorem u20_60 (x0 : Nat) (v1 : Value) (v2 : Value) (v3 : Value) (v4 : Value) (st : Vs) (σ : Sto) (Q : Option Value → Sto → Prop) : Rn 20 60 [.ref x0, v1, v2, v3, v4] st σ Q ↔ kL x0 ∧ Rn 20 61 [.ref x0, v1, v2, v3, v4] (.ref x0 :: st) σ Q := Rn_if (show decode (mco 20) 60 = .ok (.aload_n 0, 1) by decide +kernel) (fun _ => rfl)
theorem u20_61 (a : Nat) (ls : Vs) (st : Vs) (I : Nat → Nat → Int32) (J : Nat → Nat → Int64) (Q : Option Value → Sto → Prop) : Rn 20 61 ls (.ref a :: st) (Sg I J) Q ↔ kA a 6 ∧ Rn 20 64 ls (.int (I a 6) :: st) (Sg I J) Q := g_get0 (show decode (mco 20) 61 = .ok (.getfield 42, 3) by decide +kernel) (by decide +kernel) (by decide) (by decide)
theorem u20_64  (ls : Vs) (st : Vs) (σ : Sto) (Q : Option Value → Sto → Prop) : Rn 20 64 ls st σ Q ↔ Rn 20 65 ls (.int 2 :: st) σ Q := Rn_of (show decode (mco 20) 64 = .ok (.iconst 2, 1) by decide +kernel) (fun _ => rfl)
theorem u20_65 (x y : Int32) (ls : Vs) (st : Vs) (σ : Sto) (Q : Option Value → Sto → Prop) : Rn 20 65 ls (.int y :: .int x :: st) σ Q ↔ if ¬ x = y then Rn 20 75 ls st σ Q else Rn 20 68 ls st σ Q := g_if_icmp (show decode (mco 20) 65 = .ok (.if_icmp .ne 10, 3) by decide +kernel) rfl cc_ne
theorem u20_68 (x0 : Nat) (v1 : Value) (v2 : Value) (v3 : Value) (v4 : Value) (st : Vs) (σ : Sto) (Q : Option Value → Sto → Prop) : Rn 20 68 [.ref x0, v1, v2, v3, v4] st σ Q ↔ kL x0 ∧ Rn 20 69 [.ref x0, v1, v2, v3, v4] (.ref x0 :: st) σ Q := Rn_if (show decode (mco 20) 68 = .ok (.aload_n 0, 1) by decide +kernel) (fun _ => rfl)
theorem u20_69 (a : Nat) (ls : Vs) (I : Nat → Nat → Int32) (J : Nat → Nat → Int64) (Q : Option Value → Sto → Prop) : Rn 20 69 ls [.ref a] (Sg I J) Q ↔ kA a 6 ∧ Ca 25 [.ref a, .null, .null] (Sg I J) 20 72 ls [] Q := g_vir (t := 25) (nn := 0) (as0 := []) (show decode (mco 20) 69 = .ok (.invokevirtual 60, 3) by decide +kernel) (by decide +kernel) rfl rfl ⟨rfl, Nat.le_of_ble_eq_true rfl, Nat.le_of_ble_eq_true rfl, Nat.le_of_ble_eq_true rfl⟩
theorem u20_72 (ls : Vs) (st : Vs) (σ : Sto) (Q : Option Value → Sto → Prop) : Rn 20 72 ls st σ Q ↔ Rn 20 76 ls st σ Q := Rn_of (show decode (mco 20) 72 = .ok (.goto 4, 3) by decide +kernel) (fun _ => rfl)
theorem u20_75  (ls : Vs) (st : Vs) (σ : Sto) (Q : Option Value → Sto → Prop) : Rn 20 75 ls st σ Q ↔ Rn 20 76 ls (.int (-1) :: st) σ Q := Rn_of (show decode (mco 20) 75 = .ok (.iconst (-1), 1) by decide +kernel) (fun _ => rfl)
theorem u20_76 (v0 : Value) (v1 : Value) (v2 : Value) (x3 : Int32) (v4 : Value) (y : Int32) (st : Vs) (σ : Sto) (Q : Option Value → Sto → Prop) : Rn 20 76 [v0, v1, v2, .int x3, v4] (.int y :: st) σ Q ↔ Rn 20 78 [v0, v1, v2, .int x3, .int y] st σ Q := Rn_of (show decode (mco 20) 76 = .ok (.istore 4, 2) by decide +kernel) (fun _ => rfl)
theorem u20_78 (v0 : Value) (v1 : Value) (v2 : Value) (v3 : Value) (x4 : Int32) (st : Vs) (σ : Sto) (Q : Option Value → Sto → Prop) : Rn 20 78 [v0, v1, v2, v3, .int x4] st σ Q ↔ Rn 20 80 [v0, v1, v2, v3, .int x4] (.int x4 :: st) σ Q := Rn_of (show decode (mco 20) 78 = .ok (.iload 4, 2) by decide +kernel) (fun _ => rfl)
theorem u20_80 (ls : Vs) (st : Vs) (σ : Sto) (Q : Option Value → Sto → Prop) : Rn 20 80 ls st σ Q ↔ Rn 20 83 ls (.ref 1002 :: st) σ Q := g_gst2 (show decode (mco 20) 80 = .ok (.getstatic 63, 3) by decide +kernel) (by decide +kernel) (by decide)
theorem u20_83 (v0 : Value) (v1 : Value) (x2 : Int32) (v3 : Value) (v4 : Value) (st : Vs) (σ : Sto) (Q : Option Value → Sto → Prop) : Rn 20 83 [v0, v1, .int x2, v3, v4] st σ Q ↔ Rn 20 84 [v0, v1, .int x2, v3, v4] (.int x2 :: st) σ Q := Rn_of (show decode (mco 20) 83 = .ok (.iload_n 2, 1) by decide +kernel) (fun _ => rfl)
theorem u20_84  (ls : Vs) (st : Vs) (σ : Sto) (Q : Option Value → Sto → Prop) : Rn 20 84 ls st σ Q ↔ Rn 20 85 ls (.int 3 :: st) σ Q := Rn_of (show decode (mco 20) 84 = .ok (.iconst 3, 1) by decide +kernel) (fun _ => rfl)
theorem u20_85 (x y : Int32) (ls : Vs) (st : Vs) (σ : Sto) (Q : Option Value → Sto → Prop) : Rn 20 85 ls (.int y :: .int x :: st) σ Q ↔ Rn 20 86 ls (.int (x * y) :: st) σ Q := Rn_of (show decode (mco 20) 85 = .ok (.imul, 1) by decide +kernel) (fun _ => rfl)
theorem u20_86 (v0 : Value) (v1 : Value) (v2 : Value) (x3 : Int32) (v4 : Value) (st : Vs) (σ : Sto) (Q : Option Value → Sto → Prop) : Rn 20 86 [v0, v1, v2, .int x3, v4] st σ Q ↔ Rn 20 87 [v0, v1, v2, .int x3, v4] (.int x3 :: st) σ Q := Rn_of (show decode (mco 20) 86 = .ok (.iload_n 3, 1) by decide +kernel) (fun _ => rfl)
theorem u20_87 (x y : Int32) (ls : Vs) (st : Vs) (σ : Sto) (Q : Option Value → Sto → Prop) : Rn 20 87 ls (.int y :: .int x :: st) σ Q ↔ Rn 20 88 ls (.int (x + y) :: st) σ Q := Rn_of (show decode (mco 20) 87 = .ok (.iadd, 1) by decide +kernel) (fun _ => rfl)
theorem u20_88 (a : Nat) (h : 1001 ≤ a ∧ a ≤ 1003) (i : Int32) (ls : Vs) (st : Vs) (I : Nat → Nat → Int32) (J : Nat → Nat → Int64) (Q : Option Value → Sto → Prop) : Rn 20 88 ls (.int i :: .ref a :: st) (Sg I J) Q ↔ inb i (otb.getD (a - 1001) []).length ∧ Rn 20 89 ls (.int ((otb.getD (a - 1001) []).getD i.toNatClampNeg 0) :: st) (Sg I J) Q := g_ialdT (show decode (mco 20) 88 = .ok (.iaload, 1) by decide +kernel) h
theorem u20_89 (x y : Int32) (ls : Vs) (st : Vs) (σ : Sto) (Q : Option Value → Sto → Prop) : Rn 20 89 ls (.int y :: .int x :: st) σ Q ↔ if x < y then Rn 20 106 ls st σ Q else Rn 20 92 ls st σ Q := g_if_icmp (show decode (mco 20) 89 = .ok (.if_icmp .lt 17, 3) by decide +kernel) rfl cc_lt
theorem u20_92 (v0 : Value) (v1 : Value) (v2 : Value) (v3 : Value) (x4 : Int32) (st : Vs) (σ : Sto) (Q : Option Value → Sto → Prop) : Rn 20 92 [v0, v1, v2, v3, .int x4] st σ Q ↔ Rn 20 94 [v0, v1, v2, v3, .int x4] (.int x4 :: st) σ Q := Rn_of (show decode (mco 20) 92 = .ok (.iload 4, 2) by decide +kernel) (fun _ => rfl)
theorem u20_94 (ls : Vs) (st : Vs) (σ : Sto) (Q : Option Value → Sto → Prop) : Rn 20 94 ls st σ Q ↔ Rn 20 97 ls (.ref 1003 :: st) σ Q := g_gst2 (show decode (mco 20) 94 = .ok (.getstatic 66, 3) by decide +kernel) (by decide +kernel) (by decide)
theorem u20_97 (v0 : Value) (v1 : Value) (x2 : Int32) (v3 : Value) (v4 : Value) (st : Vs) (σ : Sto) (Q : Option Value → Sto → Prop) : Rn 20 97 [v0, v1, .int x2, v3, v4] st σ Q ↔ Rn 20 98 [v0, v1, .int x2, v3, v4] (.int x2 :: st) σ Q := Rn_of (show decode (mco 20) 97 = .ok (.iload_n 2, 1) by decide +kernel) (fun _ => rfl)
theorem u20_98  (ls : Vs) (st : Vs) (σ : Sto) (Q : Option Value → Sto → Prop) : Rn 20 98 ls st σ Q ↔ Rn 20 99 ls (.int 3 :: st) σ Q := Rn_of (show decode (mco 20) 98 = .ok (.iconst 3, 1) by decide +kernel) (fun _ => rfl)
theorem u20_99 (x y : Int32) (ls : Vs) (st : Vs) (σ : Sto) (Q : Option Value → Sto → Prop) : Rn 20 99 ls (.int y :: .int x :: st) σ Q ↔ Rn 20 100 ls (.int (x * y) :: st) σ Q := Rn_of (show decode (mco 20) 99 = .ok (.imul, 1) by decide +kernel) (fun _ => rfl)
theorem u20_100 (v0 : Value) (v1 : Value) (v2 : Value) (x3 : Int32) (v4 : Value) (st : Vs) (σ : Sto) (Q : Option Value → Sto → Prop) : Rn 20 100 [v0, v1, v2, .int x3, v4] st σ Q ↔ Rn 20 101 [v0, v1, v2, .int x3, v4] (.int x3 :: st) σ Q := Rn_of (show decode (mco 20) 100 = .ok (.iload_n 3, 1) by decide +kernel) (fun _ => rfl)
theorem u20_101 (x y : Int32) (ls : Vs) (st : Vs) (σ : Sto) (Q : Option Value → Sto → Prop) : Rn 20 101 ls (.int y :: .int x :: st) σ Q ↔ Rn 20 102 ls (.int (x + y) :: st) σ Q := Rn_of (show decode (mco 20) 101 = .ok (.iadd, 1) by decide +kernel) (fun _ => rfl)
theorem u20_102 (a : Nat) (h : 1001 ≤ a ∧ a ≤ 1003) (i : Int32) (ls : Vs) (st : Vs) (I : Nat → Nat → Int32) (J : Nat → Nat → Int64) (Q : Option Value → Sto → Prop) : Rn 20 102 ls (.int i :: .ref a :: st) (Sg I J) Q ↔ inb i (otb.getD (a - 1001) []).length ∧ Rn 20 103 ls (.int ((otb.getD (a - 1001) []).getD i.toNatClampNeg 0) :: st) (Sg I J) Q := g_ialdT (show decode (mco 20) 102 = .ok (.iaload, 1) by decide +kernel) h
theorem u20_103 (x y : Int32) (ls : Vs) (st : Vs) (σ : Sto) (Q : Option Value → Sto → Prop) : Rn 20 103 ls (.int y :: .int x :: st) σ Q ↔ if x ≤ y then Rn 20 108 ls st σ Q else Rn 20 106 ls st σ Q := g_if_icmp (show decode (mco 20) 103 = .ok (.if_icmp .le 5, 3) by decide +kernel) rfl cc_le
theorem u20_106  (ls : Vs) (st : Vs) (σ : Sto) (Q : Option Value → Sto → Prop) : Rn 20 106 ls st σ Q ↔ Rn 20 107 ls (.int 0 :: st) σ Q := Rn_of (show decode (mco 20) 106 = .ok (.iconst 0, 1) by decide +kernel) (fun _ => rfl)
theorem u20_107 (x : Int32) (ls : Vs) (σ : Sto) (Q : Option Value → Sto → Prop) : Rn 20 107 ls [.int x] σ Q ↔ (x = 0 ∨ x = 1) ∧ Q (some (.int x)) σ := g_zret (show decode (mco 20) 107 = .ok (.ireturn, 1) by decide +kernel) rfl
theorem u20_108 (x0 : Nat) (v1 : Value) (v2 : Value) (v3 : Value) (v4 : Value) (st : Vs) (σ : Sto) (Q : Option Value → Sto → Prop) : Rn 20 108 [.ref x0, v1, v2, v3, v4] st σ Q ↔ kL x0 ∧ Rn 20 109 [.ref x0, v1, v2, v3, v4] (.ref x0 :: st) σ Q := Rn_if (show decode (mco 20) 108 = .ok (.aload_n 0, 1) by decide +kernel) (fun _ => rfl)
theorem u20_109 (a : Nat) (ls : Vs) (st : Vs) (I : Nat → Nat → Int32) (J : Nat → Nat → Int64) (Q : Option Value → Sto → Prop) : Rn 20 109 ls (.ref a :: st) (Sg I J) Q ↔ kA a 6 ∧ Rn 20 112 ls (.ref (rf a 2) :: st) (Sg I J) Q := g_get2 (show decode (mco 20) 109 = .ok (.getfield 15, 3) by decide +kernel) (by decide +kernel) (by decide) (by decide)
theorem u20_112 (v0 : Value) (v1 : Value) (v2 : Value) (x3 : Int32) (v4 : Value) (st : Vs) (σ : Sto) (Q : Option Value → Sto → Prop) : Rn 20 112 [v0, v1, v2, .int x3, v4] st σ Q ↔ Rn 20 113 [v0, v1, v2, .int x3, v4] (.int x3 :: st) σ Q := Rn_of (show decode (mco 20) 112 = .ok (.iload_n 3, 1) by decide +kernel) (fun _ => rfl)
theorem u20_113 (v0 : Value) (v1 : Value) (v2 : Value) (v3 : Value) (x4 : Int32) (st : Vs) (σ : Sto) (Q : Option Value → Sto → Prop) : Rn 20 113 [v0, v1, v2, v3, .int x4] st σ Q ↔ Rn 20 115 [v0, v1, v2, v3, .int x4] (.int x4 :: st) σ Q := Rn_of (show decode (mco 20) 113 = .ok (.iload 4, 2) by decide +kernel) (fun _ => rfl)
theorem u20_115 (x i : Int32) (a : Nat) (ls : Vs) (st : Vs) (I : Nat → Nat → Int32) (J : Nat → Nat → Int64) (Q : Option Value → Sto → Prop) : Rn 20 115 ls (.int x :: .int i :: .ref a :: st) (Sg I J) Q ↔ (kA a 20 ∧ inb i (tg a).2) ∧ Rn 20 116 ls st (Sg (wI I a i.toNatClampNeg x) J) Q := g_iast (show decode (mco 20) 115 = .ok (.iastore, 1) by decide +kernel)
theorem u20_116 (v0 : Value) (v1 : Value) (x2 : Int32) (x3 : Int32) (v4 : Value) (st : Vs) (σ : Sto) (Q : Option Value → Sto → Prop) : Rn 20 116 [v0, v1, .int x2, .int x3, v4] st σ Q ↔ Rn 20 119 [v0, v1, .int x2, .int (x3 + 1), v4] st σ Q := Rn_of (show decode (mco 20) 116 = .ok (.iinc 3 1, 3) by decide +kernel) (fun _ => rfl)
theorem u20_119 (ls : Vs) (st : Vs) (σ : Sto) (Q : Option Value → Sto → Prop) : Rn 20 119 ls st σ Q ↔ Rn 20 47 ls st σ Q := Rn_of (show decode (mco 20) 119 = .ok (.goto (-72), 3) by decide +kernel) (fun _ => rfl)
theorem u20_122 (x0 : Nat) (v1 : Value) (v2 : Value) (v3 : Value) (v4 : Value) (st : Vs) (σ : Sto) (Q : Option Value → Sto → Prop) : Rn 20 122 [.ref x0, v1, v2, v3, v4] st σ Q ↔ kL x0 ∧ Rn 20 123 [.ref x0, v1, v2, v3, v4] (.ref x0 :: st) σ Q := Rn_if (show decode (mco 20) 122 = .ok (.aload_n 0, 1) by decide +kernel) (fun _ => rfl)
theorem u20_123 (a : Nat) (ls : Vs) (I : Nat → Nat → Int32) (J : Nat → Nat → Int64) (Q : Option Value → Sto → Prop) : Rn 20 123 ls [.ref a] (Sg I J) Q ↔ kA a 6 ∧ Ca 23 [.ref a] (Sg I J) 20 126 ls [] Q := g_vir (t := 23) (nn := 0) (as0 := []) (show decode (mco 20) 123 = .ok (.invokevirtual 39, 3) by decide +kernel) (by decide +kernel) rfl rfl ⟨rfl, Nat.le_of_ble_eq_true rfl, Nat.le_of_ble_eq_true rfl, Nat.le_of_ble_eq_true rfl⟩
theorem u20_126 (x0 : Nat) (v1 : Value) (v2 : Value) (v3 : Value) (v4 : Value) (st : Vs) (σ : Sto) (Q : Option Value → Sto → Prop) : Rn 20 126 [.ref x0, v1, v2, v3, v4] st σ Q ↔ kL x0 ∧ Rn 20 127 [.ref x0, v1, v2, v3, v4] (.ref x0 :: st) σ Q := Rn_if (show decode (mco 20) 126 = .ok (.aload_n 0, 1) by decide +kernel) (fun _ => rfl)
theorem u20_127 (a : Nat) (ls : Vs) (st : Vs) (I : Nat → Nat → Int32) (J : Nat → Nat → Int64) (Q : Option Value → Sto → Prop) : Rn 20 127 ls (.ref a :: st) (Sg I J) Q ↔ kA a 6 ∧ Rn 20 130 ls (.int (I a 6) :: st) (Sg I J) Q := g_get0 (show decode (mco 20) 127 = .ok (.getfield 42, 3) by decide +kernel) (by decide +kernel) (by decide) (by decide)
theorem u20_130  (ls : Vs) (st : Vs) (σ : Sto) (Q : Option Value → Sto → Prop) : Rn 20 130 ls st σ Q ↔ Rn 20 131 ls (.int 3 :: st) σ Q := Rn_of (show decode (mco 20) 130 = .ok (.iconst 3, 1) by decide +kernel) (fun _ => rfl)
theorem u20_131 (x y : Int32) (ls : Vs) (st : Vs) (σ : Sto) (Q : Option Value → Sto → Prop) : Rn 20 131 ls (.int y :: .int x :: st) σ Q ↔ if x = y then Rn 20 136 ls st σ Q else Rn 20 134 ls st σ Q := g_if_icmp (show decode (mco 20) 131 = .ok (.if_icmp .eq 5, 3) by decide +kernel) rfl cc_eq
theorem u20_134  (ls : Vs) (st : Vs) (σ : Sto) (Q : Option Value → Sto → Prop) : Rn 20 134 ls st σ Q ↔ Rn 20 135 ls (.int 0 :: st) σ Q := Rn_of (show decode (mco 20) 134 = .ok (.iconst 0, 1) by decide +kernel) (fun _ => rfl)
theorem u20_135 (x : Int32) (ls : Vs) (σ : Sto) (Q : Option Value → Sto → Prop) : Rn 20 135 ls [.int x] σ Q ↔ (x = 0 ∨ x = 1) ∧ Q (some (.int x)) σ := g_zret (show decode (mco 20) 135 = .ok (.ireturn, 1) by decide +kernel) rfl
theorem u20_136 (x0 : Nat) (v1 : Value) (v2 : Value) (v3 : Value) (v4 : Value) (st : Vs) (σ : Sto) (Q : Option Value → Sto → Prop) : Rn 20 136 [.ref x0, v1, v2, v3, v4] st σ Q ↔ kL x0 ∧ Rn 20 137 [.ref x0, v1, v2, v3, v4] (.ref x0 :: st) σ Q := Rn_if (show decode (mco 20) 136 = .ok (.aload_n 0, 1) by decide +kernel) (fun _ => rfl)
theorem u20_137 (v0 : Value) (v1 : Value) (x2 : Int32) (v3 : Value) (v4 : Value) (st : Vs) (σ : Sto) (Q : Option Value → Sto → Prop) : Rn 20 137 [v0, v1, .int x2, v3, v4] st σ Q ↔ Rn 20 138 [v0, v1, .int x2, v3, v4] (.int x2 :: st) σ Q := Rn_of (show decode (mco 20) 137 = .ok (.iload_n 2, 1) by decide +kernel) (fun _ => rfl)
theorem u20_138 (a : Nat) (x0 : Int32) (ls : Vs) (I : Nat → Nat → Int32) (J : Nat → Nat → Int64) (Q : Option Value → Sto → Prop) : Rn 20 138 ls [.int x0, .ref a] (Sg I J) Q ↔ kA a 6 ∧ Ca 22 [.ref a, .int x0] (Sg I J) 20 141 ls [] Q := g_vir (t := 22) (nn := 1) (as0 := [.int x0]) (show decode (mco 20) 138 = .ok (.invokevirtual 69, 3) by decide +kernel) (by decide +kernel) rfl rfl ⟨rfl, Nat.le_of_ble_eq_true rfl, Nat.le_of_ble_eq_true rfl, Nat.le_of_ble_eq_true rfl⟩
theorem u20_141  (ls : Vs) (st : Vs) (σ : Sto) (Q : Option Value → Sto → Prop) : Rn 20 141 ls st σ Q ↔ Rn 20 142 ls (.int 1 :: st) σ Q := Rn_of (show decode (mco 20) 141 = .ok (.iconst 1, 1) by decide +kernel) (fun _ => rfl)
theorem u20_142 (x : Int32) (ls : Vs) (σ : Sto) (Q : Option Value → Sto → Prop) : Rn 20 142 ls [.int x] σ Q ↔ (x = 0 ∨ x = 1) ∧ Q (some (.int x)) σ := g_zret (show decode (mco 20) 142 = .ok (.ireturn, 1) by decide +kernel) rfl
theorem u142_0 (v0 : Value) (x1 : Int32) (v2 : Value) (v3 : Value) (st : Vs) (σ : Sto) (Q : Option Value → Sto → Prop) : Rn 142 0 [v0, .int x1, v2, v3] st σ Q ↔ Rn 142 1 [v0, .int x1, v2, v3] (.int x1 :: st) σ Q := Rn_of (show decode (mco 142) 0 = .ok (.iload_n 1, 1) by decide +kernel) (fun _ => rfl)
theorem u142_1 (x : Int32) (ls : Vs) (st : Vs) (σ : Sto) (Q : Option Value → Sto → Prop) : Rn 142 1 ls (.int x :: st) σ Q ↔ Rn 142 2 ls (.long x.toInt64 :: st) σ Q := Rn_of (show decode (mco 142) 1 = .ok (.i2l, 1) by decide +kernel) (fun _ => rfl)
theorem u142_2  (ls : Vs) (st : Vs) (σ : Sto) (Q : Option Value → Sto → Prop) : Rn 142 2 ls st σ Q ↔ Rn 142 3 ls (.long 1 :: st) σ Q := Rn_of (show decode (mco 142) 2 = .ok (.lconst 1, 1) by decide +kernel) (fun _ => rfl)
theorem u142_3 (ls : Vs) (st : Vs) (σ : Sto) (Q : Option Value → Sto → Prop) : Rn 142 3 ls st σ Q ↔ Rn 142 6 ls (.long 60 :: st) σ Q := g_ldc2_w (show decode (mco 142) 3 = .ok (.ldc2_w 94, 3) by decide +kernel) (by decide +kernel)
theorem u142_6 (x0 : Int64) (x1 : Int64) (x2 : Int64) (ls : Vs) (I : Nat → Nat → Int32) (J : Nat → Nat → Int64) (Q : Option Value → Sto → Prop) : Rn 142 6 ls [.long x2, .long x1, .long x0] (Sg I J) Q ↔ Ca 113 [.long x0, .null, .long x1, .null, .long x2, .null] (Sg I J) 142 9 ls [] Q := g_sta1 (t := 113) (nn := 3) (as := [.long x0, .long x1, .long x2]) (show decode (mco 142) 6 = .ok (.invokestatic 62, 3) by decide +kernel) (by decide +kernel) rfl rfl ⟨rfl, Nat.le_of_ble_eq_true rfl, Nat.le_of_ble_eq_true rfl, Nat.le_of_ble_eq_true rfl⟩
theorem u142_9 (x : Int32) (ls : Vs) (st : Vs) (σ : Sto) (Q : Option Value → Sto → Prop) : Rn 142 9 ls (.int x :: st) σ Q ↔ if ¬ x = 0 then Rn 142 19 ls st σ Q else Rn 142 12 ls st σ Q := g_ifCond (show decode (mco 142) 9 = .ok (.ifCond .ne 10, 3) by decide +kernel) rfl cz_ne
theorem u142_12 (x0 : Nat) (v1 : Value) (v2 : Value) (v3 : Value) (st : Vs) (σ : Sto) (Q : Option Value → Sto → Prop) : Rn 142 12 [.ref x0, v1, v2, v3] st σ Q ↔ kL x0 ∧ Rn 142 13 [.ref x0, v1, v2, v3] (.ref x0 :: st) σ Q := Rn_if (show decode (mco 142) 12 = .ok (.aload_n 0, 1) by decide +kernel) (fun _ => rfl)
theorem u142_13  (ls : Vs) (st : Vs) (σ : Sto) (Q : Option Value → Sto → Prop) : Rn 142 13 ls st σ Q ↔ Rn 142 15 ls (.int (-2) :: st) σ Q := Rn_of (show decode (mco 142) 13 = .ok (.bipush (-2), 2) by decide +kernel) (fun _ => rfl)
theorem u142_15 (a : Nat) (x0 : Int32) (ls : Vs) (I : Nat → Nat → Int32) (J : Nat → Nat → Int64) (Q : Option Value → Sto → Prop) : Rn 142 15 ls [.int x0, .ref a] (Sg I J) Q ↔ kA a 12 ∧ Ca 114 [.ref a, .int x0] (Sg I J) 142 18 ls [] Q := g_vir (t := 114) (nn := 1) (as0 := [.int x0]) (show decode (mco 142) 15 = .ok (.invokevirtual 74, 3) by decide +kernel) (by decide +kernel) rfl rfl ⟨rfl, Nat.le_of_ble_eq_true rfl, Nat.le_of_ble_eq_true rfl, Nat.le_of_ble_eq_true rfl⟩
theorem u142_18 (x : Int32) (ls : Vs) (σ : Sto) (Q : Option Value → Sto → Prop) : Rn 142 18 ls [.int x] σ Q ↔ Q (some (.int x)) σ := g_iret (show decode (mco 142) 18 = .ok (.ireturn, 1) by decide +kernel) rfl
theorem u142_19  (ls : Vs) (st : Vs) (σ : Sto) (Q : Option Value → Sto → Prop) : Rn 142 19 ls st σ Q ↔ Rn 142 20 ls (.int 0 :: st) σ Q := Rn_of (show decode (mco 142) 19 = .ok (.iconst 0, 1) by decide +kernel) (fun _ => rfl)
theorem u142_20 (v0 : Value) (x1 : Int32) (v2 : Value) (v3 : Value) (y : Int32) (st : Vs) (σ : Sto) (Q : Option Value → Sto → Prop) : Rn 142 20 [v0, .int x1, v2, v3] (.int y :: st) σ Q ↔ Rn 142 21 [v0, .int x1, .int y, v3] st σ Q := Rn_of (show decode (mco 142) 20 = .ok (.istore_n 2, 1) by decide +kernel) (fun _ => rfl)
theorem u142_21 (v0 : Value) (v1 : Value) (x2 : Int32) (v3 : Value) (st : Vs) (σ : Sto) (Q : Option Value → Sto → Prop) : Rn 142 21 [v0, v1, .int x2, v3] st σ Q ↔ Rn 142 22 [v0, v1, .int x2, v3] (.int x2 :: st) σ Q := Rn_of (show decode (mco 142) 21 = .ok (.iload_n 2, 1) by decide +kernel) (fun _ => rfl)
theorem u142_22 (v0 : Value) (x1 : Int32) (v2 : Value) (v3 : Value) (st : Vs) (σ : Sto) (Q : Option Value → Sto → Prop) : Rn 142 22 [v0, .int x1, v2, v3] st σ Q ↔ Rn 142 23 [v0, .int x1, v2, v3] (.int x1 :: st) σ Q := Rn_of (show decode (mco 142) 22 = .ok (.iload_n 1, 1) by decide +kernel) (fun _ => rfl)
theorem u142_23 (x y : Int32) (ls : Vs) (st : Vs) (σ : Sto) (Q : Option Value → Sto → Prop) : Rn 142 23 ls (.int y :: .int x :: st) σ Q ↔ if y ≤ x then Rn 142 86 ls st σ Q else Rn 142 26 ls st σ Q := g_if_icmp (show decode (mco 142) 23 = .ok (.if_icmp .ge 63, 3) by decide +kernel) rfl cc_ge
theorem u142_26 (x0 : Nat) (v1 : Value) (v2 : Value) (v3 : Value) (st : Vs) (σ : Sto) (Q : Option Value → Sto → Prop) : Rn 142 26 [.ref x0, v1, v2, v3] st σ Q ↔ kL x0 ∧ Rn 142 27 [.ref x0, v1, v2, v3] (.ref x0 :: st) σ Q := Rn_if (show decode (mco 142) 26 = .ok (.aload_n 0, 1) by decide +kernel) (fun _ => rfl)
theorem u142_27 (a : Nat) (ls : Vs) (I : Nat → Nat → Int32) (J : Nat → Nat → Int64) (Q : Option Value → Sto → Prop) : Rn 142 27 ls [.ref a] (Sg I J) Q ↔ kA a 12 ∧ Ca 127 [.ref a, .null, .null] (Sg I J) 142 30 ls [] Q := g_vir (t := 127) (nn := 0) (as0 := []) (show decode (mco 142) 27 = .ok (.invokevirtual 78, 3) by decide +kernel) (by decide +kernel) rfl rfl ⟨rfl, Nat.le_of_ble_eq_true rfl, Nat.le_of_ble_eq_true rfl, Nat.le_of_ble_eq_true rfl⟩
theorem u142_30 (x0 : Nat) (v1 : Value) (v2 : Value) (v3 : Value) (st : Vs) (σ : Sto) (Q : Option Value → Sto → Prop) : Rn 142 30 [.ref x0, v1, v2, v3] st σ Q ↔ kL x0 ∧ Rn 142 31 [.ref x0, v1, v2, v3] (.ref x0 :: st) σ Q := Rn_if (show decode (mco 142) 30 = .ok (.aload_n 0, 1) by decide +kernel) (fun _ => rfl)
theorem u142_31 (a : Nat) (ls : Vs) (I : Nat → Nat → Int32) (J : Nat → Nat → Int64) (Q : Option Value → Sto → Prop) : Rn 142 31 ls [.ref a] (Sg I J) Q ↔ kA a 12 ∧ Ca 135 [.ref a, .null] (Sg I J) 142 34 ls [] Q := g_vir (t := 135) (nn := 0) (as0 := []) (show decode (mco 142) 31 = .ok (.invokevirtual 128, 3) by decide +kernel) (by decide +kernel) rfl rfl ⟨rfl, Nat.le_of_ble_eq_true rfl, Nat.le_of_ble_eq_true rfl, Nat.le_of_ble_eq_true rfl⟩
theorem u142_34 (x0 : Nat) (v1 : Value) (v2 : Value) (v3 : Value) (st : Vs) (σ : Sto) (Q : Option Value → Sto → Prop) : Rn 142 34 [.ref x0, v1, v2, v3] st σ Q ↔ kL x0 ∧ Rn 142 35 [.ref x0, v1, v2, v3] (.ref x0 :: st) σ Q := Rn_if (show decode (mco 142) 34 = .ok (.aload_n 0, 1) by decide +kernel) (fun _ => rfl)
theorem u142_35 (x0 : Nat) (v1 : Value) (v2 : Value) (v3 : Value) (st : Vs) (σ : Sto) (Q : Option Value → Sto → Prop) : Rn 142 35 [.ref x0, v1, v2, v3] st σ Q ↔ kL x0 ∧ Rn 142 36 [.ref x0, v1, v2, v3] (.ref x0 :: st) σ Q := Rn_if (show decode (mco 142) 35 = .ok (.aload_n 0, 1) by decide +kernel) (fun _ => rfl)
theorem u142_36 (a : Nat) (w0 : Value) (ls : Vs) (I : Nat → Nat → Int32) (J : Nat → Nat → Int64) (Q : Option Value → Sto → Prop) : Rn 142 36 ls [.ref a, w0] (Sg I J) Q ↔ kA a 12 ∧ Ca 140 [.ref a] (Sg I J) 142 39 ls [w0] Q := g_vir (t := 140) (nn := 0) (as0 := []) (show decode (mco 142) 36 = .ok (.invokevirtual 131, 3) by decide +kernel) (by decide +kernel) rfl rfl ⟨rfl, Nat.le_of_ble_eq_true rfl, Nat.le_of_ble_eq_true rfl, Nat.le_of_ble_eq_true rfl⟩
theorem u142_39 (a : Nat) (x0 : Int32) (ls : Vs) (I : Nat → Nat → Int32) (J : Nat → Nat → Int64) (Q : Option Value → Sto → Prop) : Rn 142 39 ls [.int x0, .ref a] (Sg I J) Q ↔ kA a 12 ∧ Ca 139 [.ref a, .int x0, .null, .null, .null, .null] (Sg I J) 142 42 ls [] Q := g_vir (t := 139) (nn := 1) (as0 := [.int x0]) (show decode (mco 142) 39 = .ok (.invokevirtual 124, 3) by decide +kernel) (by decide +kernel) rfl rfl ⟨rfl, Nat.le_of_ble_eq_true rfl, Nat.le_of_ble_eq_true rfl, Nat.le_of_ble_eq_true rfl⟩
theorem u142_42  (ls : Vs) (st : Vs) (σ : Sto) (Q : Option Value → Sto → Prop) : Rn 142 42 ls st σ Q ↔ Rn 142 43 ls (.int 0 :: st) σ Q := Rn_of (show decode (mco 142) 42 = .ok (.iconst 0, 1) by decide +kernel) (fun _ => rfl)
theorem u142_43 (v0 : Value) (v1 : Value) (x2 : Int32) (v3 : Value) (y : Int32) (st : Vs) (σ : Sto) (Q : Option Value → Sto → Prop) : Rn 142 43 [v0, v1, .int x2, v3] (.int y :: st) σ Q ↔ Rn 142 44 [v0, v1, .int x2, .int y] st σ Q := Rn_of (show decode (mco 142) 43 = .ok (.istore_n 3, 1) by decide +kernel) (fun _ => rfl)
theorem u142_44 (v0 : Value) (v1 : Value) (v2 : Value) (x3 : Int32) (st : Vs) (σ : Sto) (Q : Option Value → Sto → Prop) : Rn 142 44 [v0, v1, v2, .int x3] st σ Q ↔ Rn 142 45 [v0, v1, v2, .int x3] (.int x3 :: st) σ Q := Rn_of (show decode (mco 142) 44 = .ok (.iload_n 3, 1) by decide +kernel) (fun _ => rfl)
theorem u142_45  (ls : Vs) (st : Vs) (σ : Sto) (Q : Option Value → Sto → Prop) : Rn 142 45 ls st σ Q ↔ Rn 142 47 ls (.int 8 :: st) σ Q := Rn_of (show decode (mco 142) 45 = .ok (.bipush 8, 2) by decide +kernel) (fun _ => rfl)
theorem u142_47 (x y : Int32) (ls : Vs) (st : Vs) (σ : Sto) (Q : Option Value → Sto → Prop) : Rn 142 47 ls (.int y :: .int x :: st) σ Q ↔ if y ≤ x then Rn 142 70 ls st σ Q else Rn 142 50 ls st σ Q := g_if_icmp (show decode (mco 142) 47 = .ok (.if_icmp .ge 23, 3) by decide +kernel) rfl cc_ge
theorem u142_50 (x0 : Nat) (v1 : Value) (v2 : Value) (v3 : Value) (st : Vs) (σ : Sto) (Q : Option Value → Sto → Prop) : Rn 142 50 [.ref x0, v1, v2, v3] st σ Q ↔ kL x0 ∧ Rn 142 51 [.ref x0, v1, v2, v3] (.ref x0 :: st) σ Q := Rn_if (show decode (mco 142) 50 = .ok (.aload_n 0, 1) by decide +kernel) (fun _ => rfl)
theorem u142_51 (a : Nat) (ls : Vs) (st : Vs) (I : Nat → Nat → Int32) (J : Nat → Nat → Int64) (Q : Option Value → Sto → Prop) : Rn 142 51 ls (.ref a :: st) (Sg I J) Q ↔ kA a 12 ∧ Rn 142 54 ls (.ref (rf a 0) :: st) (Sg I J) Q := g_get2 (show decode (mco 142) 51 = .ok (.getfield 7, 3) by decide +kernel) (by decide +kernel) (by decide) (by decide)
theorem u142_54  (ls : Vs) (st : Vs) (σ : Sto) (Q : Option Value → Sto → Prop) : Rn 142 54 ls st σ Q ↔ Rn 142 55 ls (.int 5 :: st) σ Q := Rn_of (show decode (mco 142) 54 = .ok (.iconst 5, 1) by decide +kernel) (fun _ => rfl)
theorem u142_55 (v0 : Value) (v1 : Value) (v2 : Value) (x3 : Int32) (st : Vs) (σ : Sto) (Q : Option Value → Sto → Prop) : Rn 142 55 [v0, v1, v2, .int x3] st σ Q ↔ Rn 142 56 [v0, v1, v2, .int x3] (.int x3 :: st) σ Q := Rn_of (show decode (mco 142) 55 = .ok (.iload_n 3, 1) by decide +kernel) (fun _ => rfl)
theorem u142_56 (x y : Int32) (ls : Vs) (st : Vs) (σ : Sto) (Q : Option Value → Sto → Prop) : Rn 142 56 ls (.int y :: .int x :: st) σ Q ↔ Rn 142 57 ls (.int (x + y) :: st) σ Q := Rn_of (show decode (mco 142) 56 = .ok (.iadd, 1) by decide +kernel) (fun _ => rfl)
theorem u142_57 (x0 : Nat) (v1 : Value) (v2 : Value) (v3 : Value) (st : Vs) (σ : Sto) (Q : Option Value → Sto → Prop) : Rn 142 57 [.ref x0, v1, v2, v3] st σ Q ↔ kL x0 ∧ Rn 142 58 [.ref x0, v1, v2, v3] (.ref x0 :: st) σ Q := Rn_if (show decode (mco 142) 57 = .ok (.aload_n 0, 1) by decide +kernel) (fun _ => rfl)
theorem u142_58 (a : Nat) (ls : Vs) (st : Vs) (I : Nat → Nat → Int32) (J : Nat → Nat → Int64) (Q : Option Value → Sto → Prop) : Rn 142 58 ls (.ref a :: st) (Sg I J) Q ↔ kA a 12 ∧ Rn 142 61 ls (.ref (rf a 6) :: st) (Sg I J) Q := g_get2 (show decode (mco 142) 58 = .ok (.getfield 27, 3) by decide +kernel) (by decide +kernel) (by decide) (by decide)
theorem u142_61 (v0 : Value) (v1 : Value) (v2 : Value) (x3 : Int32) (st : Vs) (σ : Sto) (Q : Option Value → Sto → Prop) : Rn 142 61 [v0, v1, v2, .int x3] st σ Q ↔ Rn 142 62 [v0, v1, v2, .int x3] (.int x3 :: st) σ Q := Rn_of (show decode (mco 142) 61 = .ok (.iload_n 3, 1) by decide +kernel) (fun _ => rfl)
theorem u142_62 (a : Nat) (h : kA a 20) (i : Int32) (ls : Vs) (st : Vs) (I : Nat → Nat → Int32) (J : Nat → Nat → Int64) (Q : Option Value → Sto → Prop) : Rn 142 62 ls (.int i :: .ref a :: st) (Sg I J) Q ↔ inb i (tg a).2 ∧ Rn 142 63 ls (.int (I a i.toNatClampNeg) :: st) (Sg I J) Q := g_iald (show decode (mco 142) 62 = .ok (.iaload, 1) by decide +kernel) h
theorem u142_63 (x i : Int32) (a : Nat) (ls : Vs) (st : Vs) (I : Nat → Nat → Int32) (J : Nat → Nat → Int64) (Q : Option Value → Sto → Prop) : Rn 142 63 ls (.int x :: .int i :: .ref a :: st) (Sg I J) Q ↔ (kA a 20 ∧ inb i (tg a).2) ∧ Rn 142 64 ls st (Sg (wI I a i.toNatClampNeg x) J) Q := g_iast (show decode (mco 142) 63 = .ok (.iastore, 1) by decide +kernel)
theorem u142_64 (v0 : Value) (v1 : Value) (x2 : Int32) (x3 : Int32) (st : Vs) (σ : Sto) (Q : Option Value → Sto → Prop) : Rn 142 64 [v0, v1, .int x2, .int x3] st σ Q ↔ Rn 142 67 [v0, v1, .int x2, .int (x3 + 1)] st σ Q := Rn_of (show decode (mco 142) 64 = .ok (.iinc 3 1, 3) by decide +kernel) (fun _ => rfl)
theorem u142_67 (ls : Vs) (st : Vs) (σ : Sto) (Q : Option Value → Sto → Prop) : Rn 142 67 ls st σ Q ↔ Rn 142 44 ls st σ Q := Rn_of (show decode (mco 142) 67 = .ok (.goto (-23), 3) by decide +kernel) (fun _ => rfl)
theorem u142_70 (x0 : Nat) (v1 : Value) (v2 : Value) (v3 : Value) (st : Vs) (σ : Sto) (Q : Option Value → Sto → Prop) : Rn 142 70 [.ref x0, v1, v2, v3] st σ Q ↔ kL x0 ∧ Rn 142 71 [.ref x0, v1, v2, v3] (.ref x0 :: st) σ Q := Rn_if (show decode (mco 142) 70 = .ok (.aload_n 0, 1) by decide +kernel) (fun _ => rfl)
theorem u142_71 (a : Nat) (ls : Vs) (st : Vs) (I : Nat → Nat → Int32) (J : Nat → Nat → Int64) (Q : Option Value → Sto → Prop) : Rn 142 71 ls (.ref a :: st) (Sg I J) Q ↔ kA a 12 ∧ Rn 142 74 ls (.ref (rf a 0) :: st) (Sg I J) Q := g_get2 (show decode (mco 142) 71 = .ok (.getfield 7, 3) by decide +kernel) (by decide +kernel) (by decide) (by decide)
theorem u142_74  (ls : Vs) (st : Vs) (σ : Sto) (Q : Option Value → Sto → Prop) : Rn 142 74 ls st σ Q ↔ Rn 142 75 ls (.int 2 :: st) σ Q := Rn_of (show decode (mco 142) 74 = .ok (.iconst 2, 1) by decide +kernel) (fun _ => rfl)
theorem u142_75 (x : Int32) (y : Nat) (ls : Vs) (st : Vs) (σ : Sto) (Q : Option Value → Sto → Prop) : Rn 142 75 ls (.int x :: .ref y :: st) σ Q ↔ kL y ∧ Rn 142 76 ls (.int x :: .ref y :: .int x :: .ref y :: st) σ Q := Rn_if (show decode (mco 142) 75 = .ok (.dup2, 1) by decide +kernel) (fun _ => rfl)
theorem u142_76 (a : Nat) (h : kA a 20) (i : Int32) (ls : Vs) (st : Vs) (I : Nat → Nat → Int32) (J : Nat → Nat → Int64) (Q : Option Value → Sto → Prop) : Rn 142 76 ls (.int i :: .ref a :: st) (Sg I J) Q ↔ inb i (tg a).2 ∧ Rn 142 77 ls (.int (I a i.toNatClampNeg) :: st) (Sg I J) Q := g_iald (show decode (mco 142) 76 = .ok (.iaload, 1) by decide +kernel) h
theorem u142_77  (ls : Vs) (st : Vs) (σ : Sto) (Q : Option Value → Sto → Prop) : Rn 142 77 ls st σ Q ↔ Rn 142 78 ls (.int 1 :: st) σ Q := Rn_of (show decode (mco 142) 77 = .ok (.iconst 1, 1) by decide +kernel) (fun _ => rfl)
theorem u142_78 (x y : Int32) (ls : Vs) (st : Vs) (σ : Sto) (Q : Option Value → Sto → Prop) : Rn 142 78 ls (.int y :: .int x :: st) σ Q ↔ Rn 142 79 ls (.int (x + y) :: st) σ Q := Rn_of (show decode (mco 142) 78 = .ok (.iadd, 1) by decide +kernel) (fun _ => rfl)
theorem u142_79 (x i : Int32) (a : Nat) (ls : Vs) (st : Vs) (I : Nat → Nat → Int32) (J : Nat → Nat → Int64) (Q : Option Value → Sto → Prop) : Rn 142 79 ls (.int x :: .int i :: .ref a :: st) (Sg I J) Q ↔ (kA a 20 ∧ inb i (tg a).2) ∧ Rn 142 80 ls st (Sg (wI I a i.toNatClampNeg x) J) Q := g_iast (show decode (mco 142) 79 = .ok (.iastore, 1) by decide +kernel)
theorem u142_80 (v0 : Value) (x1 : Int32) (x2 : Int32) (v3 : Value) (st : Vs) (σ : Sto) (Q : Option Value → Sto → Prop) : Rn 142 80 [v0, .int x1, .int x2, v3] st σ Q ↔ Rn 142 83 [v0, .int x1, .int (x2 + 1), v3] st σ Q := Rn_of (show decode (mco 142) 80 = .ok (.iinc 2 1, 3) by decide +kernel) (fun _ => rfl)
theorem u142_83 (ls : Vs) (st : Vs) (σ : Sto) (Q : Option Value → Sto → Prop) : Rn 142 83 ls st σ Q ↔ Rn 142 21 ls st σ Q := Rn_of (show decode (mco 142) 83 = .ok (.goto (-62), 3) by decide +kernel) (fun _ => rfl)
theorem u142_86 (x0 : Nat) (v1 : Value) (v2 : Value) (v3 : Value) (st : Vs) (σ : Sto) (Q : Option Value → Sto → Prop) : Rn 142 86 [.ref x0, v1, v2, v3] st σ Q ↔ kL x0 ∧ Rn 142 87 [.ref x0, v1, v2, v3] (.ref x0 :: st) σ Q := Rn_if (show decode (mco 142) 86 = .ok (.aload_n 0, 1) by decide +kernel) (fun _ => rfl)
theorem u142_87 (a : Nat) (ls : Vs) (st : Vs) (I : Nat → Nat → Int32) (J : Nat → Nat → Int64) (Q : Option Value → Sto → Prop) : Rn 142 87 ls (.ref a :: st) (Sg I J) Q ↔ kA a 12 ∧ Rn 142 90 ls (.ref (rf a 0) :: st) (Sg I J) Q := g_get2 (show decode (mco 142) 87 = .ok (.getfield 7, 3) by decide +kernel) (by decide +kernel) (by decide) (by decide)
theorem u142_90  (ls : Vs) (st : Vs) (σ : Sto) (Q : Option Value → Sto → Prop) : Rn 142 90 ls st σ Q ↔ Rn 142 91 ls (.int 2 :: st) σ Q := Rn_of (show decode (mco 142) 90 = .ok (.iconst 2, 1) by decide +kernel) (fun _ => rfl)
theorem u142_91 (a : Nat) (h : kA a 20) (i : Int32) (ls : Vs) (st : Vs) (I : Nat → Nat → Int32) (J : Nat → Nat → Int64) (Q : Option Value → Sto → Prop) : Rn 142 91 ls (.int i :: .ref a :: st) (Sg I J) Q ↔ inb i (tg a).2 ∧ Rn 142 92 ls (.int (I a i.toNatClampNeg) :: st) (Sg I J) Q := g_iald (show decode (mco 142) 91 = .ok (.iaload, 1) by decide +kernel) h
theorem u142_92 (x : Int32) (ls : Vs) (σ : Sto) (Q : Option Value → Sto → Prop) : Rn 142 92 ls [.int x] σ Q ↔ Q (some (.int x)) σ := g_iret (show decode (mco 142) 92 = .ok (.ireturn, 1) by decide +kernel) rfl
theorem u24_0 (x0 : Int32) (st : Vs) (σ : Sto) (Q : Option Value → Sto → Prop) : Rn 24 0 [.int x0] st σ Q ↔ Rn 24 1 [.int x0] (.int x0 :: st) σ Q := Rn_of (show decode (mco 24) 0 = .ok (.iload_n 0, 1) by decide +kernel) (fun _ => rfl)
theorem u24_1  (ls : Vs) (st : Vs) (σ : Sto) (Q : Option Value → Sto → Prop) : Rn 24 1 ls st σ Q ↔ Rn 24 3 ls (.int 97 :: st) σ Q := Rn_of (show decode (mco 24) 1 = .ok (.bipush 97, 2) by decide +kernel) (fun _ => rfl)
theorem u24_3 (x y : Int32) (ls : Vs) (st : Vs) (σ : Sto) (Q : Option Value → Sto → Prop) : Rn 24 3 ls (.int y :: .int x :: st) σ Q ↔ if x < y then Rn 24 14 ls st σ Q else Rn 24 6 ls st σ Q := g_if_icmp (show decode (mco 24) 3 = .ok (.if_icmp .lt 11, 3) by decide +kernel) rfl cc_lt
theorem u24_6 (x0 : Int32) (st : Vs) (σ : Sto) (Q : Option Value → Sto → Prop) : Rn 24 6 [.int x0] st σ Q ↔ Rn 24 7 [.int x0] (.int x0 :: st) σ Q := Rn_of (show decode (mco 24) 6 = .ok (.iload_n 0, 1) by decide +kernel) (fun _ => rfl)
theorem u24_7  (ls : Vs) (st : Vs) (σ : Sto) (Q : Option Value → Sto → Prop) : Rn 24 7 ls st σ Q ↔ Rn 24 9 ls (.int 122 :: st) σ Q := Rn_of (show decode (mco 24) 7 = .ok (.bipush 122, 2) by decide +kernel) (fun _ => rfl)
theorem u24_9 (x y : Int32) (ls : Vs) (st : Vs) (σ : Sto) (Q : Option Value → Sto → Prop) : Rn 24 9 ls (.int y :: .int x :: st) σ Q ↔ if y < x then Rn 24 14 ls st σ Q else Rn 24 12 ls st σ Q := g_if_icmp (show decode (mco 24) 9 = .ok (.if_icmp .gt 5, 3) by decide +kernel) rfl cc_gt
theorem u24_12  (ls : Vs) (st : Vs) (σ : Sto) (Q : Option Value → Sto → Prop) : Rn 24 12 ls st σ Q ↔ Rn 24 13 ls (.int 1 :: st) σ Q := Rn_of (show decode (mco 24) 12 = .ok (.iconst 1, 1) by decide +kernel) (fun _ => rfl)
theorem u24_13 (x : Int32) (ls : Vs) (σ : Sto) (Q : Option Value → Sto → Prop) : Rn 24 13 ls [.int x] σ Q ↔ Q (some (.int x)) σ := g_iret (show decode (mco 24) 13 = .ok (.ireturn, 1) by decide +kernel) rfl
theorem u24_14 (x0 : Int32) (st : Vs) (σ : Sto) (Q : Option Value → Sto → Prop) : Rn 24 14 [.int x0] st σ Q ↔ Rn 24 15 [.int x0] (.int x0 :: st) σ Q := Rn_of (show decode (mco 24) 14 = .ok (.iload_n 0, 1) by decide +kernel) (fun _ => rfl)
theorem u24_15  (ls : Vs) (st : Vs) (σ : Sto) (Q : Option Value → Sto → Prop) : Rn 24 15 ls st σ Q ↔ Rn 24 17 ls (.int 48 :: st) σ Q := Rn_of (show decode (mco 24) 15 = .ok (.bipush 48, 2) by decide +kernel) (fun _ => rfl)
theorem u24_17 (x y : Int32) (ls : Vs) (st : Vs) (σ : Sto) (Q : Option Value → Sto → Prop) : Rn 24 17 ls (.int y :: .int x :: st) σ Q ↔ if x < y then Rn 24 28 ls st σ Q else Rn 24 20 ls st σ Q := g_if_icmp (show decode (mco 24) 17 = .ok (.if_icmp .lt 11, 3) by decide +kernel) rfl cc_lt
theorem u24_20 (x0 : Int32) (st : Vs) (σ : Sto) (Q : Option Value → Sto → Prop) : Rn 24 20 [.int x0] st σ Q ↔ Rn 24 21 [.int x0] (.int x0 :: st) σ Q := Rn_of (show decode (mco 24) 20 = .ok (.iload_n 0, 1) by decide +kernel) (fun _ => rfl)
theorem u24_21  (ls : Vs) (st : Vs) (σ : Sto) (Q : Option Value → Sto → Prop) : Rn 24 21 ls st σ Q ↔ Rn 24 23 ls (.int 57 :: st) σ Q := Rn_of (show decode (mco 24) 21 = .ok (.bipush 57, 2) by decide +kernel) (fun _ => rfl)
theorem u24_23 (x y : Int32) (ls : Vs) (st : Vs) (σ : Sto) (Q : Option Value → Sto → Prop) : Rn 24 23 ls (.int y :: .int x :: st) σ Q ↔ if y < x then Rn 24 28 ls st σ Q else Rn 24 26 ls st σ Q := g_if_icmp (show decode (mco 24) 23 = .ok (.if_icmp .gt 5, 3) by decide +kernel) rfl cc_gt
theorem u24_26  (ls : Vs) (st : Vs) (σ : Sto) (Q : Option Value → Sto → Prop) : Rn 24 26 ls st σ Q ↔ Rn 24 27 ls (.int 2 :: st) σ Q := Rn_of (show decode (mco 24) 26 = .ok (.iconst 2, 1) by decide +kernel) (fun _ => rfl)
theorem u24_27 (x : Int32) (ls : Vs) (σ : Sto) (Q : Option Value → Sto → Prop) : Rn 24 27 ls [.int x] σ Q ↔ Q (some (.int x)) σ := g_iret (show decode (mco 24) 27 = .ok (.ireturn, 1) by decide +kernel) rfl
theorem u24_28 (x0 : Int32) (st : Vs) (σ : Sto) (Q : Option Value → Sto → Prop) : Rn 24 28 [.int x0] st σ Q ↔ Rn 24 29 [.int x0] (.int x0 :: st) σ Q := Rn_of (show decode (mco 24) 28 = .ok (.iload_n 0, 1) by decide +kernel) (fun _ => rfl)
theorem u24_29  (ls : Vs) (st : Vs) (σ : Sto) (Q : Option Value → Sto → Prop) : Rn 24 29 ls st σ Q ↔ Rn 24 31 ls (.int 59 :: st) σ Q := Rn_of (show decode (mco 24) 29 = .ok (.bipush 59, 2) by decide +kernel) (fun _ => rfl)
theorem u24_31 (x y : Int32) (ls : Vs) (st : Vs) (σ : Sto) (Q : Option Value → Sto → Prop) : Rn 24 31 ls (.int y :: .int x :: st) σ Q ↔ if ¬ x = y then Rn 24 38 ls st σ Q else Rn 24 34 ls st σ Q := g_if_icmp (show decode (mco 24) 31 = .ok (.if_icmp .ne 7, 3) by decide +kernel) rfl cc_ne
theorem u24_34  (ls : Vs) (st : Vs) (σ : Sto) (Q : Option Value → Sto → Prop) : Rn 24 34 ls st σ Q ↔ Rn 24 35 ls (.int 3 :: st) σ Q := Rn_of (show decode (mco 24) 34 = .ok (.iconst 3, 1) by decide +kernel) (fun _ => rfl)
theorem u24_35 (ls : Vs) (st : Vs) (σ : Sto) (Q : Option Value → Sto → Prop) : Rn 24 35 ls st σ Q ↔ Rn 24 39 ls st σ Q := Rn_of (show decode (mco 24) 35 = .ok (.goto 4, 3) by decide +kernel) (fun _ => rfl)
theorem u24_38  (ls : Vs) (st : Vs) (σ : Sto) (Q : Option Value → Sto → Prop) : Rn 24 38 ls st σ Q ↔ Rn 24 39 ls (.int 4 :: st) σ Q := Rn_of (show decode (mco 24) 38 = .ok (.iconst 4, 1) by decide +kernel) (fun _ => rfl)
theorem u24_39 (x : Int32) (ls : Vs) (σ : Sto) (Q : Option Value → Sto → Prop) : Rn 24 39 ls [.int x] σ Q ↔ Q (some (.int x)) σ := g_iret (show decode (mco 24) 39 = .ok (.ireturn, 1) by decide +kernel) rfl
theorem u200_0 (x0 : Nat) (v1 : Value) (st : Vs) (σ : Sto) (Q : Option Value → Sto → Prop) : Rn 200 0 [.ref x0, v1] st σ Q ↔ kL x0 ∧ Rn 200 1 [.ref x0, v1] (.ref x0 :: st) σ Q := Rn_if (show decode (mco 200) 0 = .ok (.aload_n 0, 1) by decide +kernel) (fun _ => rfl)
theorem u200_1 (a : Nat) (ls : Vs) (I : Nat → Nat → Int32) (J : Nat → Nat → Int64) (Q : Option Value → Sto → Prop) : Rn 200 1 ls [.ref a] (Sg I J) Q ↔ (1010 ≤ a ∧ a < 1015) ∧ Ca 202 [.ref a] (Sg I J) 200 4 ls [] Q := g_virS (t := 202) (nn := 0) (as0 := []) (show decode (mco 200) 1 = .ok (.invokevirtual 492, 3) by decide +kernel) (by decide +kernel) rfl rfl ⟨rfl, Nat.le_of_ble_eq_true rfl, Nat.le_of_ble_eq_true rfl, Nat.le_of_ble_eq_true rfl⟩
theorem u200_4 (x : Int32) (ls : Vs) (st : Vs) (σ : Sto) (Q : Option Value → Sto → Prop) : Rn 200 4 ls (.int x :: st) σ Q ↔ if x = 0 then Rn 200 16 ls st σ Q else Rn 200 7 ls st σ Q := g_ifCond (show decode (mco 200) 4 = .ok (.ifCond .eq 12, 3) by decide +kernel) rfl cz_eq
theorem u200_7 (x0 : Nat) (v1 : Value) (st : Vs) (σ : Sto) (Q : Option Value → Sto → Prop) : Rn 200 7 [.ref x0, v1] st σ Q ↔ kL x0 ∧ Rn 200 8 [.ref x0, v1] (.ref x0 :: st) σ Q := Rn_if (show decode (mco 200) 7 = .ok (.aload_n 0, 1) by decide +kernel) (fun _ => rfl)
theorem u200_8 (a : Nat) (ls : Vs) (st : Vs) (σ : Sto) (Q : Option Value → Sto → Prop) : Rn 200 8 ls (.ref a :: st) σ Q ↔ (1010 ≤ a ∧ a < 1015) ∧ Rn 200 11 ls (.ref (a + 10) :: st) σ Q := g_gets0 (show decode (mco 200) 8 = .ok (.getfield 9, 3) by decide +kernel) (by decide +kernel)
theorem u200_11 (v0 : Value) (x1 : Int32) (st : Vs) (σ : Sto) (Q : Option Value → Sto → Prop) : Rn 200 11 [v0, .int x1] st σ Q ↔ Rn 200 12 [v0, .int x1] (.int x1 :: st) σ Q := Rn_of (show decode (mco 200) 11 = .ok (.iload_n 1, 1) by decide +kernel) (fun _ => rfl)
theorem u200_12 (x0 : Nat) (x1 : Int32) (ls : Vs) (I : Nat → Nat → Int32) (J : Nat → Nat → Int64) (Q : Option Value → Sto → Prop) : Rn 200 12 ls [.int x1, .ref x0] (Sg I J) Q ↔ Ca 204 [.ref x0, .int x1] (Sg I J) 200 15 ls [] Q := g_sta1 (t := 204) (nn := 2) (as := [.ref x0, .int x1]) (show decode (mco 200) 12 = .ok (.invokestatic 495, 3) by decide +kernel) (by decide +kernel) rfl rfl ⟨rfl, Nat.le_of_ble_eq_true rfl, Nat.le_of_ble_eq_true rfl, Nat.le_of_ble_eq_true rfl⟩
theorem u200_15 (x : Int32) (ls : Vs) (σ : Sto) (Q : Option Value → Sto → Prop) : Rn 200 15 ls [.int x] σ Q ↔ narrow .char (.int x) = .int x ∧ Q (some (.int x)) σ := g_cret (show decode (mco 200) 15 = .ok (.ireturn, 1) by decide +kernel) rfl
theorem u200_16 (x0 : Nat) (v1 : Value) (st : Vs) (σ : Sto) (Q : Option Value → Sto → Prop) : Rn 200 16 [.ref x0, v1] st σ Q ↔ kL x0 ∧ Rn 200 17 [.ref x0, v1] (.ref x0 :: st) σ Q := Rn_if (show decode (mco 200) 16 = .ok (.aload_n 0, 1) by decide +kernel) (fun _ => rfl)
theorem u200_17 (a : Nat) (ls : Vs) (st : Vs) (σ : Sto) (Q : Option Value → Sto → Prop) : Rn 200 17 ls (.ref a :: st) σ Q ↔ (1010 ≤ a ∧ a < 1015) ∧ Rn 200 20 ls (.ref (a + 10) :: st) σ Q := g_gets0 (show decode (mco 200) 17 = .ok (.getfield 9, 3) by decide +kernel) (by decide +kernel)
theorem u200_20 (v0 : Value) (x1 : Int32) (st : Vs) (σ : Sto) (Q : Option Value → Sto → Prop) : Rn 200 20 [v0, .int x1] st σ Q ↔ Rn 200 21 [v0, .int x1] (.int x1 :: st) σ Q := Rn_of (show decode (mco 200) 20 = .ok (.iload_n 1, 1) by decide +kernel) (fun _ => rfl)
theorem u200_21 (x0 : Nat) (x1 : Int32) (ls : Vs) (I : Nat → Nat → Int32) (J : Nat → Nat → Int64) (Q : Option Value → Sto → Prop) : Rn 200 21 ls [.int x1, .ref x0] (Sg I J) Q ↔ Ca 207 [.ref x0, .int x1] (Sg I J) 200 24 ls [] Q := g_sta1 (t := 207) (nn := 2) (as := [.ref x0, .int x1]) (show decode (mco 200) 21 = .ok (.invokestatic 498, 3) by decide +kernel) (by decide +kernel) rfl rfl ⟨rfl, Nat.le_of_ble_eq_true rfl, Nat.le_of_ble_eq_true rfl, Nat.le_of_ble_eq_true rfl⟩
theorem u200_24 (x : Int32) (ls : Vs) (σ : Sto) (Q : Option Value → Sto → Prop) : Rn 200 24 ls [.int x] σ Q ↔ narrow .char (.int x) = .int x ∧ Q (some (.int x)) σ := g_cret (show decode (mco 200) 24 = .ok (.ireturn, 1) by decide +kernel) rfl
theorem u11_0 (x0 : Nat) (v1 : Value) (v2 : Value) (st : Vs) (σ : Sto) (Q : Option Value → Sto → Prop) : Rn 11 0 [.ref x0, v1, v2] st σ Q ↔ kL x0 ∧ Rn 11 1 [.ref x0, v1, v2] (.ref x0 :: st) σ Q := Rn_if (show decode (mco 11) 0 = .ok (.aload_n 0, 1) by decide +kernel) (fun _ => rfl)
theorem u11_1 (a : Nat) (ls : Vs) (st : Vs) (I : Nat → Nat → Int32) (J : Nat → Nat → Int64) (Q : Option Value → Sto → Prop) : Rn 11 1 ls (.ref a :: st) (Sg I J) Q ↔ kA a 4 ∧ Rn 11 4 ls (.int (I a 3) :: st) (Sg I J) Q := g_get0 (show decode (mco 11) 1 = .ok (.getfield 31, 3) by decide +kernel) (by decide +kernel) (by decide) (by decide)
theorem u11_4 (x0 : Nat) (v1 : Value) (v2 : Value) (st : Vs) (σ : Sto) (Q : Option Value → Sto → Prop) : Rn 11 4 [.ref x0, v1, v2] st σ Q ↔ kL x0 ∧ Rn 11 5 [.ref x0, v1, v2] (.ref x0 :: st) σ Q := Rn_if (show decode (mco 11) 4 = .ok (.aload_n 0, 1) by decide +kernel) (fun _ => rfl)
theorem u11_5 (a : Nat) (ls : Vs) (st : Vs) (I : Nat → Nat → Int32) (J : Nat → Nat → Int64) (Q : Option Value → Sto → Prop) : Rn 11 5 ls (.ref a :: st) (Sg I J) Q ↔ kA a 4 ∧ Rn 11 8 ls (.int (I a 4) :: st) (Sg I J) Q := g_get0 (show decode (mco 11) 5 = .ok (.getfield 21, 3) by decide +kernel) (by decide +kernel) (by decide) (by decide)
theorem u11_8 (x y : Int32) (ls : Vs) (st : Vs) (σ : Sto) (Q : Option Value → Sto → Prop) : Rn 11 8 ls (.int y :: .int x :: st) σ Q ↔ Rn 11 9 ls (.int (x + y) :: st) σ Q := Rn_of (show decode (mco 11) 8 = .ok (.iadd, 1) by decide +kernel) (fun _ => rfl)
theorem u11_9  (ls : Vs) (st : Vs) (σ : Sto) (Q : Option Value → Sto → Prop) : Rn 11 9 ls st σ Q ↔ Rn 11 11 ls (.int 8 :: st) σ Q := Rn_of (show decode (mco 11) 9 = .ok (.bipush 8, 2) by decide +kernel) (fun _ => rfl)
theorem u11_11 (x y : Int32) (ls : Vs) (st : Vs) (σ : Sto) (Q : Option Value → Sto → Prop) : Rn 11 11 ls (.int y :: .int x :: st) σ Q ↔ (¬ y = 0) ∧ Rn 11 12 ls (.int (x - x / y * y) :: st) σ Q := Rn_if (show decode (mco 11) 11 = .ok (.irem, 1) by decide +kernel) (fun _ => rfl)
theorem u11_12 (v0 : Value) (x1 : Nat) (v2 : Value) (y : Int32) (st : Vs) (σ : Sto) (Q : Option Value → Sto → Prop) : Rn 11 12 [v0, .ref x1, v2] (.int y :: st) σ Q ↔ Rn 11 13 [v0, .ref x1, .int y] st σ Q := Rn_of (show decode (mco 11) 12 = .ok (.istore_n 2, 1) by decide +kernel) (fun _ => rfl)
theorem u11_13 (x0 : Nat) (v1 : Value) (v2 : Value) (st : Vs) (σ : Sto) (Q : Option Value → Sto → Prop) : Rn 11 13 [.ref x0, v1, v2] st σ Q ↔ kL x0 ∧ Rn 11 14 [.ref x0, v1, v2] (.ref x0 :: st) σ Q := Rn_if (show decode (mco 11) 13 = .ok (.aload_n 0, 1) by decide +kernel) (fun _ => rfl)
theorem u11_14 (a : Nat) (ls : Vs) (st : Vs) (I : Nat → Nat → Int32) (J : Nat → Nat → Int64) (Q : Option Value → Sto → Prop) : Rn 11 14 ls (.ref a :: st) (Sg I J) Q ↔ kA a 4 ∧ Rn 11 17 ls (.int (I a 4) :: st) (Sg I J) Q := g_get0 (show decode (mco 11) 14 = .ok (.getfield 21, 3) by decide +kernel) (by decide +kernel) (by decide) (by decide)
theorem u11_17  (ls : Vs) (st : Vs) (σ : Sto) (Q : Option Value → Sto → Prop) : Rn 11 17 ls st σ Q ↔ Rn 11 19 ls (.int 8 :: st) σ Q := Rn_of (show decode (mco 11) 17 = .ok (.bipush 8, 2) by decide +kernel) (fun _ => rfl)
theorem u11_19 (x y : Int32) (ls : Vs) (st : Vs) (σ : Sto) (Q : Option Value → Sto → Prop) : Rn 11 19 ls (.int y :: .int x :: st) σ Q ↔ if ¬ x = y then Rn 11 38 ls st σ Q else Rn 11 22 ls st σ Q := g_if_icmp (show decode (mco 11) 19 = .ok (.if_icmp .ne 19, 3) by decide +kernel) rfl cc_ne
theorem u11_22 (x0 : Nat) (v1 : Value) (v2 : Value) (st : Vs) (σ : Sto) (Q : Option Value → Sto → Prop) : Rn 11 22 [.ref x0, v1, v2] st σ Q ↔ kL x0 ∧ Rn 11 23 [.ref x0, v1, v2] (.ref x0 :: st) σ Q := Rn_if (show decode (mco 11) 22 = .ok (.aload_n 0, 1) by decide +kernel) (fun _ => rfl)
theorem u11_23 (x0 : Nat) (v1 : Value) (v2 : Value) (st : Vs) (σ : Sto) (Q : Option Value → Sto → Prop) : Rn 11 23 [.ref x0, v1, v2] st σ Q ↔ kL x0 ∧ Rn 11 24 [.ref x0, v1, v2] (.ref x0 :: st) σ Q := Rn_if (show decode (mco 11) 23 = .ok (.aload_n 0, 1) by decide +kernel) (fun _ => rfl)
theorem u11_24 (a : Nat) (ls : Vs) (st : Vs) (I : Nat → Nat → Int32) (J : Nat → Nat → Int64) (Q : Option Value → Sto → Prop) : Rn 11 24 ls (.ref a :: st) (Sg I J) Q ↔ kA a 4 ∧ Rn 11 27 ls (.int (I a 3) :: st) (Sg I J) Q := g_get0 (show decode (mco 11) 24 = .ok (.getfield 31, 3) by decide +kernel) (by decide +kernel) (by decide) (by decide)
theorem u11_27  (ls : Vs) (st : Vs) (σ : Sto) (Q : Option Value → Sto → Prop) : Rn 11 27 ls st σ Q ↔ Rn 11 28 ls (.int 1 :: st) σ Q := Rn_of (show decode (mco 11) 27 = .ok (.iconst 1, 1) by decide +kernel) (fun _ => rfl)
theorem u11_28 (x y : Int32) (ls : Vs) (st : Vs) (σ : Sto) (Q : Option Value → Sto → Prop) : Rn 11 28 ls (.int y :: .int x :: st) σ Q ↔ Rn 11 29 ls (.int (x + y) :: st) σ Q := Rn_of (show decode (mco 11) 28 = .ok (.iadd, 1) by decide +kernel) (fun _ => rfl)
theorem u11_29  (ls : Vs) (st : Vs) (σ : Sto) (Q : Option Value → Sto → Prop) : Rn 11 29 ls st σ Q ↔ Rn 11 31 ls (.int 8 :: st) σ Q := Rn_of (show decode (mco 11) 29 = .ok (.bipush 8, 2) by decide +kernel) (fun _ => rfl)
theorem u11_31 (x y : Int32) (ls : Vs) (st : Vs) (σ : Sto) (Q : Option Value → Sto → Prop) : Rn 11 31 ls (.int y :: .int x :: st) σ Q ↔ (¬ y = 0) ∧ Rn 11 32 ls (.int (x - x / y * y) :: st) σ Q := Rn_if (show decode (mco 11) 31 = .ok (.irem, 1) by decide +kernel) (fun _ => rfl)
theorem u11_32 (x : Int32) (a : Nat) (ls : Vs) (st : Vs) (I : Nat → Nat → Int32) (J : Nat → Nat → Int64) (Q : Option Value → Sto → Prop) : Rn 11 32 ls (.int x :: .ref a :: st) (Sg I J) Q ↔ kA a 4 ∧ Rn 11 35 ls st (Sg (wI I a 3 x) J) Q := g_put0 (show decode (mco 11) 32 = .ok (.putfield 31, 3) by decide +kernel) (by decide +kernel) (by decide) (by decide) (by decide)
theorem u11_35 (ls : Vs) (st : Vs) (σ : Sto) (Q : Option Value → Sto → Prop) : Rn 11 35 ls st σ Q ↔ Rn 11 48 ls st σ Q := Rn_of (show decode (mco 11) 35 = .ok (.goto 13, 3) by decide +kernel) (fun _ => rfl)
theorem u11_38 (x0 : Nat) (v1 : Value) (v2 : Value) (st : Vs) (σ : Sto) (Q : Option Value → Sto → Prop) : Rn 11 38 [.ref x0, v1, v2] st σ Q ↔ kL x0 ∧ Rn 11 39 [.ref x0, v1, v2] (.ref x0 :: st) σ Q := Rn_if (show decode (mco 11) 38 = .ok (.aload_n 0, 1) by decide +kernel) (fun _ => rfl)
theorem u11_39 (x : Nat) (ls : Vs) (st : Vs) (σ : Sto) (Q : Option Value → Sto → Prop) : Rn 11 39 ls (.ref x :: st) σ Q ↔ kL x ∧ Rn 11 40 ls (.ref x :: .ref x :: st) σ Q := Rn_if (show decode (mco 11) 39 = .ok (.dup, 1) by decide +kernel) (fun _ => rfl)
theorem u11_40 (a : Nat) (ls : Vs) (st : Vs) (I : Nat → Nat → Int32) (J : Nat → Nat → Int64) (Q : Option Value → Sto → Prop) : Rn 11 40 ls (.ref a :: st) (Sg I J) Q ↔ kA a 4 ∧ Rn 11 43 ls (.int (I a 4) :: st) (Sg I J) Q := g_get0 (show decode (mco 11) 40 = .ok (.getfield 21, 3) by decide +kernel) (by decide +kernel) (by decide) (by decide)
theorem u11_43  (ls : Vs) (st : Vs) (σ : Sto) (Q : Option Value → Sto → Prop) : Rn 11 43 ls st σ Q ↔ Rn 11 44 ls (.int 1 :: st) σ Q := Rn_of (show decode (mco 11) 43 = .ok (.iconst 1, 1) by decide +kernel) (fun _ => rfl)
theorem u11_44 (x y : Int32) (ls : Vs) (st : Vs) (σ : Sto) (Q : Option Value → Sto → Prop) : Rn 11 44 ls (.int y :: .int x :: st) σ Q ↔ Rn 11 45 ls (.int (x + y) :: st) σ Q := Rn_of (show decode (mco 11) 44 = .ok (.iadd, 1) by decide +kernel) (fun _ => rfl)
theorem u11_45 (x : Int32) (a : Nat) (ls : Vs) (st : Vs) (I : Nat → Nat → Int32) (J : Nat → Nat → Int64) (Q : Option Value → Sto → Prop) : Rn 11 45 ls (.int x :: .ref a :: st) (Sg I J) Q ↔ kA a 4 ∧ Rn 11 48 ls st (Sg (wI I a 4 x) J) Q := g_put0 (show decode (mco 11) 45 = .ok (.putfield 21, 3) by decide +kernel) (by decide +kernel) (by decide) (by decide) (by decide)
theorem u11_48 (v0 : Value) (x1 : Nat) (v2 : Value) (st : Vs) (σ : Sto) (Q : Option Value → Sto → Prop) : Rn 11 48 [v0, .ref x1, v2] st σ Q ↔ kL x1 ∧ Rn 11 49 [v0, .ref x1, v2] (.ref x1 :: st) σ Q := Rn_if (show decode (mco 11) 48 = .ok (.aload_n 1, 1) by decide +kernel) (fun _ => rfl)
theorem u11_49 (a : Nat) (ls : Vs) (st : Vs) (I : Nat → Nat → Int32) (J : Nat → Nat → Int64) (Q : Option Value → Sto → Prop) : Rn 11 49 ls (.ref a :: st) (Sg I J) Q ↔ kA a 10 ∧ Rn 11 52 ls (.ref (rf a 0) :: st) (Sg I J) Q := g_get2 (show decode (mco 11) 49 = .ok (.getfield 34, 3) by decide +kernel) (by decide +kernel) (by decide) (by decide)
theorem u11_52  (ls : Vs) (st : Vs) (σ : Sto) (Q : Option Value → Sto → Prop) : Rn 11 52 ls st σ Q ↔ Rn 11 53 ls (.int 0 :: st) σ Q := Rn_of (show decode (mco 11) 52 = .ok (.iconst 0, 1) by decide +kernel) (fun _ => rfl)
theorem u11_53 (x0 : Nat) (v1 : Value) (v2 : Value) (st : Vs) (σ : Sto) (Q : Option Value → Sto → Prop) : Rn 11 53 [.ref x0, v1, v2] st σ Q ↔ kL x0 ∧ Rn 11 54 [.ref x0, v1, v2] (.ref x0 :: st) σ Q := Rn_if (show decode (mco 11) 53 = .ok (.aload_n 0, 1) by decide +kernel) (fun _ => rfl)
theorem u11_54 (a : Nat) (ls : Vs) (st : Vs) (I : Nat → Nat → Int32) (J : Nat → Nat → Int64) (Q : Option Value → Sto → Prop) : Rn 11 54 ls (.ref a :: st) (Sg I J) Q ↔ kA a 4 ∧ Rn 11 57 ls (.ref (rf a 0) :: st) (Sg I J) Q := g_get2 (show decode (mco 11) 54 = .ok (.getfield 11, 3) by decide +kernel) (by decide +kernel) (by decide) (by decide)
theorem u11_57 (v0 : Value) (v1 : Value) (x2 : Int32) (st : Vs) (σ : Sto) (Q : Option Value → Sto → Prop) : Rn 11 57 [v0, v1, .int x2] st σ Q ↔ Rn 11 58 [v0, v1, .int x2] (.int x2 :: st) σ Q := Rn_of (show decode (mco 11) 57 = .ok (.iload_n 2, 1) by decide +kernel) (fun _ => rfl)
theorem u11_58  (ls : Vs) (st : Vs) (σ : Sto) (Q : Option Value → Sto → Prop) : Rn 11 58 ls st σ Q ↔ Rn 11 60 ls (.int 8 :: st) σ Q := Rn_of (show decode (mco 11) 58 = .ok (.bipush 8, 2) by decide +kernel) (fun _ => rfl)
theorem u11_60 (x y : Int32) (ls : Vs) (st : Vs) (σ : Sto) (Q : Option Value → Sto → Prop) : Rn 11 60 ls (.int y :: .int x :: st) σ Q ↔ Rn 11 61 ls (.int (x * y) :: st) σ Q := Rn_of (show decode (mco 11) 60 = .ok (.imul, 1) by decide +kernel) (fun _ => rfl)
theorem u11_61  (ls : Vs) (st : Vs) (σ : Sto) (Q : Option Value → Sto → Prop) : Rn 11 61 ls st σ Q ↔ Rn 11 63 ls (.int 8 :: st) σ Q := Rn_of (show decode (mco 11) 61 = .ok (.bipush 8, 2) by decide +kernel) (fun _ => rfl)
theorem u11_63 (n dp sp : Int32) (a1 a0 : Nat) (ls : Vs) (I : Nat → Nat → Int32) (J : Nat → Nat → Int64) (Q : Option Value → Sto → Prop) : Rn 11 63 ls (.int n :: .int dp :: .ref a1 :: .int sp :: .ref a0 :: []) (Sg I J) Q ↔ ((kA a0 20 ∧ kA a1 20) ∧ ¬ sp < 0 ∧ ¬ dp < 0 ∧ ¬ n < 0 ∧ sp.toNatClampNeg + n.toNatClampNeg ≤ (tg a0).2 ∧ dp.toNatClampNeg + n.toNatClampNeg ≤ (tg a1).2) ∧ Rn 11 66 ls [] (Sg (va_up I a1 (va_cpy (I a0) (I a1) sp.toNatClampNeg dp.toNatClampNeg n.toNatClampNeg)) J) Q := g_copy (t := 0) (n1 := 5) (show decode (mco 11) 63 = .ok (.invokestatic 25, 3) by decide +kernel) (by decide +kernel) (Nat.le_of_ble_eq_true rfl)
theorem u11_66 (x0 : Nat) (v1 : Value) (v2 : Value) (st : Vs) (σ : Sto) (Q : Option Value → Sto → Prop) : Rn 11 66 [.ref x0, v1, v2] st σ Q ↔ kL x0 ∧ Rn 11 67 [.ref x0, v1, v2] (.ref x0 :: st) σ Q := Rn_if (show decode (mco 11) 66 = .ok (.aload_n 0, 1) by decide +kernel) (fun _ => rfl)
theorem u11_67 (a : Nat) (ls : Vs) (st : Vs) (I : Nat → Nat → Int32) (J : Nat → Nat → Int64) (Q : Option Value → Sto → Prop) : Rn 11 67 ls (.ref a :: st) (Sg I J) Q ↔ kA a 4 ∧ Rn 11 70 ls (.ref (rf a 1) :: st) (Sg I J) Q := g_get2 (show decode (mco 11) 67 = .ok (.getfield 15, 3) by decide +kernel) (by decide +kernel) (by decide) (by decide)
theorem u11_70 (v0 : Value) (v1 : Value) (x2 : Int32) (st : Vs) (σ : Sto) (Q : Option Value → Sto → Prop) : Rn 11 70 [v0, v1, .int x2] st σ Q ↔ Rn 11 71 [v0, v1, .int x2] (.int x2 :: st) σ Q := Rn_of (show decode (mco 11) 70 = .ok (.iload_n 2, 1) by decide +kernel) (fun _ => rfl)
theorem u11_71 (v0 : Value) (x1 : Nat) (v2 : Value) (st : Vs) (σ : Sto) (Q : Option Value → Sto → Prop) : Rn 11 71 [v0, .ref x1, v2] st σ Q ↔ kL x1 ∧ Rn 11 72 [v0, .ref x1, v2] (.ref x1 :: st) σ Q := Rn_if (show decode (mco 11) 71 = .ok (.aload_n 1, 1) by decide +kernel) (fun _ => rfl)
theorem u11_72 (a : Nat) (ls : Vs) (st : Vs) (I : Nat → Nat → Int32) (J : Nat → Nat → Int64) (Q : Option Value → Sto → Prop) : Rn 11 72 ls (.ref a :: st) (Sg I J) Q ↔ kA a 10 ∧ Rn 11 75 ls (.int (I a 1) :: st) (Sg I J) Q := g_get0 (show decode (mco 11) 72 = .ok (.getfield 39, 3) by decide +kernel) (by decide +kernel) (by decide) (by decide)
theorem u11_75 (x i : Int32) (a : Nat) (ls : Vs) (st : Vs) (I : Nat → Nat → Int32) (J : Nat → Nat → Int64) (Q : Option Value → Sto → Prop) : Rn 11 75 ls (.int x :: .int i :: .ref a :: st) (Sg I J) Q ↔ (kA a 20 ∧ inb i (tg a).2) ∧ Rn 11 76 ls st (Sg (wI I a i.toNatClampNeg x) J) Q := g_iast (show decode (mco 11) 75 = .ok (.iastore, 1) by decide +kernel)
theorem u11_76 (x0 : Nat) (v1 : Value) (v2 : Value) (st : Vs) (σ : Sto) (Q : Option Value → Sto → Prop) : Rn 11 76 [.ref x0, v1, v2] st σ Q ↔ kL x0 ∧ Rn 11 77 [.ref x0, v1, v2] (.ref x0 :: st) σ Q := Rn_if (show decode (mco 11) 76 = .ok (.aload_n 0, 1) by decide +kernel) (fun _ => rfl)
theorem u11_77 (a : Nat) (ls : Vs) (st : Vs) (I : Nat → Nat → Int32) (J : Nat → Nat → Int64) (Q : Option Value → Sto → Prop) : Rn 11 77 ls (.ref a :: st) (Sg I J) Q ↔ kA a 4 ∧ Rn 11 80 ls (.ref (rf a 2) :: st) (Sg I J) Q := g_get2 (show decode (mco 11) 77 = .ok (.getfield 18, 3) by decide +kernel) (by decide +kernel) (by decide) (by decide)
theorem u11_80 (v0 : Value) (v1 : Value) (x2 : Int32) (st : Vs) (σ : Sto) (Q : Option Value → Sto → Prop) : Rn 11 80 [v0, v1, .int x2] st σ Q ↔ Rn 11 81 [v0, v1, .int x2] (.int x2 :: st) σ Q := Rn_of (show decode (mco 11) 80 = .ok (.iload_n 2, 1) by decide +kernel) (fun _ => rfl)
theorem u11_81 (v0 : Value) (x1 : Nat) (v2 : Value) (st : Vs) (σ : Sto) (Q : Option Value → Sto → Prop) : Rn 11 81 [v0, .ref x1, v2] st σ Q ↔ kL x1 ∧ Rn 11 82 [v0, .ref x1, v2] (.ref x1 :: st) σ Q := Rn_if (show decode (mco 11) 81 = .ok (.aload_n 1, 1) by decide +kernel) (fun _ => rfl)
theorem u11_82 (a : Nat) (ls : Vs) (st : Vs) (I : Nat → Nat → Int32) (J : Nat → Nat → Int64) (Q : Option Value → Sto → Prop) : Rn 11 82 ls (.ref a :: st) (Sg I J) Q ↔ kA a 10 ∧ Rn 11 85 ls (.int (I a 2) :: st) (Sg I J) Q := g_get0 (show decode (mco 11) 82 = .ok (.getfield 41, 3) by decide +kernel) (by decide +kernel) (by decide) (by decide)
theorem u11_85 (x i : Int32) (a : Nat) (ls : Vs) (st : Vs) (I : Nat → Nat → Int32) (J : Nat → Nat → Int64) (Q : Option Value → Sto → Prop) : Rn 11 85 ls (.int x :: .int i :: .ref a :: st) (Sg I J) Q ↔ (kA a 20 ∧ inb i (tg a).2) ∧ Rn 11 86 ls st (Sg (wI I a i.toNatClampNeg x) J) Q := g_iast (show decode (mco 11) 85 = .ok (.iastore, 1) by decide +kernel)
theorem u11_86 (ls : Vs) (σ : Sto) (Q : Option Value → Sto → Prop) : Rn 11 86 ls [] σ Q ↔ Q none σ := g_vret (show decode (mco 11) 86 = .ok (.return_, 1) by decide +kernel) rfl
theorem u38_0 (v0 : Value) (x1 : Int64) (v2 : Value) (v3 : Value) (v4 : Value) (v5 : Value) (v6 : Value) (v7 : Value) (st : Vs) (σ : Sto) (Q : Option Value → Sto → Prop) : Rn 38 0 [v0, .long x1, v2, v3, v4, v5, v6, v7] st σ Q ↔ Rn 38 1 [v0, .long x1, v2, v3, v4, v5, v6, v7] (.long x1 :: st) σ Q := Rn_of (show decode (mco 38) 0 = .ok (.lload_n 1, 1) by decide +kernel) (fun _ => rfl)
theorem u38_1 (v0 : Value) (v1 : Value) (v2 : Value) (x3 : Int32) (v4 : Value) (v5 : Value) (v6 : Value) (v7 : Value) (y : Int64) (st : Vs) (σ : Sto) (Q : Option Value → Sto → Prop) : Rn 38 1 [v0, v1, v2, .int x3, v4, v5, v6, v7] (.long y :: st) σ Q ↔ Rn 38 3 [v0, v1, v2, .int x3, .long y, .null, v6, v7] st σ Q := Rn_of (show decode (mco 38) 1 = .ok (.lstore 4, 2) by decide +kernel) (fun _ => rfl)
theorem u38_3  (ls : Vs) (st : Vs) (σ : Sto) (Q : Option Value → Sto → Prop) : Rn 38 3 ls st σ Q ↔ Rn 38 4 ls (.int 0 :: st) σ Q := Rn_of (show decode (mco 38) 3 = .ok (.iconst 0, 1) by decide +kernel) (fun _ => rfl)
theorem u38_4 (v0 : Value) (v1 : Value) (v2 : Value) (v3 : Value) (v4 : Value) (v6 : Value) (v7 : Value) (y : Int32) (st : Vs) (σ : Sto) (Q : Option Value → Sto → Prop) : Rn 38 4 [v0, v1, v2, v3, v4, .null, v6, v7] (.int y :: st) σ Q ↔ Rn 38 6 [v0, v1, v2, v3, v4, .null, .int y, v7] st σ Q := Rn_of (show decode (mco 38) 4 = .ok (.istore 6, 2) by decide +kernel) (fun _ => rfl)
theorem u38_6 (v0 : Value) (v1 : Value) (v2 : Value) (v3 : Value) (v4 : Value) (v5 : Value) (x6 : Int32) (v7 : Value) (st : Vs) (σ : Sto) (Q : Option Value → Sto → Prop) : Rn 38 6 [v0, v1, v2, v3, v4, v5, .int x6, v7] st σ Q ↔ Rn 38 8 [v0, v1, v2, v3, v4, v5, .int x6, v7] (.int x6 :: st) σ Q := Rn_of (show decode (mco 38) 6 = .ok (.iload 6, 2) by decide +kernel) (fun _ => rfl)
theorem u38_8 (x0 : Nat) (v1 : Value) (v2 : Value) (v3 : Value) (v4 : Value) (v5 : Value) (v6 : Value) (v7 : Value) (st : Vs) (σ : Sto) (Q : Option Value → Sto → Prop) : Rn 38 8 [.ref x0, v1, v2, v3, v4, v5, v6, v7] st σ Q ↔ kL x0 ∧ Rn 38 9 [.ref x0, v1, v2, v3, v4, v5, v6, v7] (.ref x0 :: st) σ Q := Rn_if (show decode (mco 38) 8 = .ok (.aload_n 0, 1) by decide +kernel) (fun _ => rfl)
theorem u38_9 (a : Nat) (ls : Vs) (st : Vs) (I : Nat → Nat → Int32) (J : Nat → Nat → Int64) (Q : Option Value → Sto → Prop) : Rn 38 9 ls (.ref a :: st) (Sg I J) Q ↔ kA a 7 ∧ Rn 38 12 ls (.int (I a 1) :: st) (Sg I J) Q := g_get0 (show decode (mco 38) 9 = .ok (.getfield 15, 3) by decide +kernel) (by decide +kernel) (by decide) (by decide)
theorem u38_12 (x y : Int32) (ls : Vs) (st : Vs) (σ : Sto) (Q : Option Value → Sto → Prop) : Rn 38 12 ls (.int y :: .int x :: st) σ Q ↔ if y ≤ x then Rn 38 52 ls st σ Q else Rn 38 15 ls st σ Q := g_if_icmp (show decode (mco 38) 12 = .ok (.if_icmp .ge 40, 3) by decide +kernel) rfl cc_ge
theorem u38_15  (ls : Vs) (st : Vs) (σ : Sto) (Q : Option Value → Sto → Prop) : Rn 38 15 ls st σ Q ↔ Rn 38 16 ls (.int 0 :: st) σ Q := Rn_of (show decode (mco 38) 15 = .ok (.iconst 0, 1) by decide +kernel) (fun _ => rfl)
theorem u38_16 (v0 : Value) (v1 : Value) (v2 : Value) (v3 : Value) (v4 : Value) (v5 : Value) (x6 : Int32) (v7 : Value) (y : Int32) (st : Vs) (σ : Sto) (Q : Option Value → Sto → Prop) : Rn 38 16 [v0, v1, v2, v3, v4, v5, .int x6, v7] (.int y :: st) σ Q ↔ Rn 38 18 [v0, v1, v2, v3, v4, v5, .int x6, .int y] st σ Q := Rn_of (show decode (mco 38) 16 = .ok (.istore 7, 2) by decide +kernel) (fun _ => rfl)
theorem u38_18 (v0 : Value) (v1 : Value) (v2 : Value) (v3 : Value) (v4 : Value) (v5 : Value) (v6 : Value) (x7 : Int32) (st : Vs) (σ : Sto) (Q : Option Value → Sto → Prop) : Rn 38 18 [v0, v1, v2, v3, v4, v5, v6, .int x7] st σ Q ↔ Rn 38 20 [v0, v1, v2, v3, v4, v5, v6, .int x7] (.int x7 :: st) σ Q := Rn_of (show decode (mco 38) 18 = .ok (.iload 7, 2) by decide +kernel) (fun _ => rfl)
theorem u38_20 (v0 : Value) (v1 : Value) (v2 : Value) (x3 : Int32) (v4 : Value) (v5 : Value) (v6 : Value) (v7 : Value) (st : Vs) (σ : Sto) (Q : Option Value → Sto → Prop) : Rn 38 20 [v0, v1, v2, .int x3, v4, v5, v6, v7] st σ Q ↔ Rn 38 21 [v0, v1, v2, .int x3, v4, v5, v6, v7] (.int x3 :: st) σ Q := Rn_of (show decode (mco 38) 20 = .ok (.iload_n 3, 1) by decide +kernel) (fun _ => rfl)
theorem u38_21 (x y : Int32) (ls : Vs) (st : Vs) (σ : Sto) (Q : Option Value → Sto → Prop) : Rn 38 21 ls (.int y :: .int x :: st) σ Q ↔ if y ≤ x then Rn 38 46 ls st σ Q else Rn 38 24 ls st σ Q := g_if_icmp (show decode (mco 38) 21 = .ok (.if_icmp .ge 25, 3) by decide +kernel) rfl cc_ge
theorem u38_24 (v0 : Value) (v1 : Value) (v2 : Value) (v3 : Value) (x4 : Int64) (v5 : Value) (v6 : Value) (v7 : Value) (st : Vs) (σ : Sto) (Q : Option Value → Sto → Prop) : Rn 38 24 [v0, v1, v2, v3, .long x4, v5, v6, v7] st σ Q ↔ Rn 38 26 [v0, v1, v2, v3, .long x4, v5, v6, v7] (.long x4 :: st) σ Q := Rn_of (show decode (mco 38) 24 = .ok (.lload 4, 2) by decide +kernel) (fun _ => rfl)
theorem u38_26 (x0 : Nat) (v1 : Value) (v2 : Value) (v3 : Value) (v4 : Value) (v5 : Value) (v6 : Value) (v7 : Value) (st : Vs) (σ : Sto) (Q : Option Value → Sto → Prop) : Rn 38 26 [.ref x0, v1, v2, v3, v4, v5, v6, v7] st σ Q ↔ kL x0 ∧ Rn 38 27 [.ref x0, v1, v2, v3, v4, v5, v6, v7] (.ref x0 :: st) σ Q := Rn_if (show decode (mco 38) 26 = .ok (.aload_n 0, 1) by decide +kernel) (fun _ => rfl)
theorem u38_27 (v0 : Value) (v1 : Value) (v2 : Value) (v3 : Value) (v4 : Value) (v5 : Value) (x6 : Int32) (v7 : Value) (st : Vs) (σ : Sto) (Q : Option Value → Sto → Prop) : Rn 38 27 [v0, v1, v2, v3, v4, v5, .int x6, v7] st σ Q ↔ Rn 38 29 [v0, v1, v2, v3, v4, v5, .int x6, v7] (.int x6 :: st) σ Q := Rn_of (show decode (mco 38) 27 = .ok (.iload 6, 2) by decide +kernel) (fun _ => rfl)
theorem u38_29 (v0 : Value) (v1 : Value) (v2 : Value) (v3 : Value) (v4 : Value) (v5 : Value) (v6 : Value) (x7 : Int32) (st : Vs) (σ : Sto) (Q : Option Value → Sto → Prop) : Rn 38 29 [v0, v1, v2, v3, v4, v5, v6, .int x7] st σ Q ↔ Rn 38 31 [v0, v1, v2, v3, v4, v5, v6, .int x7] (.int x7 :: st) σ Q := Rn_of (show decode (mco 38) 29 = .ok (.iload 7, 2) by decide +kernel) (fun _ => rfl)
theorem u38_31 (a : Nat) (x0 : Int32) (x1 : Int32) (w0 : Value) (ls : Vs) (I : Nat → Nat → Int32) (J : Nat → Nat → Int64) (Q : Option Value → Sto → Prop) : Rn 38 31 ls [.int x1, .int x0, .ref a, w0] (Sg I J) Q ↔ kA a 7 ∧ Ca 35 [.ref a, .int x0, .int x1] (Sg I J) 38 34 ls [w0] Q := g_vir (t := 35) (nn := 2) (as0 := [.int x0, .int x1]) (show decode (mco 38) 31 = .ok (.invokevirtual 29, 3) by decide +kernel) (by decide +kernel) rfl rfl ⟨rfl, Nat.le_of_ble_eq_true rfl, Nat.le_of_ble_eq_true rfl, Nat.le_of_ble_eq_true rfl⟩
theorem u38_34 (x : Int32) (ls : Vs) (st : Vs) (σ : Sto) (Q : Option Value → Sto → Prop) : Rn 38 34 ls (.int x :: st) σ Q ↔ Rn 38 35 ls (.long x.toInt64 :: st) σ Q := Rn_of (show decode (mco 38) 34 = .ok (.i2l, 1) by decide +kernel) (fun _ => rfl)
theorem u38_35 (x0 : Int64) (x1 : Int64) (ls : Vs) (I : Nat → Nat → Int32) (J : Nat → Nat → Int64) (Q : Option Value → Sto → Prop) : Rn 38 35 ls [.long x1, .long x0] (Sg I J) Q ↔ Ca 102 [.long x0, .null, .long x1, .null] (Sg I J) 38 38 ls [] Q := g_sta2 (t := 102) (nn := 2) (as := [.long x0, .long x1]) (show decode (mco 38) 35 = .ok (.invokestatic 33, 3) by decide +kernel) (by decide +kernel) rfl rfl ⟨rfl, Nat.le_of_ble_eq_true rfl, Nat.le_of_ble_eq_true rfl, Nat.le_of_ble_eq_true rfl⟩
theorem u38_38 (v0 : Value) (v1 : Value) (v2 : Value) (x3 : Int32) (v4 : Value) (v5 : Value) (v6 : Value) (v7 : Value) (y : Int64) (st : Vs) (σ : Sto) (Q : Option Value → Sto → Prop) : Rn 38 38 [v0, v1, v2, .int x3, v4, v5, v6, v7] (.long y :: st) σ Q ↔ Rn 38 40 [v0, v1, v2, .int x3, .long y, .null, v6, v7] st σ Q := Rn_of (show decode (mco 38) 38 = .ok (.lstore 4, 2) by decide +kernel) (fun _ => rfl)
theorem u38_40 (v0 : Value) (v1 : Value) (v2 : Value) (v3 : Value) (v4 : Value) (v5 : Value) (x6 : Int32) (x7 : Int32) (st : Vs) (σ : Sto) (Q : Option Value → Sto → Prop) : Rn 38 40 [v0, v1, v2, v3, v4, v5, .int x6, .int x7] st σ Q ↔ Rn 38 43 [v0, v1, v2, v3, v4, v5, .int x6, .int (x7 + 1)] st σ Q := Rn_of (show decode (mco 38) 40 = .ok (.iinc 7 1, 3) by decide +kernel) (fun _ => rfl)
theorem u38_43 (ls : Vs) (st : Vs) (σ : Sto) (Q : Option Value → Sto → Prop) : Rn 38 43 ls st σ Q ↔ Rn 38 18 ls st σ Q := Rn_of (show decode (mco 38) 43 = .ok (.goto (-25), 3) by decide +kernel) (fun _ => rfl)
theorem u38_46 (v0 : Value) (v1 : Value) (v2 : Value) (v3 : Value) (v4 : Value) (x6 : Int32) (v7 : Value) (st : Vs) (σ : Sto) (Q : Option Value → Sto → Prop) : Rn 38 46 [v0, v1, v2, v3, v4, .null, .int x6, v7] st σ Q ↔ Rn 38 49 [v0, v1, v2, v3, v4, .null, .int (x6 + 1), v7] st σ Q := Rn_of (show decode (mco 38) 46 = .ok (.iinc 6 1, 3) by decide +kernel) (fun _ => rfl)
theorem u38_49 (ls : Vs) (st : Vs) (σ : Sto) (Q : Option Value → Sto → Prop) : Rn 38 49 ls st σ Q ↔ Rn 38 6 ls st σ Q := Rn_of (show decode (mco 38) 49 = .ok (.goto (-43), 3) by decide +kernel) (fun _ => rfl)
theorem u38_52 (v0 : Value) (v1 : Value) (v2 : Value) (v3 : Value) (x4 : Int64) (v5 : Value) (v6 : Value) (v7 : Value) (st : Vs) (σ : Sto) (Q : Option Value → Sto → Prop) : Rn 38 52 [v0, v1, v2, v3, .long x4, v5, v6, v7] st σ Q ↔ Rn 38 54 [v0, v1, v2, v3, .long x4, v5, v6, v7] (.long x4 :: st) σ Q := Rn_of (show decode (mco 38) 52 = .ok (.lload 4, 2) by decide +kernel) (fun _ => rfl)
theorem u38_54 (x : Int64) (ls : Vs) (σ : Sto) (Q : Option Value → Sto → Prop) : Rn 38 54 ls [.long x] σ Q ↔ Q (some (.long x)) σ := g_lret (show decode (mco 38) 54 = .ok (.lreturn, 1) by decide +kernel) rfl
theorem u209_0  (ls : Vs) (st : Vs) (σ : Sto) (Q : Option Value → Sto → Prop) : Rn 209 0 ls st σ Q ↔ Rn 209 1 ls (.int 0 :: st) σ Q := Rn_of (show decode (mco 209) 0 = .ok (.iconst 0, 1) by decide +kernel) (fun _ => rfl)
theorem u209_1 (v0 : Value) (x1 : Int32) (v2 : Value) (v3 : Value) (y : Int32) (st : Vs) (σ : Sto) (Q : Option Value → Sto → Prop) : Rn 209 1 [v0, .int x1, v2, v3] (.int y :: st) σ Q ↔ Rn 209 2 [v0, .int x1, .int y, v3] st σ Q := Rn_of (show decode (mco 209) 1 = .ok (.istore_n 2, 1) by decide +kernel) (fun _ => rfl)
theorem u209_2 (x0 : Nat) (v1 : Value) (v2 : Value) (v3 : Value) (st : Vs) (σ : Sto) (Q : Option Value → Sto → Prop) : Rn 209 2 [.ref x0, v1, v2, v3] st σ Q ↔ kL x0 ∧ Rn 209 3 [.ref x0, v1, v2, v3] (.ref x0 :: st) σ Q := Rn_if (show decode (mco 209) 2 = .ok (.aload_n 0, 1) by decide +kernel) (fun _ => rfl)
theorem u209_3 (a : Nat) (h : kA a 20) (ls : Vs) (st : Vs) (I : Nat → Nat → Int32) (J : Nat → Nat → Int64) (Q : Option Value → Sto → Prop) : Rn 209 3 ls (.ref a :: st) (Sg I J) Q ↔ Rn 209 4 ls (.int (Int32.ofNat (tg a).2) :: st) (Sg I J) Q := g_alen (show decode (mco 209) 3 = .ok (.arraylength, 1) by decide +kernel) h
theorem u209_4 (v0 : Value) (v1 : Value) (x2 : Int32) (v3 : Value) (y : Int32) (st : Vs) (σ : Sto) (Q : Option Value → Sto → Prop) : Rn 209 4 [v0, v1, .int x2, v3] (.int y :: st) σ Q ↔ Rn 209 5 [v0, v1, .int x2, .int y] st σ Q := Rn_of (show decode (mco 209) 4 = .ok (.istore_n 3, 1) by decide +kernel) (fun _ => rfl)
theorem u209_5 (v0 : Value) (v1 : Value) (x2 : Int32) (v3 : Value) (st : Vs) (σ : Sto) (Q : Option Value → Sto → Prop) : Rn 209 5 [v0, v1, .int x2, v3] st σ Q ↔ Rn 209 6 [v0, v1, .int x2, v3] (.int x2 :: st) σ Q := Rn_of (show decode (mco 209) 5 = .ok (.iload_n 2, 1) by decide +kernel) (fun _ => rfl)
theorem u209_6 (v0 : Value) (v1 : Value) (v2 : Value) (x3 : Int32) (st : Vs) (σ : Sto) (Q : Option Value → Sto → Prop) : Rn 209 6 [v0, v1, v2, .int x3] st σ Q ↔ Rn 209 7 [v0, v1, v2, .int x3] (.int x3 :: st) σ Q := Rn_of (show decode (mco 209) 6 = .ok (.iload_n 3, 1) by decide +kernel) (fun _ => rfl)
theorem u209_7 (x y : Int32) (ls : Vs) (st : Vs) (σ : Sto) (Q : Option Value → Sto → Prop) : Rn 209 7 ls (.int y :: .int x :: st) σ Q ↔ if y ≤ x then Rn 209 20 ls st σ Q else Rn 209 10 ls st σ Q := g_if_icmp (show decode (mco 209) 7 = .ok (.if_icmp .ge 13, 3) by decide +kernel) rfl cc_ge
theorem u209_10 (x0 : Nat) (v1 : Value) (v2 : Value) (v3 : Value) (st : Vs) (σ : Sto) (Q : Option Value → Sto → Prop) : Rn 209 10 [.ref x0, v1, v2, v3] st σ Q ↔ kL x0 ∧ Rn 209 11 [.ref x0, v1, v2, v3] (.ref x0 :: st) σ Q := Rn_if (show decode (mco 209) 10 = .ok (.aload_n 0, 1) by decide +kernel) (fun _ => rfl)
theorem u209_11 (v0 : Value) (v1 : Value) (x2 : Int32) (v3 : Value) (st : Vs) (σ : Sto) (Q : Option Value → Sto → Prop) : Rn 209 11 [v0, v1, .int x2, v3] st σ Q ↔ Rn 209 12 [v0, v1, .int x2, v3] (.int x2 :: st) σ Q := Rn_of (show decode (mco 209) 11 = .ok (.iload_n 2, 1) by decide +kernel) (fun _ => rfl)
theorem u209_12 (v0 : Value) (x1 : Int32) (v2 : Value) (v3 : Value) (st : Vs) (σ : Sto) (Q : Option Value → Sto → Prop) : Rn 209 12 [v0, .int x1, v2, v3] st σ Q ↔ Rn 209 13 [v0, .int x1, v2, v3] (.int x1 :: st) σ Q := Rn_of (show decode (mco 209) 12 = .ok (.iload_n 1, 1) by decide +kernel) (fun _ => rfl)
theorem u209_13 (x i : Int32) (a : Nat) (ls : Vs) (st : Vs) (I : Nat → Nat → Int32) (J : Nat → Nat → Int64) (Q : Option Value → Sto → Prop) : Rn 209 13 ls (.int x :: .int i :: .ref a :: st) (Sg I J) Q ↔ (kA a 20 ∧ inb i (tg a).2) ∧ Rn 209 14 ls st (Sg (wI I a i.toNatClampNeg x) J) Q := g_iast (show decode (mco 209) 13 = .ok (.iastore, 1) by decide +kernel)
theorem u209_14 (v0 : Value) (x1 : Int32) (x2 : Int32) (v3 : Value) (st : Vs) (σ : Sto) (Q : Option Value → Sto → Prop) : Rn 209 14 [v0, .int x1, .int x2, v3] st σ Q ↔ Rn 209 17 [v0, .int x1, .int (x2 + 1), v3] st σ Q := Rn_of (show decode (mco 209) 14 = .ok (.iinc 2 1, 3) by decide +kernel) (fun _ => rfl)
theorem u209_17 (ls : Vs) (st : Vs) (σ : Sto) (Q : Option Value → Sto → Prop) : Rn 209 17 ls st σ Q ↔ Rn 209 5 ls st σ Q := Rn_of (show decode (mco 209) 17 = .ok (.goto (-12), 3) by decide +kernel) (fun _ => rfl)
theorem u209_20 (ls : Vs) (σ : Sto) (Q : Option Value → Sto → Prop) : Rn 209 20 ls [] σ Q ↔ Q none σ := g_vret (show decode (mco 209) 20 = .ok (.return_, 1) by decide +kernel) rfl
end
