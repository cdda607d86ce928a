section
-- ===== PART A: goes FIRST, ahead of the names: the tables' words, and 'selects' of the private methods out of them =====
/-- a private method of a class that the tables say can be made, by its rows of tables_1 -/
def lw_okq (q : MethodName × Nat) : Prop := (q.1.cls ≠ "java/lang/invoke/MethodHandle" ∧ q.1.cls ≠ "java/lang/invoke/VarHandle") ∧ Cond.instantiable q.1.cls q.2 ∈ tables_1 ∧ Cond.privateMethod q.1 ∈ tables_1 ∧ Cond.instanceMethod q.1 ∈ tables_1
theorem lw_p0 : lw_okq (⟨"Gimlet$Statements", "firstUnmet", "(I)I"⟩, 6) := ⟨⟨by decide +kernel, by decide +kernel⟩, List.mem_of_getElem? (i := 122) (by decide +kernel), List.mem_of_getElem? (i := 216) (by decide +kernel), List.mem_of_getElem? (i := 217) (by decide +kernel)⟩
theorem lw_p1 : lw_okq (⟨"Gimlet", "checkLetter", "(I)V"⟩, 5) := ⟨⟨by decide +kernel, by decide +kernel⟩, List.mem_of_getElem? (i := 20) (by decide +kernel), List.mem_of_getElem? (i := 229) (by decide +kernel), List.mem_of_getElem? (i := 230) (by decide +kernel)⟩
theorem lw_p2 : lw_okq (⟨"java/lang/Throwable", "fillInStackTrace", "(I)Ljava/lang/Throwable;"⟩, 6) := ⟨⟨by decide +kernel, by decide +kernel⟩, List.mem_of_getElem? (i := 273) (by decide +kernel), List.mem_of_getElem? (i := 271) (by decide +kernel), List.mem_of_getElem? (i := 272) (by decide +kernel)⟩
theorem lw_p3 : lw_okq (⟨"Gimlet$Terms", "find", "(CII)I"⟩, 6) := ⟨⟨by decide +kernel, by decide +kernel⟩, List.mem_of_getElem? (i := 28) (by decide +kernel), List.mem_of_getElem? (i := 307) (by decide +kernel), List.mem_of_getElem? (i := 308) (by decide +kernel)⟩
theorem lw_p4 : lw_okq (⟨"Gimlet", "madeOrThrow", "(I)I"⟩, 5) := ⟨⟨by decide +kernel, by decide +kernel⟩, List.mem_of_getElem? (i := 20) (by decide +kernel), List.mem_of_getElem? (i := 331) (by decide +kernel), List.mem_of_getElem? (i := 332) (by decide +kernel)⟩
theorem lw_p5 : lw_okq (⟨"Gimlet", "checkTerm", "(I)V"⟩, 5) := ⟨⟨by decide +kernel, by decide +kernel⟩, List.mem_of_getElem? (i := 20) (by decide +kernel), List.mem_of_getElem? (i := 373) (by decide +kernel), List.mem_of_getElem? (i := 374) (by decide +kernel)⟩
theorem lw_p6 : lw_okq (⟨"Gimlet", "makePair", "(CII)I"⟩, 5) := ⟨⟨by decide +kernel, by decide +kernel⟩, List.mem_of_getElem? (i := 20) (by decide +kernel), List.mem_of_getElem? (i := 401) (by decide +kernel), List.mem_of_getElem? (i := 402) (by decide +kernel)⟩
theorem lw_p7 : lw_okq (⟨"Gimlet$Terms", "leftOf", "(I)I"⟩, 6) := ⟨⟨by decide +kernel, by decide +kernel⟩, List.mem_of_getElem? (i := 28) (by decide +kernel), List.mem_of_getElem? (i := 462) (by decide +kernel), List.mem_of_getElem? (i := 463) (by decide +kernel)⟩
theorem lw_p8 : lw_okq (⟨"Gimlet$Terms", "rightOf", "(I)I"⟩, 6) := ⟨⟨by decide +kernel, by decide +kernel⟩, List.mem_of_getElem? (i := 28) (by decide +kernel), List.mem_of_getElem? (i := 466) (by decide +kernel), List.mem_of_getElem? (i := 467) (by decide +kernel)⟩
theorem lw_p9 : lw_okq (⟨"Gimlet$Terms", "headOf", "(I)C"⟩, 6) := ⟨⟨by decide +kernel, by decide +kernel⟩, List.mem_of_getElem? (i := 28) (by decide +kernel), List.mem_of_getElem? (i := 470) (by decide +kernel), List.mem_of_getElem? (i := 471) (by decide +kernel)⟩
theorem lw_p10 : lw_okq (⟨"Gimlet", "checkRegion", "(I)V"⟩, 5) := ⟨⟨by decide +kernel, by decide +kernel⟩, List.mem_of_getElem? (i := 20) (by decide +kernel), List.mem_of_getElem? (i := 495) (by decide +kernel), List.mem_of_getElem? (i := 496) (by decide +kernel)⟩
theorem lw_p11 : lw_okq (⟨"Gimlet$Terms", "reachesBelow", "(III)Z"⟩, 6) := ⟨⟨by decide +kernel, by decide +kernel⟩, List.mem_of_getElem? (i := 28) (by decide +kernel), List.mem_of_getElem? (i := 512) (by decide +kernel), List.mem_of_getElem? (i := 513) (by decide +kernel)⟩
theorem lw_p12 : lw_okq (⟨"Gimlet$Rewriter", "seek", "()V"⟩, 4) := ⟨⟨by decide +kernel, by decide +kernel⟩, List.mem_of_getElem? (i := 55) (by decide +kernel), List.mem_of_getElem? (i := 545) (by decide +kernel), List.mem_of_getElem? (i := 546) (by decide +kernel)⟩
theorem lw_p13 : lw_okq (⟨"Gimlet$Rewriter", "ruleAt", "(I)C"⟩, 4) := ⟨⟨by decide +kernel, by decide +kernel⟩, List.mem_of_getElem? (i := 55) (by decide +kernel), List.mem_of_getElem? (i := 567) (by decide +kernel), List.mem_of_getElem? (i := 568) (by decide +kernel)⟩
theorem lw_p14 : lw_okq (⟨"Gimlet$Rewriter", "ruleOfPair", "(ICC)C"⟩, 4) := ⟨⟨by decide +kernel, by decide +kernel⟩, List.mem_of_getElem? (i := 55) (by decide +kernel), List.mem_of_getElem? (i := 578) (by decide +kernel), List.mem_of_getElem? (i := 579) (by decide +kernel)⟩
theorem lw_p15 : lw_okq (⟨"Gimlet", "ruleOrThrow", "()C"⟩, 5) := ⟨⟨by decide +kernel, by decide +kernel⟩, List.mem_of_getElem? (i := 20) (by decide +kernel), List.mem_of_getElem? (i := 593) (by decide +kernel), List.mem_of_getElem? (i := 594) (by decide +kernel)⟩
def lw_privs_1 : List (MethodName × Nat) := [(⟨"Gimlet$Statements", "firstUnmet", "(I)I"⟩, 6), (⟨"Gimlet", "checkLetter", "(I)V"⟩, 5), (⟨"java/lang/Throwable", "fillInStackTrace", "(I)Ljava/lang/Throwable;"⟩, 6), (⟨"Gimlet$Terms", "find", "(CII)I"⟩, 6), (⟨"Gimlet", "madeOrThrow", "(I)I"⟩, 5), (⟨"Gimlet", "checkTerm", "(I)V"⟩, 5), (⟨"Gimlet", "makePair", "(CII)I"⟩, 5), (⟨"Gimlet$Terms", "leftOf", "(I)I"⟩, 6), (⟨"Gimlet$Terms", "rightOf", "(I)I"⟩, 6), (⟨"Gimlet$Terms", "headOf", "(I)C"⟩, 6), (⟨"Gimlet", "checkRegion", "(I)V"⟩, 5), (⟨"Gimlet$Terms", "reachesBelow", "(III)Z"⟩, 6), (⟨"Gimlet$Rewriter", "seek", "()V"⟩, 4), (⟨"Gimlet$Rewriter", "ruleAt", "(I)C"⟩, 4), (⟨"Gimlet$Rewriter", "ruleOfPair", "(ICC)C"⟩, 4), (⟨"Gimlet", "ruleOrThrow", "()C"⟩, 5)]
theorem lw_r1 : ∀ q ∈ lw_privs_1, lw_okq q := List.forall_mem_cons.mpr ⟨lw_p0, List.forall_mem_cons.mpr ⟨lw_p1, List.forall_mem_cons.mpr ⟨lw_p2, List.forall_mem_cons.mpr ⟨lw_p3, List.forall_mem_cons.mpr ⟨lw_p4, List.forall_mem_cons.mpr ⟨lw_p5, List.forall_mem_cons.mpr ⟨lw_p6, List.forall_mem_cons.mpr ⟨lw_p7, List.forall_mem_cons.mpr ⟨lw_p8, List.forall_mem_cons.mpr ⟨lw_p9, List.forall_mem_cons.mpr ⟨lw_p10, List.forall_mem_cons.mpr ⟨lw_p11, List.forall_mem_cons.mpr ⟨lw_p12, List.forall_mem_cons.mpr ⟨lw_p13, List.forall_mem_cons.mpr ⟨lw_p14, List.forall_mem_cons.mpr ⟨lw_p15, fun _ h => absurd h List.not_mem_nil⟩⟩⟩⟩⟩⟩⟩⟩⟩⟩⟩⟩⟩⟩⟩⟩
theorem lw_p16 : lw_okq (⟨"Gimlet", "rewriteOrThrow", "()V"⟩, 5) := ⟨⟨by decide +kernel, by decide +kernel⟩, List.mem_of_getElem? (i := 20) (by decide +kernel), List.mem_of_getElem? (i := 614) (by decide +kernel), List.mem_of_getElem? (i := 615) (by decide +kernel)⟩
theorem lw_p17 : lw_okq (⟨"Gimlet$Rewriter", "putRewritten", "(I)V"⟩, 4) := ⟨⟨by decide +kernel, by decide +kernel⟩, List.mem_of_getElem? (i := 55) (by decide +kernel), List.mem_of_getElem? (i := 627) (by decide +kernel), List.mem_of_getElem? (i := 628) (by decide +kernel)⟩
theorem lw_p18 : lw_okq (⟨"Gimlet$Rewriter", "putComplements", "(CII)V"⟩, 4) := ⟨⟨by decide +kernel, by decide +kernel⟩, List.mem_of_getElem? (i := 55) (by decide +kernel), List.mem_of_getElem? (i := 631) (by decide +kernel), List.mem_of_getElem? (i := 632) (by decide +kernel)⟩
theorem lw_p19 : lw_okq (⟨"Gimlet$Rewriter", "putDifferences", "(III)V"⟩, 4) := ⟨⟨by decide +kernel, by decide +kernel⟩, List.mem_of_getElem? (i := 55) (by decide +kernel), List.mem_of_getElem? (i := 635) (by decide +kernel), List.mem_of_getElem? (i := 636) (by decide +kernel)⟩
theorem lw_p20 : lw_okq (⟨"Gimlet$Rewriter", "putOtherSide", "(CIII)V"⟩, 4) := ⟨⟨by decide +kernel, by decide +kernel⟩, List.mem_of_getElem? (i := 55) (by decide +kernel), List.mem_of_getElem? (i := 639) (by decide +kernel), List.mem_of_getElem? (i := 640) (by decide +kernel)⟩
theorem lw_p21 : lw_okq (⟨"Gimlet$Terms", "makeNext", "(LGimlet$Text;I)I"⟩, 6) := ⟨⟨by decide +kernel, by decide +kernel⟩, List.mem_of_getElem? (i := 28) (by decide +kernel), List.mem_of_getElem? (i := 674) (by decide +kernel), List.mem_of_getElem? (i := 675) (by decide +kernel)⟩
theorem lw_p22 : lw_okq (⟨"Gimlet$Cubes", "joinParts", "(II)V"⟩, 3) := ⟨⟨by decide +kernel, by decide +kernel⟩, List.mem_of_getElem? (i := 93) (by decide +kernel), List.mem_of_getElem? (i := 713) (by decide +kernel), List.mem_of_getElem? (i := 714) (by decide +kernel)⟩
theorem lw_p23 : lw_okq (⟨"Gimlet$Cubes", "isInLarger", "(II)Z"⟩, 3) := ⟨⟨by decide +kernel, by decide +kernel⟩, List.mem_of_getElem? (i := 93) (by decide +kernel), List.mem_of_getElem? (i := 738) (by decide +kernel), List.mem_of_getElem? (i := 739) (by decide +kernel)⟩
theorem lw_p24 : lw_okq (⟨"Gimlet", "checkStatement", "(CII)V"⟩, 5) := ⟨⟨by decide +kernel, by decide +kernel⟩, List.mem_of_getElem? (i := 20) (by decide +kernel), List.mem_of_getElem? (i := 764) (by decide +kernel), List.mem_of_getElem? (i := 765) (by decide +kernel)⟩
theorem lw_p25 : lw_okq (⟨"Gimlet", "placesOf", "(CII)I"⟩, 5) := ⟨⟨by decide +kernel, by decide +kernel⟩, List.mem_of_getElem? (i := 20) (by decide +kernel), List.mem_of_getElem? (i := 776) (by decide +kernel), List.mem_of_getElem? (i := 777) (by decide +kernel)⟩
theorem lw_p26 : lw_okq (⟨"Gimlet", "checkGoal", "()V"⟩, 5) := ⟨⟨by decide +kernel, by decide +kernel⟩, List.mem_of_getElem? (i := 20) (by decide +kernel), List.mem_of_getElem? (i := 831) (by decide +kernel), List.mem_of_getElem? (i := 832) (by decide +kernel)⟩
theorem lw_p27 : lw_okq (⟨"Gimlet$Search", "want", "(II)V"⟩, 3) := ⟨⟨by decide +kernel, by decide +kernel⟩, List.mem_of_getElem? (i := 147) (by decide +kernel), List.mem_of_getElem? (i := 884) (by decide +kernel), List.mem_of_getElem? (i := 885) (by decide +kernel)⟩
theorem lw_p28 : lw_okq (⟨"Gimlet$Search", "fewestFrom", "(II)I"⟩, 3) := ⟨⟨by decide +kernel, by decide +kernel⟩, List.mem_of_getElem? (i := 147) (by decide +kernel), List.mem_of_getElem? (i := 896) (by decide +kernel), List.mem_of_getElem? (i := 897) (by decide +kernel)⟩
theorem lw_p29 : lw_okq (⟨"Gimlet", "leastOrThrow", "(I)I"⟩, 5) := ⟨⟨by decide +kernel, by decide +kernel⟩, List.mem_of_getElem? (i := 20) (by decide +kernel), List.mem_of_getElem? (i := 901) (by decide +kernel), List.mem_of_getElem? (i := 902) (by decide +kernel)⟩
theorem lw_p30 : lw_okq (⟨"Gimlet$Search", "canMeet", "(II)Z"⟩, 3) := ⟨⟨by decide +kernel, by decide +kernel⟩, List.mem_of_getElem? (i := 147) (by decide +kernel), List.mem_of_getElem? (i := 917) (by decide +kernel), List.mem_of_getElem? (i := 918) (by decide +kernel)⟩
theorem lw_p31 : lw_okq (⟨"Gimlet", "checkElements", "(II)V"⟩, 5) := ⟨⟨by decide +kernel, by decide +kernel⟩, List.mem_of_getElem? (i := 20) (by decide +kernel), List.mem_of_getElem? (i := 940) (by decide +kernel), List.mem_of_getElem? (i := 941) (by decide +kernel)⟩
def lw_privs_2 : List (MethodName × Nat) := [(⟨"Gimlet", "rewriteOrThrow", "()V"⟩, 5), (⟨"Gimlet$Rewriter", "putRewritten", "(I)V"⟩, 4), (⟨"Gimlet$Rewriter", "putComplements", "(CII)V"⟩, 4), (⟨"Gimlet$Rewriter", "putDifferences", "(III)V"⟩, 4), (⟨"Gimlet$Rewriter", "putOtherSide", "(CIII)V"⟩, 4), (⟨"Gimlet$Terms", "makeNext", "(LGimlet$Text;I)I"⟩, 6), (⟨"Gimlet$Cubes", "joinParts", "(II)V"⟩, 3), (⟨"Gimlet$Cubes", "isInLarger", "(II)Z"⟩, 3), (⟨"Gimlet", "checkStatement", "(CII)V"⟩, 5), (⟨"Gimlet", "placesOf", "(CII)I"⟩, 5), (⟨"Gimlet", "checkGoal", "()V"⟩, 5), (⟨"Gimlet$Search", "want", "(II)V"⟩, 3), (⟨"Gimlet$Search", "fewestFrom", "(II)I"⟩, 3), (⟨"Gimlet", "leastOrThrow", "(I)I"⟩, 5), (⟨"Gimlet$Search", "canMeet", "(II)Z"⟩, 3), (⟨"Gimlet", "checkElements", "(II)V"⟩, 5)]
theorem lw_r2 : ∀ q ∈ lw_privs_2, lw_okq q := List.forall_mem_cons.mpr ⟨lw_p16, List.forall_mem_cons.mpr ⟨lw_p17, List.forall_mem_cons.mpr ⟨lw_p18, List.forall_mem_cons.mpr ⟨lw_p19, List.forall_mem_cons.mpr ⟨lw_p20, List.forall_mem_cons.mpr ⟨lw_p21, List.forall_mem_cons.mpr ⟨lw_p22, List.forall_mem_cons.mpr ⟨lw_p23, List.forall_mem_cons.mpr ⟨lw_p24, List.forall_mem_cons.mpr ⟨lw_p25, List.forall_mem_cons.mpr ⟨lw_p26, List.forall_mem_cons.mpr ⟨lw_p27, List.forall_mem_cons.mpr ⟨lw_p28, List.forall_mem_cons.mpr ⟨lw_p29, List.forall_mem_cons.mpr ⟨lw_p30, List.forall_mem_cons.mpr ⟨lw_p31, fun _ h => absurd h List.not_mem_nil⟩⟩⟩⟩⟩⟩⟩⟩⟩⟩⟩⟩⟩⟩⟩⟩
theorem lw_p32 : lw_okq (⟨"Gimlet$Statements", "isSetOfDemands", "(I)Z"⟩, 6) := ⟨⟨by decide +kernel, by decide +kernel⟩, List.mem_of_getElem? (i := 122) (by decide +kernel), List.mem_of_getElem? (i := 949) (by decide +kernel), List.mem_of_getElem? (i := 950) (by decide +kernel)⟩
theorem lw_p33 : lw_okq (⟨"Gimlet$Statements", "placesOfSet", "(I)I"⟩, 6) := ⟨⟨by decide +kernel, by decide +kernel⟩, List.mem_of_getElem? (i := 122) (by decide +kernel), List.mem_of_getElem? (i := 953) (by decide +kernel), List.mem_of_getElem? (i := 954) (by decide +kernel)⟩
theorem lw_p34 : lw_okq (⟨"Gimlet$Statements", "allHold", "(I)Z"⟩, 6) := ⟨⟨by decide +kernel, by decide +kernel⟩, List.mem_of_getElem? (i := 122) (by decide +kernel), List.mem_of_getElem? (i := 975) (by decide +kernel), List.mem_of_getElem? (i := 976) (by decide +kernel)⟩
theorem lw_p35 : lw_okq (⟨"GimletModel", "fail", "(I)I"⟩, 23) := ⟨⟨by decide +kernel, by decide +kernel⟩, List.mem_of_getElem? (i := 987) (by decide +kernel), List.mem_of_getElem? (i := 1074) (by decide +kernel), List.mem_of_getElem? (i := 1075) (by decide +kernel)⟩
theorem lw_p36 : lw_okq (⟨"GimletModel", "makes", "(IIII)I"⟩, 23) := ⟨⟨by decide +kernel, by decide +kernel⟩, List.mem_of_getElem? (i := 987) (by decide +kernel), List.mem_of_getElem? (i := 1078) (by decide +kernel), List.mem_of_getElem? (i := 1079) (by decide +kernel)⟩
theorem lw_p37 : lw_okq (⟨"GimletModel", "know", "(III)I"⟩, 23) := ⟨⟨by decide +kernel, by decide +kernel⟩, List.mem_of_getElem? (i := 987) (by decide +kernel), List.mem_of_getElem? (i := 1082) (by decide +kernel), List.mem_of_getElem? (i := 1083) (by decide +kernel)⟩
theorem lw_p38 : lw_okq (⟨"GimletModel", "covered", "(III)I"⟩, 23) := ⟨⟨by decide +kernel, by decide +kernel⟩, List.mem_of_getElem? (i := 987) (by decide +kernel), List.mem_of_getElem? (i := 1086) (by decide +kernel), List.mem_of_getElem? (i := 1087) (by decide +kernel)⟩
theorem lw_p39 : lw_okq (⟨"GimletModel", "noTerm", "(I)Z"⟩, 23) := ⟨⟨by decide +kernel, by decide +kernel⟩, List.mem_of_getElem? (i := 987) (by decide +kernel), List.mem_of_getElem? (i := 1106) (by decide +kernel), List.mem_of_getElem? (i := 1107) (by decide +kernel)⟩
theorem lw_p40 : lw_okq (⟨"GimletModel", "pair", "(III)I"⟩, 23) := ⟨⟨by decide +kernel, by decide +kernel⟩, List.mem_of_getElem? (i := 987) (by decide +kernel), List.mem_of_getElem? (i := 1114) (by decide +kernel), List.mem_of_getElem? (i := 1115) (by decide +kernel)⟩
theorem lw_p41 : lw_okq (⟨"GimletModel", "spell", "(I)V"⟩, 23) := ⟨⟨by decide +kernel, by decide +kernel⟩, List.mem_of_getElem? (i := 987) (by decide +kernel), List.mem_of_getElem? (i := 1142) (by decide +kernel), List.mem_of_getElem? (i := 1143) (by decide +kernel)⟩
theorem lw_p42 : lw_okq (⟨"GimletModel", "write", "(I)V"⟩, 23) := ⟨⟨by decide +kernel, by decide +kernel⟩, List.mem_of_getElem? (i := 987) (by decide +kernel), List.mem_of_getElem? (i := 1146) (by decide +kernel), List.mem_of_getElem? (i := 1147) (by decide +kernel)⟩
theorem lw_p43 : lw_okq (⟨"GimletModel", "place", "()I"⟩, 23) := ⟨⟨by decide +kernel, by decide +kernel⟩, List.mem_of_getElem? (i := 987) (by decide +kernel), List.mem_of_getElem? (i := 1172) (by decide +kernel), List.mem_of_getElem? (i := 1173) (by decide +kernel)⟩
theorem lw_p44 : lw_okq (⟨"GimletModel", "ruleAt", "(I)I"⟩, 23) := ⟨⟨by decide +kernel, by decide +kernel⟩, List.mem_of_getElem? (i := 987) (by decide +kernel), List.mem_of_getElem? (i := 1176) (by decide +kernel), List.mem_of_getElem? (i := 1177) (by decide +kernel)⟩
theorem lw_p45 : lw_okq (⟨"GimletModel", "behind", "(I)I"⟩, 23) := ⟨⟨by decide +kernel, by decide +kernel⟩, List.mem_of_getElem? (i := 987) (by decide +kernel), List.mem_of_getElem? (i := 1180) (by decide +kernel), List.mem_of_getElem? (i := 1181) (by decide +kernel)⟩
theorem lw_p46 : lw_okq (⟨"GimletModel", "isSame", "(II)Z"⟩, 23) := ⟨⟨by decide +kernel, by decide +kernel⟩, List.mem_of_getElem? (i := 987) (by decide +kernel), List.mem_of_getElem? (i := 1187) (by decide +kernel), List.mem_of_getElem? (i := 1188) (by decide +kernel)⟩
theorem lw_p47 : lw_okq (⟨"GimletModel", "rewrite", "(I)Z"⟩, 23) := ⟨⟨by decide +kernel, by decide +kernel⟩, List.mem_of_getElem? (i := 987) (by decide +kernel), List.mem_of_getElem? (i := 1195) (by decide +kernel), List.mem_of_getElem? (i := 1196) (by decide +kernel)⟩
def lw_privs_3 : List (MethodName × Nat) := [(⟨"Gimlet$Statements", "isSetOfDemands", "(I)Z"⟩, 6), (⟨"Gimlet$Statements", "placesOfSet", "(I)I"⟩, 6), (⟨"Gimlet$Statements", "allHold", "(I)Z"⟩, 6), (⟨"GimletModel", "fail", "(I)I"⟩, 23), (⟨"GimletModel", "makes", "(IIII)I"⟩, 23), (⟨"GimletModel", "know", "(III)I"⟩, 23), (⟨"GimletModel", "covered", "(III)I"⟩, 23), (⟨"GimletModel", "noTerm", "(I)Z"⟩, 23), (⟨"GimletModel", "pair", "(III)I"⟩, 23), (⟨"GimletModel", "spell", "(I)V"⟩, 23), (⟨"GimletModel", "write", "(I)V"⟩, 23), (⟨"GimletModel", "place", "()I"⟩, 23), (⟨"GimletModel", "ruleAt", "(I)I"⟩, 23), (⟨"GimletModel", "behind", "(I)I"⟩, 23), (⟨"GimletModel", "isSame", "(II)Z"⟩, 23), (⟨"GimletModel", "rewrite", "(I)Z"⟩, 23)]
theorem lw_r3 : ∀ q ∈ lw_privs_3, lw_okq q := List.forall_mem_cons.mpr ⟨lw_p32, List.forall_mem_cons.mpr ⟨lw_p33, List.forall_mem_cons.mpr ⟨lw_p34, List.forall_mem_cons.mpr ⟨lw_p35, List.forall_mem_cons.mpr ⟨lw_p36, List.forall_mem_cons.mpr ⟨lw_p37, List.forall_mem_cons.mpr ⟨lw_p38, List.forall_mem_cons.mpr ⟨lw_p39, List.forall_mem_cons.mpr ⟨lw_p40, List.forall_mem_cons.mpr ⟨lw_p41, List.forall_mem_cons.mpr ⟨lw_p42, List.forall_mem_cons.mpr ⟨lw_p43, List.forall_mem_cons.mpr ⟨lw_p44, List.forall_mem_cons.mpr ⟨lw_p45, List.forall_mem_cons.mpr ⟨lw_p46, List.forall_mem_cons.mpr ⟨lw_p47, fun _ h => absurd h List.not_mem_nil⟩⟩⟩⟩⟩⟩⟩⟩⟩⟩⟩⟩⟩⟩⟩⟩
theorem lw_p48 : lw_okq (⟨"GimletModel", "copies", "(II)V"⟩, 23) := ⟨⟨by decide +kernel, by decide +kernel⟩, List.mem_of_getElem? (i := 987) (by decide +kernel), List.mem_of_getElem? (i := 1199) (by decide +kernel), List.mem_of_getElem? (i := 1200) (by decide +kernel)⟩
theorem lw_p49 : lw_okq (⟨"GimletModel", "puts", "(I)V"⟩, 23) := ⟨⟨by decide +kernel, by decide +kernel⟩, List.mem_of_getElem? (i := 987) (by decide +kernel), List.mem_of_getElem? (i := 1203) (by decide +kernel), List.mem_of_getElem? (i := 1204) (by decide +kernel)⟩
theorem lw_p50 : lw_okq (⟨"GimletModel", "learns", "(I)I"⟩, 23) := ⟨⟨by decide +kernel, by decide +kernel⟩, List.mem_of_getElem? (i := 987) (by decide +kernel), List.mem_of_getElem? (i := 1207) (by decide +kernel), List.mem_of_getElem? (i := 1208) (by decide +kernel)⟩
theorem lw_p51 : lw_okq (⟨"GimletModel", "parse", "()I"⟩, 23) := ⟨⟨by decide +kernel, by decide +kernel⟩, List.mem_of_getElem? (i := 987) (by decide +kernel), List.mem_of_getElem? (i := 1211) (by decide +kernel), List.mem_of_getElem? (i := 1212) (by decide +kernel)⟩
theorem lw_p52 : lw_okq (⟨"GimletModel", "areTerms", "(II)Z"⟩, 23) := ⟨⟨by decide +kernel, by decide +kernel⟩, List.mem_of_getElem? (i := 987) (by decide +kernel), List.mem_of_getElem? (i := 1252) (by decide +kernel), List.mem_of_getElem? (i := 1253) (by decide +kernel)⟩
theorem lw_p53 : lw_okq (⟨"GimletModel", "allowed", "()I"⟩, 23) := ⟨⟨by decide +kernel, by decide +kernel⟩, List.mem_of_getElem? (i := 987) (by decide +kernel), List.mem_of_getElem? (i := 1272) (by decide +kernel), List.mem_of_getElem? (i := 1273) (by decide +kernel)⟩
theorem lw_p54 : lw_okq (⟨"GimletModel", "assumed", "(I)I"⟩, 23) := ⟨⟨by decide +kernel, by decide +kernel⟩, List.mem_of_getElem? (i := 987) (by decide +kernel), List.mem_of_getElem? (i := 1279) (by decide +kernel), List.mem_of_getElem? (i := 1280) (by decide +kernel)⟩
theorem lw_p55 : lw_okq (⟨"GimletModel", "regionsOf", "(III)I"⟩, 23) := ⟨⟨by decide +kernel, by decide +kernel⟩, List.mem_of_getElem? (i := 987) (by decide +kernel), List.mem_of_getElem? (i := 1283) (by decide +kernel), List.mem_of_getElem? (i := 1284) (by decide +kernel)⟩
theorem lw_p56 : lw_okq (⟨"GimletModel", "hasModel", "(I)Z"⟩, 23) := ⟨⟨by decide +kernel, by decide +kernel⟩, List.mem_of_getElem? (i := 987) (by decide +kernel), List.mem_of_getElem? (i := 1287) (by decide +kernel), List.mem_of_getElem? (i := 1288) (by decide +kernel)⟩
theorem lw_p57 : lw_okq (⟨"GimletModel", "noGoal", "()Z"⟩, 23) := ⟨⟨by decide +kernel, by decide +kernel⟩, List.mem_of_getElem? (i := 987) (by decide +kernel), List.mem_of_getElem? (i := 1299) (by decide +kernel), List.mem_of_getElem? (i := 1300) (by decide +kernel)⟩
theorem lw_p58 : lw_okq (⟨"GimletModel", "isFollowing", "()Z"⟩, 23) := ⟨⟨by decide +kernel, by decide +kernel⟩, List.mem_of_getElem? (i := 987) (by decide +kernel), List.mem_of_getElem? (i := 1303) (by decide +kernel), List.mem_of_getElem? (i := 1304) (by decide +kernel)⟩
theorem lw_p59 : lw_okq (⟨"GimletModel", "counter", "()I"⟩, 23) := ⟨⟨by decide +kernel, by decide +kernel⟩, List.mem_of_getElem? (i := 987) (by decide +kernel), List.mem_of_getElem? (i := 1307) (by decide +kernel), List.mem_of_getElem? (i := 1308) (by decide +kernel)⟩
theorem lw_p60 : lw_okq (⟨"GimletModel", "goal", "()I"⟩, 23) := ⟨⟨by decide +kernel, by decide +kernel⟩, List.mem_of_getElem? (i := 987) (by decide +kernel), List.mem_of_getElem? (i := 1311) (by decide +kernel), List.mem_of_getElem? (i := 1312) (by decide +kernel)⟩
theorem lw_p61 : lw_okq (⟨"GimletModel", "noCounterexample", "()Z"⟩, 23) := ⟨⟨by decide +kernel, by decide +kernel⟩, List.mem_of_getElem? (i := 987) (by decide +kernel), List.mem_of_getElem? (i := 1328) (by decide +kernel), List.mem_of_getElem? (i := 1329) (by decide +kernel)⟩
theorem lw_p62 : lw_okq (⟨"GimletModel", "least", "()I"⟩, 23) := ⟨⟨by decide +kernel, by decide +kernel⟩, List.mem_of_getElem? (i := 987) (by decide +kernel), List.mem_of_getElem? (i := 1332) (by decide +kernel), List.mem_of_getElem? (i := 1333) (by decide +kernel)⟩
theorem lw_p63 : lw_okq (⟨"GimletModel", "choose", "(IIIII)Z"⟩, 23) := ⟨⟨by decide +kernel, by decide +kernel⟩, List.mem_of_getElem? (i := 987) (by decide +kernel), List.mem_of_getElem? (i := 1336) (by decide +kernel), List.mem_of_getElem? (i := 1337) (by decide +kernel)⟩
def lw_privs_4 : List (MethodName × Nat) := [(⟨"GimletModel", "copies", "(II)V"⟩, 23), (⟨"GimletModel", "puts", "(I)V"⟩, 23), (⟨"GimletModel", "learns", "(I)I"⟩, 23), (⟨"GimletModel", "parse", "()I"⟩, 23), (⟨"GimletModel", "areTerms", "(II)Z"⟩, 23), (⟨"GimletModel", "allowed", "()I"⟩, 23), (⟨"GimletModel", "assumed", "(I)I"⟩, 23), (⟨"GimletModel", "regionsOf", "(III)I"⟩, 23), (⟨"GimletModel", "hasModel", "(I)Z"⟩, 23), (⟨"GimletModel", "noGoal", "()Z"⟩, 23), (⟨"GimletModel", "isFollowing", "()Z"⟩, 23), (⟨"GimletModel", "counter", "()I"⟩, 23), (⟨"GimletModel", "goal", "()I"⟩, 23), (⟨"GimletModel", "noCounterexample", "()Z"⟩, 23), (⟨"GimletModel", "least", "()I"⟩, 23), (⟨"GimletModel", "choose", "(IIIII)Z"⟩, 23)]
theorem lw_r4 : ∀ q ∈ lw_privs_4, lw_okq q := List.forall_mem_cons.mpr ⟨lw_p48, List.forall_mem_cons.mpr ⟨lw_p49, List.forall_mem_cons.mpr ⟨lw_p50, List.forall_mem_cons.mpr ⟨lw_p51, List.forall_mem_cons.mpr ⟨lw_p52, List.forall_mem_cons.mpr ⟨lw_p53, List.forall_mem_cons.mpr ⟨lw_p54, List.forall_mem_cons.mpr ⟨lw_p55, List.forall_mem_cons.mpr ⟨lw_p56, List.forall_mem_cons.mpr ⟨lw_p57, List.forall_mem_cons.mpr ⟨lw_p58, List.forall_mem_cons.mpr ⟨lw_p59, List.forall_mem_cons.mpr ⟨lw_p60, List.forall_mem_cons.mpr ⟨lw_p61, List.forall_mem_cons.mpr ⟨lw_p62, List.forall_mem_cons.mpr ⟨lw_p63, fun _ h => absurd h List.not_mem_nil⟩⟩⟩⟩⟩⟩⟩⟩⟩⟩⟩⟩⟩⟩⟩⟩
theorem lw_p64 : lw_okq (⟨"GimletModel", "ways", "(I)J"⟩, 23) := ⟨⟨by decide +kernel, by decide +kernel⟩, List.mem_of_getElem? (i := 987) (by decide +kernel), List.mem_of_getElem? (i := 1353) (by decide +kernel), List.mem_of_getElem? (i := 1354) (by decide +kernel)⟩
def lw_privs_5 : List (MethodName × Nat) := [(⟨"GimletModel", "ways", "(I)J"⟩, 23)]
theorem lw_r5 : ∀ q ∈ lw_privs_5, lw_okq q := List.forall_mem_cons.mpr ⟨lw_p64, fun _ h => absurd h List.not_mem_nil⟩
def lw_privs : List (MethodName × Nat) := lw_privs_1 ++ (lw_privs_2 ++ (lw_privs_3 ++ (lw_privs_4 ++ (lw_privs_5))))
def lw_tbl : List Cond := k2_sels lw_privs ++ tables_1
theorem lw_privs_ok : ∀ q ∈ lw_privs, lw_okq q := by
  show ∀ q ∈ lw_privs_1 ++ (lw_privs_2 ++ (lw_privs_3 ++ (lw_privs_4 ++ (lw_privs_5)))), lw_okq q
  exact List.forall_mem_append.mpr ⟨lw_r1, List.forall_mem_append.mpr ⟨lw_r2, List.forall_mem_append.mpr ⟨lw_r3, List.forall_mem_append.mpr ⟨lw_r4, lw_r5⟩⟩⟩⟩
/-- the streams that the claim lets the run draw from -/
abbrev lw_cs : List Choice := [Jvm.Choice.named "NaN.bits"]
theorem lw_bits : nanBits ∈ lw_cs := by first | decide | exact List.mem_cons_self | simp [lw_cs, nanBits]
-- ===== end of PART A; then your names; then what follows =====
/-! ===== BEGIN words of one list among another's, by their places ===== -/
theorem goodIn_r {big : List Cond} (ws : List Cond) (ps : List Nat) (hp : ws = ps.filterMap (fun i => big[i]?)) (h : ws.all goodWord = true) : GoodIn big ws := by
  intro w hw
  have h1 := List.all_eq_true.mp h w hw
  rw [hp] at hw
  obtain ⟨i, -, hi⟩ := List.mem_filterMap.mp hw
  have hm : w ∈ big := by first | exact List.mem_of_getElem? hi | exact List.getElem?_mem hi
  exact ⟨hm, good_of_word h1⟩
theorem goodIn_app {big a b : List Cond} (ha : GoodIn big a) (hb : GoodIn big b) : GoodIn big (a ++ b) := fun w h => (List.mem_append.mp h).elim (ha w) (hb w)
theorem goodIn_ca {big a b : List Cond} {c : Cond} (ha : GoodIn big (c :: a)) (hb : GoodIn big b) : GoodIn big (c :: (a ++ b)) := fun w h => (List.mem_cons.mp h).elim (fun e => ha w (List.mem_cons.mpr (Or.inl e))) (fun h => (List.mem_append.mp h).elim (fun h => ha w (List.mem_cons.mpr (Or.inr h))) (hb w))
theorem goodIn_sub {big ws : List Cond} (hm : ∀ w ∈ ws, w ∈ big) (h : ws.all goodWord = true) : GoodIn big ws := fun w hw => ⟨hm w hw, good_of_word (List.all_eq_true.mp h w hw)⟩
/-! ===== END ===== -/

/-! ===== BEGIN exceptions that leave a method, and their catching by the caller (launches without stack traces) ===== -/
section VXA
/-! The laws vx_back, vx_callV, vx_callS, vx_callSW, vx_throw0, vx_throwS follow proofs of the library, with one case more: JvmDerived/Free/Laws.lean (Back.of_free), Shelf42/LK1.lean (callV, callS), Shelf/KitTraced.lean (throwNew0V, throwNewS). -/
/-- where a method has thrown q: the class by its name, the cell, what was written, the world -/
def vx_T (XC : String → State → State → Prop) (st : State) (q : Addr) (t : State) (mc ms : Nat) (free : Addr → Prop) : Prop :=
  ∃ (E : String) (ce : Cell) (L : List Loc), XC E st t ∧ t.heap[q]? = some ce ∧ ce.vm = .none ∧ st.vm.findClass E = some ce.cls ∧ st.WarmedH t.vm ∧ st.sameButNew ({ t with vm := st.vm } : State) L mc ms ∧ ∀ z ∈ L, free z.base
def vx_Q (Qc : Array Value → State → Outcome → State → Prop) (XC : String → State → State → Prop) (mc ms : Nat) (free : Addr → Prop) : Array Value → State → Outcome → State → Prop := fun a st o t =>
  (Qc a st o t ∧ ∃ L, FrameEnd st o t L mc ms ∧ ∀ q ∈ L, free q.base) ∨ ∃ q, o = .threw q ∧ vx_T XC st q t mc ms free
/-- a callee that returns or throws -/
def vx_Met (l : Launch) (y : MethodName) (ws : List Cond) (rm : Room) (Pc : Array Value → State → Prop) (Qc : Array Value → State → Outcome → State → Prop) (XC : String → State → State → Prop) (mc ms : Nat) (free : Addr → Prop) : Prop :=
  MetFree l y (headSpec ws rm) Pc (fun _ _ _ _ _ => True) (vx_Q Qc XC mc ms free)
def vx_Post (XC : String → State → State → Prop) (mc ms : Nat) (free : Addr → Prop) : Pt → Array Value → Addr → Pt → Prop := fun A a q B =>
  ∃ (g : JFrame) (mk : MethodId) (t : State) (L : List Loc) (E : String) (ce : Cell), B.U.heap = t.heap ∧ B.U.vm = t.vm ∧ XC E (A.U.calling g mk a) t ∧ t.heap[q]? = some ce ∧ ce.vm = .none ∧ A.U.vm.findClass E = some ce.cls ∧ B.locs = A.locs ++ L ∧ (∀ z ∈ L, free z.base) ∧ B.cells = A.cells + mc ∧ B.slots = A.slots + ms
def vx_Back (l : Launch) (R : Room) (p : Program) (e : Env) (below : List Frame) (s : State) (sargs : Array Value) (y : MethodName) (len W9 : Nat)
    (Pre : Pt → Array Value → Prop) (Post : Pt → Array Value → Option Value → Pt → Prop) (PostX : Pt → Array Value → Addr → Pt → Prop) : Prop :=
  ∀ (m : MethodId) (meth : Method) (c : Code) (A : Pt) (g : JFrame) (ig : Instr) (mk : MethodId) (a : Array Value),
    Stand p l e R s m sargs below meth c A.U A.locs A.cells A.slots → g.method = m → g.locals.size = c.maxLocals → decode c.code g.pc = .ok (ig, len) →
    2 * g.monitorRoom + (g.stack.map fun v => v.category).sum ≤ W9 → A.U.methodNamed? y = some mk → Pre A a →
    (∃ (v : Option Value) (B : Pt), Stand p l e R s m sargs below meth c B.U B.locs B.cells B.slots ∧ Post A a v B ∧
      Steps p.tables e below (doInvoke e (A.U.setTop g) [] mk a).1 (B.U.setTop { g with pc := g.pc + len, stack := v.toList ++ g.stack })) ∨
    (∃ (q : Addr) (B : Pt), Stand p l e R s m sargs below meth c B.U B.locs B.cells B.slots ∧ PostX A a q B ∧
      Steps p.tables e below (doInvoke e (A.U.setTop g) [] mk a).1 ((B.U.setTop g).pushFrame (.throwing q)))
section Payer
variable {l : Launch} {R : Room} {p : Program} {e : Env} {below : List Frame} {s : State} {sargs : Array Value} {y : MethodName} {len W9 : Nat}
theorem vx_back {ws : List Cond} {rm : Room} {Pc : Array Value → State → Prop} {Qc : Array Value → State → Outcome → State → Prop} {XC : String → State → State → Prop} {mc ms : Nat} {free : Addr → Prop} {bytes : ByteArray} {maxL : Nat} {ret : Option FieldType}
    (hM : vx_Met l y ws rm Pc Qc XC mc ms free) (hblind : FrameBlind Pc) (hrc : rm.cells = mc) (hrs : rm.slots = ms)
    (hframes : rm.frames + 1 ≤ R.frames) (hlocals : W9 + (maxL + 11) + rm.locals ≤ R.locals)
    (hws : ∀ w ∈ ws, ∀ a' U, s.WarmedH U.vm → w.before a' U = true) (hcode : Cond.code y bytes maxL ret ∈ ws) (hinit : ∀ a' U, s.WarmedH U.vm → (Cond.initialized y.cls).before a' U = true) :
    vx_Back l R p e below s sargs y len W9 (PreOf R mc ms Pc) (PostOf Qc mc ms free) (vx_Post XC mc ms free) := by
  intro m meth c A g ig mk a X hg hsize hdg hW hn hp
  have h1 : (headSpec ws rm).pre.before a A.U = true := atoms_intro fun w hw => hws w hw _ _ X.warmed
  have h2 : (Cond.code y bytes maxL ret).before a A.U = true := hws _ hcode _ _ X.warmed
  have h3 : (Cond.initialized y.cls).before a A.U = true := hinit _ _ X.warmed
  have h4 : A.cells + (headSpec ws rm).room.cells ≤ R.cells := by rw [show (headSpec ws rm).room.cells = mc from hrc]; exact hp.1
  have h5 : A.slots + (headSpec ws rm).room.slots ≤ R.slots := by rw [show (headSpec ws rm).room.slots = ms from hrs]; exact hp.2.1
  have hPc : Pc a (A.U.calling g mk a) := hblind _ _ _ _ hp.2.2
  obtain ⟨U, Ls, c0, s0⟩ := A
  dsimp only [Pt.U, Pt.locs, Pt.cells, Pt.slots] at h1 h2 h3 h4 h5 X hn hPc ⊢
  obtain ⟨methY, cY, hmY, hcY, -, hlY, -, -, -, -⟩ := Cond.code_spec hn h2
  obtain ⟨kY, hkY, -⟩ := className_of_methodNamed hn
  have hinitY : kY.init = .initialized := Cond.initialized_spec (findClass_of_methodNamed hn) hkY h3
  have h : At U g.method c below := by rw [hg]; exact X.here
  have hlocals9 : W9 + (maxL + 11) + (headSpec ws rm).room.locals ≤ R.locals := hlocals
  have happ : (headSpec ws rm).appliesLoose y e.platform (U.calling g mk a) = true :=
    Spec.appliesLoose_calling (g := g) h hdg hn hkY hinitY
      (X.room_calling (g := g) (R' := (headSpec ws rm).room) hsize hmY hcY hframes (by rw [hlY]; omega) h4 h5) h1
  obtain ⟨mid, hmid⟩ := h.above
  have hfr : (U.setTop g).frames = (.java g :: mid) ++ below := by rw [State.frames_setTop' g h.top, hmid]; rfl
  obtain ⟨o, s₂, hsteps, -, hend, hq⟩ := Steps.callFree hM p X.admits X.cas X.clock (acts := []) hfr happ hPc trivial
  have hq' : vx_Q Qc XC mc ms free a (U.calling g mk a) o s₂ := hq
  rw [State.frames_setTop' g h.top] at hend
  obtain ⟨g₀, hg0⟩ := Option.isSome_iff_exists.mp h.top
  obtain ⟨r, hr⟩ := State.topJava?_eq_some.mp hg0
  have hr' : (({ U with heap := s₂.heap, slotsUsed := s₂.slotsUsed } : State).setVm s₂.vm).frames = .java g₀ :: r := hr
  rcases hq' with ⟨hqc, L, hfe, hL⟩ | ⟨q, rfl, E, ce, L, hx, hce, hcv, hcl, hW₂, hsm, hL⟩
  · obtain ⟨⟨v, rfl⟩, hW₂, e2, q2, q3, q4, q5, q6⟩ := id hfe
    have e3 : s₂ = ({ (U.calling g mk a).setFrames s₂.frames with heap := s₂.heap, slotsUsed := s₂.slotsUsed } : State).setVm s₂.vm := by
      have : s₂ = ({ s₂ with vm := (U.calling g mk a).vm } : State).setVm s₂.vm := rfl
      rw [e2] at this
      exact this
    obtain ⟨c₂, i₂, len₂, hc₂, hd₂, hf₂⟩ := hend
    have hW' : U.WarmedH s₂.vm := hW₂
    have hcc : c₂ = c := by
      have h1 : s₂.code? g.method = U.code? g.method := by
        rw [State.code?_eq, State.code?_eq, hW'.alike.method?]
      exact Option.some.inj (hc₂.symm.trans (h1.trans h.code))
    subst hcc
    have hlen : len₂ = len := by rw [hdg] at hd₂; cases hd₂; rfl
    subst hlen
    have hs₂ : s₂ = (({ U with heap := s₂.heap, slotsUsed := s₂.slotsUsed } : State).setVm s₂.vm).setTop { g with pc := g.pc + len₂, stack := v.toList ++ g.stack } := by
      refine e3.trans ?_
      rw [hf₂, State.calling_eq h.top, State.setFrames_setFrames, State.setTop_of_frames _ hr', hr]
      rfl
    have hsame : U.sameButNew ({ U with heap := s₂.heap, slotsUsed := s₂.slotsUsed } : State) L mc ms := by
      refine ⟨?_, q2, q3, q4, q5, q6⟩
      obtain ⟨t, ht, -⟩ := State.frames_cons hr
      show ({ U with heap := s₂.heap, slotsUsed := s₂.slotsUsed } : State) = { U.setFrames U.frames with heap := s₂.heap, slotsUsed := s₂.slotsUsed }
      rw [State.setFrames_self ht]
    subst hg
    refine Or.inl ⟨v, ⟨(({ U with heap := s₂.heap, slotsUsed := s₂.slotsUsed } : State).setVm s₂.vm), Ls ++ L, c0 + mc, s0 + ms⟩,
      ⟨X.admits, X.cas, X.clock, X.frames, X.room, X.hears, X.method, X.code, (X.here.setHeapUsed s₂.heap s₂.slotsUsed).setVm hW'.alike, X.tail, State.WarmedH.trans X.warmed hW', X.limits, X.bytes, X.same.trans (hsame.setVm s.vm)⟩,
      ⟨g, mk, s₂, L, rfl, rfl, hqc, rfl, hL, rfl, rfl⟩, ?_⟩
    show Steps p.tables e below _ ((({ U with heap := s₂.heap, slotsUsed := s₂.slotsUsed } : State).setVm s₂.vm).setTop { g with pc := g.pc + len₂, stack := v.toList ++ g.stack })
    rw [← hs₂]
    exact hsteps
  · obtain ⟨e2, q2, q3, q4, q5, q6⟩ := id hsm
    have e3 : s₂ = ({ (U.calling g mk a).setFrames s₂.frames with heap := s₂.heap, slotsUsed := s₂.slotsUsed } : State).setVm s₂.vm := by
      have : s₂ = ({ s₂ with vm := (U.calling g mk a).vm } : State).setVm s₂.vm := rfl
      rw [e2] at this
      exact this
    have hf₂ : s₂.frames = .throwing q :: .java g :: U.frames.tail := hend
    have hW' : U.WarmedH s₂.vm := hW₂
    have hs₂ : s₂ = ((({ U with heap := s₂.heap, slotsUsed := s₂.slotsUsed } : State).setVm s₂.vm).setTop g).pushFrame (.throwing q) := by
      refine e3.trans ?_
      rw [hf₂, State.calling_eq h.top, State.setFrames_setFrames, State.pushFrame, State.frames_setTop _ hr', State.setTop_of_frames _ hr', State.setFrames_setFrames, hr]
      rfl
    have hsame : U.sameButNew ({ U with heap := s₂.heap, slotsUsed := s₂.slotsUsed } : State) L mc ms := by
      refine ⟨?_, q2, q3, q4, q5, q6⟩
      obtain ⟨t, ht, -⟩ := State.frames_cons hr
      show ({ U with heap := s₂.heap, slotsUsed := s₂.slotsUsed } : State) = { U.setFrames U.frames with heap := s₂.heap, slotsUsed := s₂.slotsUsed }
      rw [State.setFrames_self ht]
    subst hg
    refine Or.inr ⟨q, ⟨(({ U with heap := s₂.heap, slotsUsed := s₂.slotsUsed } : State).setVm s₂.vm), Ls ++ L, c0 + mc, s0 + ms⟩,
      ⟨X.admits, X.cas, X.clock, X.frames, X.room, X.hears, X.method, X.code, (X.here.setHeapUsed s₂.heap s₂.slotsUsed).setVm hW'.alike, X.tail, State.WarmedH.trans X.warmed hW', X.limits, X.bytes, X.same.trans (hsame.setVm s.vm)⟩,
      ⟨g, mk, s₂, L, E, ce, rfl, rfl, hx, hce, hcv, hcl, rfl, hL, rfl, rfl⟩, ?_⟩
    show Steps p.tables e below _ (((({ U with heap := s₂.heap, slotsUsed := s₂.slotsUsed } : State).setVm s₂.vm).setTop g).pushFrame (.throwing q))
    rw [← hs₂]
    exact hsteps
end Payer
section Calls
variable {p : Program} {l : Launch} {e : Env} {R : Room} {s : State} {m : MethodId} {args : Array Value} {below : List Frame} {meth : Method} {c : Code} {T : State} {locs : List Loc} {cells slots : Nat}
theorem vx_callV (X : Stand p l e R s m args below meth c T locs cells slots) (hexec : p.tables.exec = Jvm.exec) {own C : String} {index : Nat} {y : MethodName} {bytes : ByteArray} {maxL : Nat} {ret : Option FieldType}
    (hown : s.vm.findClass own = some m.cls) (hlink : (Cond.methodLink own index y).before args s = true) (hinst : (Cond.instanceMethod y).before args s = true) (hsel : (Cond.selects C y y).before args s = true)
    (hcode : (Cond.code y bytes maxL ret).before args s = true) (hy : y.cls ≠ "java/lang/invoke/MethodHandle" ∧ y.cls ≠ "java/lang/invoke/VarHandle")
    {W9 : Nat} {Pre : Pt → Array Value → Prop} {Post : Pt → Array Value → Option Value → Pt → Prop} {PostX : Pt → Array Value → Addr → Pt → Prop} (hK : vx_Back l R p e below s args y 3 W9 Pre Post PostX)
    {b : Addr} {cellB : Cell} (hcell : T.heap[b]? = some cellB) (hobj : cellB.vm.isStatics = false) (hcls : s.vm.findClass C = some cellB.cls)
    {g : JFrame} (hg : g.method = m) (hsize : g.locals.size = c.maxLocals) {argsL rest : List Value} (hlen : ∀ sig, parseMethodDescriptor y.desc = some sig → argsL.length = sig.parameters.length)
    (hstack : g.stack = argsL.reverse ++ .ref b :: rest) (hW : 2 * g.monitorRoom + (rest.map fun v => v.category).sum ≤ W9) (hdg : decode c.code g.pc = .ok (.invokevirtual index, 3))
    (hpre : ∀ vm₁, s.WarmedH vm₁ → Pre ⟨T.setVm vm₁, locs, cells, slots⟩ (Value.ref b :: argsL).toArray) :
    (∃ (v : Option Value) (vm₁ : Vm) (B : Pt), s.WarmedH vm₁ ∧ Stand p l e R s m args below meth c B.U B.locs B.cells B.slots ∧ Post ⟨T.setVm vm₁, locs, cells, slots⟩ (Value.ref b :: argsL).toArray v B ∧
      ∀ target, Steps p.tables e below (B.U.setTop { g with pc := g.pc + 3, stack := v.toList ++ rest }) target → Steps p.tables e below (T.setTop g) target) ∨
    (∃ (q : Addr) (vm₁ : Vm) (B : Pt), s.WarmedH vm₁ ∧ Stand p l e R s m args below meth c B.U B.locs B.cells B.slots ∧ PostX ⟨T.setVm vm₁, locs, cells, slots⟩ (Value.ref b :: argsL).toArray q B ∧
      Steps p.tables e below (T.setTop g) ((B.U.setTop { g with stack := rest }).pushFrame (.throwing q))) := by
  obtain ⟨mk, methM, hnamed, hmethM, hstM, habM⟩ := Cond.instanceMethod_spec hinst
  obtain ⟨methM', cM, hmethM', -, -, -, -, -, -, hsigM⟩ := Cond.code_spec hnamed hcode
  cases hmethM.symm.trans hmethM'
  obtain ⟨c2, r2, m2, q1, q2, q3, q4, kP, hkP, hkPi⟩ := Cond.selects_spec hsel
  cases hcls.symm.trans q1
  cases (State.methodFound?_of_named hnamed hy).symm.trans q2
  cases hnamed.symm.trans q3
  have hselP : selectMethod e.platform s.vm cellB.cls mk = .method mk := by rw [Launch.admits_selectMethod X.admits]; exact q4
  obtain ⟨vm₁, X₁, hstep₁⟩ := X.invokevirtual hexec hown hlink hnamed hmethM hstM hkP hkPi hy (a := b) (cell := cellB) hcell
    (fun z h => by rw [h] at hobj; cases hobj) hselP hmethM habM hkP hkPi (g := g) hg (argsL := argsL) (rest := rest) (hlen _ hsigM) hstack hdg
  rcases hK m meth c ⟨T.setVm vm₁, locs, cells, slots⟩ { g with stack := rest } (.invokevirtual index) mk (Value.ref b :: argsL).toArray X₁ hg hsize hdg hW (X₁.named hnamed) (hpre vm₁ X₁.warmed) with ⟨v, B, X', hpost, hsteps⟩ | ⟨q, B, X', hpost, hsteps⟩
  · exact Or.inl ⟨v, vm₁, B, X₁.warmed, X', hpost, fun target h => hstep₁ _ fun acts => by rw [doInvoke_state]; exact hsteps.trans h⟩
  · exact Or.inr ⟨q, vm₁, B, X₁.warmed, X', hpost, hstep₁ _ fun acts => by rw [doInvoke_state]; exact hsteps⟩
theorem vx_callS (X : Stand p l e R s m args below meth c T locs cells slots) (hexec : p.tables.exec = Jvm.exec) {own : String} {index : Nat} {y : MethodName} {bytes : ByteArray} {maxL : Nat} {ret : Option FieldType}
    (hown : s.vm.findClass own = some m.cls) (hlink : (Cond.methodLink own index y).before args s = true) (hstat : (Cond.static y).before args s = true) (hinit : (Cond.initialized y.cls).before args s = true)
    (hcode : (Cond.code y bytes maxL ret).before args s = true) (hy : y.cls ≠ "java/lang/invoke/MethodHandle" ∧ y.cls ≠ "java/lang/invoke/VarHandle")
    {W9 : Nat} {Pre : Pt → Array Value → Prop} {Post : Pt → Array Value → Option Value → Pt → Prop} {PostX : Pt → Array Value → Addr → Pt → Prop} (hK : vx_Back l R p e below s args y 3 W9 Pre Post PostX)
    {g : JFrame} (hg : g.method = m) (hsize : g.locals.size = c.maxLocals) {argsL rest : List Value} (hlen : ∀ sig, parseMethodDescriptor y.desc = some sig → argsL.length = sig.parameters.length)
    (hstack : g.stack = argsL.reverse ++ rest) (hW : 2 * g.monitorRoom + (rest.map fun v => v.category).sum ≤ W9) (hdg : decode c.code g.pc = .ok (.invokestatic index, 3))
    (hpre : ∀ vm₁, s.WarmedH vm₁ → Pre ⟨T.setVm vm₁, locs, cells, slots⟩ argsL.toArray) :
    (∃ (v : Option Value) (vm₁ : Vm) (B : Pt), s.WarmedH vm₁ ∧ Stand p l e R s m args below meth c B.U B.locs B.cells B.slots ∧ Post ⟨T.setVm vm₁, locs, cells, slots⟩ argsL.toArray v B ∧
      ∀ target, Steps p.tables e below (B.U.setTop { g with pc := g.pc + 3, stack := v.toList ++ rest }) target → Steps p.tables e below (T.setTop g) target) ∨
    (∃ (q : Addr) (vm₁ : Vm) (B : Pt), s.WarmedH vm₁ ∧ Stand p l e R s m args below meth c B.U B.locs B.cells B.slots ∧ PostX ⟨T.setVm vm₁, locs, cells, slots⟩ argsL.toArray q B ∧
      Steps p.tables e below (T.setTop g) ((B.U.setTop { g with stack := rest }).pushFrame (.throwing q))) := by
  obtain ⟨mk, hnamed⟩ := Cond.code_named hcode
  obtain ⟨methM, cM, hmethM, -, -, -, -, -, -, hsigM⟩ := Cond.code_spec hnamed hcode
  have hstatic : methM.isStatic = true := Cond.static_spec hnamed hmethM hstat
  obtain ⟨kP, hkP, -⟩ := className_of_methodNamed hnamed
  have hinitP : kP.init = .initialized := Cond.initialized_spec (findClass_of_methodNamed hnamed) hkP hinit
  obtain ⟨vm₁, X₁, hstep₁⟩ := X.invokestatic hexec hown hlink hnamed hmethM hstatic hkP hinitP hy (g := g) hg (argsL := argsL) (rest := rest) (hlen _ hsigM) hstack hdg
  rcases hK m meth c ⟨T.setVm vm₁, locs, cells, slots⟩ { g with stack := rest } (.invokestatic index) mk argsL.toArray X₁ hg hsize hdg hW (X₁.named hnamed) (hpre vm₁ X₁.warmed) with ⟨v, B, X', hpost, hsteps⟩ | ⟨q, B, X', hpost, hsteps⟩
  · exact Or.inl ⟨v, vm₁, B, X₁.warmed, X', hpost, fun target h => hstep₁ _ fun acts => by rw [doInvoke_state]; exact hsteps.trans h⟩
  · exact Or.inr ⟨q, vm₁, B, X₁.warmed, X', hpost, hstep₁ _ fun acts => by rw [doInvoke_state]; exact hsteps⟩
end Calls
theorem vx_cls {s : State} {T : State} {vm₁ : Vm} {E : String} {k : ClassId} (hW : s.WarmedH vm₁) (h : (T.setVm vm₁).vm.findClass E = some k) : s.vm.findClass E = some k := by
  have h1 : vm₁.findClass E = some k := h
  rw [hW.alike.findClass] at h1
  exact h1
/-- the method's frame g, with q thrown over it -/
def vx_W (p : Program) (l : Launch) (e : Env) (R : Room) (s : State) (m : MethodId) (args : Array Value) (below : List Frame) (meth : Method) (c : Code) (H : Heap) (locs : List Loc) (cells slots : Nat) (Q : State → Prop) (g : JFrame) (q : Addr) : Prop :=
  ∀ T : State, T.heap = H → Stand p l e R s m args below meth c T locs cells slots → ∃ t, Steps p.tables e below ((T.setTop g).pushFrame (.throwing q)) t ∧ Q t
def vx_Run (p : Program) (l : Launch) (e : Env) (R : Room) (s : State) (m : MethodId) (args : Array Value) (below : List Frame) (meth : Method) (c : Code) (H : Heap) (locs : List Loc) (cells slots mc ms : Nat) (g : JFrame) (rest : List Value) (Qa : State → Outcome → State → Prop) (XC : String → State → State → Prop) (free : Addr → Prop) : Prop :=
  ∀ T : State, T.heap = H → Stand p l e R s m args below meth c T locs cells slots →
    (∃ (v : Option Value) (st₀ t T' : State) (L : List Loc), st₀.heap = H ∧ Stand p l e R s m args below meth c T' (locs ++ L) (cells + mc) (slots + ms) ∧ (∀ q ∈ L, free q.base) ∧ T'.heap = t.heap ∧ T'.vm = t.vm ∧ Qa st₀ (.returned v) t ∧
      Goes p e below T g T' { g with pc := g.pc + 3, stack := v.toList ++ rest }) ∨
    (∃ (q : Addr) (st₀ t T' : State) (L : List Loc) (E : String) (ce : Cell), st₀.heap = H ∧ Stand p l e R s m args below meth c T' (locs ++ L) (cells + mc) (slots + ms) ∧ (∀ z ∈ L, free z.base) ∧ T'.heap = t.heap ∧ T'.vm = t.vm ∧ XC E st₀ t ∧ t.heap[q]? = some ce ∧ ce.vm = .none ∧ s.vm.findClass E = some ce.cls ∧
      Steps p.tables e below (T.setTop g) ((T'.setTop { g with stack := rest }).pushFrame (.throwing q)))
def vx_X {S : Type} (px : S → Prop) (B : String → S → State → Prop) (A : Nat → Prop) : String → State → State → Prop := fun E st t => ∃ u : S, px u ∧ B E u t ∧ va_F A st t
section Runs
variable {p : Program} {l : Launch} {e : Env} {R : Room} {s : State} {m : MethodId} {args : Array Value} {below : List Frame} {meth : Method} {c : Code} {H : Heap} {locs : List Loc} {cells slots : Nat}
variable {y : MethodName} {bytes cc : ByteArray} {maxL nL mc ms n index : Nat} {ret : Option FieldType} {ws : List Cond} {rm : Room} {Pc : Array Value → State → Prop} {Qc : Array Value → State → Outcome → State → Prop} {XC : String → State → State → Prop} {free : Addr → Prop} {Ts : List Cond} {own C : String} {b : Addr} {As rest : List Value} {g : JFrame}
theorem vx_callBack (cb : CallB R s args own index y bytes maxL ret ws rm mc ms n) (hM : vx_Met l y ws rm Pc Qc XC mc ms free) (hbl : FrameBlind Pc) : vx_Back l R p e below s args y 3 8 (PreOf R mc ms Pc) (PostOf Qc mc ms free) (vx_Post XC mc ms free) := by
  obtain ⟨hrc, hrs, hfr, hlo, hws, hcw, -, hini, -⟩ := cb
  exact vx_back (bytes := bytes) (maxL := maxL) (ret := ret) hM hbl hrc hrs hfr hlo hws hcw (fun a' U hW => word_at hW (Or.inl (by first | rfl | simp [Cond.onTables, Cond.keeps, Cond.steady])) hini)
theorem vx_runV (S : CallFix p m c cc nL s args Ts own) (hM : vx_Met l y ws rm Pc Qc XC mc ms free) (cw : CallW R s args own C index y bytes maxL ret ws rm mc ms n) (hp : PreV s H C b Pc As)
    (hg : g.method = m) (hn : As.length = n) (hsize : g.locals.size = nL) (hstack : g.stack = As.reverse ++ .ref b :: rest) (hW : 2 * g.monitorRoom + (rest.map fun v => v.category).sum ≤ 8) (hdg : decode cc g.pc = .ok (.invokevirtual index, 3)) (hf : cells + mc ≤ R.cells ∧ slots + ms ≤ R.slots) :
    vx_Run p l e R s m args below meth c H locs cells slots mc ms g rest (Qc (Value.ref b :: As).toArray) XC free := by
  have hK : vx_Back l R p e below s args y 3 8 (PreOf R mc ms Pc) (PostOf Qc mc ms free) (vx_Post XC mc ms free) := vx_callBack cw.1 hM hp.1
  obtain ⟨⟨-, -, -, -, -, -, hcode, -, hy, hlen, hl⟩, hin, hse⟩ := cw
  obtain ⟨hx, hb, hml, ho, -⟩ := S
  obtain ⟨-, ⟨cellB, hcB, hoB, hclB⟩, hPc⟩ := hp
  intro T hT X
  rcases vx_callV X hx (C := C) (bytes := bytes) (maxL := maxL) (ret := ret) ho hl hin hse hcode hy hK (by rw [hT]; exact hcB) hoB hclB hg (hsize.trans hml.symm) (argsL := As) (rest := rest) (fun sig h => hn.trans (hlen sig h)) hstack hW (by rw [hb]; exact hdg)
    (fun vm₁ hW₁ => ⟨hf.1, hf.2, hPc (T.setVm vm₁) hT hW₁⟩) with ⟨v, vm₁, ⟨U', l2, c2, s2⟩, hW₁, X', ⟨g', mk, t, L, e1, e2, hq, h1, hL, h2, h3⟩, st⟩ | ⟨q, vm₁, ⟨U', l2, c2, s2⟩, hW₁, X', ⟨g', mk, t, L, E, ce, e1, e2, hq, hce, hcv, hcl, h1, hL, h2, h3⟩, st⟩
  · dsimp only [Pt.U, Pt.locs, Pt.cells, Pt.slots] at X' e1 e2 h1 h2 h3 st
    subst h1; subst h2; subst h3
    exact Or.inl ⟨v, (T.setVm vm₁).calling g' mk (Value.ref b :: As).toArray, t, U', L, hT, X', hL, e1, e2, hq, st⟩
  · dsimp only [Pt.U, Pt.locs, Pt.cells, Pt.slots] at X' e1 e2 h1 h2 h3 st hcl
    subst h1; subst h2; subst h3
    exact Or.inr ⟨q, (T.setVm vm₁).calling g' mk (Value.ref b :: As).toArray, t, U', L, E, ce, hT, X', hL, e1, e2, hq, hce, hcv, vx_cls hW₁ hcl, st⟩
theorem vx_runS (S : CallFix p m c cc nL s args Ts own) (hM : vx_Met l y ws rm Pc Qc XC mc ms free) (cw : CallB R s args own index y bytes maxL ret ws rm mc ms n ∧ (Cond.static y).before args s = true) (hp : PreS s H Pc As)
    (hg : g.method = m) (hn : As.length = n) (hsize : g.locals.size = nL) (hstack : g.stack = As.reverse ++ rest) (hW : 2 * g.monitorRoom + (rest.map fun v => v.category).sum ≤ 8) (hdg : decode cc g.pc = .ok (.invokestatic index, 3)) (hf : cells + mc ≤ R.cells ∧ slots + ms ≤ R.slots) :
    vx_Run p l e R s m args below meth c H locs cells slots mc ms g rest (Qc As.toArray) XC free := by
  have hK : vx_Back l R p e below s args y 3 8 (PreOf R mc ms Pc) (PostOf Qc mc ms free) (vx_Post XC mc ms free) := vx_callBack cw.1 hM hp.1
  obtain ⟨⟨-, -, -, -, -, -, hcode, hini, hy, hlen, hl⟩, hstt⟩ := cw
  obtain ⟨hx, hb, hml, ho, -⟩ := S
  intro T hT X
  rcases vx_callS X hx (bytes := bytes) (maxL := maxL) (ret := ret) ho hl hstt hini hcode hy hK hg (hsize.trans hml.symm) (argsL := As) (rest := rest) (fun sig h => hn.trans (hlen sig h)) hstack hW (by rw [hb]; exact hdg)
    (fun vm₁ hW₁ => ⟨hf.1, hf.2, hp.2 (T.setVm vm₁) hT hW₁⟩) with ⟨v, vm₁, ⟨U', l2, c2, s2⟩, hW₁, X', ⟨g', mk, t, L, e1, e2, hq, h1, hL, h2, h3⟩, st⟩ | ⟨q, vm₁, ⟨U', l2, c2, s2⟩, hW₁, X', ⟨g', mk, t, L, E, ce, e1, e2, hq, hce, hcv, hcl, h1, hL, h2, h3⟩, st⟩
  · dsimp only [Pt.U, Pt.locs, Pt.cells, Pt.slots] at X' e1 e2 h1 h2 h3 st
    subst h1; subst h2; subst h3
    exact Or.inl ⟨v, (T.setVm vm₁).calling g' mk As.toArray, t, U', L, hT, X', hL, e1, e2, hq, st⟩
  · dsimp only [Pt.U, Pt.locs, Pt.cells, Pt.slots] at X' e1 e2 h1 h2 h3 st hcl
    subst h1; subst h2; subst h3
    exact Or.inr ⟨q, (T.setVm vm₁).calling g' mk As.toArray, t, U', L, E, ce, hT, X', hL, e1, e2, hq, hce, hcv, vx_cls hW₁ hcl, st⟩
end Runs
section Rows
variable {p : Program} {l : Launch} {e : Env} {R : Room} {s : State} {m : MethodId} {args : Array Value} {below : List Frame} {meth : Method} {c : Code} {H : Heap} {locs : List Loc} {cells slots : Nat} {Q : State → Prop}
variable {mc ms : Nat} {free : Addr → Prop} {A0 A1 : Nat → Prop} {H0 : Heap} {a : Array Value} {pc : Nat} {ls : Array Slot} {st0 rest : List Value}
theorem vx_keep {st₀ t T' : State} {L : List Loc} (h0 : st₀.heap = H) (e1 : T'.heap = t.heap) (hS : va_S A0 H0 H locs) (hA : ∀ q, q < H.size → A1 q → A0 q) (hf : ∀ q, free q → A0 q) (hL : ∀ q ∈ L, free q.base) (hF : va_F A1 st₀ t) :
    H.size ≤ T'.heap.size ∧ (∀ q : Nat, q < H.size → ¬ A1 q → T'.heap[q]? = H[q]?) ∧ va_S A0 H0 T'.heap (locs ++ L) := by
  obtain ⟨hz, hk⟩ := hF
  rw [h0] at hz hk
  exact ⟨by rw [e1]; exact hz, fun q h1 h2 => by rw [e1]; exact hk q h1 h2,
    ⟨Nat.le_trans hS.1 (by rw [e1]; exact hz), fun q h1 h2 => by rw [e1, hk q (Nat.lt_of_lt_of_le h1 hS.1) (fun z => h2 (hA q (Nat.lt_of_lt_of_le h1 hS.1) z))]; exact hS.2.1 q h1 h2, fun q hq => by
      rcases List.mem_append.mp hq with h | h
      · exact hS.2.2 q h
      · exact hf _ (hL q h)⟩⟩
theorem vx_calli {S SX : Type} {post : Int32 → S → Prop} {px : SX → Prop} {B : S → State → Prop} {BX : String → SX → State → Prop} {AX : Nat → Prop} (hr : vx_Run p l e R s m args below meth c H locs cells slots mc ms (F0 m pc ls st0) rest (va_Qi post B A1 a) (vx_X px BX AX) free) (hS : va_S A0 H0 H locs) (hA : ∀ q, q < H.size → A1 q → A0 q) (hf : ∀ q, free q → A0 q) (hAX : ∀ q, q < H.size → AX q → A0 q)
    (kx : ∀ (E : String) (ce : Cell) (q9 : Addr) (u : SX) (t : State) (H1 : Heap) (locs1 : List Loc), t.heap = H1 → s.vm.Alike t.vm → px u → BX E u t → H.size ≤ H1.size → (∀ q : Nat, q < H.size → ¬ AX q → H1[q]? = H[q]?) → va_S A0 H0 H1 locs1 → H1[q9]? = some ce → ce.vm = .none → s.vm.findClass E = some ce.cls → vx_W p l e R s m args below meth c H1 locs1 (cells + mc) (slots + ms) Q (F0 m pc ls rest) q9)
    (kk : ∀ (r : Int32) (u : S) (t : State) (H1 : Heap) (locs1 : List Loc), t.heap = H1 → s.vm.Alike t.vm → post r u → B u t → H.size ≤ H1.size → (∀ q : Nat, q < H.size → ¬ A1 q → H1[q]? = H[q]?) → va_S A0 H0 H1 locs1 → W p l e R s m args below meth c H1 locs1 (cells + mc) (slots + ms) Q (F0 m (pc + 3) ls (.int r :: rest))) : W p l e R s m args below meth c H locs cells slots Q (F0 m pc ls st0) := by
  intro T hT X
  rcases hr T hT X with ⟨v, st₀, t, T', L, h0, X', hL, e1, e2, ⟨⟨r, u, hv, hp, hb⟩, hF⟩, st⟩ | ⟨q, st₀, t, T', L, E, ce, h0, X', hL, e1, e2, ⟨u, hp, hb, hF⟩, hce, hcv, hcl, st⟩
  · cases hv
    obtain ⟨k1, k2, k3⟩ := vx_keep h0 e1 hS hA hf hL hF
    obtain ⟨t2, a1, b1⟩ := kk r u t T'.heap (locs ++ L) e1.symm (by rw [← e2]; exact X'.warmed.alike) hp hb k1 k2 k3 T' rfl X'
    exact ⟨t2, st t2 a1, b1⟩
  · obtain ⟨k1, k2, k3⟩ := vx_keep h0 e1 hS hAX hf hL hF
    obtain ⟨t2, a1, b1⟩ := kx E ce q u t T'.heap (locs ++ L) e1.symm (by rw [← e2]; exact X'.warmed.alike) hp hb k1 k2 k3 (by rw [e1]; exact hce) hcv hcl T' rfl X'
    exact ⟨t2, st.trans a1, b1⟩
theorem vx_calll {S SX : Type} {post : Int64 → S → Prop} {px : SX → Prop} {B : S → State → Prop} {BX : String → SX → State → Prop} {AX : Nat → Prop} (hr : vx_Run p l e R s m args below meth c H locs cells slots mc ms (F0 m pc ls st0) rest (va_Ql post B A1 a) (vx_X px BX AX) free) (hS : va_S A0 H0 H locs) (hA : ∀ q, q < H.size → A1 q → A0 q) (hf : ∀ q, free q → A0 q) (hAX : ∀ q, q < H.size → AX q → A0 q)
    (kx : ∀ (E : String) (ce : Cell) (q9 : Addr) (u : SX) (t : State) (H1 : Heap) (locs1 : List Loc), t.heap = H1 → s.vm.Alike t.vm → px u → BX E u t → H.size ≤ H1.size → (∀ q : Nat, q < H.size → ¬ AX q → H1[q]? = H[q]?) → va_S A0 H0 H1 locs1 → H1[q9]? = some ce → ce.vm = .none → s.vm.findClass E = some ce.cls → vx_W p l e R s m args below meth c H1 locs1 (cells + mc) (slots + ms) Q (F0 m pc ls rest) q9)
    (kk : ∀ (r : Int64) (u : S) (t : State) (H1 : Heap) (locs1 : List Loc), t.heap = H1 → s.vm.Alike t.vm → post r u → B u t → H.size ≤ H1.size → (∀ q : Nat, q < H.size → ¬ A1 q → H1[q]? = H[q]?) → va_S A0 H0 H1 locs1 → W p l e R s m args below meth c H1 locs1 (cells + mc) (slots + ms) Q (F0 m (pc + 3) ls (.long r :: rest))) : W p l e R s m args below meth c H locs cells slots Q (F0 m pc ls st0) := by
  intro T hT X
  rcases hr T hT X with ⟨v, st₀, t, T', L, h0, X', hL, e1, e2, ⟨⟨r, u, hv, hp, hb⟩, hF⟩, st⟩ | ⟨q, st₀, t, T', L, E, ce, h0, X', hL, e1, e2, ⟨u, hp, hb, hF⟩, hce, hcv, hcl, st⟩
  · cases hv
    obtain ⟨k1, k2, k3⟩ := vx_keep h0 e1 hS hA hf hL hF
    obtain ⟨t2, a1, b1⟩ := kk r u t T'.heap (locs ++ L) e1.symm (by rw [← e2]; exact X'.warmed.alike) hp hb k1 k2 k3 T' rfl X'
    exact ⟨t2, st t2 a1, b1⟩
  · obtain ⟨k1, k2, k3⟩ := vx_keep h0 e1 hS hAX hf hL hF
    obtain ⟨t2, a1, b1⟩ := kx E ce q u t T'.heap (locs ++ L) e1.symm (by rw [← e2]; exact X'.warmed.alike) hp hb k1 k2 k3 (by rw [e1]; exact hce) hcv hcl T' rfl X'
    exact ⟨t2, st.trans a1, b1⟩
theorem vx_callf {S SX : Type} {post : UInt32 → S → Prop} {px : SX → Prop} {B : S → State → Prop} {BX : String → SX → State → Prop} {AX : Nat → Prop} (hr : vx_Run p l e R s m args below meth c H locs cells slots mc ms (F0 m pc ls st0) rest (va_Qf post B A1 a) (vx_X px BX AX) free) (hS : va_S A0 H0 H locs) (hA : ∀ q, q < H.size → A1 q → A0 q) (hf : ∀ q, free q → A0 q) (hAX : ∀ q, q < H.size → AX q → A0 q)
    (kx : ∀ (E : String) (ce : Cell) (q9 : Addr) (u : SX) (t : State) (H1 : Heap) (locs1 : List Loc), t.heap = H1 → s.vm.Alike t.vm → px u → BX E u t → H.size ≤ H1.size → (∀ q : Nat, q < H.size → ¬ AX q → H1[q]? = H[q]?) → va_S A0 H0 H1 locs1 → H1[q9]? = some ce → ce.vm = .none → s.vm.findClass E = some ce.cls → vx_W p l e R s m args below meth c H1 locs1 (cells + mc) (slots + ms) Q (F0 m pc ls rest) q9)
    (kk : ∀ (r : UInt32) (u : S) (t : State) (H1 : Heap) (locs1 : List Loc), t.heap = H1 → s.vm.Alike t.vm → post r u → B u t → H.size ≤ H1.size → (∀ q : Nat, q < H.size → ¬ A1 q → H1[q]? = H[q]?) → va_S A0 H0 H1 locs1 → W p l e R s m args below meth c H1 locs1 (cells + mc) (slots + ms) Q (F0 m (pc + 3) ls (.float r :: rest))) : W p l e R s m args below meth c H locs cells slots Q (F0 m pc ls st0) := by
  intro T hT X
  rcases hr T hT X with ⟨v, st₀, t, T', L, h0, X', hL, e1, e2, ⟨⟨r, u, hv, hp, hb⟩, hF⟩, st⟩ | ⟨q, st₀, t, T', L, E, ce, h0, X', hL, e1, e2, ⟨u, hp, hb, hF⟩, hce, hcv, hcl, st⟩
  · cases hv
    obtain ⟨k1, k2, k3⟩ := vx_keep h0 e1 hS hA hf hL hF
    obtain ⟨t2, a1, b1⟩ := kk r u t T'.heap (locs ++ L) e1.symm (by rw [← e2]; exact X'.warmed.alike) hp hb k1 k2 k3 T' rfl X'
    exact ⟨t2, st t2 a1, b1⟩
  · obtain ⟨k1, k2, k3⟩ := vx_keep h0 e1 hS hAX hf hL hF
    obtain ⟨t2, a1, b1⟩ := kx E ce q u t T'.heap (locs ++ L) e1.symm (by rw [← e2]; exact X'.warmed.alike) hp hb k1 k2 k3 (by rw [e1]; exact hce) hcv hcl T' rfl X'
    exact ⟨t2, st.trans a1, b1⟩
theorem vx_calld {S SX : Type} {post : UInt64 → S → Prop} {px : SX → Prop} {B : S → State → Prop} {BX : String → SX → State → Prop} {AX : Nat → Prop} (hr : vx_Run p l e R s m args below meth c H locs cells slots mc ms (F0 m pc ls st0) rest (va_Qd post B A1 a) (vx_X px BX AX) free) (hS : va_S A0 H0 H locs) (hA : ∀ q, q < H.size → A1 q → A0 q) (hf : ∀ q, free q → A0 q) (hAX : ∀ q, q < H.size → AX q → A0 q)
    (kx : ∀ (E : String) (ce : Cell) (q9 : Addr) (u : SX) (t : State) (H1 : Heap) (locs1 : List Loc), t.heap = H1 → s.vm.Alike t.vm → px u → BX E u t → H.size ≤ H1.size → (∀ q : Nat, q < H.size → ¬ AX q → H1[q]? = H[q]?) → va_S A0 H0 H1 locs1 → H1[q9]? = some ce → ce.vm = .none → s.vm.findClass E = some ce.cls → vx_W p l e R s m args below meth c H1 locs1 (cells + mc) (slots + ms) Q (F0 m pc ls rest) q9)
    (kk : ∀ (r : UInt64) (u : S) (t : State) (H1 : Heap) (locs1 : List Loc), t.heap = H1 → s.vm.Alike t.vm → post r u → B u t → H.size ≤ H1.size → (∀ q : Nat, q < H.size → ¬ A1 q → H1[q]? = H[q]?) → va_S A0 H0 H1 locs1 → W p l e R s m args below meth c H1 locs1 (cells + mc) (slots + ms) Q (F0 m (pc + 3) ls (.double r :: rest))) : W p l e R s m args below meth c H locs cells slots Q (F0 m pc ls st0) := by
  intro T hT X
  rcases hr T hT X with ⟨v, st₀, t, T', L, h0, X', hL, e1, e2, ⟨⟨r, u, hv, hp, hb⟩, hF⟩, st⟩ | ⟨q, st₀, t, T', L, E, ce, h0, X', hL, e1, e2, ⟨u, hp, hb, hF⟩, hce, hcv, hcl, st⟩
  · cases hv
    obtain ⟨k1, k2, k3⟩ := vx_keep h0 e1 hS hA hf hL hF
    obtain ⟨t2, a1, b1⟩ := kk r u t T'.heap (locs ++ L) e1.symm (by rw [← e2]; exact X'.warmed.alike) hp hb k1 k2 k3 T' rfl X'
    exact ⟨t2, st t2 a1, b1⟩
  · obtain ⟨k1, k2, k3⟩ := vx_keep h0 e1 hS hAX hf hL hF
    obtain ⟨t2, a1, b1⟩ := kx E ce q u t T'.heap (locs ++ L) e1.symm (by rw [← e2]; exact X'.warmed.alike) hp hb k1 k2 k3 (by rw [e1]; exact hce) hcv hcl T' rfl X'
    exact ⟨t2, st.trans a1, b1⟩
theorem vx_callv {S SX : Type} {post : S → Prop} {px : SX → Prop} {B : S → State → Prop} {BX : String → SX → State → Prop} {AX : Nat → Prop} (hr : vx_Run p l e R s m args below meth c H locs cells slots mc ms (F0 m pc ls st0) rest (va_Qv post B A1 a) (vx_X px BX AX) free) (hS : va_S A0 H0 H locs) (hA : ∀ q, q < H.size → A1 q → A0 q) (hf : ∀ q, free q → A0 q) (hAX : ∀ q, q < H.size → AX q → A0 q)
    (kx : ∀ (E : String) (ce : Cell) (q9 : Addr) (u : SX) (t : State) (H1 : Heap) (locs1 : List Loc), t.heap = H1 → s.vm.Alike t.vm → px u → BX E u t → H.size ≤ H1.size → (∀ q : Nat, q < H.size → ¬ AX q → H1[q]? = H[q]?) → va_S A0 H0 H1 locs1 → H1[q9]? = some ce → ce.vm = .none → s.vm.findClass E = some ce.cls → vx_W p l e R s m args below meth c H1 locs1 (cells + mc) (slots + ms) Q (F0 m pc ls rest) q9)
    (kk : ∀ (u : S) (t : State) (H1 : Heap) (locs1 : List Loc), t.heap = H1 → s.vm.Alike t.vm → post u → B u t → H.size ≤ H1.size → (∀ q : Nat, q < H.size → ¬ A1 q → H1[q]? = H[q]?) → va_S A0 H0 H1 locs1 → W p l e R s m args below meth c H1 locs1 (cells + mc) (slots + ms) Q (F0 m (pc + 3) ls (rest))) : W p l e R s m args below meth c H locs cells slots Q (F0 m pc ls st0) := by
  intro T hT X
  rcases hr T hT X with ⟨v, st₀, t, T', L, h0, X', hL, e1, e2, ⟨⟨u, hv, hp, hb⟩, hF⟩, st⟩ | ⟨q, st₀, t, T', L, E, ce, h0, X', hL, e1, e2, ⟨u, hp, hb, hF⟩, hce, hcv, hcl, st⟩
  · cases hv
    obtain ⟨k1, k2, k3⟩ := vx_keep h0 e1 hS hA hf hL hF
    obtain ⟨t2, a1, b1⟩ := kk u t T'.heap (locs ++ L) e1.symm (by rw [← e2]; exact X'.warmed.alike) hp hb k1 k2 k3 T' rfl X'
    exact ⟨t2, st t2 a1, b1⟩
  · obtain ⟨k1, k2, k3⟩ := vx_keep h0 e1 hS hAX hf hL hF
    obtain ⟨t2, a1, b1⟩ := kx E ce q u t T'.heap (locs ++ L) e1.symm (by rw [← e2]; exact X'.warmed.alike) hp hb k1 k2 k3 (by rw [e1]; exact hce) hcv hcl T' rfl X'
    exact ⟨t2, st.trans a1, b1⟩
/-- caught by the row x of this method's table; the rows ahead don't take it -/
theorem vx_catch {own name : String} {E : String} {ce : Cell} {q : Addr} (hown : s.vm.findClass own = some m.cls) (pre : List ExceptionTableEntry) (x : ExceptionTableEntry) (suf : List ExceptionTableEntry) (hsplit : c.exceptionTable.toList = pre ++ x :: suf)
    (hpass : ∀ z ∈ pre, covers z pc = false ∨ (z.catchType ≠ 0 ∧ ∃ nm : String, (Cond.classLink own z.catchType nm).before args s = true ∧ va_Nc E nm s)) (hx : covers x pc = true) (h0 : x.catchType ≠ 0)
    (hlink : (Cond.classLink own x.catchType name).before args s = true) (hcast : (Cond.castable E name).before args s = true) (hcell : H[q]? = some ce) (hv : ce.vm = .none) (hcl : s.vm.findClass E = some ce.cls)
    (kk : W p l e R s m args below meth c H locs cells slots Q (F0 m x.handlerPc ls [.ref q])) : vx_W p l e R s m args below meth c H locs cells slots Q (F0 m pc ls rest) q := by
  intro T hT X
  have hpl : e.platform.magicAccessors = ({} : Platform).magicAccessors := by rw [X.admits.platform]
  obtain ⟨c3, c4, hc3, hc4, hasg⟩ := Cond.castable_spec hcast
  cases Option.some.inj (hc3.symm.trans hcl)
  obtain ⟨c5, hc5, hcl5⟩ := Cond.classLink_spec hown hlink e.platform hpl
  cases Option.some.inj (hc4.symm.trans hc5)
  obtain ⟨vm', X', st⟩ := X.thenCaughtThrough q (g := F0 m pc ls rest) rfl (Steps.refl _) (by rw [hT]; exact hcell) (by rw [hv]; rfl) (by obtain ⟨k9, h9, -⟩ := Vm.findClass_spec hcl; exact ⟨k9, h9⟩) pre x suf hsplit
    (fun z hz => by
      rcases hpass z hz with h | ⟨hz0, nm, hl1, hn1⟩
      · exact Or.inl h
      · obtain ⟨c6, hc6, hcl6⟩ := Cond.classLink_spec hown hl1 e.platform hpl
        obtain ⟨a8, b8, h1, h2, h3⟩ := hn1
        cases Option.some.inj (h1.symm.trans hcl)
        cases Option.some.inj (h2.symm.trans hc6)
        exact Or.inr ⟨hz0, _, hcl6, h3⟩) hx (Or.inr ⟨h0, c4, hcl5, hasg⟩)
  obtain ⟨t, a1, b1⟩ := kk (T.setVm vm') hT X'
  exact ⟨t, st.trans a1, b1⟩
end Rows
section Ends
variable {p : Program} {l : Launch} {e : Env} {R : Room} {s : State} {m : MethodId} {args : Array Value} {below : List Frame} {meth : Method} {c : Code} {H : Heap} {locs : List Loc} {cells slots : Nat} {Q : State → Prop}
variable {mc ms : Nat} {free : Addr → Prop} {A0 A1 : Nat → Prop} {H0 : Heap} {a : Array Value} {ls : Array Slot} {st0 rest : List Value}
variable {Qc : Array Value → State → Outcome → State → Prop} {XC : String → State → State → Prop}
/-- what a body that may throw owes at its end -/
def vx_MQ (below : List Frame) (Qc : Array Value → State → Outcome → State → Prop) (XC : String → State → State → Prop) (a : Array Value) (s : State) (mc ms : Nat) (free : Addr → Prop) : State → Prop := fun t =>
  ∃ o, t.status = .running ∧ Ended t below o ∧ vx_Q Qc XC mc ms free a s o t
theorem vx_ret {g : JFrame} {mc ms : Nat} (k : W p l e R s m args below meth c H locs cells slots (MQ below Qc args s mc ms free) g) : W p l e R s m args below meth c H locs cells slots (vx_MQ below Qc XC args s mc ms free) g := by
  intro T hT X
  obtain ⟨t, a1, o, b1, b2, b3, b4⟩ := k T hT X
  exact ⟨t, a1, o, b1, b2, Or.inl ⟨b3, b4⟩⟩
/-- not caught here: it goes on to the caller -/
theorem vx_widen {g : JFrame} {q : Addr} {k n : Nat} (h1 : cells ≤ k) (h2 : slots ≤ n) (kk : vx_W p l e R s m args below meth c H locs k n Q g q) : vx_W p l e R s m args below meth c H locs cells slots Q g q := fun T hT X => kk T hT (stand_widen X h1 h2)
theorem vx_out {pc : Nat} {E : String} {ce : Cell} {q : Addr} {mc ms : Nat} (hout : ∀ x ∈ c.exceptionTable.toList, covers x pc = false) (hlocks : meth.locks = false) (hcell : H[q]? = some ce) (hv : ce.vm = .none) (hcl : s.vm.findClass E = some ce.cls)
    (hx : ∀ t : State, t.heap = H → s.vm.Alike t.vm → XC E s t) (hf : ∀ z ∈ locs, free z.base) (hc : cells ≤ mc) (hs : slots ≤ ms) :
    vx_W p l e R s m args below meth c H locs cells slots (vx_MQ below Qc XC args s mc ms free) (F0 m pc ls rest) q := by
  intro T hT X
  obtain ⟨st1, hrun, hend, hW, hsm⟩ := X.leaveThrown q (g := F0 m pc ls rest) rfl rfl rfl hout hlocks
  have hcell9 : (T.setFrames (.throwing q :: below)).heap[q]? = some ce := by
    show T.heap[q]? = some ce
    rw [hT]; exact hcell
  exact ⟨_, st1, .threw q, hrun, hend, Or.inr ⟨q, rfl, E, ce, locs, hx _ hT hW.alike, hcell9, hv, hcl, hW, hsm.mono hc hs, hf⟩⟩
theorem vx_frame {U : State} {k n : Nat} (h : s.sameButNew ({ U with vm := s.vm } : State) locs k n) : s.heap.size ≤ U.heap.size ∧ ∀ q : Nat, q < s.heap.size → (∀ z ∈ locs, z.base ≠ q) → U.heap[q]? = s.heap[q]? := by
  obtain ⟨-, h2, -, -, -, h6⟩ := h
  refine ⟨h2, fun q hq hz => ?_⟩
  obtain ⟨c9, e1, e2, e3, e4⟩ := h6 q _ (Array.getElem?_eq_getElem hq)
  have hs : c9.slots = (s.heap[q]).slots := Array.ext_getElem? fun i => e4 i fun hm => hz _ hm rfl
  have h9 : c9 = s.heap[q] := by
    rw [hs] at e2
    exact e2
  have e5 : U.heap[q]? = some c9 := e1
  rw [e5, h9, Array.getElem?_eq_getElem hq]
/-- the words of a throw but the four that speak of the heap -/
def vx_no (w : Cond) : Bool := decide (w ≠ .isRef (.static Bundle.tN "UNASSIGNED_STACK" Bundle.steD)) && decide (w ≠ .isRef (.static Bundle.tN "SUPPRESSED_SENTINEL" Bundle.listD)) && decide (w ≠ .laysStatic Bundle.tN "UNASSIGNED_STACK" Bundle.steD) && decide (w ≠ .laysStatic Bundle.tN "SUPPRESSED_SENTINEL" Bundle.listD)
def vx_at0 (own : String) (ic : Nat) (X : String) (names : List String) : List Cond := (Bundle.ownAtoms0 own ic X names).filter vx_no
def vx_atS (own : String) (ic : Nat) (X : String) (names : List String) : List Cond := (Bundle.ownAtoms own ic X names).filter vx_no
/-- a word that the tables alone decide, or a good one -/
def vx_ot (w : Cond) : Bool := w.onTables || goodWord w
theorem vx_ot_at {args a' : Array Value} {s U : State} {w : Cond} (hW : s.WarmedH U.vm) (hvm : s.vm = U.vm) (hg : vx_ot w = true) (h : w.before args s = true) : w.before a' U = true := by
  simp only [vx_ot, Bool.or_eq_true] at hg
  rcases hg with hg | hg
  · exact va_tabs hg hvm h
  · exact word_at hW (good_of_word hg) h
/-- a list's words: the good ones out of the method's own list, the others by premises of their own -/
theorem vx_hat {args : Array Value} {s : State} {L B : List Cond} (h1 : ∀ w ∈ L.filter goodWord, w.before args s = true) (h2 : ∀ w ∈ L.filter (fun w => !goodWord w), w ∈ B) (h3 : ∀ w ∈ B, w.before args s = true) : ∀ w ∈ L, w.before args s = true := by
  intro w hw
  by_cases g : goodWord w = true
  · exact h1 w (List.mem_filter.mpr ⟨hw, g⟩)
  · refine h3 w (h2 w (List.mem_filter.mpr ⟨hw, ?_⟩))
    show (!goodWord w) = true
    cases hgw : goodWord w
    · rfl
    · exact absurd hgw g
theorem vx_c {args : Array Value} {s : State} {w : Cond} {B : List Cond} (h : w.before args s = true) (t : ∀ w ∈ B, w.before args s = true) : ∀ w' ∈ w :: B, w'.before args s = true := fun w' h' => (List.mem_cons.mp h').elim (fun e => by rw [e]; exact h) (t w')
theorem vx_n {args : Array Value} {s : State} : ∀ w ∈ ([] : List Cond), w.before args s = true := fun _ h => nomatch h
theorem vx_own {args : Array Value} {s : State} {L : List Cond} (h1 : ∀ w ∈ L.filter vx_no, w.before args s = true)
    (hU : (Cond.isRef (.static Bundle.tN "UNASSIGNED_STACK" Bundle.steD)).before args s = true) (hN : (Cond.isRef (.static Bundle.tN "SUPPRESSED_SENTINEL" Bundle.listD)).before args s = true)
    (lU : (Cond.laysStatic Bundle.tN "UNASSIGNED_STACK" Bundle.steD).before args s = true) (lN : (Cond.laysStatic Bundle.tN "SUPPRESSED_SENTINEL" Bundle.listD).before args s = true) : ∀ w ∈ L, w.before args s = true := by
  intro w hw
  by_cases e1 : w = .isRef (.static Bundle.tN "UNASSIGNED_STACK" Bundle.steD)
  · rw [e1]; exact hU
  · by_cases e2 : w = .isRef (.static Bundle.tN "SUPPRESSED_SENTINEL" Bundle.listD)
    · rw [e2]; exact hN
    · by_cases e3 : w = .laysStatic Bundle.tN "UNASSIGNED_STACK" Bundle.steD
      · rw [e3]; exact lU
      · by_cases e4 : w = .laysStatic Bundle.tN "SUPPRESSED_SENTINEL" Bundle.listD
        · rw [e4]; exact lN
        · exact h1 w (List.mem_filter.mpr ⟨hw, by unfold vx_no; rw [decide_eq_true e1, decide_eq_true e2, decide_eq_true e3, decide_eq_true e4]; rfl⟩)
/-- where a static field lies, its class's statics cell in H -/
def vx_L (C n d : String) (A : Nat → Prop) (U : State) (H : Heap) : Prop := ∃ (c : ClassId) (k : Class) (i : Nat) (f : Field) (a : Nat) (cell : Cell), U.vm.findClass C = some c ∧ U.fieldFound? C n d = some (c, k, i, f) ∧ f.isStatic = true ∧ k.statics = some a ∧ H[a]? = some cell ∧ cell.vm.isStatics = true ∧ cell.cls = c ∧ f.slot < cell.slots.size ∧ k.staticTypes[f.slot]? = some f.type ∧ ¬ A a
theorem vx_L.moved {C n d : String} {A : Nat → Prop} {u U : State} {H : Heap} (hvm : u.vm.Alike U.vm) (h : vx_L C n d A u H) : vx_L C n d A U H := by
  obtain ⟨c, k, i, f, a, cell, h1, h2, h3, h4, h5, h6, h7, h8, h9, h10⟩ := h
  obtain ⟨k', hi', he⟩ := State.fieldFound?_setVm hvm h2
  exact ⟨c, k', i, f, a, cell, by rw [hvm.findClass]; exact h1, hi', h3, by rw [he]; exact h4, h5, h6, h7, h8, by rw [he]; exact h9, h10⟩
theorem vx_L.kept {C n d : String} {A : Nat → Prop} {U : State} {H H1 : Heap} (h : vx_L C n d A U H) (hq : ∀ a : Nat, a < H.size → ¬ A a → H1[a]? = H[a]?) : vx_L C n d A U H1 := by
  obtain ⟨c, k, i, f, a, cell, h1, h2, h3, h4, h5, h6, h7, h8, h9, h10⟩ := h
  exact ⟨c, k, i, f, a, cell, h1, h2, h3, h4, by rw [hq a (Array.getElem?_eq_some_iff.mp h5).1 h10]; exact h5, h6, h7, h8, h9, h10⟩
theorem vx_L.narrow {C n d : String} {A B : Nat → Prop} {U : State} {H : Heap} (h : vx_L C n d A U H) (hAB : ∀ q, B q → A q) : vx_L C n d B U H := by
  obtain ⟨c, k, i, f, a, cell, h1, h2, h3, h4, h5, h6, h7, h8, h9, h10⟩ := h
  exact ⟨c, k, i, f, a, cell, h1, h2, h3, h4, h5, h6, h7, h8, h9, fun z => h10 (hAB _ z)⟩
theorem vx_L.word {C n d : String} {A : Nat → Prop} {s : State} {args : Array Value} (h : vx_L C n d A s s.heap) : (Cond.laysStatic C n d).before args s = true := by
  obtain ⟨c, k, i, f, a, cell, h1, h2, h3, h4, h5, h6, h7, h8, h9, -⟩ := h
  show (Cond.laysStatic C n d).holds args s none s [] = true
  exact Cond.laysStatic_of h1 h2 h3 h4 h5 h6 h7 h8 h9
/-- .. and what it holds: null or some reference -/
def vx_Zq (C n d : String) (A : Nat → Prop) (U : State) (H : Heap) : Prop := va_Zq C n d A U H ∧ vx_L C n d A U H
theorem vx_Zq.moved {C n d : String} {A : Nat → Prop} {u U : State} {H : Heap} (hvm : u.vm.Alike U.vm) (h : vx_Zq C n d A u H) : vx_Zq C n d A U H := ⟨va_Zq.moved hvm h.1, vx_L.moved hvm h.2⟩
theorem vx_Zq.kept {C n d : String} {A : Nat → Prop} {U : State} {H H1 : Heap} (h : vx_Zq C n d A U H) (hq : ∀ a : Nat, a < H.size → ¬ A a → H1[a]? = H[a]?) : vx_Zq C n d A U H1 := ⟨va_Zq.kept h.1 hq, vx_L.kept h.2 hq⟩
theorem vx_Zq.narrow {C n d : String} {A B : Nat → Prop} {U : State} {H : Heap} (h : vx_Zq C n d A U H) (hAB : ∀ q, B q → A q) : vx_Zq C n d B U H := ⟨va_Zq.narrow h.1 hAB, vx_L.narrow h.2 hAB⟩
theorem vx_Zqof {args : Array Value} {s : State} {C n d : String} {A : Nat → Prop} (hl : (Cond.laysStatic C n d).before args s = true) (hini : (Cond.initialized C).before args s = true) (h : (Cond.isRef (.static C n d)).before args s = true) (hA : ∀ a : Nat, a < s.heap.size → ¬ A a) : vx_Zq C n d A s s.heap := by
  refine ⟨va_Zqof hl hini h hA, ?_⟩
  obtain ⟨c, k, i, f, a, cell, h1, h2, h3, h4, h5, h6, h7, h8, h9⟩ := Cond.laysStatic_spec hl
  exact ⟨c, k, i, f, a, cell, h1, h2, h3, h4, h5, h6, h7, h8, h9, hA a (Array.getElem?_eq_some_iff.mp h5).1⟩
theorem vx_isRef {C n d : String} {v : Value} {A : Nat → Prop} {s : State} {args : Array Value} (h : va_Z C n d v A s s.heap) (hv : v.isRef = true) : (Cond.isRef (.static C n d)).before args s = true := by
  obtain ⟨cf, kf, fi, f, a, cell, h1, h2, h3, h4, h5, h6, h7, -⟩ := h
  have he : (Term.static C n d).eval args s none [] s = some v := by
    simp [Term.eval, State.fieldNamed?, h1, h2, h4, h5, h6, h7]
  simp only [Cond.before, Cond.holds, Cond.value, he]
  cases v <;> simp_all [Value.isRef]
theorem vx_isRefq {C n d : String} {A : Nat → Prop} {s : State} {args : Array Value} (h : va_Zq C n d A s s.heap) : (Cond.isRef (.static C n d)).before args s = true := by
  rcases h with h | ⟨t, h⟩
  · exact vx_isRef h rfl
  · exact vx_isRef h rfl
/-- the same frame, seen from here: as if the method were called anew in this heap -/
theorem vx_rebase {T : State} (X : Stand p l e R s m args below meth c T locs cells slots) {R' : Room} (hf : R'.frames ≤ R.frames) (hl : R'.locals ≤ R.locals) (hc : cells + R'.cells ≤ R.cells) (hs : slots + R'.slots ≤ R.slots) :
    Stand p l e R' ((T.setVm s.vm).setFrames (.invoking m args :: below)) m args below meth c T [] 0 0 := by
  have htop : (T.setVm s.vm).topJava?.isSome := X.here.top
  have hF : ((T.setVm s.vm).setFrames (.invoking m args :: below)).frames = .invoking m args :: below := State.frames_setFrames _ (State.cur_lt_of_top htop)
  obtain ⟨g₀, hg0⟩ := Option.isSome_iff_exists.mp htop
  obtain ⟨r, hr⟩ := State.topJava?_eq_some.mp hg0
  have hl9 : e.platform.stackLimits (T.setVm s.vm).me = e.platform.stackLimits s.me := X.limits
  have hb9 : (T.setVm s.vm).me.stackBytes = s.me.stackBytes := X.bytes
  refine ⟨X.admits, X.cas, X.clock, hF, ?_, X.hears, X.method, X.code, X.here, X.tail, X.warmed, ?_, ?_, ?_⟩
  · have h := X.room
    have hU : ((T.setVm s.vm).setFrames (.invoking m args :: below)).localsInUse = s.localsInUse := by
      rw [State.localsInUse_invoking hF (meth := meth) (c := c) X.method X.code, State.localsInUse_invoking X.frames X.method X.code]
    simp only [State.hasRoom, Bool.and_eq_true, decide_eq_true_eq] at h ⊢
    obtain ⟨⟨⟨⟨h1, h2, h3, h4, h5, h6⟩, h7⟩, h8⟩, h9⟩ := h
    rw [X.frames, List.length_cons] at h2 h3
    have q1 := X.heapSize
    have q2 := X.used
    simp only [hF, hU, List.length_cons, State.stackLimits_setFrames, State.stackBytes_setFrames, hl9, hb9]
    refine ⟨⟨⟨⟨by omega, by omega, by omega, by omega, by omega, h6⟩, ?_⟩, ?_⟩, X.book⟩
    · show T.heap.size + R'.cells ≤ e.platform.maxCells
      omega
    · show T.slotsUsed + R'.slots ≤ e.platform.maxSlots
      omega
  · rw [State.stackLimits_setFrames]; rfl
  · rw [State.stackBytes_setFrames]; rfl
  · refine ⟨?_, Nat.le_refl _, Nat.le_refl _, ?_, ?_, fun a c9 h9 => ⟨c9, h9, rfl, rfl, fun _ _ => rfl⟩⟩
    · obtain ⟨t, ht, -⟩ := State.frames_cons hr
      show T.setVm s.vm = { ((T.setVm s.vm).setFrames (.invoking m args :: below)).setFrames (T.setVm s.vm).frames with heap := T.heap, slotsUsed := T.slotsUsed }
      rw [State.setFrames_setFrames, State.setFrames_self ht]
      rfl
    · show T.slotsUsed = T.slotsUsed + ((T.heap.toList.drop T.heap.size).map (·.slots.size)).sum
      rw [List.drop_eq_nil_of_le (Nat.le_of_eq Array.length_toList)]
      rfl
    · show ((T.heap.toList.drop T.heap.size).map (·.slots.size)).sum ≤ 0
      rw [List.drop_eq_nil_of_le (Nat.le_of_eq Array.length_toList)]
      exact Nat.le_refl _
/-- 'throw new E()': new; dup; invokespecial; athrow -/
theorem vx_throw0 {cc : ByteArray} {pc : Nat} (hexec : p.tables.exec = Jvm.exec) (hb : c.code = cc) (hl : l.stackTraces = false) {own cls : String} {names : List String} {ik ic mc ms : Nat} {A : Nat → Prop}
    (hown : s.vm.findClass own = some m.cls) (hcls : Bundle.fit cls = true) (hnames : ∀ n ∈ names, Bundle.fit n = true)
    (hk : (Cond.classLink own ik cls).before args s = true) (hini : (Cond.initialized cls).before args s = true) (hat : ∀ w ∈ vx_at0 own ic cls names, w.before args s = true)
    (hgood : ∀ w ∈ Cond.classLink own ik cls :: Cond.initialized cls :: vx_at0 own ic cls names, vx_ot w = true)
    (hU : vx_Zq Bundle.tN "UNASSIGNED_STACK" Bundle.steD A s s.heap) (hN : vx_Zq Bundle.tN "SUPPRESSED_SENTINEL" Bundle.listD A s s.heap) (hS : va_S A s.heap H locs) (hsize : ls.size = c.maxLocals)
    (d0 : decode cc pc = .ok (.new ik, 3)) (d3 : decode cc (pc + 3) = .ok (.dup, 1)) (d4 : decode cc (pc + 4) = .ok (.invokespecial ic, 3)) (d7 : decode cc (pc + 7) = .ok (.athrow, 1))
    (hout : ∀ x ∈ c.exceptionTable.toList, covers x (pc + 7) = false)
    (hRframes : names.length + 3 < R.frames) (hRlocals : (rest.map fun v => v.category).sum + (13 * (names.length + 1) + 42) ≤ R.locals) (hRcells : cells + 1 ≤ R.cells) (hRslots : slots + 6 ≤ R.slots) (hlocks : meth.locks = false)
    (hx : ∀ t : State, s.vm.Alike t.vm → H.size ≤ t.heap.size → (∀ q : Nat, q < H.size → t.heap[q]? = H[q]?) → XC cls s t)
    (hf : ∀ z ∈ locs, free z.base) (hc : cells + 1 ≤ mc) (hs : slots + 6 ≤ ms) :
    W p l e R s m args below meth c H locs cells slots (vx_MQ below Qc XC args s mc ms free) (F0 m pc ls rest) := by
  intro T hT X
  have htr : e.platform.stackTraces = false := (show e.platform.stackTraces = l.stackTraces by rw [X.admits.platform]).trans hl
  have Y := vx_rebase X (R' := { frames := R.frames, locals := R.locals, cells := 1, slots := 6 }) (Nat.le_refl _) (Nat.le_refl _) hRcells hRslots
  obtain ⟨s', hA⟩ : ∃ z, z = (T.setVm s.vm).setFrames (.invoking m args :: below) := ⟨_, rfl⟩
  rw [← hA] at Y
  have hvm : s'.vm = s.vm := by rw [hA]; rfl
  have hhp : s'.heap = H := by rw [hA]; exact hT
  have hW0 : s.WarmedH s'.vm := by rw [hvm]; exact State.WarmedH.refl s
  have hat' : ∀ w ∈ vx_at0 own ic cls names, w.before args s' = true := fun w hw => vx_ot_at hW0 hvm.symm (hgood w (List.mem_cons_of_mem _ (List.mem_cons_of_mem _ hw))) (hat w hw)
  have hk' : (Cond.classLink own ik cls).before args s' = true := vx_ot_at hW0 hvm.symm (hgood _ List.mem_cons_self) hk
  have hini' : (Cond.initialized cls).before args s' = true := vx_ot_at hW0 hvm.symm (hgood _ (List.mem_cons_of_mem _ List.mem_cons_self)) hini
  have hU' : vx_Zq Bundle.tN "UNASSIGNED_STACK" Bundle.steD A s' s'.heap := by rw [hhp]; exact vx_Zq.moved hW0.alike (hU.kept hS.2.1)
  have hN' : vx_Zq Bundle.tN "SUPPRESSED_SENTINEL" Bundle.listD A s' s'.heap := by rw [hhp]; exact vx_Zq.moved hW0.alike (hN.kept hS.2.1)
  have h : ∀ w ∈ Bundle.ownAtoms0 own ic cls names, w.before args s' = true := vx_own hat' (vx_isRefq hU'.1) (vx_isRefq hN'.1) hU'.2.word hN'.2.word
  have hown' : s'.vm.findClass own = some m.cls := by rw [hvm]; exact hown
  have hins : (Cond.instantiable cls 6).before args s' = true := h _ (by simp [Bundle.ownAtoms0])
  obtain ⟨vm₁, cX, kX, hfX, hkX, -, -, X₁, st1⟩ := Y.newCold hexec (own := own) (C := cls) (index := ik) (n := 6) hown' hk' hins hini'
    (g := F0 m pc ls rest) rfl (by rw [hb]; exact d0) (Nat.le_refl _) (Nat.le_refl _)
  generalize hT1 : (T.setVm vm₁).pushCell { cls := cX, slots := kX.instanceTypes.map defaultValue, vm := .none } = T1 at X₁ st1
  have hcat : (Value.ref T.heap.size).category = 1 := rfl
  have hcellA : T1.heap[T.heap.size]? = some (freshCell cX kX) := by rw [← hT1]; exact State.heap_pushCell_size _ _
  have d3' : decode c.code (pc + 3) = .ok (.dup, 1) := by rw [hb]; exact d3
  obtain ⟨U, hsteps, hrun, hend, hW, hsame, ce, hce, hO⟩ := X₁.ctorThrow0 hexec htr (own := own) (cls := cls) (names := names) (ic := ic) hown' hcls hnames h (fun x hx => nomatch hx) hfX hkX hcellA (by rw [hhp, hT]; exact Nat.le_refl _)
    (g := { method := m, pc := pc + 4, locals := ls, stack := .ref T.heap.size :: .ref T.heap.size :: rest, locked := none }) rfl hsize rfl rfl (rest := rest) rfl
    (by rw [hb]; exact d4) (by rw [hb]; exact d7) hout hRframes (by simp only [List.map_cons, List.sum_cons, hcat]; omega) hlocks
  obtain ⟨f1, f2⟩ := vx_frame hsame
  rw [hhp] at f1 f2
  have hWs : s.WarmedH U.vm := State.WarmedH.trans hW0 hW
  have hcl : s.vm.findClass cls = some ce.cls := by
    have h9 := hO.cls
    rw [hvm] at h9
    exact h9
  have hall : s.sameButNew ({ U with vm := s.vm } : State) locs mc ms := by
    subst hA
    obtain ⟨e1, e2⟩ := hsame
    rw [State.setFrames_setFrames] at e1
    have h2 : (T.setVm s.vm).sameButNew ({ U with vm := s.vm } : State) [] (0 + 1) (0 + 6) := ⟨e1, e2⟩
    have h3 := X.same.trans h2
    rw [List.append_nil] at h3
    exact h3.mono hc hs
  refine ⟨U, ?_, .threw T.heap.size, hrun, hend, Or.inr ⟨T.heap.size, rfl, cls, ce, locs, hx U hWs.alike f1 (fun q hq => f2 q hq (fun z hz => nomatch hz)), hce, hO.vm, hcl, hWs, hall, hf⟩⟩
  refine st1 _ ?_
  show Steps p.tables e below (T1.setTop { method := m, pc := pc + 3, locals := ls, stack := .ref T.heap.size :: rest, locked := none }) _
  jvm_step X₁.here [X₁.here.top, hexec, d3', Value.category]
  exact hsteps
/-- 'throw new E("text")': new; dup; ldc; invokespecial; athrow -/
theorem vx_throwS {cc : ByteArray} {pc : Nat} (hexec : p.tables.exec = Jvm.exec) (hb : c.code = cc) (hl : l.stackTraces = false) {own cls text : String} {names : List String} {ik is ic mc ms sa : Nat} {A : Nat → Prop}
    (hown : s.vm.findClass own = some m.cls) (hcls : Bundle.fit cls = true) (hnames : ∀ n ∈ names, Bundle.fit n = true)
    (hk : (Cond.classLink own ik cls).before args s = true) (hini : (Cond.initialized cls).before args s = true) (hstr : vk_R own is text sa s) (hat : ∀ w ∈ vx_atS own ic cls names, w.before args s = true)
    (hgood : ∀ w ∈ Cond.classLink own ik cls :: Cond.initialized cls :: vx_atS own ic cls names, vx_ot w = true)
    (hU : vx_Zq Bundle.tN "UNASSIGNED_STACK" Bundle.steD A s s.heap) (hN : vx_Zq Bundle.tN "SUPPRESSED_SENTINEL" Bundle.listD A s s.heap) (hS : va_S A s.heap H locs) (hsize : ls.size = c.maxLocals)
    (d0 : decode cc pc = .ok (.new ik, 3)) (d3 : decode cc (pc + 3) = .ok (.dup, 1)) (d4 : decode cc (pc + 4) = .ok (.ldc is, 2)) (d6 : decode cc (pc + 6) = .ok (.invokespecial ic, 3)) (d9 : decode cc (pc + 9) = .ok (.athrow, 1))
    (hout : ∀ x ∈ c.exceptionTable.toList, covers x (pc + 9) = false)
    (hRframes : names.length + 3 < R.frames) (hRlocals : (rest.map fun v => v.category).sum + (13 * (names.length + 1) + 43) ≤ R.locals) (hRcells : cells + 1 ≤ R.cells) (hRslots : slots + 6 ≤ R.slots) (hlocks : meth.locks = false)
    (hx : ∀ t : State, s.vm.Alike t.vm → H.size ≤ t.heap.size → (∀ q : Nat, q < H.size → t.heap[q]? = H[q]?) → XC cls s t)
    (hf : ∀ z ∈ locs, free z.base) (hc : cells + 1 ≤ mc) (hs : slots + 6 ≤ ms) :
    W p l e R s m args below meth c H locs cells slots (vx_MQ below Qc XC args s mc ms free) (F0 m pc ls rest) := by
  intro T hT X
  have htr : e.platform.stackTraces = false := (show e.platform.stackTraces = l.stackTraces by rw [X.admits.platform]).trans hl
  have Y := vx_rebase X (R' := { frames := R.frames, locals := R.locals, cells := 1, slots := 6 }) (Nat.le_refl _) (Nat.le_refl _) hRcells hRslots
  obtain ⟨s', hA⟩ : ∃ z, z = (T.setVm s.vm).setFrames (.invoking m args :: below) := ⟨_, rfl⟩
  rw [← hA] at Y
  have hvm : s'.vm = s.vm := by rw [hA]; rfl
  have hhp : s'.heap = H := by rw [hA]; exact hT
  have hW0 : s.WarmedH s'.vm := by rw [hvm]; exact State.WarmedH.refl s
  have hat' : ∀ w ∈ vx_atS own ic cls names, w.before args s' = true := fun w hw => vx_ot_at hW0 hvm.symm (hgood w (List.mem_cons_of_mem _ (List.mem_cons_of_mem _ hw))) (hat w hw)
  have hk' : (Cond.classLink own ik cls).before args s' = true := vx_ot_at hW0 hvm.symm (hgood _ List.mem_cons_self) hk
  have hini' : (Cond.initialized cls).before args s' = true := vx_ot_at hW0 hvm.symm (hgood _ (List.mem_cons_of_mem _ List.mem_cons_self)) hini
  have hU' : vx_Zq Bundle.tN "UNASSIGNED_STACK" Bundle.steD A s' s'.heap := by rw [hhp]; exact vx_Zq.moved hW0.alike (hU.kept hS.2.1)
  have hN' : vx_Zq Bundle.tN "SUPPRESSED_SENTINEL" Bundle.listD A s' s'.heap := by rw [hhp]; exact vx_Zq.moved hW0.alike (hN.kept hS.2.1)
  have h : ∀ w ∈ Bundle.ownAtoms own ic cls names, w.before args s' = true := vx_own hat' (vx_isRefq hU'.1) (vx_isRefq hN'.1) hU'.2.word hN'.2.word
  have hown' : s'.vm.findClass own = some m.cls := by rw [hvm]; exact hown
  have hins : (Cond.instantiable cls 6).before args s' = true := h _ (by simp [Bundle.ownAtoms])
  obtain ⟨vm₁, cX, kX, hfX, hkX, -, -, X₁, st1⟩ := Y.newCold hexec (own := own) (C := cls) (index := ik) (n := 6) hown' hk' hins hini'
    (g := F0 m pc ls rest) rfl (by rw [hb]; exact d0) (Nat.le_refl _) (Nat.le_refl _)
  generalize hT1 : (T.setVm vm₁).pushCell { cls := cX, slots := kX.instanceTypes.map defaultValue, vm := .none } = T1 at X₁ st1
  have hcat : (Value.ref T.heap.size).category = 1 := rfl
  have hcellA : T1.heap[T.heap.size]? = some (freshCell cX kX) := by rw [← hT1]; exact State.heap_pushCell_size _ _
  have d3' : decode c.code (pc + 3) = .ok (.dup, 1) := by rw [hb]; exact d3
  have d4' : decode c.code (pc + 4) = .ok (.ldc is, 2) := by rw [hb]; exact d4
  have hstr' : vk_R own is text sa s' := vk_R.warm hW0 hstr
  obtain ⟨U, hsteps, hrun, hend, hW, hsame, ce, hce, hO⟩ := X₁.ctorThrowS hexec htr (own := own) (cls := cls) (names := names) (ic := ic) hown' hcls hnames h (fun x hx => nomatch hx) hfX hkX hcellA (by rw [hhp, hT]; exact Nat.le_refl _) (msg := .ref sa) rfl
    (g := { method := m, pc := pc + 6, locals := ls, stack := .ref sa :: .ref T.heap.size :: .ref T.heap.size :: rest, locked := none }) rfl hsize rfl rfl (rest := rest) rfl
    (by rw [hb]; exact d6) (by rw [hb]; exact d9) hout hRframes (by simp only [List.map_cons, List.sum_cons, hcat]; omega) hlocks
  obtain ⟨f1, f2⟩ := vx_frame hsame
  rw [hhp] at f1 f2
  have hWs : s.WarmedH U.vm := State.WarmedH.trans hW0 hW
  have hcl : s.vm.findClass cls = some ce.cls := by
    have h9 := hO.cls
    rw [hvm] at h9
    exact h9
  have hall : s.sameButNew ({ U with vm := s.vm } : State) locs mc ms := by
    subst hA
    obtain ⟨e1, e2⟩ := hsame
    rw [State.setFrames_setFrames] at e1
    have h2 : (T.setVm s.vm).sameButNew ({ U with vm := s.vm } : State) [] (0 + 1) (0 + 6) := ⟨e1, e2⟩
    have h3 := X.same.trans h2
    rw [List.append_nil] at h3
    exact h3.mono hc hs
  refine ⟨U, ?_, .threw T.heap.size, hrun, hend, Or.inr ⟨T.heap.size, rfl, cls, ce, locs, hx U hWs.alike f1 (fun q hq => f2 q hq (fun z hz => nomatch hz)), hce, hO.vm, hcl, hWs, hall, hf⟩⟩
  refine st1 _ ?_
  show Steps p.tables e below (T1.setTop { method := m, pc := pc + 3, locals := ls, stack := .ref T.heap.size :: rest, locked := none }) _
  jvm_step X₁.here [X₁.here.top, hexec, d3', Value.category]
  exact X₁.ldcString hexec (own := own) (text := text) (index := is) (a := sa) hown' hstr'.1 hstr'.2
    (g := { method := m, pc := pc + 4, locals := ls, stack := .ref T.heap.size :: .ref T.heap.size :: rest, locked := none }) rfl d4' _ hsteps
/-- 'throw new E("text")', the text by a wide index -/
theorem vx_throwSW {cc : ByteArray} {pc : Nat} (hexec : p.tables.exec = Jvm.exec) (hb : c.code = cc) (hl : l.stackTraces = false) {own cls text : String} {names : List String} {ik is ic mc ms sa : Nat} {A : Nat → Prop}
    (hown : s.vm.findClass own = some m.cls) (hcls : Bundle.fit cls = true) (hnames : ∀ n ∈ names, Bundle.fit n = true)
    (hk : (Cond.classLink own ik cls).before args s = true) (hini : (Cond.initialized cls).before args s = true) (hstr : vk_R own is text sa s) (hat : ∀ w ∈ vx_atS own ic cls names, w.before args s = true)
    (hgood : ∀ w ∈ Cond.classLink own ik cls :: Cond.initialized cls :: vx_atS own ic cls names, vx_ot w = true)
    (hU : vx_Zq Bundle.tN "UNASSIGNED_STACK" Bundle.steD A s s.heap) (hN : vx_Zq Bundle.tN "SUPPRESSED_SENTINEL" Bundle.listD A s s.heap) (hS : va_S A s.heap H locs) (hsize : ls.size = c.maxLocals)
    (d0 : decode cc pc = .ok (.new ik, 3)) (d3 : decode cc (pc + 3) = .ok (.dup, 1)) (d4 : decode cc (pc + 4) = .ok (.ldc_w is, 3)) (d7 : decode cc (pc + 7) = .ok (.invokespecial ic, 3)) (d10 : decode cc (pc + 10) = .ok (.athrow, 1))
    (hout : ∀ x ∈ c.exceptionTable.toList, covers x (pc + 10) = false)
    (hRframes : names.length + 3 < R.frames) (hRlocals : (rest.map fun v => v.category).sum + (13 * (names.length + 1) + 43) ≤ R.locals) (hRcells : cells + 1 ≤ R.cells) (hRslots : slots + 6 ≤ R.slots) (hlocks : meth.locks = false)
    (hx : ∀ t : State, s.vm.Alike t.vm → H.size ≤ t.heap.size → (∀ q : Nat, q < H.size → t.heap[q]? = H[q]?) → XC cls s t)
    (hf : ∀ z ∈ locs, free z.base) (hc : cells + 1 ≤ mc) (hs : slots + 6 ≤ ms) :
    W p l e R s m args below meth c H locs cells slots (vx_MQ below Qc XC args s mc ms free) (F0 m pc ls rest) := by
  intro T hT X
  have htr : e.platform.stackTraces = false := (show e.platform.stackTraces = l.stackTraces by rw [X.admits.platform]).trans hl
  have Y := vx_rebase X (R' := { frames := R.frames, locals := R.locals, cells := 1, slots := 6 }) (Nat.le_refl _) (Nat.le_refl _) hRcells hRslots
  obtain ⟨s', hA⟩ : ∃ z, z = (T.setVm s.vm).setFrames (.invoking m args :: below) := ⟨_, rfl⟩
  rw [← hA] at Y
  have hvm : s'.vm = s.vm := by rw [hA]; rfl
  have hhp : s'.heap = H := by rw [hA]; exact hT
  have hW0 : s.WarmedH s'.vm := by rw [hvm]; exact State.WarmedH.refl s
  have hat' : ∀ w ∈ vx_atS own ic cls names, w.before args s' = true := fun w hw => vx_ot_at hW0 hvm.symm (hgood w (List.mem_cons_of_mem _ (List.mem_cons_of_mem _ hw))) (hat w hw)
  have hk' : (Cond.classLink own ik cls).before args s' = true := vx_ot_at hW0 hvm.symm (hgood _ List.mem_cons_self) hk
  have hini' : (Cond.initialized cls).before args s' = true := vx_ot_at hW0 hvm.symm (hgood _ (List.mem_cons_of_mem _ List.mem_cons_self)) hini
  have hU' : vx_Zq Bundle.tN "UNASSIGNED_STACK" Bundle.steD A s' s'.heap := by rw [hhp]; exact vx_Zq.moved hW0.alike (hU.kept hS.2.1)
  have hN' : vx_Zq Bundle.tN "SUPPRESSED_SENTINEL" Bundle.listD A s' s'.heap := by rw [hhp]; exact vx_Zq.moved hW0.alike (hN.kept hS.2.1)
  have h : ∀ w ∈ Bundle.ownAtoms own ic cls names, w.before args s' = true := vx_own hat' (vx_isRefq hU'.1) (vx_isRefq hN'.1) hU'.2.word hN'.2.word
  have hown' : s'.vm.findClass own = some m.cls := by rw [hvm]; exact hown
  have hins : (Cond.instantiable cls 6).before args s' = true := h _ (by simp [Bundle.ownAtoms])
  obtain ⟨vm₁, cX, kX, hfX, hkX, -, -, X₁, st1⟩ := Y.newCold hexec (own := own) (C := cls) (index := ik) (n := 6) hown' hk' hins hini'
    (g := F0 m pc ls rest) rfl (by rw [hb]; exact d0) (Nat.le_refl _) (Nat.le_refl _)
  generalize hT1 : (T.setVm vm₁).pushCell { cls := cX, slots := kX.instanceTypes.map defaultValue, vm := .none } = T1 at X₁ st1
  have hcat : (Value.ref T.heap.size).category = 1 := rfl
  have hcellA : T1.heap[T.heap.size]? = some (freshCell cX kX) := by rw [← hT1]; exact State.heap_pushCell_size _ _
  have d3' : decode c.code (pc + 3) = .ok (.dup, 1) := by rw [hb]; exact d3
  have d4' : decode c.code (pc + 4) = .ok (.ldc_w is, 3) := by rw [hb]; exact d4
  have hstr' : vk_R own is text sa s' := vk_R.warm hW0 hstr
  obtain ⟨U, hsteps, hrun, hend, hW, hsame, ce, hce, hO⟩ := X₁.ctorThrowS hexec htr (own := own) (cls := cls) (names := names) (ic := ic) hown' hcls hnames h (fun x hx => nomatch hx) hfX hkX hcellA (by rw [hhp, hT]; exact Nat.le_refl _) (msg := .ref sa) rfl
    (g := { method := m, pc := pc + 7, locals := ls, stack := .ref sa :: .ref T.heap.size :: .ref T.heap.size :: rest, locked := none }) rfl hsize rfl rfl (rest := rest) rfl
    (by rw [hb]; exact d7) (by rw [hb]; exact d10) hout hRframes (by simp only [List.map_cons, List.sum_cons, hcat]; omega) hlocks
  obtain ⟨f1, f2⟩ := vx_frame hsame
  rw [hhp] at f1 f2
  have hWs : s.WarmedH U.vm := State.WarmedH.trans hW0 hW
  have hcl : s.vm.findClass cls = some ce.cls := by
    have h9 := hO.cls
    rw [hvm] at h9
    exact h9
  have hall : s.sameButNew ({ U with vm := s.vm } : State) locs mc ms := by
    subst hA
    obtain ⟨e1, e2⟩ := hsame
    rw [State.setFrames_setFrames] at e1
    have h2 : (T.setVm s.vm).sameButNew ({ U with vm := s.vm } : State) [] (0 + 1) (0 + 6) := ⟨e1, e2⟩
    have h3 := X.same.trans h2
    rw [List.append_nil] at h3
    exact h3.mono hc hs
  refine ⟨U, ?_, .threw T.heap.size, hrun, hend, Or.inr ⟨T.heap.size, rfl, cls, ce, locs, hx U hWs.alike f1 (fun q hq => f2 q hq (fun z hz => nomatch hz)), hce, hO.vm, hcl, hWs, hall, hf⟩⟩
  refine st1 _ ?_
  show Steps p.tables e below (T1.setTop { method := m, pc := pc + 3, locals := ls, stack := .ref T.heap.size :: rest, locked := none }) _
  jvm_step X₁.here [X₁.here.top, hexec, d3', Value.category]
  exact X₁.ldcStringW hexec (own := own) (text := text) (index := is) (a := sa) hown' hstr'.1 hstr'.2
    (g := { method := m, pc := pc + 4, locals := ls, stack := .ref T.heap.size :: .ref T.heap.size :: rest, locked := none }) rfl d4' _ hsteps
end Ends
section Bodies
variable {l : Launch}
theorem vx_ofW {y : MethodName} {ws ws' : List Cond} {rm : Room} {Pc : Array Value → State → Prop} {Qc : Array Value → State → Outcome → State → Prop} {XC : String → State → State → Prop} {mc ms : Nat} {free : Addr → Prop} {cc : ByteArray} {maxL : Nat} {ret : Option FieldType}
    (hy : plainName y.cls = true) (hw : ws = Cond.code y cc maxL ret :: ws')
    (body : ∀ p e s m args below meth c s₁, BodyLoose p l y (headSpec ws rm) cc maxL ret e s m args below meth c s₁ → c.maxLocals = maxL → (∀ x ∈ c.exceptionTable.toList, False) → Pc args s →
      W p l e (headSpec ws rm).room s m args below meth c s.heap [] 0 0 (vx_MQ below Qc XC args s mc ms free) (entryFrame m args maxL)) : vx_Met l y ws rm Pc Qc XC mc ms free := by
  refine MetFree.of_bodyS (code := cc) (maxLocals := maxL) (ret := ret) hy ?_ ?_
  · intro args s m h hn
    obtain ⟨meth, c, h1, h2, h3, h4, h5, h6, -, -⟩ := Cond.code_spec hn (atoms_spec (ws := ws) h _ (by rw [hw]; exact List.mem_cons_self))
    exact ⟨meth, c, h1, h2, h3, h4, h5, h6⟩
  · intro p e s m args below meth c s₁ B hml hP _
    have hh0 : s₁.heap = s.heap := by rw [B.state]; rfl
    have ht : ∀ x ∈ c.exceptionTable.toList, False := by
      obtain ⟨meth9, c9, h1, h2, -, -, -, -, h7, -⟩ := Cond.code_spec B.named (atoms_spec (ws := ws) B.pre _ (by rw [hw]; exact List.mem_cons_self))
      cases Option.some.inj (h1.symm.trans B.method)
      cases Option.some.inj (h2.symm.trans (Stand.of_body B).code)
      intro x hx
      rw [Array.isEmpty_iff.mp h7] at hx
      cases hx
    obtain ⟨t, a1, o, b1, b2, b3⟩ := body p e s m args below meth c s₁ B hml ht hP s₁ hh0 (Stand.of_body B)
    exact ⟨t, o, a1, b1, b2, b3⟩
/-- the table of a body with handlers -/
theorem vx_table {p : Program} {x y : MethodName} {S : Spec} {cc bytes : ByteArray} {maxL maxL' : Nat} {ret ret' : Option FieldType} {e : Env} {s s₁ : State} {m : MethodId} {args : Array Value} {below : List Frame} {meth : Method} {c : Code} {hh : List (Nat × Nat × Nat × Nat)}
    (B : BodyLoose p l y S cc maxL ret e s m args below meth c s₁) (h : (Cond.codeWith y bytes maxL' ret' hh).before args s = true) : c.exceptionTable.toList = tableOf hh := by
  obtain ⟨m9, meth9, c9, hn9, h1, h2, -, -, h6, -⟩ := Cond.codeWith_spec h
  cases Option.some.inj (hn9.symm.trans B.named)
  cases Option.some.inj (h1.symm.trans B.method)
  cases Option.some.inj (h2.symm.trans (Stand.of_body B).code)
  rw [← h6, table_eq]
end Bodies
end VXA
/-! ===== END ===== -/
/-! ===== BEGIN a static call of a method with an exception table ===== -/
section VXS
variable {p : Program} {l : Launch} {e : Env} {R : Room} {s : State} {m : MethodId} {args : Array Value} {below : List Frame} {meth : Method} {c : Code} {T : State} {H : Heap} {locs : List Loc} {cells slots : Nat}
abbrev vx_CSW (R : Room) (s : State) (args : Array Value) (own : String) (index : Nat) (y : MethodName) (bytes : ByteArray) (maxL : Nat) (ret : Option FieldType) (hh : List (Nat × Nat × Nat × Nat)) (ws : List Cond) (rm : Room) (mc ms n : Nat) : Prop :=
  (rm.cells = mc ∧ rm.slots = ms ∧ rm.frames + 1 ≤ R.frames ∧ 8 + (maxL + 11) + rm.locals ≤ R.locals ∧ (∀ w ∈ ws, ∀ (a' : Array Value) (U : State), s.WarmedH U.vm → w.before a' U = true) ∧ Cond.codeWith y bytes maxL ret hh ∈ ws) ∧
  (Cond.codeWith y bytes maxL ret hh).before args s = true ∧ (Cond.initialized y.cls).before args s = true ∧ (y.cls ≠ "java/lang/invoke/MethodHandle" ∧ y.cls ≠ "java/lang/invoke/VarHandle") ∧
  (∀ sig, parseMethodDescriptor y.desc = some sig → n = sig.parameters.length) ∧ (Cond.methodLink own index y).before args s = true ∧ (Cond.static y).before args s = true
theorem vx_cwSW {own : String} {index maxL mc ms : Nat} {y : MethodName} {bytes : ByteArray} {ret : Option FieldType} {hh : List (Nat × Nat × Nat × Nat)} {Ts ws ws' : List Cond} {rm : Room} (n : Nat) (ht : ∀ w ∈ Ts, w.before args s = true) (hT : GoodIn Ts (va_wsS own index y ws)) (hw : ws = Cond.codeWith y bytes maxL ret hh :: ws') (hrc : rm.cells = mc) (hrs : rm.slots = ms)
    (hd : y.cls ≠ "java/lang/invoke/MethodHandle" ∧ y.cls ≠ "java/lang/invoke/VarHandle" ∧ (parseMethodDescriptor y.desc).map (fun d => d.parameters.length) = some n) (hR : rm.frames + 1 ≤ R.frames ∧ 8 + (maxL + 11) + rm.locals ≤ R.locals) :
    vx_CSW R s args own index y bytes maxL ret hh ws rm mc ms n := by
  have ok : ∀ w ∈ va_wsS own index y ws, w.before args s = true := fun w h => ht w (hT w h).1
  have hG : GoodIn Ts ws := fun w h => hT w (by unfold va_wsS; exact List.mem_append_right _ h)
  have hc : Cond.codeWith y bytes maxL ret hh ∈ ws := by rw [hw]; exact List.mem_cons_self
  refine ⟨⟨hrc, hrs, hR.1, hR.2, pay_in ht hG, hc⟩, ht _ (hG _ hc).1, ok _ (by simp [va_wsS]), ⟨hd.1, hd.2.1⟩, fun sig h => ?_, ok _ (by simp [va_wsS]), ok _ (by simp [va_wsS])⟩
  have h2 := hd.2.2
  rw [h] at h2
  exact (Option.some.inj h2).symm
theorem vx_callSW (X : Stand p l e R s m args below meth c T locs cells slots) (hexec : p.tables.exec = Jvm.exec) {own : String} {index : Nat} {y : MethodName} {bytes : ByteArray} {maxL : Nat} {ret : Option FieldType} {hh : List (Nat × Nat × Nat × Nat)}
    (hown : s.vm.findClass own = some m.cls) (hlink : (Cond.methodLink own index y).before args s = true) (hstat : (Cond.static y).before args s = true) (hinit : (Cond.initialized y.cls).before args s = true)
    (hcode : (Cond.codeWith y bytes maxL ret hh).before args s = true) (hy : y.cls ≠ "java/lang/invoke/MethodHandle" ∧ y.cls ≠ "java/lang/invoke/VarHandle")
    {W9 : Nat} {Pre : Pt → Array Value → Prop} {Post : Pt → Array Value → Option Value → Pt → Prop} (hK : Back l R p e below s args y 3 W9 Pre Post)
    {g : JFrame} (hg : g.method = m) (hsize : g.locals.size = c.maxLocals) {argsL rest : List Value} (hlen : ∀ sig, parseMethodDescriptor y.desc = some sig → argsL.length = sig.parameters.length)
    (hstack : g.stack = argsL.reverse ++ rest) (hW : 2 * g.monitorRoom + (rest.map fun v => v.category).sum ≤ W9) (hdg : decode c.code g.pc = .ok (.invokestatic index, 3))
    (hpre : ∀ vm₁, s.WarmedH vm₁ → Pre ⟨T.setVm vm₁, locs, cells, slots⟩ argsL.toArray) :
    ∃ (v : Option Value) (vm₁ : Vm) (B : Pt), s.WarmedH vm₁ ∧ Stand p l e R s m args below meth c B.U B.locs B.cells B.slots ∧ Post ⟨T.setVm vm₁, locs, cells, slots⟩ argsL.toArray v B ∧
      ∀ target, Steps p.tables e below (B.U.setTop { g with pc := g.pc + 3, stack := v.toList ++ rest }) target → Steps p.tables e below (T.setTop g) target := by
  obtain ⟨mk, methM, cM, hnamed, hmethM, -, -, -, -, -, -, hsigM⟩ := Cond.codeWith_spec hcode
  have hstatic : methM.isStatic = true := Cond.static_spec hnamed hmethM hstat
  obtain ⟨kP, hkP, -⟩ := className_of_methodNamed hnamed
  have hinitP : kP.init = .initialized := Cond.initialized_spec (findClass_of_methodNamed hnamed) hkP hinit
  obtain ⟨vm₁, X₁, hstep₁⟩ := X.invokestatic hexec hown hlink hnamed hmethM hstatic hkP hinitP hy (g := g) hg (argsL := argsL) (rest := rest) (hlen _ hsigM) hstack hdg
  obtain ⟨v, B, X', hpost, hsteps⟩ := hK m meth c ⟨T.setVm vm₁, locs, cells, slots⟩ { g with stack := rest } (.invokestatic index) mk argsL.toArray X₁ hg hsize hdg hW (X₁.named hnamed) (hpre vm₁ X₁.warmed)
  exact ⟨v, vm₁, B, X₁.warmed, X', hpost, fun target h => hstep₁ _ fun acts => by rw [doInvoke_state]; exact hsteps.trans h⟩
theorem vx_runSW {y : MethodName} {bytes cc : ByteArray} {maxL nL mc ms n index : Nat} {ret : Option FieldType} {hh : List (Nat × Nat × Nat × Nat)} {ws : List Cond} {rm : Room} {Pc : Array Value → State → Prop} {Qc : Array Value → State → Outcome → State → Prop} {free : Addr → Prop} {Ts : List Cond} {own : String} {As rest : List Value} {g : JFrame}
    (S : CallFix p m c cc nL s args Ts own) (hM : Met l y ws rm Pc Qc mc ms free) (cw : vx_CSW R s args own index y bytes maxL ret hh ws rm mc ms n) (hp : PreS s H Pc As)
    (hg : g.method = m) (hn : As.length = n) (hsize : g.locals.size = nL) (hstack : g.stack = As.reverse ++ rest) (hW : 2 * g.monitorRoom + (rest.map fun v => v.category).sum ≤ 8) (hdg : decode cc g.pc = .ok (.invokestatic index, 3)) (hf : cells + mc ≤ R.cells ∧ slots + ms ≤ R.slots) :
    va_Run p l e R s m args below meth c H locs cells slots mc ms g rest (Qc As.toArray) (free) := by
  obtain ⟨⟨hrc, hrs, hfr, hlo, hws, hcw⟩, hcode, hini, hy, hlen, hl, hstt⟩ := cw
  have hK : Back l R p e below s args y 3 8 (PreOf R mc ms Pc) (PostOf Qc mc ms free) := va_backW (hh := hh) (bytes := bytes) (maxL := maxL) (ret := ret) hM hp.1 hrc hrs hfr hlo hws hcw (fun a' U hW => word_at hW (Or.inl (by first | rfl | simp [Cond.onTables, Cond.keeps, Cond.steady])) hini)
  obtain ⟨hx, hb, hml, ho, -⟩ := S
  intro T hT X
  obtain ⟨v, vm₁, ⟨U', l2, c2, s2⟩, hW₁, X', ⟨g', mk, t, L, e1, e2, hq, h1, hL, h2, h3⟩, st⟩ := vx_callSW X hx (hh := hh) (bytes := bytes) (maxL := maxL) (ret := ret) ho hl hstt hini hcode hy hK hg (hsize.trans hml.symm) (argsL := As) (rest := rest) (fun sig h => hn.trans (hlen sig h)) hstack hW (by rw [hb]; exact hdg)
    (fun vm₁ hW₁ => ⟨hf.1, hf.2, hp.2 (T.setVm vm₁) hT hW₁⟩)
  dsimp only [Pt.U, Pt.locs, Pt.cells, Pt.slots] at X' e1 e2 h1 h2 h3 st
  subst h1; subst h2; subst h3
  exact ⟨v, (T.setVm vm₁).calling g' mk As.toArray, t, U', L, hT, X', hL, e1, e2, hq, st⟩
/-- not caught here, past rows that name other classes: it goes on to the caller -/
theorem vx_outP {p : Program} {l : Launch} {e : Env} {R : Room} {s : State} {m : MethodId} {args : Array Value} {below : List Frame} {meth : Method} {c : Code} {H : Heap} {locs : List Loc} {cells slots : Nat} {free : Addr → Prop} {ls : Array Slot} {rest : List Value} {Qc : Array Value → State → Outcome → State → Prop} {XC : String → State → State → Prop}
    {pc : Nat} {own E : String} {ce : Cell} {q : Addr} {mc ms : Nat} (hown : s.vm.findClass own = some m.cls) (hlocks : meth.locks = false)
    (hpass : ∀ z ∈ c.exceptionTable.toList, covers z pc = false ∨ (z.catchType ≠ 0 ∧ ∃ nm : String, (Cond.classLink own z.catchType nm).before args s = true ∧ va_Nc E nm s)) (hcell : H[q]? = some ce) (hv : ce.vm = .none) (hcl : s.vm.findClass E = some ce.cls)
    (hx : ∀ t : State, t.heap = H → s.vm.Alike t.vm → XC E s t) (hf : ∀ z ∈ locs, free z.base) (hc : cells ≤ mc) (hs : slots ≤ ms) :
    vx_W p l e R s m args below meth c H locs cells slots (vx_MQ below Qc XC args s mc ms free) (F0 m pc ls rest) q := by
  intro T hT X
  have hpl : e.platform.magicAccessors = ({} : Platform).magicAccessors := by rw [X.admits.platform]
  obtain ⟨vm', hW', X', st⟩ := X.outThrough hlocks q (g := F0 m pc ls rest) rfl rfl rfl (cell := ce) (by rw [hT]; exact hcell) (by rw [hv]; rfl)
    (by obtain ⟨k9, h9, -⟩ := Vm.findClass_spec hcl; exact ⟨k9, h9⟩) (fun z hz => by
      rcases hpass z hz with h | ⟨hz0, nm, hl1, hn1⟩
      · exact Or.inl h
      · obtain ⟨c6, hc6, hcl6⟩ := Cond.classLink_spec hown hl1 e.platform hpl
        obtain ⟨a8, b8, h1, h2, h3⟩ := hn1
        cases Option.some.inj (h1.symm.trans hcl)
        cases Option.some.inj (h2.symm.trans hc6)
        exact Or.inr ⟨hz0, _, hcl6, h3⟩)
  obtain ⟨g₀, hfr⟩ := X'.frames_eq
  have hcell9 : ((T.setVm vm').setFrames (.throwing q :: below)).heap[q]? = some ce := by
    show T.heap[q]? = some ce
    rw [hT]; exact hcell
  have hend : Ended ((T.setVm vm').setFrames (.throwing q :: below)) below (.threw q) := State.frames_setFrames _ (State.cur_lt_of_frames hfr)
  refine ⟨(T.setVm vm').setFrames (.throwing q :: below), ?_, .threw q, X'.here.running, hend, Or.inr ⟨q, rfl, E, ce, locs, hx _ hT (X'.ends _).1.alike, hcell9, hv, hcl, (X'.ends _).1, (X'.ends _).2.mono hc hs, hf⟩⟩
  rw [X.pushThrowing_eq]
  exact st
/-- a thing of a world lies in the heap -/
theorem vx_lt {D : va_G} {cl : List vw_C} {ws : va_W} {H1 : Heap} (h : va_P D cl ws H1) {k : Nat} {q : Nat × va_E} (hk : ws[k]? = some q) : q.1 < H1.size := (h k q hk).lt
end VXS
/-! ===== END ===== -/
/-! ===== BEGIN methods with a table of their own: called by a name, returning or throwing ===== -/
section VXH
/-! vx_backW, vx_callVX, vx_callSX, vx_callVW, vx_runVW, vx_runVX, vx_runSX, vx_ofWH follow the same proofs as their sisters above (Free/Laws.lean, Shelf42/LK1.lean); vx_outP calls Shelf42/NT130.lean (outThrough). -/
section
variable {l : Launch} {R : Room} {p : Program} {e : Env} {below : List Frame} {s : State} {sargs : Array Value} {y : MethodName} {len W9 : Nat}
theorem vx_backW {ws : List Cond} {rm : Room} {Pc : Array Value → State → Prop} {Qc : Array Value → State → Outcome → State → Prop} {XC : String → State → State → Prop} {mc ms : Nat} {free : Addr → Prop} {bytes : ByteArray} {maxL : Nat} {ret : Option FieldType} {hh : List (Nat × Nat × Nat × Nat)}
    (hM : vx_Met l y ws rm Pc Qc XC mc ms free) (hblind : FrameBlind Pc) (hrc : rm.cells = mc) (hrs : rm.slots = ms)
    (hframes : rm.frames + 1 ≤ R.frames) (hlocals : W9 + (maxL + 11) + rm.locals ≤ R.locals)
    (hws : ∀ w ∈ ws, ∀ a' U, s.WarmedH U.vm → w.before a' U = true) (hcode : Cond.codeWith y bytes maxL ret hh ∈ ws) (hinit : ∀ a' U, s.WarmedH U.vm → (Cond.initialized y.cls).before a' U = true) :
    vx_Back l R p e below s sargs y len W9 (PreOf R mc ms Pc) (PostOf Qc mc ms free) (vx_Post XC mc ms free) := by
  intro m meth c A g ig mk a X hg hsize hdg hW hn hp
  have h1 : (headSpec ws rm).pre.before a A.U = true := atoms_intro fun w hw => hws w hw _ _ X.warmed
  have h2 : (Cond.codeWith y bytes maxL ret hh).before a A.U = true := hws _ hcode _ _ X.warmed
  have h3 : (Cond.initialized y.cls).before a A.U = true := hinit _ _ X.warmed
  have h4 : A.cells + (headSpec ws rm).room.cells ≤ R.cells := by rw [show (headSpec ws rm).room.cells = mc from hrc]; exact hp.1
  have h5 : A.slots + (headSpec ws rm).room.slots ≤ R.slots := by rw [show (headSpec ws rm).room.slots = ms from hrs]; exact hp.2.1
  have hPc : Pc a (A.U.calling g mk a) := hblind _ _ _ _ hp.2.2
  obtain ⟨U, Ls, c0, s0⟩ := A
  dsimp only [Pt.U, Pt.locs, Pt.cells, Pt.slots] at h1 h2 h3 h4 h5 X hn hPc ⊢
  obtain ⟨m9, methY, cY, hn9, hmY, hcY, -, hlY, -⟩ := Cond.codeWith_spec h2
  cases Option.some.inj (hn9.symm.trans hn)
  obtain ⟨kY, hkY, -⟩ := className_of_methodNamed hn
  have hinitY : kY.init = .initialized := Cond.initialized_spec (findClass_of_methodNamed hn) hkY h3
  have h : At U g.method c below := by rw [hg]; exact X.here
  have hlocals9 : W9 + (maxL + 11) + (headSpec ws rm).room.locals ≤ R.locals := hlocals
  have happ : (headSpec ws rm).appliesLoose y e.platform (U.calling g mk a) = true :=
    Spec.appliesLoose_calling (g := g) h hdg hn hkY hinitY
      (X.room_calling (g := g) (R' := (headSpec ws rm).room) hsize hmY hcY hframes (by rw [hlY]; omega) h4 h5) h1
  obtain ⟨mid, hmid⟩ := h.above
  have hfr : (U.setTop g).frames = (.java g :: mid) ++ below := by rw [State.frames_setTop' g h.top, hmid]; rfl
  obtain ⟨o, s₂, hsteps, -, hend, hq⟩ := Steps.callFree hM p X.admits X.cas X.clock (acts := []) hfr happ hPc trivial
  have hq' : vx_Q Qc XC mc ms free a (U.calling g mk a) o s₂ := hq
  rw [State.frames_setTop' g h.top] at hend
  obtain ⟨g₀, hg0⟩ := Option.isSome_iff_exists.mp h.top
  obtain ⟨r, hr⟩ := State.topJava?_eq_some.mp hg0
  have hr' : (({ U with heap := s₂.heap, slotsUsed := s₂.slotsUsed } : State).setVm s₂.vm).frames = .java g₀ :: r := hr
  rcases hq' with ⟨hqc, L, hfe, hL⟩ | ⟨q, rfl, E, ce, L, hx, hce, hcv, hcl, hW₂, hsm, hL⟩
  · obtain ⟨⟨v, rfl⟩, hW₂, e2, q2, q3, q4, q5, q6⟩ := id hfe
    have e3 : s₂ = ({ (U.calling g mk a).setFrames s₂.frames with heap := s₂.heap, slotsUsed := s₂.slotsUsed } : State).setVm s₂.vm := by
      have : s₂ = ({ s₂ with vm := (U.calling g mk a).vm } : State).setVm s₂.vm := rfl
      rw [e2] at this
      exact this
    obtain ⟨c₂, i₂, len₂, hc₂, hd₂, hf₂⟩ := hend
    have hW' : U.WarmedH s₂.vm := hW₂
    have hcc : c₂ = c := by
      have h1 : s₂.code? g.method = U.code? g.method := by
        rw [State.code?_eq, State.code?_eq, hW'.alike.method?]
      exact Option.some.inj (hc₂.symm.trans (h1.trans h.code))
    subst hcc
    have hlen : len₂ = len := by rw [hdg] at hd₂; cases hd₂; rfl
    subst hlen
    have hs₂ : s₂ = (({ U with heap := s₂.heap, slotsUsed := s₂.slotsUsed } : State).setVm s₂.vm).setTop { g with pc := g.pc + len₂, stack := v.toList ++ g.stack } := by
      refine e3.trans ?_
      rw [hf₂, State.calling_eq h.top, State.setFrames_setFrames, State.setTop_of_frames _ hr', hr]
      rfl
    have hsame : U.sameButNew ({ U with heap := s₂.heap, slotsUsed := s₂.slotsUsed } : State) L mc ms := by
      refine ⟨?_, q2, q3, q4, q5, q6⟩
      obtain ⟨t, ht, -⟩ := State.frames_cons hr
      show ({ U with heap := s₂.heap, slotsUsed := s₂.slotsUsed } : State) = { U.setFrames U.frames with heap := s₂.heap, slotsUsed := s₂.slotsUsed }
      rw [State.setFrames_self ht]
    subst hg
    refine Or.inl ⟨v, ⟨(({ U with heap := s₂.heap, slotsUsed := s₂.slotsUsed } : State).setVm s₂.vm), Ls ++ L, c0 + mc, s0 + ms⟩,
      ⟨X.admits, X.cas, X.clock, X.frames, X.room, X.hears, X.method, X.code, (X.here.setHeapUsed s₂.heap s₂.slotsUsed).setVm hW'.alike, X.tail, State.WarmedH.trans X.warmed hW', X.limits, X.bytes, X.same.trans (hsame.setVm s.vm)⟩,
      ⟨g, mk, s₂, L, rfl, rfl, hqc, rfl, hL, rfl, rfl⟩, ?_⟩
    show Steps p.tables e below _ ((({ U with heap := s₂.heap, slotsUsed := s₂.slotsUsed } : State).setVm s₂.vm).setTop { g with pc := g.pc + len₂, stack := v.toList ++ g.stack })
    rw [← hs₂]
    exact hsteps
  · obtain ⟨e2, q2, q3, q4, q5, q6⟩ := id hsm
    have e3 : s₂ = ({ (U.calling g mk a).setFrames s₂.frames with heap := s₂.heap, slotsUsed := s₂.slotsUsed } : State).setVm s₂.vm := by
      have : s₂ = ({ s₂ with vm := (U.calling g mk a).vm } : State).setVm s₂.vm := rfl
      rw [e2] at this
      exact this
    have hf₂ : s₂.frames = .throwing q :: .java g :: U.frames.tail := hend
    have hW' : U.WarmedH s₂.vm := hW₂
    have hs₂ : s₂ = ((({ U with heap := s₂.heap, slotsUsed := s₂.slotsUsed } : State).setVm s₂.vm).setTop g).pushFrame (.throwing q) := by
      refine e3.trans ?_
      rw [hf₂, State.calling_eq h.top, State.setFrames_setFrames, State.pushFrame, State.frames_setTop _ hr', State.setTop_of_frames _ hr', State.setFrames_setFrames, hr]
      rfl
    have hsame : U.sameButNew ({ U with heap := s₂.heap, slotsUsed := s₂.slotsUsed } : State) L mc ms := by
      refine ⟨?_, q2, q3, q4, q5, q6⟩
      obtain ⟨t, ht, -⟩ := State.frames_cons hr
      show ({ U with heap := s₂.heap, slotsUsed := s₂.slotsUsed } : State) = { U.setFrames U.frames with heap := s₂.heap, slotsUsed := s₂.slotsUsed }
      rw [State.setFrames_self ht]
    subst hg
    refine Or.inr ⟨q, ⟨(({ U with heap := s₂.heap, slotsUsed := s₂.slotsUsed } : State).setVm s₂.vm), Ls ++ L, c0 + mc, s0 + ms⟩,
      ⟨X.admits, X.cas, X.clock, X.frames, X.room, X.hears, X.method, X.code, (X.here.setHeapUsed s₂.heap s₂.slotsUsed).setVm hW'.alike, X.tail, State.WarmedH.trans X.warmed hW', X.limits, X.bytes, X.same.trans (hsame.setVm s.vm)⟩,
      ⟨g, mk, s₂, L, E, ce, rfl, rfl, hx, hce, hcv, hcl, rfl, hL, rfl, rfl⟩, ?_⟩
    show Steps p.tables e below _ (((({ U with heap := s₂.heap, slotsUsed := s₂.slotsUsed } : State).setVm s₂.vm).setTop g).pushFrame (.throwing q))
    rw [← hs₂]
    exact hsteps
end
variable {p : Program} {l : Launch} {e : Env} {R : Room} {s : State} {m : MethodId} {args : Array Value} {below : List Frame} {meth : Method} {c : Code} {T : State} {H : Heap} {locs : List Loc} {cells slots : Nat}
theorem vx_callVX (X : Stand p l e R s m args below meth c T locs cells slots) (hexec : p.tables.exec = Jvm.exec) {own C : String} {index : Nat} {y : MethodName} {bytes : ByteArray} {maxL : Nat} {ret : Option FieldType} {hh : List (Nat × Nat × Nat × Nat)}
    (hown : s.vm.findClass own = some m.cls) (hlink : (Cond.methodLink own index y).before args s = true) (hinst : (Cond.instanceMethod y).before args s = true) (hsel : (Cond.selects C y y).before args s = true)
    (hcode : (Cond.codeWith y bytes maxL ret hh).before args s = true) (hy : y.cls ≠ "java/lang/invoke/MethodHandle" ∧ y.cls ≠ "java/lang/invoke/VarHandle")
    {W9 : Nat} {Pre : Pt → Array Value → Prop} {Post : Pt → Array Value → Option Value → Pt → Prop} {PostX : Pt → Array Value → Addr → Pt → Prop} (hK : vx_Back l R p e below s args y 3 W9 Pre Post PostX)
    {b : Addr} {cellB : Cell} (hcell : T.heap[b]? = some cellB) (hobj : cellB.vm.isStatics = false) (hcls : s.vm.findClass C = some cellB.cls)
    {g : JFrame} (hg : g.method = m) (hsize : g.locals.size = c.maxLocals) {argsL rest : List Value} (hlen : ∀ sig, parseMethodDescriptor y.desc = some sig → argsL.length = sig.parameters.length)
    (hstack : g.stack = argsL.reverse ++ .ref b :: rest) (hW : 2 * g.monitorRoom + (rest.map fun v => v.category).sum ≤ W9) (hdg : decode c.code g.pc = .ok (.invokevirtual index, 3))
    (hpre : ∀ vm₁, s.WarmedH vm₁ → Pre ⟨T.setVm vm₁, locs, cells, slots⟩ (Value.ref b :: argsL).toArray) :
    (∃ (v : Option Value) (vm₁ : Vm) (B : Pt), s.WarmedH vm₁ ∧ Stand p l e R s m args below meth c B.U B.locs B.cells B.slots ∧ Post ⟨T.setVm vm₁, locs, cells, slots⟩ (Value.ref b :: argsL).toArray v B ∧
      ∀ target, Steps p.tables e below (B.U.setTop { g with pc := g.pc + 3, stack := v.toList ++ rest }) target → Steps p.tables e below (T.setTop g) target) ∨
    (∃ (q : Addr) (vm₁ : Vm) (B : Pt), s.WarmedH vm₁ ∧ Stand p l e R s m args below meth c B.U B.locs B.cells B.slots ∧ PostX ⟨T.setVm vm₁, locs, cells, slots⟩ (Value.ref b :: argsL).toArray q B ∧
      Steps p.tables e below (T.setTop g) ((B.U.setTop { g with stack := rest }).pushFrame (.throwing q))) := by
  obtain ⟨mk, methM, hnamed, hmethM, hstM, habM⟩ := Cond.instanceMethod_spec hinst
  obtain ⟨m8, methM', cM, hn8, hmethM', -, -, -, -, -, -, hsigM⟩ := Cond.codeWith_spec hcode
  cases Option.some.inj (hn8.symm.trans hnamed)
  cases hmethM.symm.trans hmethM'
  obtain ⟨c2, r2, m2, q1, q2, q3, q4, kP, hkP, hkPi⟩ := Cond.selects_spec hsel
  cases hcls.symm.trans q1
  cases (State.methodFound?_of_named hnamed hy).symm.trans q2
  cases hnamed.symm.trans q3
  have hselP : selectMethod e.platform s.vm cellB.cls mk = .method mk := by rw [Launch.admits_selectMethod X.admits]; exact q4
  obtain ⟨vm₁, X₁, hstep₁⟩ := X.invokevirtual hexec hown hlink hnamed hmethM hstM hkP hkPi hy (a := b) (cell := cellB) hcell
    (fun z h => by rw [h] at hobj; cases hobj) hselP hmethM habM hkP hkPi (g := g) hg (argsL := argsL) (rest := rest) (hlen _ hsigM) hstack hdg
  rcases hK m meth c ⟨T.setVm vm₁, locs, cells, slots⟩ { g with stack := rest } (.invokevirtual index) mk (Value.ref b :: argsL).toArray X₁ hg hsize hdg hW (X₁.named hnamed) (hpre vm₁ X₁.warmed) with ⟨v, B, X', hpost, hsteps⟩ | ⟨q, B, X', hpost, hsteps⟩
  · exact Or.inl ⟨v, vm₁, B, X₁.warmed, X', hpost, fun target h => hstep₁ _ fun acts => by rw [doInvoke_state]; exact hsteps.trans h⟩
  · exact Or.inr ⟨q, vm₁, B, X₁.warmed, X', hpost, hstep₁ _ fun acts => by rw [doInvoke_state]; exact hsteps⟩
theorem vx_callSX (X : Stand p l e R s m args below meth c T locs cells slots) (hexec : p.tables.exec = Jvm.exec) {own : String} {index : Nat} {y : MethodName} {bytes : ByteArray} {maxL : Nat} {ret : Option FieldType} {hh : List (Nat × Nat × Nat × Nat)}
    (hown : s.vm.findClass own = some m.cls) (hlink : (Cond.methodLink own index y).before args s = true) (hstat : (Cond.static y).before args s = true) (hinit : (Cond.initialized y.cls).before args s = true)
    (hcode : (Cond.codeWith y bytes maxL ret hh).before args s = true) (hy : y.cls ≠ "java/lang/invoke/MethodHandle" ∧ y.cls ≠ "java/lang/invoke/VarHandle")
    {W9 : Nat} {Pre : Pt → Array Value → Prop} {Post : Pt → Array Value → Option Value → Pt → Prop} {PostX : Pt → Array Value → Addr → Pt → Prop} (hK : vx_Back l R p e below s args y 3 W9 Pre Post PostX)
    {g : JFrame} (hg : g.method = m) (hsize : g.locals.size = c.maxLocals) {argsL rest : List Value} (hlen : ∀ sig, parseMethodDescriptor y.desc = some sig → argsL.length = sig.parameters.length)
    (hstack : g.stack = argsL.reverse ++ rest) (hW : 2 * g.monitorRoom + (rest.map fun v => v.category).sum ≤ W9) (hdg : decode c.code g.pc = .ok (.invokestatic index, 3))
    (hpre : ∀ vm₁, s.WarmedH vm₁ → Pre ⟨T.setVm vm₁, locs, cells, slots⟩ argsL.toArray) :
    (∃ (v : Option Value) (vm₁ : Vm) (B : Pt), s.WarmedH vm₁ ∧ Stand p l e R s m args below meth c B.U B.locs B.cells B.slots ∧ Post ⟨T.setVm vm₁, locs, cells, slots⟩ argsL.toArray v B ∧
      ∀ target, Steps p.tables e below (B.U.setTop { g with pc := g.pc + 3, stack := v.toList ++ rest }) target → Steps p.tables e below (T.setTop g) target) ∨
    (∃ (q : Addr) (vm₁ : Vm) (B : Pt), s.WarmedH vm₁ ∧ Stand p l e R s m args below meth c B.U B.locs B.cells B.slots ∧ PostX ⟨T.setVm vm₁, locs, cells, slots⟩ argsL.toArray q B ∧
      Steps p.tables e below (T.setTop g) ((B.U.setTop { g with stack := rest }).pushFrame (.throwing q))) := by
  obtain ⟨mk, methM, cM, hnamed, hmethM, -, -, -, -, -, -, hsigM⟩ := Cond.codeWith_spec hcode
  have hstatic : methM.isStatic = true := Cond.static_spec hnamed hmethM hstat
  obtain ⟨kP, hkP, -⟩ := className_of_methodNamed hnamed
  have hinitP : kP.init = .initialized := Cond.initialized_spec (findClass_of_methodNamed hnamed) hkP hinit
  obtain ⟨vm₁, X₁, hstep₁⟩ := X.invokestatic hexec hown hlink hnamed hmethM hstatic hkP hinitP hy (g := g) hg (argsL := argsL) (rest := rest) (hlen _ hsigM) hstack hdg
  rcases hK m meth c ⟨T.setVm vm₁, locs, cells, slots⟩ { g with stack := rest } (.invokestatic index) mk argsL.toArray X₁ hg hsize hdg hW (X₁.named hnamed) (hpre vm₁ X₁.warmed) with ⟨v, B, X', hpost, hsteps⟩ | ⟨q, B, X', hpost, hsteps⟩
  · exact Or.inl ⟨v, vm₁, B, X₁.warmed, X', hpost, fun target h => hstep₁ _ fun acts => by rw [doInvoke_state]; exact hsteps.trans h⟩
  · exact Or.inr ⟨q, vm₁, B, X₁.warmed, X', hpost, hstep₁ _ fun acts => by rw [doInvoke_state]; exact hsteps⟩
theorem vx_callVW (X : Stand p l e R s m args below meth c T locs cells slots) (hexec : p.tables.exec = Jvm.exec) {own C : String} {index : Nat} {y : MethodName} {bytes : ByteArray} {maxL : Nat} {ret : Option FieldType} {hh : List (Nat × Nat × Nat × Nat)}
    (hown : s.vm.findClass own = some m.cls) (hlink : (Cond.methodLink own index y).before args s = true) (hinst : (Cond.instanceMethod y).before args s = true) (hsel : (Cond.selects C y y).before args s = true)
    (hcode : (Cond.codeWith y bytes maxL ret hh).before args s = true) (hy : y.cls ≠ "java/lang/invoke/MethodHandle" ∧ y.cls ≠ "java/lang/invoke/VarHandle")
    {W9 : Nat} {Pre : Pt → Array Value → Prop} {Post : Pt → Array Value → Option Value → Pt → Prop} (hK : Back l R p e below s args y 3 W9 Pre Post)
    {b : Addr} {cellB : Cell} (hcell : T.heap[b]? = some cellB) (hobj : cellB.vm.isStatics = false) (hcls : s.vm.findClass C = some cellB.cls)
    {g : JFrame} (hg : g.method = m) (hsize : g.locals.size = c.maxLocals) {argsL rest : List Value} (hlen : ∀ sig, parseMethodDescriptor y.desc = some sig → argsL.length = sig.parameters.length)
    (hstack : g.stack = argsL.reverse ++ .ref b :: rest) (hW : 2 * g.monitorRoom + (rest.map fun v => v.category).sum ≤ W9) (hdg : decode c.code g.pc = .ok (.invokevirtual index, 3))
    (hpre : ∀ vm₁, s.WarmedH vm₁ → Pre ⟨T.setVm vm₁, locs, cells, slots⟩ (Value.ref b :: argsL).toArray) :
    ∃ (v : Option Value) (vm₁ : Vm) (B : Pt), s.WarmedH vm₁ ∧ Stand p l e R s m args below meth c B.U B.locs B.cells B.slots ∧ Post ⟨T.setVm vm₁, locs, cells, slots⟩ (Value.ref b :: argsL).toArray v B ∧
      ∀ target, Steps p.tables e below (B.U.setTop { g with pc := g.pc + 3, stack := v.toList ++ rest }) target → Steps p.tables e below (T.setTop g) target := by
  obtain ⟨mk, methM, hnamed, hmethM, hstM, habM⟩ := Cond.instanceMethod_spec hinst
  obtain ⟨m8, methM', cM, hn8, hmethM', -, -, -, -, -, -, hsigM⟩ := Cond.codeWith_spec hcode
  cases Option.some.inj (hn8.symm.trans hnamed)
  cases hmethM.symm.trans hmethM'
  obtain ⟨c2, r2, m2, q1, q2, q3, q4, kP, hkP, hkPi⟩ := Cond.selects_spec hsel
  cases hcls.symm.trans q1
  cases (State.methodFound?_of_named hnamed hy).symm.trans q2
  cases hnamed.symm.trans q3
  have hselP : selectMethod e.platform s.vm cellB.cls mk = .method mk := by rw [Launch.admits_selectMethod X.admits]; exact q4
  obtain ⟨vm₁, X₁, hstep₁⟩ := X.invokevirtual hexec hown hlink hnamed hmethM hstM hkP hkPi hy (a := b) (cell := cellB) hcell
    (fun z h => by rw [h] at hobj; cases hobj) hselP hmethM habM hkP hkPi (g := g) hg (argsL := argsL) (rest := rest) (hlen _ hsigM) hstack hdg
  obtain ⟨v, B, X', hpost, hsteps⟩ := hK m meth c ⟨T.setVm vm₁, locs, cells, slots⟩ { g with stack := rest } (.invokevirtual index) mk (Value.ref b :: argsL).toArray X₁ hg hsize hdg hW (X₁.named hnamed) (hpre vm₁ X₁.warmed)
  exact ⟨v, vm₁, B, X₁.warmed, X', hpost, fun target h => hstep₁ _ fun acts => by rw [doInvoke_state]; exact hsteps.trans h⟩
abbrev vx_CVW (R : Room) (s : State) (args : Array Value) (own C : String) (index : Nat) (y : MethodName) (bytes : ByteArray) (maxL : Nat) (ret : Option FieldType) (hh : List (Nat × Nat × Nat × Nat)) (ws : List Cond) (rm : Room) (mc ms n : Nat) : Prop :=
  (rm.cells = mc ∧ rm.slots = ms ∧ rm.frames + 1 ≤ R.frames ∧ 8 + (maxL + 11) + rm.locals ≤ R.locals ∧ (∀ w ∈ ws, ∀ (a' : Array Value) (U : State), s.WarmedH U.vm → w.before a' U = true) ∧ Cond.codeWith y bytes maxL ret hh ∈ ws) ∧
  (Cond.codeWith y bytes maxL ret hh).before args s = true ∧ (Cond.initialized y.cls).before args s = true ∧ (y.cls ≠ "java/lang/invoke/MethodHandle" ∧ y.cls ≠ "java/lang/invoke/VarHandle") ∧
  (∀ sig, parseMethodDescriptor y.desc = some sig → n = sig.parameters.length) ∧ (Cond.methodLink own index y).before args s = true ∧ (Cond.instanceMethod y).before args s = true ∧ (Cond.selects C y y).before args s = true
theorem vx_cwVW {own C : String} {index maxL mc ms : Nat} {y : MethodName} {bytes : ByteArray} {ret : Option FieldType} {hh : List (Nat × Nat × Nat × Nat)} {Ts ws ws' : List Cond} {rm : Room} (n : Nat) (ht : ∀ w ∈ Ts, w.before args s = true) (hT : GoodIn Ts (wsV own index C y ws)) (hw : ws = Cond.codeWith y bytes maxL ret hh :: ws') (hrc : rm.cells = mc) (hrs : rm.slots = ms)
    (hd : y.cls = C ∧ y.cls ≠ "java/lang/invoke/MethodHandle" ∧ y.cls ≠ "java/lang/invoke/VarHandle" ∧ (parseMethodDescriptor y.desc).map (fun d => d.parameters.length) = some n) (hR : rm.frames + 1 ≤ R.frames ∧ 8 + (maxL + 11) + rm.locals ≤ R.locals) :
    vx_CVW R s args own C index y bytes maxL ret hh ws rm mc ms n := by
  obtain ⟨hC, hd⟩ := hd
  subst hC
  have ok : ∀ w ∈ wsV own index y.cls y ws, w.before args s = true := fun w h => ht w (hT w h).1
  have hG : GoodIn Ts ws := fun w h => hT w (by unfold wsV; exact List.mem_append_right _ h)
  have hc : Cond.codeWith y bytes maxL ret hh ∈ ws := by rw [hw]; exact List.mem_cons_self
  refine ⟨⟨hrc, hrs, hR.1, hR.2, pay_in ht hG, hc⟩, ht _ (hG _ hc).1, ok _ (by simp [wsV]), ⟨hd.1, hd.2.1⟩, fun sig h => ?_, ok _ (by simp [wsV]), ok _ (by simp [wsV]), ok _ (by simp [wsV])⟩
  have h2 := hd.2.2
  rw [h] at h2
  exact (Option.some.inj h2).symm
theorem vx_runVW {y : MethodName} {bytes cc : ByteArray} {maxL nL mc ms n index : Nat} {ret : Option FieldType} {hh : List (Nat × Nat × Nat × Nat)} {ws : List Cond} {rm : Room} {Pc : Array Value → State → Prop} {Qc : Array Value → State → Outcome → State → Prop} {free : Addr → Prop} {Ts : List Cond} {own C : String} {b : Addr} {As rest : List Value} {g : JFrame}
    (S : CallFix p m c cc nL s args Ts own) (hM : Met l y ws rm Pc Qc mc ms free) (cw : vx_CVW R s args own C index y bytes maxL ret hh ws rm mc ms n) (hp : PreV s H C b Pc As)
    (hg : g.method = m) (hn : As.length = n) (hsize : g.locals.size = nL) (hstack : g.stack = As.reverse ++ .ref b :: rest) (hW : 2 * g.monitorRoom + (rest.map fun v => v.category).sum ≤ 8) (hdg : decode cc g.pc = .ok (.invokevirtual index, 3)) (hf : cells + mc ≤ R.cells ∧ slots + ms ≤ R.slots) :
    va_Run p l e R s m args below meth c H locs cells slots mc ms g rest (Qc (Value.ref b :: As).toArray) free := by
  obtain ⟨⟨hrc, hrs, hfr, hlo, hws, hcw⟩, hcode, hini, hy, hlen, hl, hin, hse⟩ := cw
  have hK : Back l R p e below s args y 3 8 (PreOf R mc ms Pc) (PostOf Qc mc ms free) := va_backW (hh := hh) (bytes := bytes) (maxL := maxL) (ret := ret) hM hp.1 hrc hrs hfr hlo hws hcw (fun a' U hW => word_at hW (Or.inl (by first | rfl | simp [Cond.onTables, Cond.keeps, Cond.steady])) hini)
  obtain ⟨hx, hb, hml, ho, -⟩ := S
  obtain ⟨-, ⟨cellB, hcB, hoB, hclB⟩, hPc⟩ := hp
  intro T hT X
  obtain ⟨v, vm₁, ⟨U', l2, c2, s2⟩, hW₁, X', ⟨g', mk, t, L, e1, e2, hq, h1, hL, h2, h3⟩, st⟩ := vx_callVW X hx (C := C) (hh := hh) (bytes := bytes) (maxL := maxL) (ret := ret) ho hl hin hse hcode hy hK (by rw [hT]; exact hcB) hoB hclB hg (hsize.trans hml.symm) (argsL := As) (rest := rest) (fun sig h => hn.trans (hlen sig h)) hstack hW (by rw [hb]; exact hdg)
    (fun vm₁ hW₁ => ⟨hf.1, hf.2, hPc (T.setVm vm₁) hT hW₁⟩)
  dsimp only [Pt.U, Pt.locs, Pt.cells, Pt.slots] at X' e1 e2 h1 h2 h3 st
  subst h1; subst h2; subst h3
  exact ⟨v, (T.setVm vm₁).calling g' mk (Value.ref b :: As).toArray, t, U', L, hT, X', hL, e1, e2, hq, st⟩
section
variable {y : MethodName} {bytes cc : ByteArray} {maxL nL mc ms n index : Nat} {ret : Option FieldType} {ws : List Cond} {rm : Room} {Pc : Array Value → State → Prop} {Qc : Array Value → State → Outcome → State → Prop} {XC : String → State → State → Prop} {free : Addr → Prop} {Ts : List Cond} {own C : String} {b : Addr} {As rest : List Value} {g : JFrame}
theorem vx_runVX {hh : List (Nat × Nat × Nat × Nat)} (S : CallFix p m c cc nL s args Ts own) (hM : vx_Met l y ws rm Pc Qc XC mc ms free) (cw : vx_CVW R s args own C index y bytes maxL ret hh ws rm mc ms n) (hp : PreV s H C b Pc As)
    (hg : g.method = m) (hn : As.length = n) (hsize : g.locals.size = nL) (hstack : g.stack = As.reverse ++ .ref b :: rest) (hW : 2 * g.monitorRoom + (rest.map fun v => v.category).sum ≤ 8) (hdg : decode cc g.pc = .ok (.invokevirtual index, 3)) (hf : cells + mc ≤ R.cells ∧ slots + ms ≤ R.slots) :
    vx_Run p l e R s m args below meth c H locs cells slots mc ms g rest (Qc (Value.ref b :: As).toArray) XC free := by
  obtain ⟨⟨hrc, hrs, hfr, hlo, hws, hcw⟩, hcode, hini, hy, hlen, hl, hin, hse⟩ := cw
  have hK : vx_Back l R p e below s args y 3 8 (PreOf R mc ms Pc) (PostOf Qc mc ms free) (vx_Post XC mc ms free) := vx_backW (hh := hh) (bytes := bytes) (maxL := maxL) (ret := ret) hM hp.1 hrc hrs hfr hlo hws hcw (fun a' U hW => word_at hW (Or.inl (by first | rfl | simp [Cond.onTables, Cond.keeps, Cond.steady])) hini)
  obtain ⟨hx, hb, hml, ho, -⟩ := S
  obtain ⟨-, ⟨cellB, hcB, hoB, hclB⟩, hPc⟩ := hp
  intro T hT X
  rcases vx_callVX X hx (C := C) (hh := hh) (bytes := bytes) (maxL := maxL) (ret := ret) ho hl hin hse hcode hy hK (by rw [hT]; exact hcB) hoB hclB hg (hsize.trans hml.symm) (argsL := As) (rest := rest) (fun sig h => hn.trans (hlen sig h)) hstack hW (by rw [hb]; exact hdg)
    (fun vm₁ hW₁ => ⟨hf.1, hf.2, hPc (T.setVm vm₁) hT hW₁⟩) with ⟨v, vm₁, ⟨U', l2, c2, s2⟩, hW₁, X', ⟨g', mk, t, L, e1, e2, hq, h1, hL, h2, h3⟩, st⟩ | ⟨q, vm₁, ⟨U', l2, c2, s2⟩, hW₁, X', ⟨g', mk, t, L, E, ce, e1, e2, hq, hce, hcv, hcl, h1, hL, h2, h3⟩, st⟩
  · dsimp only [Pt.U, Pt.locs, Pt.cells, Pt.slots] at X' e1 e2 h1 h2 h3 st
    subst h1; subst h2; subst h3
    exact Or.inl ⟨v, (T.setVm vm₁).calling g' mk (Value.ref b :: As).toArray, t, U', L, hT, X', hL, e1, e2, hq, st⟩
  · dsimp only [Pt.U, Pt.locs, Pt.cells, Pt.slots] at X' e1 e2 h1 h2 h3 st hcl
    subst h1; subst h2; subst h3
    exact Or.inr ⟨q, (T.setVm vm₁).calling g' mk (Value.ref b :: As).toArray, t, U', L, E, ce, hT, X', hL, e1, e2, hq, hce, hcv, vx_cls hW₁ hcl, st⟩
theorem vx_runSX {hh : List (Nat × Nat × Nat × Nat)} (S : CallFix p m c cc nL s args Ts own) (hM : vx_Met l y ws rm Pc Qc XC mc ms free) (cw : vx_CSW R s args own index y bytes maxL ret hh ws rm mc ms n) (hp : PreS s H Pc As)
    (hg : g.method = m) (hn : As.length = n) (hsize : g.locals.size = nL) (hstack : g.stack = As.reverse ++ rest) (hW : 2 * g.monitorRoom + (rest.map fun v => v.category).sum ≤ 8) (hdg : decode cc g.pc = .ok (.invokestatic index, 3)) (hf : cells + mc ≤ R.cells ∧ slots + ms ≤ R.slots) :
    vx_Run p l e R s m args below meth c H locs cells slots mc ms g rest (Qc As.toArray) XC free := by
  obtain ⟨⟨hrc, hrs, hfr, hlo, hws, hcw⟩, hcode, hini, hy, hlen, hl, hstt⟩ := cw
  have hK : vx_Back l R p e below s args y 3 8 (PreOf R mc ms Pc) (PostOf Qc mc ms free) (vx_Post XC mc ms free) := vx_backW (hh := hh) (bytes := bytes) (maxL := maxL) (ret := ret) hM hp.1 hrc hrs hfr hlo hws hcw (fun a' U hW => word_at hW (Or.inl (by first | rfl | simp [Cond.onTables, Cond.keeps, Cond.steady])) hini)
  obtain ⟨hx, hb, hml, ho, -⟩ := S
  intro T hT X
  rcases vx_callSX X hx (hh := hh) (bytes := bytes) (maxL := maxL) (ret := ret) ho hl hstt hini hcode hy hK hg (hsize.trans hml.symm) (argsL := As) (rest := rest) (fun sig h => hn.trans (hlen sig h)) hstack hW (by rw [hb]; exact hdg)
    (fun vm₁ hW₁ => ⟨hf.1, hf.2, hp.2 (T.setVm vm₁) hT hW₁⟩) with ⟨v, vm₁, ⟨U', l2, c2, s2⟩, hW₁, X', ⟨g', mk, t, L, e1, e2, hq, h1, hL, h2, h3⟩, st⟩ | ⟨q, vm₁, ⟨U', l2, c2, s2⟩, hW₁, X', ⟨g', mk, t, L, E, ce, e1, e2, hq, hce, hcv, hcl, h1, hL, h2, h3⟩, st⟩
  · dsimp only [Pt.U, Pt.locs, Pt.cells, Pt.slots] at X' e1 e2 h1 h2 h3 st
    subst h1; subst h2; subst h3
    exact Or.inl ⟨v, (T.setVm vm₁).calling g' mk As.toArray, t, U', L, hT, X', hL, e1, e2, hq, st⟩
  · dsimp only [Pt.U, Pt.locs, Pt.cells, Pt.slots] at X' e1 e2 h1 h2 h3 st hcl
    subst h1; subst h2; subst h3
    exact Or.inr ⟨q, (T.setVm vm₁).calling g' mk As.toArray, t, U', L, E, ce, hT, X', hL, e1, e2, hq, hce, hcv, vx_cls hW₁ hcl, st⟩
end
end VXH
theorem vx_ofWH {l : Launch} {y : MethodName} {ws ws' : List Cond} {rm : Room} {Pc : Array Value → State → Prop} {Qc : Array Value → State → Outcome → State → Prop} {XC : String → State → State → Prop} {mc ms : Nat} {free : Addr → Prop} {cc : ByteArray} {maxL : Nat} {ret : Option FieldType} {hh : List (Nat × Nat × Nat × Nat)}
    (hy : plainName y.cls = true) (hw : ws = Cond.codeWith y cc maxL ret hh :: ws')
    (body : ∀ p e s m args below meth c s₁, BodyLoose p l y (headSpec ws rm) cc maxL ret e s m args below meth c s₁ → c.maxLocals = maxL → Pc args s →
      W p l e (headSpec ws rm).room s m args below meth c s.heap [] 0 0 (vx_MQ below Qc XC args s mc ms free) (entryFrame m args maxL)) : vx_Met l y ws rm Pc Qc XC mc ms free := by
  refine MetFree.of_bodyS (code := cc) (maxLocals := maxL) (ret := ret) hy ?_ ?_
  · intro args s m h hn
    obtain ⟨m9, meth, c, hn9, h1, h2, h3, h4, -, h5, h6, -⟩ := Cond.codeWith_spec (atoms_spec (ws := ws) h _ (by rw [hw]; exact List.mem_cons_self))
    cases hn.symm.trans hn9
    exact ⟨meth, c, h1, h2, h3, h4, h5, h6⟩
  · intro p e s m args below meth c s₁ B hml hP _
    have hh0 : s₁.heap = s.heap := by rw [B.state]; rfl
    obtain ⟨t, a1, o, b1, b2, b3⟩ := body p e s m args below meth c s₁ B hml hP s₁ hh0 (Stand.of_body B)
    exact ⟨t, o, a1, b1, b2, b3⟩
/-! ===== END ===== -/
end
section
/-! ===== BEGIN printed: names, fields, word lists, decode rows ===== -/
def RX0 : String := "Gimlet$Cubes"
def TX0 : u_T := fun k => match k with
  | 0 => ("Gimlet$Cubes", "contained", "[I", true)
  | 1 => ("Gimlet$Cubes", "implicant", "[Z", true)
  | _ => ("Gimlet$Cubes", "joined", "[Z", true)
def tyX0 : Nat → FieldType := fun k => match k with
  | 0 => .array .int
  | 1 => .array .boolean
  | _ => .array .boolean
abbrev wsX00 : List Cond := u_ws RX0 TX0 3
theorem nmX0 : ∀ a, a < 3 → ∀ b, b < 3 → a ≠ b → (TX0 a).2.1 ≠ (TX0 b).2.1 := by decide +kernel
theorem tyX0_ok : ∀ k, k < 3 → parseFieldDescriptor (TX0 k).2.2.1 = some (tyX0 k) := by decide +kernel
abbrev cX0_init : ByteArray := prog_2_method_1_code
def yX0_init : MethodName := ⟨RX0, "<init>", "()V"⟩
abbrev cX0_tells : ByteArray := prog_2_method_2_code
def yX0_tells : MethodName := ⟨RX0, "tells", "(II)C"⟩
abbrev cX0_digitOf : ByteArray := prog_2_method_3_code
def yX0_digitOf : MethodName := ⟨RX0, "digitOf", "(II)I"⟩
abbrev cX0_weightOf : ByteArray := prog_2_method_4_code
def yX0_weightOf : MethodName := ⟨RX0, "weightOf", "(I)I"⟩
abbrev cX0_regionsIn : ByteArray := prog_2_method_5_code
def yX0_regionsIn : MethodName := ⟨RX0, "regionsIn", "(I)I"⟩
abbrev cX0_contains : ByteArray := prog_2_method_6_code
def yX0_contains : MethodName := ⟨RX0, "contains", "(II)Z"⟩
abbrev cX0_join : ByteArray := prog_2_method_7_code
def yX0_join : MethodName := ⟨RX0, "join", "(I)V"⟩
abbrev cX0_isSingle : ByteArray := prog_2_method_8_code
def yX0_isSingle : MethodName := ⟨RX0, "isSingle", "(I)Z"⟩
abbrev cX0_joinParts : ByteArray := prog_2_method_9_code
def yX0_joinParts : MethodName := ⟨RX0, "joinParts", "(II)V"⟩
abbrev cX0_countPrimes : ByteArray := prog_2_method_10_code
def yX0_countPrimes : MethodName := ⟨RX0, "countPrimes", "()I"⟩
abbrev cX0_primeAt : ByteArray := prog_2_method_11_code
def yX0_primeAt : MethodName := ⟨RX0, "primeAt", "(I)I"⟩
abbrev cX0_countByTrying : ByteArray := prog_2_method_12_code
def yX0_countByTrying : MethodName := ⟨RX0, "countByTrying", "(I)I"⟩
abbrev cX0_isInLarger : ByteArray := prog_2_method_13_code
def yX0_isInLarger : MethodName := ⟨RX0, "isInLarger", "(II)Z"⟩
abbrev cX0_isInside : ByteArray := prog_2_method_14_code
def yX0_isInside : MethodName := ⟨RX0, "isInside", "(II)Z"⟩
def RX1 : String := "Gimlet$Rewriter"
def TX1 : u_T := fun k => match k with
  | 0 => ("Gimlet$Rewriter", "now", "LGimlet$Text;", false)
  | 1 => ("Gimlet$Rewriter", "next", "LGimlet$Text;", false)
  | 2 => ("Gimlet$Rewriter", "place", "I", false)
  | _ => ("Gimlet$Rewriter", "rule", "C", false)
def tyX1 : Nat → FieldType := fun k => match k with
  | 0 => .object "Gimlet$Text"
  | 1 => .object "Gimlet$Text"
  | 2 => .int
  | _ => .char
abbrev wsX10 : List Cond := u_ws RX1 TX1 4
theorem nmX1 : ∀ a, a < 4 → ∀ b, b < 4 → a ≠ b → (TX1 a).2.1 ≠ (TX1 b).2.1 := by decide +kernel
theorem tyX1_ok : ∀ k, k < 4 → parseFieldDescriptor (TX1 k).2.2.1 = some (tyX1 k) := by decide +kernel
abbrev cX1_init : ByteArray := prog_3_method_1_code
def yX1_init : MethodName := ⟨RX1, "<init>", "()V"⟩
abbrev cX1_load : ByteArray := prog_3_method_2_code
def yX1_load : MethodName := ⟨RX1, "load", "(LGimlet$Terms;I)V"⟩
abbrev cX1_text : ByteArray := prog_3_method_3_code
def yX1_text : MethodName := ⟨RX1, "text", "()LGimlet$Text;"⟩
abbrev cX1_canGoOn : ByteArray := prog_3_method_4_code
def yX1_canGoOn : MethodName := ⟨RX1, "canGoOn", "()Z"⟩
abbrev cX1_nextRule : ByteArray := prog_3_method_5_code
def yX1_nextRule : MethodName := ⟨RX1, "nextRule", "()C"⟩
abbrev cX1_seek : ByteArray := prog_3_method_6_code
def yX1_seek : MethodName := ⟨RX1, "seek", "()V"⟩
abbrev cX1_ruleAt : ByteArray := prog_3_method_7_code
def yX1_ruleAt : MethodName := ⟨RX1, "ruleAt", "(I)C"⟩
abbrev cX1_ruleOfComplement : ByteArray := prog_3_method_8_code
def yX1_ruleOfComplement : MethodName := ⟨RX1, "ruleOfComplement", "(C)C"⟩
abbrev cX1_ruleOfPair : ByteArray := prog_3_method_9_code
def yX1_ruleOfPair : MethodName := ⟨RX1, "ruleOfPair", "(ICC)C"⟩
abbrev cX1_rewrite : ByteArray := prog_3_method_10_code
def yX1_rewrite : MethodName := ⟨RX1, "rewrite", "()Z"⟩
abbrev cX1_putRewritten : ByteArray := prog_3_method_11_code
def yX1_putRewritten : MethodName := ⟨RX1, "putRewritten", "(I)V"⟩
abbrev cX1_putComplements : ByteArray := prog_3_method_12_code
def yX1_putComplements : MethodName := ⟨RX1, "putComplements", "(CII)V"⟩
abbrev cX1_putDifferences : ByteArray := prog_3_method_13_code
def yX1_putDifferences : MethodName := ⟨RX1, "putDifferences", "(III)V"⟩
abbrev cX1_putOtherSide : ByteArray := prog_3_method_14_code
def yX1_putOtherSide : MethodName := ⟨RX1, "putOtherSide", "(CIII)V"⟩
abbrev cX1_constantOf : ByteArray := prog_3_method_15_code
def yX1_constantOf : MethodName := ⟨RX1, "constantOf", "(CC)C"⟩
def RX2 : String := "Gimlet$Search"
def TX2 : u_T := fun k => match k with
  | 0 => ("Gimlet$Search", "meets", "[I", true)
  | 1 => ("Gimlet$Search", "fewest", "[I", true)
  | _ => ("Gimlet$Search", "wanted", "I", false)
def tyX2 : Nat → FieldType := fun k => match k with
  | 0 => .array .int
  | 1 => .array .int
  | _ => .int
abbrev wsX20 : List Cond := u_ws RX2 TX2 3
theorem nmX2 : ∀ a, a < 3 → ∀ b, b < 3 → a ≠ b → (TX2 a).2.1 ≠ (TX2 b).2.1 := by decide +kernel
theorem tyX2_ok : ∀ k, k < 3 → parseFieldDescriptor (TX2 k).2.2.1 = some (tyX2 k) := by decide +kernel
abbrev cX2_init : ByteArray := prog_4_method_1_code
def yX2_init : MethodName := ⟨RX2, "<init>", "()V"⟩
abbrev cX2_prepare : ByteArray := prog_4_method_2_code
def yX2_prepare : MethodName := ⟨RX2, "prepare", "(LGimlet$Statements;)V"⟩
abbrev cX2_want : ByteArray := prog_4_method_3_code
def yX2_want : MethodName := ⟨RX2, "want", "(II)V"⟩
abbrev cX2_fewestBySets : ByteArray := prog_4_method_4_code
def yX2_fewestBySets : MethodName := ⟨RX2, "fewestBySets", "()I"⟩
abbrev cX2_fewestFrom : ByteArray := prog_4_method_5_code
def yX2_fewestFrom : MethodName := ⟨RX2, "fewestFrom", "(II)I"⟩
abbrev cX2_regionOf : ByteArray := prog_4_method_6_code
def yX2_regionOf : MethodName := ⟨RX2, "regionOf", "(I)I"⟩
abbrev cX2_fewestByTrying : ByteArray := prog_4_method_7_code
def yX2_fewestByTrying : MethodName := ⟨RX2, "fewestByTrying", "()I"⟩
abbrev cX2_canMeet : ByteArray := prog_4_method_8_code
def yX2_canMeet : MethodName := ⟨RX2, "canMeet", "(II)Z"⟩
def RX3 : String := "Gimlet$Statements"
def TX3 : u_T := fun k => match k with
  | 0 => ("Gimlet$Statements", "demanding", "[Z", true)
  | 1 => ("Gimlet$Statements", "places", "[I", true)
  | 2 => ("Gimlet$Statements", "count", "I", false)
  | 3 => ("Gimlet$Statements", "goalSet", "Z", false)
  | 4 => ("Gimlet$Statements", "goalDemanding", "Z", false)
  | _ => ("Gimlet$Statements", "goalPlaces", "I", false)
def tyX3 : Nat → FieldType := fun k => match k with
  | 0 => .array .boolean
  | 1 => .array .int
  | 2 => .int
  | 3 => .boolean
  | 4 => .boolean
  | _ => .int
abbrev wsX30 : List Cond := u_ws RX3 TX3 6
theorem nmX3 : ∀ a, a < 6 → ∀ b, b < 6 → a ≠ b → (TX3 a).2.1 ≠ (TX3 b).2.1 := by decide +kernel
theorem tyX3_ok : ∀ k, k < 6 → parseFieldDescriptor (TX3 k).2.2.1 = some (tyX3 k) := by decide +kernel
abbrev cX3_init : ByteArray := prog_5_method_1_code
def yX3_init : MethodName := ⟨RX3, "<init>", "()V"⟩
abbrev cX3_howMany : ByteArray := prog_5_method_2_code
def yX3_howMany : MethodName := ⟨RX3, "howMany", "()I"⟩
abbrev cX3_add : ByteArray := prog_5_method_3_code
def yX3_add : MethodName := ⟨RX3, "add", "(ZI)V"⟩
abbrev cX3_removeLast : ByteArray := prog_5_method_4_code
def yX3_removeLast : MethodName := ⟨RX3, "removeLast", "()V"⟩
abbrev cX3_demandsElement : ByteArray := prog_5_method_5_code
def yX3_demandsElement : MethodName := ⟨RX3, "demandsElement", "(I)Z"⟩
abbrev cX3_placesAt : ByteArray := prog_5_method_6_code
def yX3_placesAt : MethodName := ⟨RX3, "placesAt", "(I)I"⟩
abbrev cX3_hasGoal : ByteArray := prog_5_method_7_code
def yX3_hasGoal : MethodName := ⟨RX3, "hasGoal", "()Z"⟩
abbrev cX3_goalDemands : ByteArray := prog_5_method_8_code
def yX3_goalDemands : MethodName := ⟨RX3, "goalDemands", "()Z"⟩
abbrev cX3_goalRegions : ByteArray := prog_5_method_9_code
def yX3_goalRegions : MethodName := ⟨RX3, "goalRegions", "()I"⟩
abbrev cX3_aimAt : ByteArray := prog_5_method_10_code
def yX3_aimAt : MethodName := ⟨RX3, "aimAt", "(ZI)V"⟩
abbrev cX3_allowed : ByteArray := prog_5_method_11_code
def yX3_allowed : MethodName := ⟨RX3, "allowed", "()I"⟩
abbrev cX3_firstDenial : ByteArray := prog_5_method_12_code
def yX3_firstDenial : MethodName := ⟨RX3, "firstDenial", "(I)I"⟩
abbrev cX3_firstUnmet : ByteArray := prog_5_method_13_code
def yX3_firstUnmet : MethodName := ⟨RX3, "firstUnmet", "(I)I"⟩
abbrev cX3_haveModel : ByteArray := prog_5_method_14_code
def yX3_haveModel : MethodName := ⟨RX3, "haveModel", "()Z"⟩
abbrev cX3_firstWitness : ByteArray := prog_5_method_15_code
def yX3_firstWitness : MethodName := ⟨RX3, "firstWitness", "()I"⟩
abbrev cX3_proveGoal : ByteArray := prog_5_method_16_code
def yX3_proveGoal : MethodName := ⟨RX3, "proveGoal", "()Z"⟩
abbrev cX3_allHold : ByteArray := prog_5_method_17_code
def yX3_allHold : MethodName := ⟨RX3, "allHold", "(I)Z"⟩
abbrev cX3_countModels : ByteArray := prog_5_method_18_code
def yX3_countModels : MethodName := ⟨RX3, "countModels", "(I)J"⟩
abbrev cX3_isSetOfDemands : ByteArray := prog_5_method_19_code
def yX3_isSetOfDemands : MethodName := ⟨RX3, "isSetOfDemands", "(I)Z"⟩
abbrev cX3_placesOfSet : ByteArray := prog_5_method_20_code
def yX3_placesOfSet : MethodName := ⟨RX3, "placesOfSet", "(I)I"⟩
abbrev cX3_power : ByteArray := prog_5_method_21_code
def yX3_power : MethodName := ⟨RX3, "power", "(II)J"⟩
abbrev cX3_countModelsByTrying : ByteArray := prog_5_method_22_code
def yX3_countModelsByTrying : MethodName := ⟨RX3, "countModelsByTrying", "(I)J"⟩
abbrev cX3_occupiedBy : ByteArray := prog_5_method_23_code
def yX3_occupiedBy : MethodName := ⟨RX3, "occupiedBy", "(II)I"⟩
def RX4 : String := "Gimlet$Terms"
def TX4 : u_T := fun k => match k with
  | 0 => ("Gimlet$Terms", "heads", "[C", true)
  | 1 => ("Gimlet$Terms", "lefts", "[I", true)
  | 2 => ("Gimlet$Terms", "rights", "[I", true)
  | 3 => ("Gimlet$Terms", "sizes", "[I", true)
  | 4 => ("Gimlet$Terms", "covered", "[I", true)
  | _ => ("Gimlet$Terms", "count", "I", false)
def tyX4 : Nat → FieldType := fun k => match k with
  | 0 => .array .char
  | 1 => .array .int
  | 2 => .array .int
  | 3 => .array .int
  | 4 => .array .int
  | _ => .int
abbrev wsX40 : List Cond := u_ws RX4 TX4 6
theorem nmX4 : ∀ a, a < 6 → ∀ b, b < 6 → a ≠ b → (TX4 a).2.1 ≠ (TX4 b).2.1 := by decide +kernel
theorem tyX4_ok : ∀ k, k < 6 → parseFieldDescriptor (TX4 k).2.2.1 = some (tyX4 k) := by decide +kernel
abbrev cX4_init : ByteArray := prog_6_method_1_code
def yX4_init : MethodName := ⟨RX4, "<init>", "()V"⟩
abbrev cX4_howMany : ByteArray := prog_6_method_2_code
def yX4_howMany : MethodName := ⟨RX4, "howMany", "()I"⟩
abbrev cX4_isKnown : ByteArray := prog_6_method_3_code
def yX4_isKnown : MethodName := ⟨RX4, "isKnown", "(I)Z"⟩
abbrev cX4_sizeOf : ByteArray := prog_6_method_4_code
def yX4_sizeOf : MethodName := ⟨RX4, "sizeOf", "(I)I"⟩
abbrev cX4_coverOf : ByteArray := prog_6_method_5_code
def yX4_coverOf : MethodName := ⟨RX4, "coverOf", "(I)I"⟩
abbrev cX4_headOf : ByteArray := prog_6_method_6_code
def yX4_headOf : MethodName := ⟨RX4, "headOf", "(I)C"⟩
abbrev cX4_leftOf : ByteArray := prog_6_method_7_code
def yX4_leftOf : MethodName := ⟨RX4, "leftOf", "(I)I"⟩
abbrev cX4_rightOf : ByteArray := prog_6_method_8_code
def yX4_rightOf : MethodName := ⟨RX4, "rightOf", "(I)I"⟩
abbrev cX4_symbolOf : ByteArray := prog_6_method_9_code
def yX4_symbolOf : MethodName := ⟨RX4, "symbolOf", "(II)C"⟩
abbrev cX4_make : ByteArray := prog_6_method_10_code
def yX4_make : MethodName := ⟨RX4, "make", "(CII)I"⟩
abbrev cX4_find : ByteArray := prog_6_method_11_code
def yX4_find : MethodName := ⟨RX4, "find", "(CII)I"⟩
abbrev cX4_coverFrom : ByteArray := prog_6_method_12_code
def yX4_coverFrom : MethodName := ⟨RX4, "coverFrom", "(CII)I"⟩
abbrev cX4_makeAll : ByteArray := prog_6_method_13_code
def yX4_makeAll : MethodName := ⟨RX4, "makeAll", "(LGimlet$Text;)I"⟩
abbrev cX4_makeNext : ByteArray := prog_6_method_14_code
def yX4_makeNext : MethodName := ⟨RX4, "makeNext", "(LGimlet$Text;I)I"⟩
abbrev cX4_reaches : ByteArray := prog_6_method_15_code
def yX4_reaches : MethodName := ⟨RX4, "reaches", "(II)Z"⟩
abbrev cX4_reachesBelow : ByteArray := prog_6_method_16_code
def yX4_reachesBelow : MethodName := ⟨RX4, "reachesBelow", "(III)Z"⟩
def RX5 : String := "Gimlet$Text"
def TX5 : u_T := fun k => match k with
  | 0 => ("Gimlet$Text", "row", "[C", true)
  | 1 => ("Gimlet$Text", "ends", "[I", true)
  | 2 => ("Gimlet$Text", "length", "I", false)
  | _ => ("Gimlet$Text", "cursor", "I", false)
def tyX5 : Nat → FieldType := fun k => match k with
  | 0 => .array .char
  | 1 => .array .int
  | 2 => .int
  | _ => .int
abbrev wsX50 : List Cond := u_ws RX5 TX5 4
theorem nmX5 : ∀ a, a < 4 → ∀ b, b < 4 → a ≠ b → (TX5 a).2.1 ≠ (TX5 b).2.1 := by decide +kernel
theorem tyX5_ok : ∀ k, k < 4 → parseFieldDescriptor (TX5 k).2.2.1 = some (tyX5 k) := by decide +kernel
abbrev cX5_init : ByteArray := prog_7_method_1_code
def yX5_init : MethodName := ⟨RX5, "<init>", "()V"⟩
abbrev cX5_partsOf : ByteArray := prog_7_method_2_code
def yX5_partsOf : MethodName := ⟨RX5, "partsOf", "(C)I"⟩
abbrev cX5_length : ByteArray := prog_7_method_3_code
def yX5_length : MethodName := ⟨RX5, "length", "()I"⟩
abbrev cX5_clear : ByteArray := prog_7_method_4_code
def yX5_clear : MethodName := ⟨RX5, "clear", "()V"⟩
abbrev cX5_rewind : ByteArray := prog_7_method_5_code
def yX5_rewind : MethodName := ⟨RX5, "rewind", "()V"⟩
abbrev cX5_read : ByteArray := prog_7_method_6_code
def yX5_read : MethodName := ⟨RX5, "read", "()C"⟩
abbrev cX5_at : ByteArray := prog_7_method_7_code
def yX5_at : MethodName := ⟨RX5, "at", "(I)C"⟩
abbrev cX5_put : ByteArray := prog_7_method_8_code
def yX5_put : MethodName := ⟨RX5, "put", "(C)V"⟩
abbrev cX5_putPart : ByteArray := prog_7_method_9_code
def yX5_putPart : MethodName := ⟨RX5, "putPart", "(LGimlet$Text;II)V"⟩
abbrev cX5_measure : ByteArray := prog_7_method_10_code
def yX5_measure : MethodName := ⟨RX5, "measure", "()V"⟩
abbrev cX5_endOf : ByteArray := prog_7_method_11_code
def yX5_endOf : MethodName := ⟨RX5, "endOf", "(I)I"⟩
abbrev cX5_isSame : ByteArray := prog_7_method_12_code
def yX5_isSame : MethodName := ⟨RX5, "isSame", "(II)Z"⟩
abbrev cX5_isComplement : ByteArray := prog_7_method_13_code
def yX5_isComplement : MethodName := ⟨RX5, "isComplement", "(II)Z"⟩
def RX6 : String := "Gimlet"
def TX6 : u_T := fun k => match k with
  | 0 => ("Gimlet", "known", "LGimlet$Terms;", true)
  | 1 => ("Gimlet", "rewriter", "LGimlet$Rewriter;", true)
  | 2 => ("Gimlet", "cubes", "LGimlet$Cubes;", true)
  | 3 => ("Gimlet", "stated", "LGimlet$Statements;", true)
  | _ => ("Gimlet", "search", "LGimlet$Search;", true)
def tyX6 : Nat → FieldType := fun k => match k with
  | 0 => .object "Gimlet$Terms"
  | 1 => .object "Gimlet$Rewriter"
  | 2 => .object "Gimlet$Cubes"
  | 3 => .object "Gimlet$Statements"
  | _ => .object "Gimlet$Search"
abbrev wsX60 : List Cond := u_ws RX6 TX6 5
theorem nmX6 : ∀ a, a < 5 → ∀ b, b < 5 → a ≠ b → (TX6 a).2.1 ≠ (TX6 b).2.1 := by decide +kernel
theorem tyX6_ok : ∀ k, k < 5 → parseFieldDescriptor (TX6 k).2.2.1 = some (tyX6 k) := by decide +kernel
abbrev cX6_init : ByteArray := prog_1_method_1_code
def yX6_init : MethodName := ⟨RX6, "<init>", "()V"⟩
abbrev cX6_letter : ByteArray := prog_1_method_2_code
def yX6_letter : MethodName := ⟨RX6, "letter", "(I)I"⟩
abbrev cX6_empty : ByteArray := prog_1_method_3_code
def yX6_empty : MethodName := ⟨RX6, "empty", "()I"⟩
abbrev cX6_universe : ByteArray := prog_1_method_4_code
def yX6_universe : MethodName := ⟨RX6, "universe", "()I"⟩
abbrev cX6_complement : ByteArray := prog_1_method_5_code
def yX6_complement : MethodName := ⟨RX6, "complement", "(I)I"⟩
abbrev cX6_union : ByteArray := prog_1_method_6_code
def yX6_union : MethodName := ⟨RX6, "union", "(II)I"⟩
abbrev cX6_intersection : ByteArray := prog_1_method_7_code
def yX6_intersection : MethodName := ⟨RX6, "intersection", "(II)I"⟩
abbrev cX6_difference : ByteArray := prog_1_method_8_code
def yX6_difference : MethodName := ⟨RX6, "difference", "(II)I"⟩
abbrev cX6_symmetric : ByteArray := prog_1_method_9_code
def yX6_symmetric : MethodName := ⟨RX6, "symmetric", "(II)I"⟩
abbrev cX6_terms : ByteArray := prog_1_method_10_code
def yX6_terms : MethodName := ⟨RX6, "terms", "()I"⟩
abbrev cX6_size : ByteArray := prog_1_method_11_code
def yX6_size : MethodName := ⟨RX6, "size", "(I)I"⟩
abbrev cX6_symbol : ByteArray := prog_1_method_12_code
def yX6_symbol : MethodName := ⟨RX6, "symbol", "(II)C"⟩
abbrev cX6_makePair : ByteArray := prog_1_method_13_code
def yX6_makePair : MethodName := ⟨RX6, "makePair", "(CII)I"⟩
abbrev cX6_madeOrThrow : ByteArray := prog_1_method_14_code
def yX6_madeOrThrow : MethodName := ⟨RX6, "madeOrThrow", "(I)I"⟩
abbrev cX6_checkTerm : ByteArray := prog_1_method_15_code
def yX6_checkTerm : MethodName := ⟨RX6, "checkTerm", "(I)V"⟩
abbrev cX6_checkLetter : ByteArray := prog_1_method_16_code
def yX6_checkLetter : MethodName := ⟨RX6, "checkLetter", "(I)V"⟩
abbrev cX6_checkRegion : ByteArray := prog_1_method_17_code
def yX6_checkRegion : MethodName := ⟨RX6, "checkRegion", "(I)V"⟩
abbrev cX6_regions : ByteArray := prog_1_method_18_code
def yX6_regions : MethodName := ⟨RX6, "regions", "(I)I"⟩
abbrev cX6_covers : ByteArray := prog_1_method_19_code
def yX6_covers : MethodName := ⟨RX6, "covers", "(II)Z"⟩
abbrev cX6_coversByTerm : ByteArray := prog_1_method_20_code
def yX6_coversByTerm : MethodName := ⟨RX6, "coversByTerm", "(II)Z"⟩
abbrev cX6_isEqual : ByteArray := prog_1_method_21_code
def yX6_isEqual : MethodName := ⟨RX6, "isEqual", "(II)Z"⟩
abbrev cX6_isIn : ByteArray := prog_1_method_22_code
def yX6_isIn : MethodName := ⟨RX6, "isIn", "(II)Z"⟩
abbrev cX6_rule : ByteArray := prog_1_method_23_code
def yX6_rule : MethodName := ⟨RX6, "rule", "(I)C"⟩
abbrev cX6_step : ByteArray := prog_1_method_24_code
def yX6_step : MethodName := ⟨RX6, "step", "(I)I"⟩
abbrev cX6_steps : ByteArray := prog_1_method_25_code
def yX6_steps : MethodName := ⟨RX6, "steps", "(I)I"⟩
abbrev cX6_normalForm : ByteArray := prog_1_method_26_code
def yX6_normalForm : MethodName := ⟨RX6, "normalForm", "(I)I"⟩
abbrev cX6_primes : ByteArray := prog_1_method_27_code
def yX6_primes : MethodName := ⟨RX6, "primes", "(I)I"⟩
abbrev cX6_primesByTrying : ByteArray := prog_1_method_28_code
def yX6_primesByTrying : MethodName := ⟨RX6, "primesByTrying", "(I)I"⟩
abbrev cX6_prime : ByteArray := prog_1_method_29_code
def yX6_prime : MethodName := ⟨RX6, "prime", "(III)C"⟩
abbrev cX6_ruleOrThrow : ByteArray := prog_1_method_30_code
def yX6_ruleOrThrow : MethodName := ⟨RX6, "ruleOrThrow", "()C"⟩
abbrev cX6_rewriteOrThrow : ByteArray := prog_1_method_31_code
def yX6_rewriteOrThrow : MethodName := ⟨RX6, "rewriteOrThrow", "()V"⟩
abbrev cX6_assume : ByteArray := prog_1_method_32_code
def yX6_assume : MethodName := ⟨RX6, "assume", "(CII)I"⟩
abbrev cX6_drop : ByteArray := prog_1_method_33_code
def yX6_drop : MethodName := ⟨RX6, "drop", "()I"⟩
abbrev cX6_assumptions : ByteArray := prog_1_method_34_code
def yX6_assumptions : MethodName := ⟨RX6, "assumptions", "()I"⟩
abbrev cX6_setGoal : ByteArray := prog_1_method_35_code
def yX6_setGoal : MethodName := ⟨RX6, "setGoal", "(CII)Z"⟩
abbrev cX6_isConsistent : ByteArray := prog_1_method_36_code
def yX6_isConsistent : MethodName := ⟨RX6, "isConsistent", "()Z"⟩
abbrev cX6_deniedBy : ByteArray := prog_1_method_37_code
def yX6_deniedBy : MethodName := ⟨RX6, "deniedBy", "(I)I"⟩
abbrev cX6_follows : ByteArray := prog_1_method_38_code
def yX6_follows : MethodName := ⟨RX6, "follows", "()Z"⟩
abbrev cX6_why : ByteArray := prog_1_method_39_code
def yX6_why : MethodName := ⟨RX6, "why", "()C"⟩
abbrev cX6_witness : ByteArray := prog_1_method_40_code
def yX6_witness : MethodName := ⟨RX6, "witness", "()I"⟩
abbrev cX6_checkStatement : ByteArray := prog_1_method_41_code
def yX6_checkStatement : MethodName := ⟨RX6, "checkStatement", "(CII)V"⟩
abbrev cX6_checkGoal : ByteArray := prog_1_method_42_code
def yX6_checkGoal : MethodName := ⟨RX6, "checkGoal", "()V"⟩
abbrev cX6_isDenial : ByteArray := prog_1_method_43_code
def yX6_isDenial : MethodName := ⟨RX6, "isDenial", "(C)Z"⟩
abbrev cX6_isDemand : ByteArray := prog_1_method_44_code
def yX6_isDemand : MethodName := ⟨RX6, "isDemand", "(C)Z"⟩
abbrev cX6_placesOf : ByteArray := prog_1_method_45_code
def yX6_placesOf : MethodName := ⟨RX6, "placesOf", "(CII)I"⟩
abbrev cX6_elements : ByteArray := prog_1_method_46_code
def yX6_elements : MethodName := ⟨RX6, "elements", "()I"⟩
abbrev cX6_elementsByTrying : ByteArray := prog_1_method_47_code
def yX6_elementsByTrying : MethodName := ⟨RX6, "elementsByTrying", "()I"⟩
abbrev cX6_region : ByteArray := prog_1_method_48_code
def yX6_region : MethodName := ⟨RX6, "region", "(I)I"⟩
abbrev cX6_models : ByteArray := prog_1_method_49_code
def yX6_models : MethodName := ⟨RX6, "models", "(I)J"⟩
abbrev cX6_modelsByTrying : ByteArray := prog_1_method_50_code
def yX6_modelsByTrying : MethodName := ⟨RX6, "modelsByTrying", "(I)J"⟩
abbrev cX6_density : ByteArray := prog_1_method_51_code
def yX6_density : MethodName := ⟨RX6, "density", "(I)F"⟩
abbrev cX6_leastOrThrow : ByteArray := prog_1_method_52_code
def yX6_leastOrThrow : MethodName := ⟨RX6, "leastOrThrow", "(I)I"⟩
abbrev cX6_checkElements : ByteArray := prog_1_method_53_code
def yX6_checkElements : MethodName := ⟨RX6, "checkElements", "(II)V"⟩
def RX7 : String := "GimletModel"
def TX7 : u_T := fun k => match k with
  | 0 => ("GimletModel", "thrown", "I", false)
  | 1 => ("GimletModel", "terms", "I", false)
  | 2 => ("GimletModel", "many", "I", false)
  | 3 => ("GimletModel", "hasGoal", "I", false)
  | 4 => ("GimletModel", "length", "I", false)
  | 5 => ("GimletModel", "read", "I", false)
  | 6 => ("GimletModel", "bits", "I", false)
  | 7 => ("GimletModel", "kind", "[I", true)
  | 8 => ("GimletModel", "left", "[I", true)
  | 9 => ("GimletModel", "right", "[I", true)
  | 10 => ("GimletModel", "sizes", "[I", true)
  | 11 => ("GimletModel", "cover", "[I", true)
  | 12 => ("GimletModel", "assumedKind", "[I", true)
  | 13 => ("GimletModel", "assumedLeft", "[I", true)
  | 14 => ("GimletModel", "assumedRight", "[I", true)
  | 15 => ("GimletModel", "goalKind", "I", false)
  | 16 => ("GimletModel", "goalLeft", "I", false)
  | 17 => ("GimletModel", "goalRight", "I", false)
  | 18 => ("GimletModel", "text", "[I", true)
  | 19 => ("GimletModel", "next", "[I", true)
  | 20 => ("GimletModel", "chosen", "[I", true)
  | 21 => ("GimletModel", "demands", "[I", true)
  | _ => ("GimletModel", "put", "I", false)
def tyX7 : Nat → FieldType := fun k => match k with
  | 0 => .int
  | 1 => .int
  | 2 => .int
  | 3 => .int
  | 4 => .int
  | 5 => .int
  | 6 => .int
  | 7 => .array .int
  | 8 => .array .int
  | 9 => .array .int
  | 10 => .array .int
  | 11 => .array .int
  | 12 => .array .int
  | 13 => .array .int
  | 14 => .array .int
  | 15 => .int
  | 16 => .int
  | 17 => .int
  | 18 => .array .int
  | 19 => .array .int
  | 20 => .array .int
  | 21 => .array .int
  | _ => .int
abbrev wsX70 : List Cond := u_ws RX7 TX7 23
theorem nmX7 : ∀ a, a < 23 → ∀ b, b < 23 → a ≠ b → (TX7 a).2.1 ≠ (TX7 b).2.1 := by decide +kernel
theorem tyX7_ok : ∀ k, k < 23 → parseFieldDescriptor (TX7 k).2.2.1 = some (tyX7 k) := by decide +kernel
abbrev cX7_init : ByteArray := prog_9_method_1_code
def yX7_init : MethodName := ⟨RX7, "<init>", "()V"⟩
abbrev cX7_thrown : ByteArray := prog_9_method_2_code
def yX7_thrown : MethodName := ⟨RX7, "thrown", "()I"⟩
abbrev cX7_fail : ByteArray := prog_9_method_3_code
def yX7_fail : MethodName := ⟨RX7, "fail", "(I)I"⟩
abbrev cX7_isIn : ByteArray := prog_9_method_4_code
def yX7_isIn : MethodName := ⟨RX7, "isIn", "(III)Z"⟩
abbrev cX7_noTerm : ByteArray := prog_9_method_5_code
def yX7_noTerm : MethodName := ⟨RX7, "noTerm", "(I)Z"⟩
abbrev cX7_isPair : ByteArray := prog_9_method_6_code
def yX7_isPair : MethodName := ⟨RX7, "isPair", "(I)Z"⟩
abbrev cX7_letterCover : ByteArray := prog_9_method_7_code
def yX7_letterCover : MethodName := ⟨RX7, "letterCover", "(I)I"⟩
abbrev cX7_covered : ByteArray := prog_9_method_8_code
def yX7_covered : MethodName := ⟨RX7, "covered", "(III)I"⟩
abbrev cX7_know : ByteArray := prog_9_method_9_code
def yX7_know : MethodName := ⟨RX7, "know", "(III)I"⟩
abbrev cX7_makes : ByteArray := prog_9_method_10_code
def yX7_makes : MethodName := ⟨RX7, "makes", "(IIII)I"⟩
abbrev cX7_letter : ByteArray := prog_9_method_11_code
def yX7_letter : MethodName := ⟨RX7, "letter", "(I)I"⟩
abbrev cX7_empty : ByteArray := prog_9_method_12_code
def yX7_empty : MethodName := ⟨RX7, "empty", "()I"⟩
abbrev cX7_universe : ByteArray := prog_9_method_13_code
def yX7_universe : MethodName := ⟨RX7, "universe", "()I"⟩
abbrev cX7_complement : ByteArray := prog_9_method_14_code
def yX7_complement : MethodName := ⟨RX7, "complement", "(I)I"⟩
abbrev cX7_pair : ByteArray := prog_9_method_15_code
def yX7_pair : MethodName := ⟨RX7, "pair", "(III)I"⟩
abbrev cX7_union : ByteArray := prog_9_method_16_code
def yX7_union : MethodName := ⟨RX7, "union", "(II)I"⟩
abbrev cX7_intersection : ByteArray := prog_9_method_17_code
def yX7_intersection : MethodName := ⟨RX7, "intersection", "(II)I"⟩
abbrev cX7_difference : ByteArray := prog_9_method_18_code
def yX7_difference : MethodName := ⟨RX7, "difference", "(II)I"⟩
abbrev cX7_symmetric : ByteArray := prog_9_method_19_code
def yX7_symmetric : MethodName := ⟨RX7, "symmetric", "(II)I"⟩
abbrev cX7_terms : ByteArray := prog_9_method_20_code
def yX7_terms : MethodName := ⟨RX7, "terms", "()I"⟩
abbrev cX7_size : ByteArray := prog_9_method_21_code
def yX7_size : MethodName := ⟨RX7, "size", "(I)I"⟩
abbrev cX7_write : ByteArray := prog_9_method_22_code
def yX7_write : MethodName := ⟨RX7, "write", "(I)V"⟩
abbrev cX7_spell : ByteArray := prog_9_method_23_code
def yX7_spell : MethodName := ⟨RX7, "spell", "(I)V"⟩
abbrev cX7_symbol : ByteArray := prog_9_method_24_code
def yX7_symbol : MethodName := ⟨RX7, "symbol", "(II)C"⟩
abbrev cX7_regions : ByteArray := prog_9_method_25_code
def yX7_regions : MethodName := ⟨RX7, "regions", "(I)I"⟩
abbrev cX7_covers : ByteArray := prog_9_method_26_code
def yX7_covers : MethodName := ⟨RX7, "covers", "(II)Z"⟩
abbrev cX7_coversByTerm : ByteArray := prog_9_method_27_code
def yX7_coversByTerm : MethodName := ⟨RX7, "coversByTerm", "(II)Z"⟩
abbrev cX7_isEqual : ByteArray := prog_9_method_28_code
def yX7_isEqual : MethodName := ⟨RX7, "isEqual", "(II)Z"⟩
abbrev cX7_behind : ByteArray := prog_9_method_29_code
def yX7_behind : MethodName := ⟨RX7, "behind", "(I)I"⟩
abbrev cX7_isSame : ByteArray := prog_9_method_30_code
def yX7_isSame : MethodName := ⟨RX7, "isSame", "(II)Z"⟩
abbrev cX7_ruleAt : ByteArray := prog_9_method_31_code
def yX7_ruleAt : MethodName := ⟨RX7, "ruleAt", "(I)I"⟩
abbrev cX7_place : ByteArray := prog_9_method_32_code
def yX7_place : MethodName := ⟨RX7, "place", "()I"⟩
abbrev cX7_puts : ByteArray := prog_9_method_33_code
def yX7_puts : MethodName := ⟨RX7, "puts", "(I)V"⟩
abbrev cX7_copies : ByteArray := prog_9_method_34_code
def yX7_copies : MethodName := ⟨RX7, "copies", "(II)V"⟩
abbrev cX7_rewrite : ByteArray := prog_9_method_35_code
def yX7_rewrite : MethodName := ⟨RX7, "rewrite", "(I)Z"⟩
abbrev cX7_parse : ByteArray := prog_9_method_36_code
def yX7_parse : MethodName := ⟨RX7, "parse", "()I"⟩
abbrev cX7_learns : ByteArray := prog_9_method_37_code
def yX7_learns : MethodName := ⟨RX7, "learns", "(I)I"⟩
abbrev cX7_rule : ByteArray := prog_9_method_38_code
def yX7_rule : MethodName := ⟨RX7, "rule", "(I)C"⟩
abbrev cX7_step : ByteArray := prog_9_method_39_code
def yX7_step : MethodName := ⟨RX7, "step", "(I)I"⟩
abbrev cX7_steps : ByteArray := prog_9_method_40_code
def yX7_steps : MethodName := ⟨RX7, "steps", "(I)I"⟩
abbrev cX7_normalForm : ByteArray := prog_9_method_41_code
def yX7_normalForm : MethodName := ⟨RX7, "normalForm", "(I)I"⟩
abbrev cX7_cube : ByteArray := prog_9_method_42_code
def yX7_cube : MethodName := ⟨RX7, "cube", "(I)I"⟩
abbrev cX7_isImplicant : ByteArray := prog_9_method_43_code
def yX7_isImplicant : MethodName := ⟨RX7, "isImplicant", "(II)Z"⟩
abbrev cX7_isPrime : ByteArray := prog_9_method_44_code
def yX7_isPrime : MethodName := ⟨RX7, "isPrime", "(II)Z"⟩
abbrev cX7_primes : ByteArray := prog_9_method_45_code
def yX7_primes : MethodName := ⟨RX7, "primes", "(I)I"⟩
abbrev cX7_primesByTrying : ByteArray := prog_9_method_46_code
def yX7_primesByTrying : MethodName := ⟨RX7, "primesByTrying", "(I)I"⟩
abbrev cX7_prime : ByteArray := prog_9_method_47_code
def yX7_prime : MethodName := ⟨RX7, "prime", "(III)C"⟩
abbrev cX7_isKind : ByteArray := prog_9_method_48_code
def yX7_isKind : MethodName := ⟨RX7, "isKind", "(I)Z"⟩
abbrev cX7_isDemand : ByteArray := prog_9_method_49_code
def yX7_isDemand : MethodName := ⟨RX7, "isDemand", "(I)Z"⟩
abbrev cX7_regionsOf : ByteArray := prog_9_method_50_code
def yX7_regionsOf : MethodName := ⟨RX7, "regionsOf", "(III)I"⟩
abbrev cX7_assumed : ByteArray := prog_9_method_51_code
def yX7_assumed : MethodName := ⟨RX7, "assumed", "(I)I"⟩
abbrev cX7_goal : ByteArray := prog_9_method_52_code
def yX7_goal : MethodName := ⟨RX7, "goal", "()I"⟩
abbrev cX7_areTerms : ByteArray := prog_9_method_53_code
def yX7_areTerms : MethodName := ⟨RX7, "areTerms", "(II)Z"⟩
abbrev cX7_assume : ByteArray := prog_9_method_54_code
def yX7_assume : MethodName := ⟨RX7, "assume", "(CII)I"⟩
abbrev cX7_drop : ByteArray := prog_9_method_55_code
def yX7_drop : MethodName := ⟨RX7, "drop", "()I"⟩
abbrev cX7_assumptions : ByteArray := prog_9_method_56_code
def yX7_assumptions : MethodName := ⟨RX7, "assumptions", "()I"⟩
abbrev cX7_setGoal : ByteArray := prog_9_method_57_code
def yX7_setGoal : MethodName := ⟨RX7, "setGoal", "(CII)Z"⟩
abbrev cX7_allowed : ByteArray := prog_9_method_58_code
def yX7_allowed : MethodName := ⟨RX7, "allowed", "()I"⟩
abbrev cX7_hasModel : ByteArray := prog_9_method_59_code
def yX7_hasModel : MethodName := ⟨RX7, "hasModel", "(I)Z"⟩
abbrev cX7_isConsistent : ByteArray := prog_9_method_60_code
def yX7_isConsistent : MethodName := ⟨RX7, "isConsistent", "()Z"⟩
abbrev cX7_deniedBy : ByteArray := prog_9_method_61_code
def yX7_deniedBy : MethodName := ⟨RX7, "deniedBy", "(I)I"⟩
abbrev cX7_counter : ByteArray := prog_9_method_62_code
def yX7_counter : MethodName := ⟨RX7, "counter", "()I"⟩
abbrev cX7_isFollowing : ByteArray := prog_9_method_63_code
def yX7_isFollowing : MethodName := ⟨RX7, "isFollowing", "()Z"⟩
abbrev cX7_noGoal : ByteArray := prog_9_method_64_code
def yX7_noGoal : MethodName := ⟨RX7, "noGoal", "()Z"⟩
abbrev cX7_follows : ByteArray := prog_9_method_65_code
def yX7_follows : MethodName := ⟨RX7, "follows", "()Z"⟩
abbrev cX7_why : ByteArray := prog_9_method_66_code
def yX7_why : MethodName := ⟨RX7, "why", "()C"⟩
abbrev cX7_witness : ByteArray := prog_9_method_67_code
def yX7_witness : MethodName := ⟨RX7, "witness", "()I"⟩
abbrev cX7_choose : ByteArray := prog_9_method_68_code
def yX7_choose : MethodName := ⟨RX7, "choose", "(IIIII)Z"⟩
abbrev cX7_least : ByteArray := prog_9_method_69_code
def yX7_least : MethodName := ⟨RX7, "least", "()I"⟩
abbrev cX7_noCounterexample : ByteArray := prog_9_method_70_code
def yX7_noCounterexample : MethodName := ⟨RX7, "noCounterexample", "()Z"⟩
abbrev cX7_elements : ByteArray := prog_9_method_71_code
def yX7_elements : MethodName := ⟨RX7, "elements", "()I"⟩
abbrev cX7_elementsByTrying : ByteArray := prog_9_method_72_code
def yX7_elementsByTrying : MethodName := ⟨RX7, "elementsByTrying", "()I"⟩
abbrev cX7_region : ByteArray := prog_9_method_73_code
def yX7_region : MethodName := ⟨RX7, "region", "(I)I"⟩
abbrev cX7_power : ByteArray := prog_9_method_74_code
def yX7_power : MethodName := ⟨RX7, "power", "(II)J"⟩
abbrev cX7_ways : ByteArray := prog_9_method_75_code
def yX7_ways : MethodName := ⟨RX7, "ways", "(I)J"⟩
abbrev cX7_models : ByteArray := prog_9_method_76_code
def yX7_models : MethodName := ⟨RX7, "models", "(I)J"⟩
abbrev cX7_modelsByTrying : ByteArray := prog_9_method_77_code
def yX7_modelsByTrying : MethodName := ⟨RX7, "modelsByTrying", "(I)J"⟩
abbrev cX7_density : ByteArray := prog_9_method_78_code
def yX7_density : MethodName := ⟨RX7, "density", "(I)F"⟩
def RJx145de : String := "java/io/Serializable"
def TJx145de : u_T := fun k => match k with
  | _ => ("", "", "", false)
def tyJx145de : Nat → FieldType := fun k => match k with
  | _ => .int
abbrev wsJx145de0 : List Cond := u_ws RJx145de TJx145de 0
theorem nmJx145de : ∀ a, a < 0 → ∀ b, b < 0 → a ≠ b → (TJx145de a).2.1 ≠ (TJx145de b).2.1 := by decide +kernel
theorem tyJx145de_ok : ∀ k, k < 0 → parseFieldDescriptor (TJx145de k).2.2.1 = some (tyJx145de k) := by decide +kernel
def RJ6 : String := "java/lang/Integer"
def TJ6 : u_T := fun k => match k with
  | _ => ("", "", "", false)
def tyJ6 : Nat → FieldType := fun k => match k with
  | _ => .int
abbrev wsJ60 : List Cond := u_ws RJ6 TJ6 0
theorem nmJ6 : ∀ a, a < 0 → ∀ b, b < 0 → a ≠ b → (TJ6 a).2.1 ≠ (TJ6 b).2.1 := by decide +kernel
theorem tyJ6_ok : ∀ k, k < 0 → parseFieldDescriptor (TJ6 k).2.2.1 = some (tyJ6 k) := by decide +kernel
abbrev cJ6_bitCount_0f7a4 : ByteArray := prog_15_method_49_code
def yJ6_bitCount_0f7a4 : MethodName := ⟨RJ6, "bitCount", "(I)I"⟩
def RJ9 : String := "java/lang/Math"
def TJ9 : u_T := fun k => match k with
  | _ => ("", "", "", false)
def tyJ9 : Nat → FieldType := fun k => match k with
  | _ => .int
abbrev wsJ90 : List Cond := u_ws RJ9 TJ9 0
theorem nmJ9 : ∀ a, a < 0 → ∀ b, b < 0 → a ≠ b → (TJ9 a).2.1 ≠ (TJ9 b).2.1 := by decide +kernel
theorem tyJ9_ok : ∀ k, k < 0 → parseFieldDescriptor (TJ9 k).2.2.1 = some (tyJ9 k) := by decide +kernel
abbrev cJ9_min_7cf53 : ByteArray := prog_16_method_69_code
def yJ9_min_7cf53 : MethodName := ⟨RJ9, "min", "(II)I"⟩
def RJ0 : String := "java/lang/String"
def TJ0 : u_T := fun k => match k with
  | _ => ("", "", "", false)
def tyJ0 : Nat → FieldType := fun k => match k with
  | _ => .int
abbrev wsJ00 : List Cond := u_ws RJ0 TJ0 0
theorem nmJ0 : ∀ a, a < 0 → ∀ b, b < 0 → a ≠ b → (TJ0 a).2.1 ≠ (TJ0 b).2.1 := by decide +kernel
theorem tyJ0_ok : ∀ k, k < 0 → parseFieldDescriptor (TJ0 k).2.2.1 = some (tyJ0 k) := by decide +kernel
def RL : String := "GimletLaw"
abbrev cL_letter : ByteArray := method_3_code
def yL_letter : MethodName := ⟨RL, "letter", "(LGimlet;I[J)I"⟩
abbrev cL_empty : ByteArray := method_4_code
def yL_empty : MethodName := ⟨RL, "empty", "(LGimlet;[J)I"⟩
abbrev cL_universe : ByteArray := method_5_code
def yL_universe : MethodName := ⟨RL, "universe", "(LGimlet;[J)I"⟩
abbrev cL_complement : ByteArray := method_6_code
def yL_complement : MethodName := ⟨RL, "complement", "(LGimlet;I[J)I"⟩
abbrev cL_union : ByteArray := method_7_code
def yL_union : MethodName := ⟨RL, "union", "(LGimlet;II[J)I"⟩
abbrev cL_intersection : ByteArray := method_8_code
def yL_intersection : MethodName := ⟨RL, "intersection", "(LGimlet;II[J)I"⟩
abbrev cL_difference : ByteArray := method_9_code
def yL_difference : MethodName := ⟨RL, "difference", "(LGimlet;II[J)I"⟩
abbrev cL_symmetric : ByteArray := method_10_code
def yL_symmetric : MethodName := ⟨RL, "symmetric", "(LGimlet;II[J)I"⟩
abbrev cL_size : ByteArray := method_11_code
def yL_size : MethodName := ⟨RL, "size", "(LGimlet;I[J)I"⟩
abbrev cL_symbol : ByteArray := method_12_code
def yL_symbol : MethodName := ⟨RL, "symbol", "(LGimlet;II[J)I"⟩
abbrev cL_regions : ByteArray := method_13_code
def yL_regions : MethodName := ⟨RL, "regions", "(LGimlet;I[J)I"⟩
abbrev cL_covers : ByteArray := method_14_code
def yL_covers : MethodName := ⟨RL, "covers", "(LGimlet;II[J)I"⟩
abbrev cL_coversByTerm : ByteArray := method_15_code
def yL_coversByTerm : MethodName := ⟨RL, "coversByTerm", "(LGimlet;II[J)I"⟩
abbrev cL_isEqual : ByteArray := method_16_code
def yL_isEqual : MethodName := ⟨RL, "isEqual", "(LGimlet;II[J)I"⟩
abbrev cL_rule : ByteArray := method_17_code
def yL_rule : MethodName := ⟨RL, "rule", "(LGimlet;I[J)I"⟩
abbrev cL_step : ByteArray := method_18_code
def yL_step : MethodName := ⟨RL, "step", "(LGimlet;I[J)I"⟩
abbrev cL_steps : ByteArray := method_19_code
def yL_steps : MethodName := ⟨RL, "steps", "(LGimlet;I[J)I"⟩
abbrev cL_normalForm : ByteArray := method_20_code
def yL_normalForm : MethodName := ⟨RL, "normalForm", "(LGimlet;I[J)I"⟩
abbrev cL_primes : ByteArray := method_21_code
def yL_primes : MethodName := ⟨RL, "primes", "(LGimlet;I[J)I"⟩
abbrev cL_primesByTrying : ByteArray := method_22_code
def yL_primesByTrying : MethodName := ⟨RL, "primesByTrying", "(LGimlet;I[J)I"⟩
abbrev cL_prime : ByteArray := method_23_code
def yL_prime : MethodName := ⟨RL, "prime", "(LGimlet;III[J)I"⟩
abbrev cL_assume : ByteArray := method_24_code
def yL_assume : MethodName := ⟨RL, "assume", "(LGimlet;CII[J)I"⟩
abbrev cL_drop : ByteArray := method_25_code
def yL_drop : MethodName := ⟨RL, "drop", "(LGimlet;[J)I"⟩
abbrev cL_setGoal : ByteArray := method_26_code
def yL_setGoal : MethodName := ⟨RL, "setGoal", "(LGimlet;CII[J)I"⟩
abbrev cL_deniedBy : ByteArray := method_27_code
def yL_deniedBy : MethodName := ⟨RL, "deniedBy", "(LGimlet;I[J)I"⟩
abbrev cL_follows : ByteArray := method_28_code
def yL_follows : MethodName := ⟨RL, "follows", "(LGimlet;[J)I"⟩
abbrev cL_why : ByteArray := method_29_code
def yL_why : MethodName := ⟨RL, "why", "(LGimlet;[J)I"⟩
abbrev cL_witness : ByteArray := method_30_code
def yL_witness : MethodName := ⟨RL, "witness", "(LGimlet;[J)I"⟩
abbrev cL_elements : ByteArray := method_31_code
def yL_elements : MethodName := ⟨RL, "elements", "(LGimlet;[J)I"⟩
abbrev cL_elementsByTrying : ByteArray := method_32_code
def yL_elementsByTrying : MethodName := ⟨RL, "elementsByTrying", "(LGimlet;[J)I"⟩
abbrev cL_region : ByteArray := method_33_code
def yL_region : MethodName := ⟨RL, "region", "(LGimlet;I[J)I"⟩
abbrev cL_models : ByteArray := method_34_code
def yL_models : MethodName := ⟨RL, "models", "(LGimlet;I[J)I"⟩
abbrev cL_modelsByTrying : ByteArray := method_35_code
def yL_modelsByTrying : MethodName := ⟨RL, "modelsByTrying", "(LGimlet;I[J)I"⟩
abbrev cL_density : ByteArray := method_36_code
def yL_density : MethodName := ⟨RL, "density", "(LGimlet;I[D)I"⟩
abbrev cL_law : ByteArray := code
def yL_law : MethodName := ⟨RL, "law", "([I)Z"⟩
abbrev vwCl : List vw_C := [(RX0, TX0, 3), (RX1, TX1, 4), (RX2, TX2, 3), (RX3, TX3, 6), (RX4, TX4, 6), (RX5, TX5, 4), (RX6, TX6, 5), (RX7, TX7, 23)]
end
section
/-! THE ABSTRACT MACHINE: cells by their places in a list, values as the JVM's with places for addresses. One predicate a point of the code (pG); what an instruction owes (gm_w). -/
abbrev pE : Type := (Nat × vp_A) ⊕ (Nat × List Value)
abbrev pH : Type := List pE
abbrev pL : Type := List (Option Value)
abbrev pO : Type := Option Value ⊕ String
abbrev pG : Type := Nat → pL → List Value → pH → Nat → Nat → Prop
abbrev pX : Type := pO → pH → Nat → Nat → Prop
abbrev pS : Type := Nat → List Value → pH → pO → pH → Nat → Nat → Prop
/-- a class: fields, methods, constants, classes made, exceptions made, by the places of its constant pool -/
abbrev pK : Type := List (Nat × Nat × Nat) × List (Nat × Nat × Nat) × List (Nat × Value) × List (Nat × Nat × List Value) × List (Nat × String)
/-- a method: its class's name, its name, its bytes, locals, return type, instructions, handlers, class -/
abbrev pM : Type := String × MethodName × ByteArray × Nat × Option FieldType × List (Nat × Instr × Nat) × List (Nat × Nat × Nat × Nat) × pK
def gm_nth {α : Type} : List α → Nat → Option α
  | [], _ => none
  | a :: _, 0 => some a
  | _ :: l, k + 1 => gm_nth l k
def gm_set {α : Type} : List α → Nat → α → List α
  | [], _, _ => []
  | _ :: l, 0, x => x :: l
  | a :: l, k + 1, x => a :: gm_set l k x
def gm_asc {α : Type} : List (Nat × α) → Nat → Option α
  | [], _ => none
  | (k, a) :: l, n => bif Nat.beq k n then some a else gm_asc l n
def gm_lit : Int → Int32
  | .ofNat n => OfNat.ofNat n
  | .negSucc n => -(OfNat.ofNat (n + 1))
def gm_jmp (pc : Nat) (off : Int) (f : Nat → Prop) : Prop := match (pc : Int) + off with
  | .ofNat t => f t
  | .negSucc _ => False
def gm_ic (cd : ClassFile.Cond) (x y : Int32) : Prop := match cd with
  | .eq => x = y
  | .ne => ¬ x = y
  | .lt => x < y
  | .ge => y ≤ x
  | .gt => y < x
  | .le => x ≤ y
def gm_look (pc : Nat) (d : Int) (x : Int32) (f : Nat → Prop) : List (Int × Int) → Prop
  | [] => gm_jmp pc d f
  | (k, o) :: r => (x = gm_lit k → gm_jmp pc o f) ∧ (¬ x = gm_lit k → gm_look pc d x f r)
def gm_tab (pc : Nat) (d : Int) (x : Int32) (f : Nat → Prop) : Int → List Int → Prop
  | _, [] => gm_jmp pc d f
  | v, o :: r => (x = gm_lit v → gm_jmp pc o f) ∧ (¬ x = gm_lit v → gm_tab pc d x f (v + 1) r)
/-- what may be put into a field, or handed back, of a type -/
def gm_ok : FieldType → Value → Prop
  | .int, .int _ => True
  | .boolean, .int x => x = 0 ∨ x = 1
  | .char, .int x => 0 ≤ x ∧ x ≤ 65535
  | .long, .long _ => True
  | .float, .float _ => True
  | .object _, .ref _ => True
  | .array _, .ref _ => True
  | _, _ => False
def gm_okr : Option FieldType → Option Value → Prop
  | none, none => True
  | some ty, some v => gm_ok ty v
  | _, _ => False
def gm_cat2 : Option (Option Value) → Bool
  | some (some (.long _)) => true
  | some (some (.double _)) => true
  | _ => false
/-- a value of one slot into a local: a long ahead of it goes -/
def gm_st1 (ls : pL) : Nat → Value → pL
  | 0, v => gm_set ls 0 (some v)
  | i + 1, v => gm_set (bif gm_cat2 (gm_nth ls i) then gm_set ls i none else ls) (i + 1) (some v)
def gm_st2 (ls : pL) : Nat → Value → pL
  | 0, v => gm_set (gm_set ls 1 none) 0 (some v)
  | i + 1, v => gm_set (gm_set (bif gm_cat2 (gm_nth ls i) then gm_set ls i none else ls) (i + 2) none) (i + 1) (some v)
def gm_sum : List Value → Nat
  | [] => 0
  | .long _ :: r => 2 + gm_sum r
  | .double _ :: r => 2 + gm_sum r
  | _ :: r => 1 + gm_sum r
/-- n values off the stack, the first pushed first -/
def gm_pop : Nat → List Value → List Value → Option (List Value × List Value)
  | 0, acc, st => some (acc, st)
  | n + 1, acc, v :: st => gm_pop n (v :: acc) st
  | _ + 1, _, [] => none
def gm_i1 (st : List Value) (f : Int32 → List Value → Prop) : Prop := match st with
  | .int x :: r => f x r
  | _ => False
def gm_i2 (st : List Value) (f : Int32 → Int32 → List Value → Prop) : Prop := match st with
  | .int y :: .int x :: r => f x y r
  | _ => False
def gm_l1 (st : List Value) (f : Int64 → List Value → Prop) : Prop := match st with
  | .long x :: r => f x r
  | _ => False
def gm_l2 (st : List Value) (f : Int64 → Int64 → List Value → Prop) : Prop := match st with
  | .long y :: .long x :: r => f x y r
  | _ => False
def gm_li (v : Option (Option Value)) (f : Int32 → Prop) : Prop := match v with
  | some (some (.int x)) => f x
  | _ => False
def gm_ll (v : Option (Option Value)) (f : Int64 → Prop) : Prop := match v with
  | some (some (.long x)) => f x
  | _ => False
def gm_lf (v : Option (Option Value)) (f : UInt32 → Prop) : Prop := match v with
  | some (some (.float x)) => f x
  | _ => False
def gm_la (v : Option (Option Value)) (f : Nat → Prop) : Prop := match v with
  | some (some (.ref x)) => f x
  | _ => False
def gm_si (st : List Value) (f : Int32 → List Value → Prop) : Prop := gm_i1 st f
def gm_sf (st : List Value) (f : UInt32 → List Value → Prop) : Prop := match st with
  | .float x :: r => f x r
  | _ => False
def gm_sa (st : List Value) (f : Nat → List Value → Prop) : Prop := match st with
  | .ref x :: r => f x r
  | _ => False
def gm_d1 (st : List Value) (f : UInt64 → List Value → Prop) : Prop := match st with
  | .double x :: r => f x r
  | _ => False
/-- an object's cell -/
def gm_ob (h : pH) (a : Nat) (f : Nat → List Value → Prop) : Prop := match gm_nth h a with
  | some (.inr (ci, fs)) => f ci fs
  | _ => False
/-- an array of 32-bit numbers, of a kind (0 int, 1 char, 2 boolean) -/
def gm_ai (h : pH) (a : Nat) (t : Nat) (f : Nat → (Nat → Int32) → Prop) : Prop := match gm_nth h a with
  | some (.inl (k, n, .inl r)) => bif Nat.beq k t then f n r else False
  | _ => False
def gm_al (h : pH) (a : Nat) (f : Nat → (Nat → Int64) → Prop) : Prop := match gm_nth h a with
  | some (.inl (3, n, .inr (.inl r))) => f n r
  | _ => False
def gm_ad (h : pH) (a : Nat) (f : Nat → (Nat → UInt64) → Prop) : Prop := match gm_nth h a with
  | some (.inl (4, n, .inr (.inr (.inr (.inl r))))) => f n r
  | _ => False
def gm_op {α : Type} (o : Option α) (f : α → Prop) : Prop := match o with
  | some a => f a
  | none => False
def gm_c1 (v : Value) : Prop := match v with
  | .int _ => True
  | .ref _ => True
  | .float _ => True
  | _ => False
/-- the handler of this method for an exception of class E at pc, by its table; 'tn' tells a table's class place by name -/
def gm_hd (tn : List (Nat × String)) (E : String) (pc : Nat) : List (Nat × Nat × Nat × Nat) → Option Nat
  | [] => none
  | (a, b, t, k) :: r => bif Nat.ble a pc && Nat.blt pc b && (gm_asc tn k == some E) then some t else gm_hd tn E pc r
/-- what a call owes: some outcome of the callee, and the way on from there -/
def gm_call (Sp : pS) (mid : Nat) (av : List Value) (h : pH) (c s : Nat) (f : Option Value → pH → Nat → Nat → Prop) (g : String → pH → Nat → Nat → Prop) : Prop :=
  (∃ (v : Option Value) (h1 : pH) (c1 s1 : Nat), Sp mid av h (.inl v) h1 c1 s1 ∧ f v h1 (c + c1) (s + s1)) ∨ (∃ (E : String) (h1 : pH) (c1 s1 : Nat), Sp mid av h (.inr E) h1 c1 s1 ∧ g E h1 (c + c1) (s + s1))
/-- the script: an array outside the world, at the place 88888 -/
abbrev pQ : Type := Option (Nat × (Nat → Int32))
def gm_ifs {α : Type} (b : Bool) (x y : α) : α := bif b then x else y
def gm_zero : ArrayType → Nat → Option pE
  | .int, n => some (.inl (0, n, .inl (fun _ => 0)))
  | .char, n => some (.inl (1, n, .inl (fun _ => 0)))
  | .boolean, n => some (.inl (2, n, .inl (fun _ => 0)))
  | .long, n => some (.inl (3, n, .inr (.inl (fun _ => 0))))
  | .double, n => some (.inl (4, n, .inr (.inr (.inr (.inl (fun _ => 0))))))
  | _, _ => none
def gm_vl : Option Value → List Value → List Value
  | none, r => r
  | some v, r => v :: r
/-- an exception of class E comes out of a call at pc: a handler's first instruction puts it into a local that nobody reads; or it goes on to the caller -/
def gm_thr (M : pM) (G : pG) (X : pX) (pc : Nat) (ls : pL) (E : String) (h1 : pH) (c1 s1 : Nat) : Prop := match gm_hd M.2.2.2.2.2.2.2.2.2.2.2 E pc M.2.2.2.2.2.2.1 with
  | some t => (match gm_asc M.2.2.2.2.2.1 t with
    | some (.astore_n k, _) => Nat.blt k.val ls.length = true ∧ G (t + 1) (gm_set (gm_st1 ls k.val (.int 0)) k.val none) [] h1 c1 s1
    | some (.astore k, _) => Nat.blt k ls.length = true ∧ G (t + 2) (gm_set (gm_st1 ls k (.int 0)) k none) [] h1 c1 s1
    | _ => False)
  | none => X (.inr E) h1 c1 s1
/-- references that stay what they are while cells are made -/
def gm_fr (n : Nat) : Value → Bool
  | .ref a => Nat.blt a n || Nat.beq a 88888
  | _ => true
def gm_frs (n : Nat) : List Value → Bool
  | [] => true
  | v :: r => gm_fr n v && gm_frs n r
def gm_frl (n : Nat) : pL → Bool
  | [] => true
  | some v :: r => gm_fr n v && gm_frl n r
  | none :: r => gm_frl n r
def gm_frh (n : Nat) : pH → Bool
  | [] => true
  | .inl _ :: r => gm_frh n r
  | .inr q :: r => gm_frs n q.2 && gm_frh n r
/-- what an instruction owes at pc, its successor at n -/
def gm_w (M : pM) (tyf : Nat → Nat → FieldType) (sq : pQ) (Sp : pS) (G : pG) (X : pX) (i : Instr) (pc n : Nat) (ls : pL) (st : List Value) (h : pH) (c s : Nat) : Prop := match i with
  | .iconst k => G n ls (.int (gm_lit k) :: st) h c s
  | .bipush k => G n ls (.int (gm_lit k) :: st) h c s
  | .sipush k => G n ls (.int (gm_lit k) :: st) h c s
  | .lconst k => G n ls (.long (OfNat.ofNat k.val) :: st) h c s
  | .fconst k => match k with
    | 0 => G n ls (.float FP.fconst0 :: st) h c s
    | _ => False
  | .ldc k => gm_op (gm_asc M.2.2.2.2.2.2.2.2.2.1 k) fun v => match v with
    | .int x => G n ls (.int x :: st) h c s
    | .float x => G n ls (.float x :: st) h c s
    | _ => False
  | .ldc_w k => gm_op (gm_asc M.2.2.2.2.2.2.2.2.2.1 k) fun v => match v with
    | .int x => G n ls (.int x :: st) h c s
    | _ => False
  | .ldc2_w k => gm_op (gm_asc M.2.2.2.2.2.2.2.2.2.1 k) fun v => match v with
    | .long x => G n ls (.long x :: st) h c s
    | _ => False
  | .iload_n k => gm_li (gm_nth ls k.val) fun x => G n ls (.int x :: st) h c s
  | .iload k => gm_li (gm_nth ls k) fun x => G n ls (.int x :: st) h c s
  | .lload_n k => gm_ll (gm_nth ls k.val) fun x => G n ls (.long x :: st) h c s
  | .lload k => gm_ll (gm_nth ls k) fun x => G n ls (.long x :: st) h c s
  | .fload k => gm_lf (gm_nth ls k) fun x => G n ls (.float x :: st) h c s
  | .aload_n k => gm_la (gm_nth ls k.val) fun x => G n ls (.ref x :: st) h c s
  | .aload k => gm_la (gm_nth ls k) fun x => G n ls (.ref x :: st) h c s
  | .istore_n k => gm_i1 st fun x r => Nat.blt k.val ls.length = true ∧ G n (gm_st1 ls k.val (.int x)) r h c s
  | .istore k => gm_i1 st fun x r => Nat.blt k ls.length = true ∧ G n (gm_st1 ls k (.int x)) r h c s
  | .lstore_n k => gm_l1 st fun x r => Nat.blt (k.val + 1) ls.length = true ∧ G n (gm_st2 ls k.val (.long x)) r h c s
  | .lstore k => gm_l1 st fun x r => Nat.blt (k + 1) ls.length = true ∧ G n (gm_st2 ls k (.long x)) r h c s
  | .fstore k => gm_sf st fun x r => Nat.blt k ls.length = true ∧ G n (gm_st1 ls k (.float x)) r h c s
  | .astore_n k => gm_sa st fun x r => Nat.blt k.val ls.length = true ∧ G n (gm_st1 ls k.val (.ref x)) r h c s
  | .astore k => gm_sa st fun x r => Nat.blt k ls.length = true ∧ G n (gm_st1 ls k (.ref x)) r h c s
  | .iinc k d => gm_li (gm_nth ls k) fun x => G n (gm_st1 ls k (.int (x + gm_lit d))) st h c s
  | .iadd => gm_i2 st fun x y r => G n ls (.int (x + y) :: r) h c s
  | .isub => gm_i2 st fun x y r => G n ls (.int (x - y) :: r) h c s
  | .imul => gm_i2 st fun x y r => G n ls (.int (x * y) :: r) h c s
  | .iand => gm_i2 st fun x y r => G n ls (.int (x &&& y) :: r) h c s
  | .ior => gm_i2 st fun x y r => G n ls (.int (x ||| y) :: r) h c s
  | .ixor => gm_i2 st fun x y r => G n ls (.int (x ^^^ y) :: r) h c s
  | .ineg => gm_i1 st fun x r => G n ls (.int (-x) :: r) h c s
  | .idiv => gm_i2 st fun x y r => ¬ y = 0 ∧ G n ls (.int (x / y) :: r) h c s
  | .irem => gm_i2 st fun x y r => ¬ y = 0 ∧ G n ls (.int (x - x / y * y) :: r) h c s
  | .ishl => gm_i2 st fun x y r => G n ls (.int (x <<< (y &&& 31)) :: r) h c s
  | .ishr => gm_i2 st fun x y r => G n ls (.int (x >>> (y &&& 31)) :: r) h c s
  | .iushr => gm_i2 st fun x y r => G n ls (.int ((x.toUInt32 >>> (y.toUInt32 &&& Int32.toUInt32 31)).toInt32) :: r) h c s
  | .ladd => gm_l2 st fun x y r => G n ls (.long (x + y) :: r) h c s
  | .lmul => gm_l2 st fun x y r => G n ls (.long (x * y) :: r) h c s
  | .lneg => gm_l1 st fun x r => G n ls (.long (-x) :: r) h c s
  | .lcmp => gm_l2 st fun x y r => G n ls (.int (lg_cmp x y) :: r) h c s
  | .i2l => gm_i1 st fun x r => G n ls (.long x.toInt64 :: r) h c s
  | .i2c => gm_i1 st fun x r => G n ls (.int (x.toUInt32 % 65536).toInt32 :: r) h c s
  | .i2f => gm_i1 st fun x r => G n ls (.float (FP.i2f x) :: r) h c s
  | .f2d => gm_sf st fun x r => vf_n64 (FP.f2d x) ∧ G n ls (.double (FP.f2d x) :: r) h c s
  | .fdiv => match st with
    | .float y :: .float x :: r => vf_n32 (FP.fdiv x y) ∧ G n ls (.float (FP.fdiv x y) :: r) h c s
    | _ => False
  | .fcmp op => match st with
    | .float y :: .float x :: r => G n ls (.int (Op.cmpValue (FP.fcmp x y) op) :: r) h c s
    | _ => False
  | .dcmp op => match st with
    | .double y :: .double x :: r => G n ls (.int (Op.cmpValue (FP.dcmp x y) op) :: r) h c s
    | _ => False
  | .dup => match st with
    | v :: r => gm_c1 v ∧ G n ls (v :: v :: r) h c s
    | _ => False
  | .dup_x1 => match st with
    | v :: w :: r => gm_c1 v ∧ gm_c1 w ∧ G n ls (v :: w :: v :: r) h c s
    | _ => False
  | .dup2 => match st with
    | v :: w :: r => gm_c1 v ∧ gm_c1 w ∧ G n ls (v :: w :: v :: w :: r) h c s
    | _ => False
  | .pop => match st with
    | v :: r => gm_c1 v ∧ G n ls r h c s
    | _ => False
  | .goto o => gm_jmp pc o fun t => G t ls st h c s
  | .ifCond cd o => gm_i1 st fun x r => gm_jmp pc o fun t => (gm_ic cd x 0 → G t ls r h c s) ∧ (¬ gm_ic cd x 0 → G n ls r h c s)
  | .if_icmp cd o => gm_i2 st fun x y r => gm_jmp pc o fun t => (gm_ic cd x y → G t ls r h c s) ∧ (¬ gm_ic cd x y → G n ls r h c s)
  | .lookupswitch d ps => gm_i1 st fun x r => gm_look pc d x (fun t => G t ls r h c s) ps.toList
  | .tableswitch d lo _ os => gm_i1 st fun x r => gm_tab pc d x (fun t => G t ls r h c s) lo os.toList
  | .getfield k => gm_sa st fun a r => gm_op (gm_asc M.2.2.2.2.2.2.2.1 k) fun f => gm_ob h a fun ci fs => ci = f.1 ∧ gm_op (gm_nth fs f.2) fun v => G n ls (v :: r) h c s
  | .putfield k => match st with
    | v :: .ref a :: r => gm_op (gm_asc M.2.2.2.2.2.2.2.1 k) fun f => gm_ob h a fun ci fs => gm_op (gm_nth fs f.2) fun _ => ci = f.1 ∧ gm_ok (tyf f.1 f.2) v ∧ G n ls r (gm_set h a (.inr (ci, gm_set fs f.2 v))) c s
    | _ => False
  | .iaload => gm_i1 st fun x r => gm_sa r fun a r => bif Nat.beq a 88888 then gm_op sq (fun q => vp_in x q.1 ∧ G n ls (.int (q.2 x.toNatClampNeg) :: r) h c s) else gm_ai h a 0 fun N f => vp_in x N ∧ G n ls (.int (f x.toNatClampNeg) :: r) h c s
  | .caload => gm_i1 st fun x r => gm_sa r fun a r => gm_ai h a 1 fun N f => vp_in x N ∧ G n ls (.int (f x.toNatClampNeg) :: r) h c s
  | .baload => gm_i1 st fun x r => gm_sa r fun a r => gm_ai h a 2 fun N f => vp_in x N ∧ G n ls (.int (f x.toNatClampNeg) :: r) h c s
  | .laload => gm_i1 st fun x r => gm_sa r fun a r => gm_al h a fun N f => vp_in x N ∧ G n ls (.long (f x.toNatClampNeg) :: r) h c s
  | .daload => gm_i1 st fun x r => gm_sa r fun a r => gm_ad h a fun N f => vp_in x N ∧ G n ls (.double (f x.toNatClampNeg) :: r) h c s
  | .iastore => gm_i2 st fun x y r => gm_sa r fun a r => gm_ai h a 0 fun N f => vp_in x N ∧ G n ls r (gm_set h a (.inl (0, N, .inl (upd f x.toNatClampNeg y)))) c s
  | .castore => gm_i2 st fun x y r => gm_sa r fun a r => gm_ai h a 1 fun N f => vp_in x N ∧ (0 ≤ y ∧ y ≤ 65535) ∧ G n ls r (gm_set h a (.inl (1, N, .inl (upd f x.toNatClampNeg y)))) c s
  | .bastore => gm_i2 st fun x y r => gm_sa r fun a r => gm_ai h a 2 fun N f => vp_in x N ∧ (y = 0 ∨ y = 1) ∧ G n ls r (gm_set h a (.inl (2, N, .inl (upd f x.toNatClampNeg y)))) c s
  | .lastore => gm_l1 st fun y r => gm_i1 r fun x r => gm_sa r fun a r => gm_al h a fun N f => vp_in x N ∧ G n ls r (gm_set h a (.inl (3, N, .inr (.inl (vp_updL f x.toNatClampNeg y))))) c s
  | .dastore => gm_d1 st fun y r => gm_i1 r fun x r => gm_sa r fun a r => gm_ad h a fun N f => vp_in x N ∧ G n ls r (gm_set h a (.inl (4, N, .inr (.inr (.inr (.inl (vf_upd f x.toNatClampNeg y))))))) c s
  | .arraylength => gm_sa st fun a r => bif Nat.beq a 88888 then gm_op sq (fun q => G n ls (.int (Int32.ofNat q.1) :: r) h c s) else False
  | .newarray t => gm_i1 st fun x r => ¬ x < 0 ∧ Nat.ble x.toNatClampNeg 100000 = true ∧ (gm_frs h.length r && (gm_frl h.length ls && gm_frh h.length h) && Nat.blt h.length 88888) = true ∧ gm_op (gm_zero t x.toNatClampNeg) fun e => G n ls (.ref h.length :: r) (h ++ [e]) (c + 1) (s + x.toNatClampNeg)
  | .new k => (∃ E, gm_asc M.2.2.2.2.2.2.2.2.2.2.2 k = some E ∧ Nat.ble (gm_sum st) 8 = true ∧ X (.inr E) h (c + 1) (s + 6)) ∨ (∃ q, gm_asc M.2.2.2.2.2.2.2.2.2.2.1 k = some q ∧ (gm_frs h.length st && (gm_frl h.length ls && gm_frh h.length h) && (gm_frs h.length q.2 && Nat.blt h.length 88888)) = true ∧ G n ls (.ref h.length :: st) (h ++ [.inr q]) (c + 1) (s + q.2.length))
  | .invokestatic k => gm_op (gm_asc M.2.2.2.2.2.2.2.2.1 k) fun q => bif Nat.ble 100 q.2 then False else bif Nat.ble 50 q.2 then gm_op (gm_pop (q.2 - 50) [] st) (fun z => Nat.ble (gm_sum z.2) 8 = true ∧ ∃ (v : Option Value) (h1 : pH) (c1 s1 : Nat), Sp q.1 z.1 h (.inl v) h1 c1 s1 ∧ G n ls (gm_vl v z.2) h1 (c + c1) (s + s1)) else gm_op (gm_pop q.2 [] st) fun z => Nat.ble (gm_sum z.2) 8 = true ∧ gm_call Sp q.1 z.1 h c s (fun v h1 c1 s1 => G n ls (gm_vl v z.2) h1 c1 s1) (gm_thr M G X pc ls)
  | .invokevirtual k => gm_op (gm_asc M.2.2.2.2.2.2.2.2.1 k) fun q => bif Nat.blt q.2 100 || Nat.ble 200 q.2 then False else gm_op (gm_pop (q.2 - 100) [] st) fun z => gm_sa z.2 fun a r => gm_ob h a fun ci _ => bif Nat.beq (q.1 / 1000) (ci + 1) then Nat.ble (gm_sum r) 8 = true ∧ gm_call Sp q.1 (.ref a :: z.1) h c s (fun v h1 c1 s1 => G n ls (gm_vl v r) h1 c1 s1) (gm_thr M G X pc ls) else False
  | .invokespecial k => gm_op (gm_asc M.2.2.2.2.2.2.2.2.1 k) fun q => bif Nat.blt q.2 200 then False else gm_op (gm_pop (q.2 - 200) [] st) fun z => gm_sa z.2 fun a r => Nat.ble (gm_sum r) 6 = true ∧ (match q.1 with
      | 0 => G n ls r h c s
      | q1 + 1 => ∃ (h1 : pH) (c1 s1 : Nat), Sp (q1 + 1) (.ref a :: z.1) h (.inl none) h1 c1 s1 ∧ (gm_frs h.length r && gm_frl h.length ls) = true ∧ G n ls r h1 (c + c1) (s + s1))
  | .ireturn => match st with
    | [.int x] => gm_okr M.2.2.2.2.1 (some (.int x)) ∧ X (.inl (some (.int x))) h c s
    | _ => False
  | .lreturn => match st with
    | [.long x] => gm_okr M.2.2.2.2.1 (some (.long x)) ∧ X (.inl (some (.long x))) h c s
    | _ => False
  | .freturn => match st with
    | [.float x] => gm_okr M.2.2.2.2.1 (some (.float x)) ∧ X (.inl (some (.float x))) h c s
    | _ => False
  | .areturn => match st with
    | [.ref x] => gm_okr M.2.2.2.2.1 (some (.ref x)) ∧ X (.inl (some (.ref x))) h c s
    | _ => False
  | .return_ => match st with
    | [] => gm_okr M.2.2.2.2.1 none ∧ X (.inl none) h c s
    | _ => False
  | _ => False
/-- a predicate that goes back along the code -/
def gm_cl (M : pM) (tyf : Nat → Nat → FieldType) (sq : pQ) (Sp : pS) (G : pG) (X : pX) : Prop :=
  ∀ (pc : Nat) (i : Instr) (len : Nat), gm_asc M.2.2.2.2.2.1 pc = some (i, len) → ∀ (ls : pL) (st : List Value) (h : pH) (c s : Nat), gm_w M tyf sq Sp G X i pc (pc + len) ls st h c s → G pc ls st h c s
/-- k instructions in one go, but not past a cut -/
def gm_run (M : pM) (tyf : Nat → Nat → FieldType) (sq : pQ) (Sp : pS) (G : pG) (X : pX) (cut : List Nat) : Nat → pG
  | 0 => G
  | k + 1 => fun pc ls st h c s => bif cut.any (Nat.beq pc) then G pc ls st h c s else gm_op (gm_asc M.2.2.2.2.2.1 pc) fun q => gm_w M tyf sq Sp (gm_run M tyf sq Sp G X cut k) X q.1 pc (pc + q.2) ls st h c s
end
section
/-! SOUNDNESS, 1: how the abstract world lies in the heap; one instruction each -/
def gm_v (ad : Nat → Nat) : Value → Value
  | .ref a => .ref (ad a)
  | v => v
def gm_e (cy : Nat → ClassId) (ad : Nat → Nat) : pE → va_E
  | .inl q => .inl (cy q.1, q.2)
  | .inr q => .inr (q.1, q.2.map (gm_v ad))
def gm_W (cy : Nat → ClassId) (ad : Nat → Nat) : Nat → pH → va_W
  | _, [] => []
  | k, e :: r => (ad k, gm_e cy ad e) :: gm_W cy ad (k + 1) r
theorem gm_nth_some {α : Type} : ∀ (l : List α) (i : Nat), gm_nth l i = l[i]?
  | [], _ => by simp [gm_nth]
  | a :: l, 0 => by simp [gm_nth]
  | a :: l, i + 1 => by simp [gm_nth, gm_nth_some l i]
theorem gm_set_eq {α : Type} : ∀ (l : List α) (i : Nat) (x : α), gm_set l i x = l.set i x
  | [], _, _ => by simp [gm_set]
  | a :: l, 0, x => by simp [gm_set]
  | a :: l, i + 1, x => by simp [gm_set, gm_set_eq l i x]
theorem gm_W_get (cy : Nat → ClassId) (ad : Nat → Nat) : ∀ (h : pH) (k i : Nat), (gm_W cy ad k h)[i]? = (h[i]?).map (fun e => (ad (k + i), gm_e cy ad e))
  | [], _, _ => by simp [gm_W]
  | e :: h, k, 0 => by simp [gm_W]
  | e :: h, k, i + 1 => by
    simp only [gm_W, List.getElem?_cons_succ]
    rw [gm_W_get cy ad h (k + 1) i, show k + 1 + i = k + (i + 1) by omega]
theorem gm_W_set (cy : Nat → ClassId) (ad : Nat → Nat) (e1 : pE) : ∀ (h : pH) (k i : Nat), gm_W cy ad k (h.set i e1) = (gm_W cy ad k h).set i (ad (k + i), gm_e cy ad e1)
  | [], _, _ => by simp [gm_W]
  | e :: h, k, 0 => by simp [gm_W]
  | e :: h, k, i + 1 => by
    simp only [gm_W, List.set_cons_succ]
    rw [gm_W_set cy ad e1 h (k + 1) i, show k + 1 + i = k + (i + 1) by omega]
theorem gm_W_app (cy : Nat → ClassId) (ad : Nat → Nat) (e1 : pE) : ∀ (h : pH) (k : Nat), gm_W cy ad k (h ++ [e1]) = gm_W cy ad k h ++ [(ad (k + h.length), gm_e cy ad e1)]
  | [], _ => by simp [gm_W]
  | e :: h, k => by
    simp only [gm_W, List.cons_append, List.length_cons]
    rw [gm_W_app cy ad e1 h (k + 1), show k + 1 + h.length = k + (h.length + 1) by omega]
theorem gm_W_len (cy : Nat → ClassId) (ad : Nat → Nat) : ∀ (h : pH) (k : Nat), (gm_W cy ad k h).length = h.length
  | [], _ => rfl
  | e :: h, k => by simp [gm_W, gm_W_len cy ad h (k + 1)]
/-- the locals -/
def gm_hL (lsA : Array Slot) (nL : Nat) (ad : Nat → Nat) (ls : pL) : Prop := lsA.size = nL ∧ ls.length = nL ∧ lv_wf lsA ∧ ∀ (i : Nat) (v : Value), ls[i]? = some (some v) → lsA[i]? = some (.val (gm_v ad v))
def gm_lv (ad : Nat → Nat) : Nat → pL → List (Nat × Value)
  | _, [] => []
  | k, none :: r => gm_lv ad (k + 1) r
  | k, some v :: r => (k, gm_v ad v) :: gm_lv ad (k + 1) r
theorem gm_lv_mem (ad : Nat → Nat) : ∀ (ls : pL) (k : Nat) (q : Nat × Value), q ∈ gm_lv ad k ls ↔ ∃ i v, ls[i]? = some (some v) ∧ q = (k + i, gm_v ad v)
  | [], k, q => by simp [gm_lv]
  | none :: ls, k, q => by
    simp only [gm_lv]
    rw [gm_lv_mem ad ls (k + 1) q]
    constructor
    · rintro ⟨i, v, h1, h2⟩
      exact ⟨i + 1, v, by simpa using h1, by rw [h2, show k + 1 + i = k + (i + 1) by omega]⟩
    · rintro ⟨i, v, h1, h2⟩
      cases i with
      | zero => simp at h1
      | succ i => exact ⟨i, v, by simpa using h1, by rw [h2, show k + 1 + i = k + (i + 1) by omega]⟩
  | some w :: ls, k, q => by
    simp only [gm_lv, List.mem_cons]
    rw [gm_lv_mem ad ls (k + 1) q]
    constructor
    · rintro (h | ⟨i, v, h1, h2⟩)
      · exact ⟨0, w, by simp, by simpa using h⟩
      · exact ⟨i + 1, v, by simpa using h1, by rw [h2, show k + 1 + i = k + (i + 1) by omega]⟩
    · rintro ⟨i, v, h1, h2⟩
      cases i with
      | zero =>
        simp at h1
        subst h1
        exact Or.inl (by simpa using h2)
      | succ i => exact Or.inr ⟨i, v, by simpa using h1, by rw [h2, show k + 1 + i = k + (i + 1) by omega]⟩
theorem gm_hL.has {lsA : Array Slot} {nL : Nat} {ad : Nat → Nat} {ls : pL} (h : gm_hL lsA nL ad ls) : lv_has lsA nL (gm_lv ad 0 ls) := by
  refine ⟨h.1, h.2.2.1, fun q hq => ?_⟩
  obtain ⟨i, v, h1, h2⟩ := (gm_lv_mem ad ls 0 q).mp hq
  rw [h2]
  simpa using h.2.2.2 i v h1
theorem gm_hL.at {lsA : Array Slot} {nL : Nat} {ad : Nat → Nat} {ls : pL} (h : gm_hL lsA nL ad ls) {i : Nat} {v : Value} (hv : gm_nth ls i = some (some v)) : lsA[i]? = some (.val (gm_v ad v)) := h.2.2.2 i v (by rw [← gm_nth_some]; exact hv)
theorem gm_v_cat (ad : Nat → Nat) (v : Value) : (gm_v ad v).category = v.category := by cases v <;> rfl
theorem gm_v_sum (ad : Nat → Nat) : ∀ st : List Value, ((st.map (gm_v ad)).map fun v => v.category).sum = gm_sum st
  | [] => rfl
  | v :: r => by
    simp only [List.map_cons, List.sum_cons, gm_v_cat, gm_v_sum ad r]
    cases v <;> simp [gm_sum, Value.category]
theorem gm_cat2_of {ls : pL} {i : Nat} {w : Value} (h : ls[i]? = some (some w)) : gm_cat2 (gm_nth ls i) = (w.category == 2) := by
  rw [gm_nth_some, h]
  cases w <;> rfl
theorem gm_hL.st1 {lsA lsB : Array Slot} {nL : Nat} {ad : Nat → Nat} {ls : pL} {i : Nat} {v : Value} (h : gm_hL lsA nL ad ls) (hi : i < nL)
    (hB : lv_has lsB nL ((i, gm_v ad v) :: (gm_lv ad 0 ls).filter (fun q => !(q.1 == i) && !(q.1 + 1 == i && q.2.category == 2)))) : gm_hL lsB nL ad (gm_st1 ls i v) := by
  obtain ⟨b1, b2, b3⟩ := hB
  have hlen : (gm_st1 ls i v).length = nL := by
    cases i with
    | zero => simp [gm_st1, gm_set_eq, h.2.1]
    | succ i =>
      simp only [gm_st1, gm_set_eq]
      cases gm_cat2 (gm_nth ls i) <;> simp [h.2.1]
  refine ⟨b1, hlen, b2, fun j w hj => ?_⟩
  have rest : j ≠ i → ls[j]? = some (some w) → ¬ (j + 1 = i ∧ w.category = 2) → lsB[j]? = some (.val (gm_v ad w)) := by
    intro h1 h2 h3
    refine b3 (j, gm_v ad w) (List.mem_cons_of_mem _ (List.mem_filter.mpr ⟨(gm_lv_mem ad ls 0 _).mpr ⟨j, w, h2, by simp⟩, ?_⟩))
    simp only [Bool.and_eq_true, Bool.not_eq_true', beq_eq_false_iff_ne, ne_eq, Bool.and_eq_false_iff, gm_v_cat]
    refine ⟨h1, ?_⟩
    by_cases h4 : j + 1 = i
    · exact Or.inr fun h5 => h3 ⟨h4, h5⟩
    · exact Or.inl h4
  have hil : i < ls.length := by rw [h.2.1]; exact hi
  cases i with
  | zero =>
    simp only [gm_st1, gm_set_eq] at hj
    by_cases hj0 : j = 0
    · subst hj0
      rw [List.getElem?_set_self hil] at hj
      cases hj
      exact b3 _ List.mem_cons_self
    · rw [List.getElem?_set_ne (Ne.symm hj0)] at hj
      exact rest hj0 hj (by omega)
  | succ i =>
    simp only [gm_st1, gm_set_eq] at hj
    by_cases hj0 : j = i + 1
    · subst hj0
      rw [List.getElem?_set_self (by cases gm_cat2 (gm_nth ls i) <;> simp <;> omega)] at hj
      cases hj
      exact b3 _ List.mem_cons_self
    · rw [List.getElem?_set_ne (Ne.symm hj0)] at hj
      cases hc : gm_cat2 (gm_nth ls i) with
      | false =>
        rw [hc] at hj
        simp only [cond_false] at hj
        refine rest hj0 hj (fun hz => ?_)
        have hji : j = i := by omega
        subst hji
        rw [gm_cat2_of hj, hz.2] at hc
        simp at hc
      | true =>
        rw [hc] at hj
        simp only [cond_true] at hj
        by_cases hji : j = i
        · subst hji
          rw [List.getElem?_set_self (by omega)] at hj
          cases hj
        · rw [List.getElem?_set_ne (Ne.symm hji)] at hj
          exact rest hj0 hj (fun hz => hji (by omega))
theorem gm_hL.st2 {lsA lsB : Array Slot} {nL : Nat} {ad : Nat → Nat} {ls : pL} {i : Nat} {v : Value} (h : gm_hL lsA nL ad ls) (hi : i + 1 < nL)
    (hB : lv_has lsB nL ((i, gm_v ad v) :: (gm_lv ad 0 ls).filter (fun q => !(q.1 == i) && (!(q.1 == i + 1) && !(q.1 + 1 == i && q.2.category == 2))))) : gm_hL lsB nL ad (gm_st2 ls i v) := by
  obtain ⟨b1, b2, b3⟩ := hB
  have hlen : (gm_st2 ls i v).length = nL := by
    cases i with
    | zero => simp [gm_st2, gm_set_eq, h.2.1]
    | succ i =>
      simp only [gm_st2, gm_set_eq]
      cases gm_cat2 (gm_nth ls i) <;> simp [h.2.1]
  refine ⟨b1, hlen, b2, fun j w hj => ?_⟩
  have rest : j ≠ i → j ≠ i + 1 → ls[j]? = some (some w) → ¬ (j + 1 = i ∧ w.category = 2) → lsB[j]? = some (.val (gm_v ad w)) := by
    intro h1 h0 h2 h3
    refine b3 (j, gm_v ad w) (List.mem_cons_of_mem _ (List.mem_filter.mpr ⟨(gm_lv_mem ad ls 0 _).mpr ⟨j, w, h2, by simp⟩, ?_⟩))
    simp only [Bool.and_eq_true, Bool.not_eq_true', beq_eq_false_iff_ne, ne_eq, Bool.and_eq_false_iff, gm_v_cat]
    refine ⟨h1, h0, ?_⟩
    by_cases h4 : j + 1 = i
    · exact Or.inr fun h5 => h3 ⟨h4, h5⟩
    · exact Or.inl h4
  have hil : i + 1 < ls.length := by rw [h.2.1]; exact hi
  cases i with
  | zero =>
    simp only [gm_st2, gm_set_eq] at hj
    by_cases hj0 : j = 0
    · subst hj0
      rw [List.getElem?_set_self (by simp; omega)] at hj
      cases hj
      exact b3 _ List.mem_cons_self
    · rw [List.getElem?_set_ne (Ne.symm hj0)] at hj
      by_cases hj1 : j = 1
      · subst hj1
        rw [List.getElem?_set_self (by omega)] at hj
        cases hj
      · rw [List.getElem?_set_ne (Ne.symm hj1)] at hj
        exact rest hj0 hj1 hj (by omega)
  | succ i =>
    simp only [gm_st2, gm_set_eq] at hj
    by_cases hj0 : j = i + 1
    · subst hj0
      rw [List.getElem?_set_self (by cases gm_cat2 (gm_nth ls i) <;> simp <;> omega)] at hj
      cases hj
      exact b3 _ List.mem_cons_self
    · rw [List.getElem?_set_ne (Ne.symm hj0)] at hj
      by_cases hj2 : j = i + 2
      · subst hj2
        rw [List.getElem?_set_self (by cases gm_cat2 (gm_nth ls i) <;> simp <;> omega)] at hj
        cases hj
      rw [List.getElem?_set_ne (Ne.symm hj2)] at hj
      cases hc : gm_cat2 (gm_nth ls i) with
      | false =>
        rw [hc] at hj
        simp only [cond_false] at hj
        refine rest hj0 hj2 hj (fun hz => ?_)
        have hji : j = i := by omega
        subst hji
        rw [gm_cat2_of hj, hz.2] at hc
        simp at hc
      | true =>
        rw [hc] at hj
        simp only [cond_true] at hj
        by_cases hji : j = i
        · subst hji
          rw [List.getElem?_set_self (by omega)] at hj
          cases hj
        · rw [List.getElem?_set_ne (Ne.symm hji)] at hj
          exact rest hj0 hj2 hj (fun hz => hji (by omega))
theorem gm_lit_ofInt (k : Int) : Int32.ofInt k = gm_lit k := by
  cases k with
  | ofNat n => exact Int32.ofInt_eq_ofNat
  | negSucc n =>
    show Int32.ofInt (Int.negSucc n) = -(Int32.ofNat (n + 1))
    rw [Int.negSucc_eq, Int32.ofInt_neg]
    exact congrArg (fun z : Int32 => -z) (Int32.ofInt_eq_ofNat (n := n + 1))
/-- how the addresses that a method began with stay -/
def gm_ag (n0 : Nat) (ad0 ad : Nat → Nat) (h : pH) : Prop := n0 ≤ h.length ∧ (h.length = n0 → ad = ad0) ∧ (∀ i, i < n0 → ad i = ad0 i) ∧ ad 88888 = ad0 88888
section GM
variable {p : Program} {l : Launch} {e : Env} {R : Room} {s : State} {m : MethodId} {args : Array Value} {below : List Frame} {meth : Method} {c : Code} {Q : State → Prop} {dC : Nat → ClassId} {dI : Nat → Nat → Nat} {cy : Nat → ClassId} {A : Nat → Prop} {ad0 : Nat → Nat} {n0 nL : Nat}
/-- the predicate that the machine itself goes back along: from every heap that holds the world h the machine comes to Q -/
def gm_G (p : Program) (l : Launch) (e : Env) (R : Room) (s : State) (m : MethodId) (args : Array Value) (below : List Frame) (meth : Method) (c : Code) (Q : State → Prop) (dC : Nat → ClassId) (dI : Nat → Nat → Nat) (cy : Nat → ClassId) (A : Nat → Prop) (ad0 : Nat → Nat) (n0 nL : Nat) : pG := fun pc ls st h cl sl =>
  (cl ≤ R.cells ∧ sl ≤ R.slots) ∧ ∀ (ad : Nat → Nat) (H : Heap) (locs : List Loc) (lsA : Array Slot), gm_ag n0 ad0 ad h → va_P (dC, dI) vwCl (gm_W cy ad 0 h) H → va_D A (gm_W cy ad 0 h) → va_S A s.heap H locs → gm_hL lsA nL ad ls → W p l e R s m args below meth c H locs cl sl Q (F0 m pc lsA (st.map (gm_v ad)))
variable {pc n : Nat} {ls : pL} {st : List Value} {h : pH} {cl sl : Nat} {cc : ByteArray}
theorem gm_lift {pc2 : Nat} {ls2 : pL} {st2 : List Value} (hG : gm_G p l e R s m args below meth c Q dC dI cy A ad0 n0 nL pc2 ls2 st2 h cl sl)
    (k : ∀ (ad : Nat → Nat) (H : Heap) (locs : List Loc) (lsA : Array Slot), gm_ag n0 ad0 ad h → va_P (dC, dI) vwCl (gm_W cy ad 0 h) H → va_D A (gm_W cy ad 0 h) → va_S A s.heap H locs → gm_hL lsA nL ad ls → (∀ lsB : Array Slot, gm_hL lsB nL ad ls2 → W p l e R s m args below meth c H locs cl sl Q (F0 m pc2 lsB (st2.map (gm_v ad)))) → W p l e R s m args below meth c H locs cl sl Q (F0 m pc lsA (st.map (gm_v ad)))) : gm_G p l e R s m args below meth c Q dC dI cy A ad0 n0 nL pc ls st h cl sl :=
  ⟨hG.1, fun ad H locs lsA h1 h2 h3 h4 h5 => k ad H locs lsA h1 h2 h3 h4 h5 (fun lsB h6 => hG.2 ad H locs lsB h1 h2 h3 h4 h6)⟩
/-- an instruction that leaves locals and heap as they are -/
theorem gm_lift0 {pc2 : Nat} {st2 : List Value} (hG : gm_G p l e R s m args below meth c Q dC dI cy A ad0 n0 nL pc2 ls st2 h cl sl)
    (k : ∀ (ad : Nat → Nat) (H : Heap) (locs : List Loc) (lsA : Array Slot), gm_hL lsA nL ad ls → W p l e R s m args below meth c H locs cl sl Q (F0 m pc2 lsA (st2.map (gm_v ad))) → W p l e R s m args below meth c H locs cl sl Q (F0 m pc lsA (st.map (gm_v ad)))) : gm_G p l e R s m args below meth c Q dC dI cy A ad0 n0 nL pc ls st h cl sl :=
  gm_lift hG (fun ad H locs lsA _ _ _ _ h5 h6 => k ad H locs lsA h5 (h6 lsA h5))

theorem gm_s_iconst {k : Int} (hx : p.tables.exec = Jvm.exec) (hb : c.code = cc) (hd : decode cc pc = .ok (.iconst k, 1)) (h0 : gm_G p l e R s m args below meth c Q dC dI cy A ad0 n0 nL (pc + 1) ls (.int (gm_lit k) :: st) h cl sl) : gm_G p l e R s m args below meth c Q dC dI cy A ad0 n0 nL pc ls st h cl sl :=
  gm_lift0 h0 fun _ _ _ _ _ k => lv_iconst hx hb hd (gm_lit_ofInt _) k
theorem gm_s_bipush {k : Int} (hv : (Int8.ofInt k).toInt32 = gm_lit k) (hx : p.tables.exec = Jvm.exec) (hb : c.code = cc) (hd : decode cc pc = .ok (.bipush k, 2)) (h0 : gm_G p l e R s m args below meth c Q dC dI cy A ad0 n0 nL (pc + 2) ls (.int (gm_lit k) :: st) h cl sl) : gm_G p l e R s m args below meth c Q dC dI cy A ad0 n0 nL pc ls st h cl sl :=
  gm_lift0 h0 fun _ _ _ _ _ k => lv_bipush hx hb hd hv k
theorem gm_s_sipush {k : Int} (hv : (Int16.ofInt k).toInt32 = gm_lit k) (hx : p.tables.exec = Jvm.exec) (hb : c.code = cc) (hd : decode cc pc = .ok (.sipush k, 3)) (h0 : gm_G p l e R s m args below meth c Q dC dI cy A ad0 n0 nL (pc + 3) ls (.int (gm_lit k) :: st) h cl sl) : gm_G p l e R s m args below meth c Q dC dI cy A ad0 n0 nL pc ls st h cl sl :=
  gm_lift0 h0 fun _ _ _ _ _ k => lv_sipush hx hb hd hv k
theorem gm_s_lconst {k : Fin 2} (hx : p.tables.exec = Jvm.exec) (hb : c.code = cc) (hd : decode cc pc = .ok (.lconst k, 1)) (h0 : gm_G p l e R s m args below meth c Q dC dI cy A ad0 n0 nL (pc + 1) ls (.long (OfNat.ofNat k.val) :: st) h cl sl) : gm_G p l e R s m args below meth c Q dC dI cy A ad0 n0 nL pc ls st h cl sl :=
  gm_lift0 h0 fun _ _ _ _ _ k => lv_lconst hx hb hd rfl k
theorem gm_s_fconst0 (hx : p.tables.exec = Jvm.exec) (hb : c.code = cc) (hd : decode cc pc = .ok (.fconst 0, 1)) (h0 : gm_G p l e R s m args below meth c Q dC dI cy A ad0 n0 nL (pc + 1) ls (.float FP.fconst0 :: st) h cl sl) : gm_G p l e R s m args below meth c Q dC dI cy A ad0 n0 nL pc ls st h cl sl :=
  gm_lift0 h0 fun _ _ _ _ _ k => lv_fconst0 hx hb hd k

theorem gm_s_iload_n {k : Fin 4} (hx : p.tables.exec = Jvm.exec) (hb : c.code = cc) (hd : decode cc pc = .ok (.iload_n k, 1)) (h0 : gm_li (gm_nth ls k.val) fun x => gm_G p l e R s m args below meth c Q dC dI cy A ad0 n0 nL (pc + 1) ls (.int x :: st) h cl sl) : gm_G p l e R s m args below meth c Q dC dI cy A ad0 n0 nL pc ls st h cl sl := by
  unfold gm_li at h0
  split at h0
  · rename_i x hq
    exact gm_lift0 h0 fun _ _ _ _ hL k => lv_iload_n hx hb hd rfl (hL.at hq) k
  · exact h0.elim

theorem gm_s_lload_n {k : Fin 4} (hx : p.tables.exec = Jvm.exec) (hb : c.code = cc) (hd : decode cc pc = .ok (.lload_n k, 1)) (h0 : gm_ll (gm_nth ls k.val) fun x => gm_G p l e R s m args below meth c Q dC dI cy A ad0 n0 nL (pc + 1) ls (.long x :: st) h cl sl) : gm_G p l e R s m args below meth c Q dC dI cy A ad0 n0 nL pc ls st h cl sl := by
  unfold gm_ll at h0
  split at h0
  · rename_i x hq
    exact gm_lift0 h0 fun _ _ _ _ hL k => lv_lload_n hx hb hd rfl (hL.at hq) k
  · exact h0.elim

theorem gm_s_aload_n {k : Fin 4} (hx : p.tables.exec = Jvm.exec) (hb : c.code = cc) (hd : decode cc pc = .ok (.aload_n k, 1)) (h0 : gm_la (gm_nth ls k.val) fun x => gm_G p l e R s m args below meth c Q dC dI cy A ad0 n0 nL (pc + 1) ls (.ref x :: st) h cl sl) : gm_G p l e R s m args below meth c Q dC dI cy A ad0 n0 nL pc ls st h cl sl := by
  unfold gm_la at h0
  split at h0
  · rename_i x hq
    exact gm_lift0 h0 fun _ _ _ _ hL k => lv_aload_n hx hb hd rfl (hL.at hq) k
  · exact h0.elim

theorem gm_s_iload {k : Nat} (hx : p.tables.exec = Jvm.exec) (hb : c.code = cc) (hd : decode cc pc = .ok (.iload k, 2)) (h0 : gm_li (gm_nth ls k) fun x => gm_G p l e R s m args below meth c Q dC dI cy A ad0 n0 nL (pc + 2) ls (.int x :: st) h cl sl) : gm_G p l e R s m args below meth c Q dC dI cy A ad0 n0 nL pc ls st h cl sl := by
  unfold gm_li at h0
  split at h0
  · rename_i x hq
    exact gm_lift0 h0 fun _ _ _ _ hL k => lv_iload hx hb hd (hL.at hq) k
  · exact h0.elim

theorem gm_s_lload {k : Nat} (hx : p.tables.exec = Jvm.exec) (hb : c.code = cc) (hd : decode cc pc = .ok (.lload k, 2)) (h0 : gm_ll (gm_nth ls k) fun x => gm_G p l e R s m args below meth c Q dC dI cy A ad0 n0 nL (pc + 2) ls (.long x :: st) h cl sl) : gm_G p l e R s m args below meth c Q dC dI cy A ad0 n0 nL pc ls st h cl sl := by
  unfold gm_ll at h0
  split at h0
  · rename_i x hq
    exact gm_lift0 h0 fun _ _ _ _ hL k => lv_lload hx hb hd (hL.at hq) k
  · exact h0.elim

theorem gm_s_aload {k : Nat} (hx : p.tables.exec = Jvm.exec) (hb : c.code = cc) (hd : decode cc pc = .ok (.aload k, 2)) (h0 : gm_la (gm_nth ls k) fun x => gm_G p l e R s m args below meth c Q dC dI cy A ad0 n0 nL (pc + 2) ls (.ref x :: st) h cl sl) : gm_G p l e R s m args below meth c Q dC dI cy A ad0 n0 nL pc ls st h cl sl := by
  unfold gm_la at h0
  split at h0
  · rename_i x hq
    exact gm_lift0 h0 fun _ _ _ _ hL k => lv_aload hx hb hd (hL.at hq) k
  · exact h0.elim

theorem gm_s_fload {k : Nat} (hx : p.tables.exec = Jvm.exec) (hb : c.code = cc) (hd : decode cc pc = .ok (.fload k, 2)) (h0 : gm_lf (gm_nth ls k) fun x => gm_G p l e R s m args below meth c Q dC dI cy A ad0 n0 nL (pc + 2) ls (.float x :: st) h cl sl) : gm_G p l e R s m args below meth c Q dC dI cy A ad0 n0 nL pc ls st h cl sl := by
  unfold gm_lf at h0
  split at h0
  · rename_i x hq
    exact gm_lift0 h0 fun _ _ _ _ hL k => lv_fload hx hb hd (hL.at hq) k
  · exact h0.elim

theorem gm_s_istore_n {k : Fin 4} (hx : p.tables.exec = Jvm.exec) (hb : c.code = cc) (hd : decode cc pc = .ok (.istore_n k, 1)) (h0 : gm_i1 st fun x r => Nat.blt k.val ls.length = true ∧ gm_G p l e R s m args below meth c Q dC dI cy A ad0 n0 nL (pc + 1) (gm_st1 ls k.val (.int x)) r h cl sl) : gm_G p l e R s m args below meth c Q dC dI cy A ad0 n0 nL pc ls st h cl sl := by
  unfold gm_i1 at h0
  split at h0
  · obtain ⟨h1, h0⟩ := h0
    exact gm_lift h0 fun ad _ _ _ _ _ _ _ hL k => lv_istore_n hx hb hd rfl hL.has (by rw [← hL.2.1]; exact Nat.blt_eq.mp h1) rfl (fun lsB hB => k lsB (hL.st1 (by rw [← hL.2.1]; exact Nat.blt_eq.mp h1) hB))
  · exact h0.elim

theorem gm_s_istore {k : Nat} (hx : p.tables.exec = Jvm.exec) (hb : c.code = cc) (hd : decode cc pc = .ok (.istore k, 2)) (h0 : gm_i1 st fun x r => Nat.blt k ls.length = true ∧ gm_G p l e R s m args below meth c Q dC dI cy A ad0 n0 nL (pc + 2) (gm_st1 ls k (.int x)) r h cl sl) : gm_G p l e R s m args below meth c Q dC dI cy A ad0 n0 nL pc ls st h cl sl := by
  unfold gm_i1 at h0
  split at h0
  · obtain ⟨h1, h0⟩ := h0
    exact gm_lift h0 fun ad _ _ _ _ _ _ _ hL k => lv_istore hx hb hd hL.has (by rw [← hL.2.1]; exact Nat.blt_eq.mp h1) rfl (fun lsB hB => k lsB (hL.st1 (by rw [← hL.2.1]; exact Nat.blt_eq.mp h1) hB))
  · exact h0.elim

theorem gm_s_lstore_n {k : Fin 4} (hx : p.tables.exec = Jvm.exec) (hb : c.code = cc) (hd : decode cc pc = .ok (.lstore_n k, 1)) (h0 : gm_l1 st fun x r => Nat.blt (k.val + 1) ls.length = true ∧ gm_G p l e R s m args below meth c Q dC dI cy A ad0 n0 nL (pc + 1) (gm_st2 ls k.val (.long x)) r h cl sl) : gm_G p l e R s m args below meth c Q dC dI cy A ad0 n0 nL pc ls st h cl sl := by
  unfold gm_l1 at h0
  split at h0
  · obtain ⟨h1, h0⟩ := h0
    exact gm_lift h0 fun ad _ _ _ _ _ _ _ hL k => lv_lstore_n hx hb hd rfl hL.has (by rw [← hL.2.1]; exact Nat.blt_eq.mp h1) rfl (fun lsB hB => k lsB (hL.st2 (by rw [← hL.2.1]; exact Nat.blt_eq.mp h1) hB))
  · exact h0.elim

theorem gm_s_lstore {k : Nat} (hx : p.tables.exec = Jvm.exec) (hb : c.code = cc) (hd : decode cc pc = .ok (.lstore k, 2)) (h0 : gm_l1 st fun x r => Nat.blt (k + 1) ls.length = true ∧ gm_G p l e R s m args below meth c Q dC dI cy A ad0 n0 nL (pc + 2) (gm_st2 ls k (.long x)) r h cl sl) : gm_G p l e R s m args below meth c Q dC dI cy A ad0 n0 nL pc ls st h cl sl := by
  unfold gm_l1 at h0
  split at h0
  · obtain ⟨h1, h0⟩ := h0
    exact gm_lift h0 fun ad _ _ _ _ _ _ _ hL k => lv_lstore hx hb hd hL.has (by rw [← hL.2.1]; exact Nat.blt_eq.mp h1) rfl (fun lsB hB => k lsB (hL.st2 (by rw [← hL.2.1]; exact Nat.blt_eq.mp h1) hB))
  · exact h0.elim

theorem gm_s_astore_n {k : Fin 4} (hx : p.tables.exec = Jvm.exec) (hb : c.code = cc) (hd : decode cc pc = .ok (.astore_n k, 1)) (h0 : gm_sa st fun x r => Nat.blt k.val ls.length = true ∧ gm_G p l e R s m args below meth c Q dC dI cy A ad0 n0 nL (pc + 1) (gm_st1 ls k.val (.ref x)) r h cl sl) : gm_G p l e R s m args below meth c Q dC dI cy A ad0 n0 nL pc ls st h cl sl := by
  unfold gm_sa at h0
  split at h0
  · obtain ⟨h1, h0⟩ := h0
    exact gm_lift h0 fun ad _ _ _ _ _ _ _ hL k => lv_astore_n hx hb hd rfl hL.has (by rw [← hL.2.1]; exact Nat.blt_eq.mp h1) rfl (fun lsB hB => k lsB (hL.st1 (by rw [← hL.2.1]; exact Nat.blt_eq.mp h1) hB))
  · exact h0.elim

theorem gm_s_astore {k : Nat} (hx : p.tables.exec = Jvm.exec) (hb : c.code = cc) (hd : decode cc pc = .ok (.astore k, 2)) (h0 : gm_sa st fun x r => Nat.blt k ls.length = true ∧ gm_G p l e R s m args below meth c Q dC dI cy A ad0 n0 nL (pc + 2) (gm_st1 ls k (.ref x)) r h cl sl) : gm_G p l e R s m args below meth c Q dC dI cy A ad0 n0 nL pc ls st h cl sl := by
  unfold gm_sa at h0
  split at h0
  · obtain ⟨h1, h0⟩ := h0
    exact gm_lift h0 fun ad _ _ _ _ _ _ _ hL k => lv_astore hx hb hd hL.has (by rw [← hL.2.1]; exact Nat.blt_eq.mp h1) rfl (fun lsB hB => k lsB (hL.st1 (by rw [← hL.2.1]; exact Nat.blt_eq.mp h1) hB))
  · exact h0.elim

theorem gm_s_fstore {k : Nat} (hx : p.tables.exec = Jvm.exec) (hb : c.code = cc) (hd : decode cc pc = .ok (.fstore k, 2)) (h0 : gm_sf st fun x r => Nat.blt k ls.length = true ∧ gm_G p l e R s m args below meth c Q dC dI cy A ad0 n0 nL (pc + 2) (gm_st1 ls k (.float x)) r h cl sl) : gm_G p l e R s m args below meth c Q dC dI cy A ad0 n0 nL pc ls st h cl sl := by
  unfold gm_sf at h0
  split at h0
  · obtain ⟨h1, h0⟩ := h0
    exact gm_lift h0 fun ad _ _ _ _ _ _ _ hL k => lv_fstore hx hb hd hL.has (by rw [← hL.2.1]; exact Nat.blt_eq.mp h1) rfl (fun lsB hB => k lsB (hL.st1 (by rw [← hL.2.1]; exact Nat.blt_eq.mp h1) hB))
  · exact h0.elim

theorem gm_s_iinc {k : Nat} {d : Int} (hx : p.tables.exec = Jvm.exec) (hb : c.code = cc) (hd : decode cc pc = .ok (.iinc k d, 3)) (h0 : gm_li (gm_nth ls k) fun x => gm_G p l e R s m args below meth c Q dC dI cy A ad0 n0 nL (pc + 3) (gm_st1 ls k (.int (x + gm_lit d))) st h cl sl) : gm_G p l e R s m args below meth c Q dC dI cy A ad0 n0 nL pc ls st h cl sl := by
  unfold gm_li at h0
  split at h0
  · rename_i x hq
    have hk : k < ls.length := by
      rw [gm_nth_some] at hq
      exact (List.getElem?_eq_some_iff.mp hq).1
    refine gm_lift h0 fun ad _ _ _ _ _ _ _ hL k2 => ?_
    obtain ⟨j, hj⟩ := List.getElem?_of_mem ((gm_lv_mem ad ls 0 (k, .int x)).mpr ⟨k, .int x, by rw [← gm_nth_some]; exact hq, by simp [gm_v]⟩)
    exact lv_iinc hx hb hd hL.has hj (by rw [gm_lit_ofInt]) (by rw [← hL.2.1]; exact hk) rfl (fun lsB hB => k2 lsB (hL.st1 (by rw [← hL.2.1]; exact hk) hB))
  · exact h0.elim

theorem gm_s_iadd (hx : p.tables.exec = Jvm.exec) (hb : c.code = cc) (hd : decode cc pc = .ok (.iadd, 1)) (h0 : gm_i2 st fun x y r => gm_G p l e R s m args below meth c Q dC dI cy A ad0 n0 nL (pc + 1) ls (.int (x + y) :: r) h cl sl) : gm_G p l e R s m args below meth c Q dC dI cy A ad0 n0 nL pc ls st h cl sl := by
  unfold gm_i2 at h0
  split at h0
  · exact gm_lift0 h0 fun _ _ _ _ _ k => lv_iadd hx hb hd k
  · exact h0.elim

theorem gm_s_isub (hx : p.tables.exec = Jvm.exec) (hb : c.code = cc) (hd : decode cc pc = .ok (.isub, 1)) (h0 : gm_i2 st fun x y r => gm_G p l e R s m args below meth c Q dC dI cy A ad0 n0 nL (pc + 1) ls (.int (x - y) :: r) h cl sl) : gm_G p l e R s m args below meth c Q dC dI cy A ad0 n0 nL pc ls st h cl sl := by
  unfold gm_i2 at h0
  split at h0
  · exact gm_lift0 h0 fun _ _ _ _ _ k => lv_isub hx hb hd k
  · exact h0.elim

theorem gm_s_imul (hx : p.tables.exec = Jvm.exec) (hb : c.code = cc) (hd : decode cc pc = .ok (.imul, 1)) (h0 : gm_i2 st fun x y r => gm_G p l e R s m args below meth c Q dC dI cy A ad0 n0 nL (pc + 1) ls (.int (x * y) :: r) h cl sl) : gm_G p l e R s m args below meth c Q dC dI cy A ad0 n0 nL pc ls st h cl sl := by
  unfold gm_i2 at h0
  split at h0
  · exact gm_lift0 h0 fun _ _ _ _ _ k => lv_imul hx hb hd k
  · exact h0.elim

theorem gm_s_iand (hx : p.tables.exec = Jvm.exec) (hb : c.code = cc) (hd : decode cc pc = .ok (.iand, 1)) (h0 : gm_i2 st fun x y r => gm_G p l e R s m args below meth c Q dC dI cy A ad0 n0 nL (pc + 1) ls (.int (x &&& y) :: r) h cl sl) : gm_G p l e R s m args below meth c Q dC dI cy A ad0 n0 nL pc ls st h cl sl := by
  unfold gm_i2 at h0
  split at h0
  · exact gm_lift0 h0 fun _ _ _ _ _ k => lv_iand hx hb hd k
  · exact h0.elim

theorem gm_s_ior (hx : p.tables.exec = Jvm.exec) (hb : c.code = cc) (hd : decode cc pc = .ok (.ior, 1)) (h0 : gm_i2 st fun x y r => gm_G p l e R s m args below meth c Q dC dI cy A ad0 n0 nL (pc + 1) ls (.int (x ||| y) :: r) h cl sl) : gm_G p l e R s m args below meth c Q dC dI cy A ad0 n0 nL pc ls st h cl sl := by
  unfold gm_i2 at h0
  split at h0
  · exact gm_lift0 h0 fun _ _ _ _ _ k => lv_ior hx hb hd k
  · exact h0.elim

theorem gm_s_ixor (hx : p.tables.exec = Jvm.exec) (hb : c.code = cc) (hd : decode cc pc = .ok (.ixor, 1)) (h0 : gm_i2 st fun x y r => gm_G p l e R s m args below meth c Q dC dI cy A ad0 n0 nL (pc + 1) ls (.int (x ^^^ y) :: r) h cl sl) : gm_G p l e R s m args below meth c Q dC dI cy A ad0 n0 nL pc ls st h cl sl := by
  unfold gm_i2 at h0
  split at h0
  · exact gm_lift0 h0 fun _ _ _ _ _ k => lv_ixor hx hb hd k
  · exact h0.elim

theorem gm_s_ishl (hx : p.tables.exec = Jvm.exec) (hb : c.code = cc) (hd : decode cc pc = .ok (.ishl, 1)) (h0 : gm_i2 st fun x y r => gm_G p l e R s m args below meth c Q dC dI cy A ad0 n0 nL (pc + 1) ls (.int (x <<< (y &&& 31)) :: r) h cl sl) : gm_G p l e R s m args below meth c Q dC dI cy A ad0 n0 nL pc ls st h cl sl := by
  unfold gm_i2 at h0
  split at h0
  · exact gm_lift0 h0 fun _ _ _ _ _ k => lv_ishl hx hb hd k
  · exact h0.elim

theorem gm_s_ishr (hx : p.tables.exec = Jvm.exec) (hb : c.code = cc) (hd : decode cc pc = .ok (.ishr, 1)) (h0 : gm_i2 st fun x y r => gm_G p l e R s m args below meth c Q dC dI cy A ad0 n0 nL (pc + 1) ls (.int (x >>> (y &&& 31)) :: r) h cl sl) : gm_G p l e R s m args below meth c Q dC dI cy A ad0 n0 nL pc ls st h cl sl := by
  unfold gm_i2 at h0
  split at h0
  · exact gm_lift0 h0 fun _ _ _ _ _ k => lv_ishr hx hb hd k
  · exact h0.elim

theorem gm_s_iushr (hx : p.tables.exec = Jvm.exec) (hb : c.code = cc) (hd : decode cc pc = .ok (.iushr, 1)) (h0 : gm_i2 st fun x y r => gm_G p l e R s m args below meth c Q dC dI cy A ad0 n0 nL (pc + 1) ls (.int ((x.toUInt32 >>> (y.toUInt32 &&& Int32.toUInt32 31)).toInt32) :: r) h cl sl) : gm_G p l e R s m args below meth c Q dC dI cy A ad0 n0 nL pc ls st h cl sl := by
  unfold gm_i2 at h0
  split at h0
  · exact gm_lift0 h0 fun _ _ _ _ _ k => lv_iushr hx hb hd rfl k
  · exact h0.elim

theorem gm_s_idiv (hx : p.tables.exec = Jvm.exec) (hb : c.code = cc) (hd : decode cc pc = .ok (.idiv, 1)) (h0 : gm_i2 st fun x y r => ¬ y = 0 ∧ gm_G p l e R s m args below meth c Q dC dI cy A ad0 n0 nL (pc + 1) ls (.int (x / y) :: r) h cl sl) : gm_G p l e R s m args below meth c Q dC dI cy A ad0 n0 nL pc ls st h cl sl := by
  unfold gm_i2 at h0
  split at h0
  · exact gm_lift0 h0.2 fun _ _ _ _ _ k => lv_idiv hx hb hd h0.1 k
  · exact h0.elim

theorem gm_s_irem (hx : p.tables.exec = Jvm.exec) (hb : c.code = cc) (hd : decode cc pc = .ok (.irem, 1)) (h0 : gm_i2 st fun x y r => ¬ y = 0 ∧ gm_G p l e R s m args below meth c Q dC dI cy A ad0 n0 nL (pc + 1) ls (.int (x - x / y * y) :: r) h cl sl) : gm_G p l e R s m args below meth c Q dC dI cy A ad0 n0 nL pc ls st h cl sl := by
  unfold gm_i2 at h0
  split at h0
  · exact gm_lift0 h0.2 fun _ _ _ _ _ k => lv_irem hx hb hd h0.1 k
  · exact h0.elim

theorem gm_s_ladd (hx : p.tables.exec = Jvm.exec) (hb : c.code = cc) (hd : decode cc pc = .ok (.ladd, 1)) (h0 : gm_l2 st fun x y r => gm_G p l e R s m args below meth c Q dC dI cy A ad0 n0 nL (pc + 1) ls (.long (x + y) :: r) h cl sl) : gm_G p l e R s m args below meth c Q dC dI cy A ad0 n0 nL pc ls st h cl sl := by
  unfold gm_l2 at h0
  split at h0
  · exact gm_lift0 h0 fun _ _ _ _ _ k => lv_ladd hx hb hd k
  · exact h0.elim

theorem gm_s_lmul (hx : p.tables.exec = Jvm.exec) (hb : c.code = cc) (hd : decode cc pc = .ok (.lmul, 1)) (h0 : gm_l2 st fun x y r => gm_G p l e R s m args below meth c Q dC dI cy A ad0 n0 nL (pc + 1) ls (.long (x * y) :: r) h cl sl) : gm_G p l e R s m args below meth c Q dC dI cy A ad0 n0 nL pc ls st h cl sl := by
  unfold gm_l2 at h0
  split at h0
  · exact gm_lift0 h0 fun _ _ _ _ _ k => lv_lmul hx hb hd k
  · exact h0.elim

theorem gm_s_lcmp (hx : p.tables.exec = Jvm.exec) (hb : c.code = cc) (hd : decode cc pc = .ok (.lcmp, 1)) (h0 : gm_l2 st fun x y r => gm_G p l e R s m args below meth c Q dC dI cy A ad0 n0 nL (pc + 1) ls (.int (lg_cmp x y) :: r) h cl sl) : gm_G p l e R s m args below meth c Q dC dI cy A ad0 n0 nL pc ls st h cl sl := by
  unfold gm_l2 at h0
  split at h0
  · exact gm_lift0 h0 fun _ _ _ _ _ k => W.lcmp hx hb hd k
  · exact h0.elim

theorem gm_s_ineg (hx : p.tables.exec = Jvm.exec) (hb : c.code = cc) (hd : decode cc pc = .ok (.ineg, 1)) (h0 : gm_i1 st fun x r => gm_G p l e R s m args below meth c Q dC dI cy A ad0 n0 nL (pc + 1) ls (.int (-x) :: r) h cl sl) : gm_G p l e R s m args below meth c Q dC dI cy A ad0 n0 nL pc ls st h cl sl := by
  unfold gm_i1 at h0
  split at h0
  · exact gm_lift0 h0 fun _ _ _ _ _ k => lv_ineg hx hb hd k
  · exact h0.elim

theorem gm_s_lneg (hx : p.tables.exec = Jvm.exec) (hb : c.code = cc) (hd : decode cc pc = .ok (.lneg, 1)) (h0 : gm_l1 st fun x r => gm_G p l e R s m args below meth c Q dC dI cy A ad0 n0 nL (pc + 1) ls (.long (-x) :: r) h cl sl) : gm_G p l e R s m args below meth c Q dC dI cy A ad0 n0 nL pc ls st h cl sl := by
  unfold gm_l1 at h0
  split at h0
  · exact gm_lift0 h0 fun _ _ _ _ _ k => lv_lneg hx hb hd k
  · exact h0.elim

theorem gm_s_i2l (hx : p.tables.exec = Jvm.exec) (hb : c.code = cc) (hd : decode cc pc = .ok (.i2l, 1)) (h0 : gm_i1 st fun x r => gm_G p l e R s m args below meth c Q dC dI cy A ad0 n0 nL (pc + 1) ls (.long x.toInt64 :: r) h cl sl) : gm_G p l e R s m args below meth c Q dC dI cy A ad0 n0 nL pc ls st h cl sl := by
  unfold gm_i1 at h0
  split at h0
  · exact gm_lift0 h0 fun _ _ _ _ _ k => lv_i2l hx hb hd rfl k
  · exact h0.elim

theorem gm_s_i2c (hx : p.tables.exec = Jvm.exec) (hb : c.code = cc) (hd : decode cc pc = .ok (.i2c, 1)) (h0 : gm_i1 st fun x r => gm_G p l e R s m args below meth c Q dC dI cy A ad0 n0 nL (pc + 1) ls (.int (x.toUInt32 % 65536).toInt32 :: r) h cl sl) : gm_G p l e R s m args below meth c Q dC dI cy A ad0 n0 nL pc ls st h cl sl := by
  unfold gm_i1 at h0
  split at h0
  · exact gm_lift0 h0 fun _ _ _ _ _ k => lv_i2c hx hb hd rfl k
  · exact h0.elim

theorem gm_s_i2f (hx : p.tables.exec = Jvm.exec) (hb : c.code = cc) (hd : decode cc pc = .ok (.i2f, 1)) (h0 : gm_i1 st fun x r => gm_G p l e R s m args below meth c Q dC dI cy A ad0 n0 nL (pc + 1) ls (.float (FP.i2f x) :: r) h cl sl) : gm_G p l e R s m args below meth c Q dC dI cy A ad0 n0 nL pc ls st h cl sl := by
  unfold gm_i1 at h0
  split at h0
  · exact gm_lift0 h0 fun _ _ _ _ _ k => lv_i2f hx hb hd k
  · exact h0.elim

theorem gm_s_f2d (hx : p.tables.exec = Jvm.exec) (hb : c.code = cc) (hd : decode cc pc = .ok (.f2d, 1)) (h0 : gm_sf st fun x r => vf_n64 (FP.f2d x) ∧ gm_G p l e R s m args below meth c Q dC dI cy A ad0 n0 nL (pc + 1) ls (.double (FP.f2d x) :: r) h cl sl) : gm_G p l e R s m args below meth c Q dC dI cy A ad0 n0 nL pc ls st h cl sl := by
  unfold gm_sf at h0
  split at h0
  · exact gm_lift0 h0.2 fun _ _ _ _ _ k => lv_f2d hx hb hd h0.1 k
  · exact h0.elim
theorem gm_s_fdiv {x y : UInt32} {r : List Value} (hx : p.tables.exec = Jvm.exec) (hb : c.code = cc) (hd : decode cc pc = .ok (.fdiv, 1)) (h0 : vf_n32 (FP.fdiv x y) ∧ gm_G p l e R s m args below meth c Q dC dI cy A ad0 n0 nL (pc + 1) ls (.float (FP.fdiv x y) :: r) h cl sl) : gm_G p l e R s m args below meth c Q dC dI cy A ad0 n0 nL pc ls (.float y :: .float x :: r) h cl sl :=
  gm_lift0 h0.2 fun _ _ _ _ _ k => lv_fdiv hx hb hd h0.1 k
theorem gm_s_fcmp {x y : UInt32} {r : List Value} {op : CmpOp} (hx : p.tables.exec = Jvm.exec) (hb : c.code = cc) (hd : decode cc pc = .ok (.fcmp op, 1)) (h0 : gm_G p l e R s m args below meth c Q dC dI cy A ad0 n0 nL (pc + 1) ls (.int (Op.cmpValue (FP.fcmp x y) op) :: r) h cl sl) : gm_G p l e R s m args below meth c Q dC dI cy A ad0 n0 nL pc ls (.float y :: .float x :: r) h cl sl :=
  gm_lift0 h0 fun _ _ _ _ _ k => lv_fcmp hx hb hd k
theorem gm_s_dcmp {x y : UInt64} {r : List Value} {op : CmpOp} (hx : p.tables.exec = Jvm.exec) (hb : c.code = cc) (hd : decode cc pc = .ok (.dcmp op, 1)) (h0 : gm_G p l e R s m args below meth c Q dC dI cy A ad0 n0 nL (pc + 1) ls (.int (Op.cmpValue (FP.dcmp x y) op) :: r) h cl sl) : gm_G p l e R s m args below meth c Q dC dI cy A ad0 n0 nL pc ls (.double y :: .double x :: r) h cl sl :=
  gm_lift0 h0 fun _ _ _ _ _ k => lv_dcmp hx hb hd k
theorem gm_c1_cat (ad : Nat → Nat) {v : Value} (h : gm_c1 v) : (gm_v ad v).category = 1 := by
  cases v <;> first | rfl | exact h.elim
theorem gm_s_dup {v : Value} {r : List Value} (hx : p.tables.exec = Jvm.exec) (hb : c.code = cc) (hd : decode cc pc = .ok (.dup, 1)) (h0 : gm_c1 v ∧ gm_G p l e R s m args below meth c Q dC dI cy A ad0 n0 nL (pc + 1) ls (v :: v :: r) h cl sl) : gm_G p l e R s m args below meth c Q dC dI cy A ad0 n0 nL pc ls (v :: r) h cl sl :=
  gm_lift0 h0.2 fun ad _ _ _ _ k => lv_dup hx hb hd (gm_c1_cat ad h0.1) k
theorem gm_s_dup_x1 {v w : Value} {r : List Value} (hx : p.tables.exec = Jvm.exec) (hb : c.code = cc) (hd : decode cc pc = .ok (.dup_x1, 1)) (h0 : gm_c1 v ∧ gm_c1 w ∧ gm_G p l e R s m args below meth c Q dC dI cy A ad0 n0 nL (pc + 1) ls (v :: w :: v :: r) h cl sl) : gm_G p l e R s m args below meth c Q dC dI cy A ad0 n0 nL pc ls (v :: w :: r) h cl sl :=
  gm_lift0 h0.2.2 fun ad _ _ _ _ k => lv_dup_x1 hx hb hd (gm_c1_cat ad h0.1) (gm_c1_cat ad h0.2.1) k
theorem gm_s_dup2 {v w : Value} {r : List Value} (hx : p.tables.exec = Jvm.exec) (hb : c.code = cc) (hd : decode cc pc = .ok (.dup2, 1)) (h0 : gm_c1 v ∧ gm_c1 w ∧ gm_G p l e R s m args below meth c Q dC dI cy A ad0 n0 nL (pc + 1) ls (v :: w :: v :: w :: r) h cl sl) : gm_G p l e R s m args below meth c Q dC dI cy A ad0 n0 nL pc ls (v :: w :: r) h cl sl :=
  gm_lift0 h0.2.2 fun ad _ _ _ _ k => lv_dup2_11 hx hb hd (gm_c1_cat ad h0.1) (gm_c1_cat ad h0.2.1) k
theorem gm_s_pop {v : Value} {r : List Value} (hx : p.tables.exec = Jvm.exec) (hb : c.code = cc) (hd : decode cc pc = .ok (.pop, 1)) (h0 : gm_c1 v ∧ gm_G p l e R s m args below meth c Q dC dI cy A ad0 n0 nL (pc + 1) ls r h cl sl) : gm_G p l e R s m args below meth c Q dC dI cy A ad0 n0 nL pc ls (v :: r) h cl sl :=
  gm_lift0 h0.2 fun ad _ _ _ _ k => lv_pop hx hb hd (gm_c1_cat ad h0.1) k
theorem gm_jmp_of {o : Int} {f : Nat → Prop} (h : gm_jmp pc o f) : ∃ t : Nat, (pc : Int) + o = (t : Int) ∧ f t := by
  unfold gm_jmp at h
  split at h
  · rename_i t ht
    exact ⟨t, ht, h⟩
  · exact h.elim
theorem gm_s_goto {o : Int} (hx : p.tables.exec = Jvm.exec) (hb : c.code = cc) (hd : decode cc pc = .ok (.goto o, 3)) (h0 : gm_jmp pc o fun t => gm_G p l e R s m args below meth c Q dC dI cy A ad0 n0 nL t ls st h cl sl) : gm_G p l e R s m args below meth c Q dC dI cy A ad0 n0 nL pc ls st h cl sl := by
  obtain ⟨t, ht, h0⟩ := gm_jmp_of h0
  exact gm_lift0 h0 fun _ _ _ _ _ k => lv_goto hx hb hd ht k

theorem gm_s_if_eq {x : Int32} {r : List Value} {o : Int} (hx : p.tables.exec = Jvm.exec) (hb : c.code = cc) (hd : decode cc pc = .ok (.ifCond .eq o, 3)) (h0 : gm_jmp pc o fun t => (gm_ic .eq x 0 → gm_G p l e R s m args below meth c Q dC dI cy A ad0 n0 nL t ls r h cl sl) ∧ (¬ gm_ic .eq x 0 → gm_G p l e R s m args below meth c Q dC dI cy A ad0 n0 nL (pc + 3) ls r h cl sl)) : gm_G p l e R s m args below meth c Q dC dI cy A ad0 n0 nL pc ls (.int x :: r) h cl sl := by
  obtain ⟨t, ht, h1, h2⟩ := gm_jmp_of h0
  by_cases hc : gm_ic .eq x 0
  · exact gm_lift0 (h1 hc) fun _ _ _ _ _ k => lv_if_eq hx hb hd ht (fun _ => k) (fun z => absurd hc z)
  · exact gm_lift0 (h2 hc) fun _ _ _ _ _ k => lv_if_eq hx hb hd ht (fun z => absurd z hc) (fun _ => k)
theorem gm_s_icmp_eq {x y : Int32} {r : List Value} {o : Int} (hx : p.tables.exec = Jvm.exec) (hb : c.code = cc) (hd : decode cc pc = .ok (.if_icmp .eq o, 3)) (h0 : gm_jmp pc o fun t => (gm_ic .eq x y → gm_G p l e R s m args below meth c Q dC dI cy A ad0 n0 nL t ls r h cl sl) ∧ (¬ gm_ic .eq x y → gm_G p l e R s m args below meth c Q dC dI cy A ad0 n0 nL (pc + 3) ls r h cl sl)) : gm_G p l e R s m args below meth c Q dC dI cy A ad0 n0 nL pc ls (.int y :: .int x :: r) h cl sl := by
  obtain ⟨t, ht, h1, h2⟩ := gm_jmp_of h0
  by_cases hc : gm_ic .eq x y
  · exact gm_lift0 (h1 hc) fun _ _ _ _ _ k => lv_icmp_eq hx hb hd ht (fun _ => k) (fun z => absurd hc z)
  · exact gm_lift0 (h2 hc) fun _ _ _ _ _ k => lv_icmp_eq hx hb hd ht (fun z => absurd z hc) (fun _ => k)

theorem gm_s_if_ne {x : Int32} {r : List Value} {o : Int} (hx : p.tables.exec = Jvm.exec) (hb : c.code = cc) (hd : decode cc pc = .ok (.ifCond .ne o, 3)) (h0 : gm_jmp pc o fun t => (gm_ic .ne x 0 → gm_G p l e R s m args below meth c Q dC dI cy A ad0 n0 nL t ls r h cl sl) ∧ (¬ gm_ic .ne x 0 → gm_G p l e R s m args below meth c Q dC dI cy A ad0 n0 nL (pc + 3) ls r h cl sl)) : gm_G p l e R s m args below meth c Q dC dI cy A ad0 n0 nL pc ls (.int x :: r) h cl sl := by
  obtain ⟨t, ht, h1, h2⟩ := gm_jmp_of h0
  by_cases hc : gm_ic .ne x 0
  · exact gm_lift0 (h1 hc) fun _ _ _ _ _ k => lv_if_ne hx hb hd ht (fun _ => k) (fun z => absurd z hc)
  · exact gm_lift0 (h2 hc) fun _ _ _ _ _ k => lv_if_ne hx hb hd ht (fun z => absurd z hc) (fun _ => k)
theorem gm_s_icmp_ne {x y : Int32} {r : List Value} {o : Int} (hx : p.tables.exec = Jvm.exec) (hb : c.code = cc) (hd : decode cc pc = .ok (.if_icmp .ne o, 3)) (h0 : gm_jmp pc o fun t => (gm_ic .ne x y → gm_G p l e R s m args below meth c Q dC dI cy A ad0 n0 nL t ls r h cl sl) ∧ (¬ gm_ic .ne x y → gm_G p l e R s m args below meth c Q dC dI cy A ad0 n0 nL (pc + 3) ls r h cl sl)) : gm_G p l e R s m args below meth c Q dC dI cy A ad0 n0 nL pc ls (.int y :: .int x :: r) h cl sl := by
  obtain ⟨t, ht, h1, h2⟩ := gm_jmp_of h0
  by_cases hc : gm_ic .ne x y
  · exact gm_lift0 (h1 hc) fun _ _ _ _ _ k => lv_icmp_ne hx hb hd ht (fun _ => k) (fun z => absurd z hc)
  · exact gm_lift0 (h2 hc) fun _ _ _ _ _ k => lv_icmp_ne hx hb hd ht (fun z => absurd z hc) (fun _ => k)

theorem gm_s_if_lt {x : Int32} {r : List Value} {o : Int} (hx : p.tables.exec = Jvm.exec) (hb : c.code = cc) (hd : decode cc pc = .ok (.ifCond .lt o, 3)) (h0 : gm_jmp pc o fun t => (gm_ic .lt x 0 → gm_G p l e R s m args below meth c Q dC dI cy A ad0 n0 nL t ls r h cl sl) ∧ (¬ gm_ic .lt x 0 → gm_G p l e R s m args below meth c Q dC dI cy A ad0 n0 nL (pc + 3) ls r h cl sl)) : gm_G p l e R s m args below meth c Q dC dI cy A ad0 n0 nL pc ls (.int x :: r) h cl sl := by
  obtain ⟨t, ht, h1, h2⟩ := gm_jmp_of h0
  by_cases hc : gm_ic .lt x 0
  · exact gm_lift0 (h1 hc) fun _ _ _ _ _ k => lv_if_lt hx hb hd ht (fun _ => k) (fun z => absurd hc z)
  · exact gm_lift0 (h2 hc) fun _ _ _ _ _ k => lv_if_lt hx hb hd ht (fun z => absurd z hc) (fun _ => k)
theorem gm_s_icmp_lt {x y : Int32} {r : List Value} {o : Int} (hx : p.tables.exec = Jvm.exec) (hb : c.code = cc) (hd : decode cc pc = .ok (.if_icmp .lt o, 3)) (h0 : gm_jmp pc o fun t => (gm_ic .lt x y → gm_G p l e R s m args below meth c Q dC dI cy A ad0 n0 nL t ls r h cl sl) ∧ (¬ gm_ic .lt x y → gm_G p l e R s m args below meth c Q dC dI cy A ad0 n0 nL (pc + 3) ls r h cl sl)) : gm_G p l e R s m args below meth c Q dC dI cy A ad0 n0 nL pc ls (.int y :: .int x :: r) h cl sl := by
  obtain ⟨t, ht, h1, h2⟩ := gm_jmp_of h0
  by_cases hc : gm_ic .lt x y
  · exact gm_lift0 (h1 hc) fun _ _ _ _ _ k => lv_icmp_lt hx hb hd ht (fun _ => k) (fun z => absurd hc z)
  · exact gm_lift0 (h2 hc) fun _ _ _ _ _ k => lv_icmp_lt hx hb hd ht (fun z => absurd z hc) (fun _ => k)

theorem gm_s_if_ge {x : Int32} {r : List Value} {o : Int} (hx : p.tables.exec = Jvm.exec) (hb : c.code = cc) (hd : decode cc pc = .ok (.ifCond .ge o, 3)) (h0 : gm_jmp pc o fun t => (gm_ic .ge x 0 → gm_G p l e R s m args below meth c Q dC dI cy A ad0 n0 nL t ls r h cl sl) ∧ (¬ gm_ic .ge x 0 → gm_G p l e R s m args below meth c Q dC dI cy A ad0 n0 nL (pc + 3) ls r h cl sl)) : gm_G p l e R s m args below meth c Q dC dI cy A ad0 n0 nL pc ls (.int x :: r) h cl sl := by
  obtain ⟨t, ht, h1, h2⟩ := gm_jmp_of h0
  by_cases hc : gm_ic .ge x 0
  · exact gm_lift0 (h1 hc) fun _ _ _ _ _ k => lv_if_ge hx hb hd ht (fun _ => k) (fun z => absurd hc z)
  · exact gm_lift0 (h2 hc) fun _ _ _ _ _ k => lv_if_ge hx hb hd ht (fun z => absurd z hc) (fun _ => k)
theorem gm_s_icmp_ge {x y : Int32} {r : List Value} {o : Int} (hx : p.tables.exec = Jvm.exec) (hb : c.code = cc) (hd : decode cc pc = .ok (.if_icmp .ge o, 3)) (h0 : gm_jmp pc o fun t => (gm_ic .ge x y → gm_G p l e R s m args below meth c Q dC dI cy A ad0 n0 nL t ls r h cl sl) ∧ (¬ gm_ic .ge x y → gm_G p l e R s m args below meth c Q dC dI cy A ad0 n0 nL (pc + 3) ls r h cl sl)) : gm_G p l e R s m args below meth c Q dC dI cy A ad0 n0 nL pc ls (.int y :: .int x :: r) h cl sl := by
  obtain ⟨t, ht, h1, h2⟩ := gm_jmp_of h0
  by_cases hc : gm_ic .ge x y
  · exact gm_lift0 (h1 hc) fun _ _ _ _ _ k => lv_icmp_ge hx hb hd ht (fun _ => k) (fun z => absurd hc z)
  · exact gm_lift0 (h2 hc) fun _ _ _ _ _ k => lv_icmp_ge hx hb hd ht (fun z => absurd z hc) (fun _ => k)

theorem gm_s_if_gt {x : Int32} {r : List Value} {o : Int} (hx : p.tables.exec = Jvm.exec) (hb : c.code = cc) (hd : decode cc pc = .ok (.ifCond .gt o, 3)) (h0 : gm_jmp pc o fun t => (gm_ic .gt x 0 → gm_G p l e R s m args below meth c Q dC dI cy A ad0 n0 nL t ls r h cl sl) ∧ (¬ gm_ic .gt x 0 → gm_G p l e R s m args below meth c Q dC dI cy A ad0 n0 nL (pc + 3) ls r h cl sl)) : gm_G p l e R s m args below meth c Q dC dI cy A ad0 n0 nL pc ls (.int x :: r) h cl sl := by
  obtain ⟨t, ht, h1, h2⟩ := gm_jmp_of h0
  by_cases hc : gm_ic .gt x 0
  · exact gm_lift0 (h1 hc) fun _ _ _ _ _ k => lv_if_gt hx hb hd ht (fun _ => k) (fun z => absurd hc z)
  · exact gm_lift0 (h2 hc) fun _ _ _ _ _ k => lv_if_gt hx hb hd ht (fun z => absurd z hc) (fun _ => k)
theorem gm_s_icmp_gt {x y : Int32} {r : List Value} {o : Int} (hx : p.tables.exec = Jvm.exec) (hb : c.code = cc) (hd : decode cc pc = .ok (.if_icmp .gt o, 3)) (h0 : gm_jmp pc o fun t => (gm_ic .gt x y → gm_G p l e R s m args below meth c Q dC dI cy A ad0 n0 nL t ls r h cl sl) ∧ (¬ gm_ic .gt x y → gm_G p l e R s m args below meth c Q dC dI cy A ad0 n0 nL (pc + 3) ls r h cl sl)) : gm_G p l e R s m args below meth c Q dC dI cy A ad0 n0 nL pc ls (.int y :: .int x :: r) h cl sl := by
  obtain ⟨t, ht, h1, h2⟩ := gm_jmp_of h0
  by_cases hc : gm_ic .gt x y
  · exact gm_lift0 (h1 hc) fun _ _ _ _ _ k => lv_icmp_gt hx hb hd ht (fun _ => k) (fun z => absurd hc z)
  · exact gm_lift0 (h2 hc) fun _ _ _ _ _ k => lv_icmp_gt hx hb hd ht (fun z => absurd z hc) (fun _ => k)

theorem gm_s_if_le {x : Int32} {r : List Value} {o : Int} (hx : p.tables.exec = Jvm.exec) (hb : c.code = cc) (hd : decode cc pc = .ok (.ifCond .le o, 3)) (h0 : gm_jmp pc o fun t => (gm_ic .le x 0 → gm_G p l e R s m args below meth c Q dC dI cy A ad0 n0 nL t ls r h cl sl) ∧ (¬ gm_ic .le x 0 → gm_G p l e R s m args below meth c Q dC dI cy A ad0 n0 nL (pc + 3) ls r h cl sl)) : gm_G p l e R s m args below meth c Q dC dI cy A ad0 n0 nL pc ls (.int x :: r) h cl sl := by
  obtain ⟨t, ht, h1, h2⟩ := gm_jmp_of h0
  by_cases hc : gm_ic .le x 0
  · exact gm_lift0 (h1 hc) fun _ _ _ _ _ k => lv_if_le hx hb hd ht (fun _ => k) (fun z => absurd hc z)
  · exact gm_lift0 (h2 hc) fun _ _ _ _ _ k => lv_if_le hx hb hd ht (fun z => absurd z hc) (fun _ => k)
theorem gm_s_icmp_le {x y : Int32} {r : List Value} {o : Int} (hx : p.tables.exec = Jvm.exec) (hb : c.code = cc) (hd : decode cc pc = .ok (.if_icmp .le o, 3)) (h0 : gm_jmp pc o fun t => (gm_ic .le x y → gm_G p l e R s m args below meth c Q dC dI cy A ad0 n0 nL t ls r h cl sl) ∧ (¬ gm_ic .le x y → gm_G p l e R s m args below meth c Q dC dI cy A ad0 n0 nL (pc + 3) ls r h cl sl)) : gm_G p l e R s m args below meth c Q dC dI cy A ad0 n0 nL pc ls (.int y :: .int x :: r) h cl sl := by
  obtain ⟨t, ht, h1, h2⟩ := gm_jmp_of h0
  by_cases hc : gm_ic .le x y
  · exact gm_lift0 (h1 hc) fun _ _ _ _ _ k => lv_icmp_le hx hb hd ht (fun _ => k) (fun z => absurd hc z)
  · exact gm_lift0 (h2 hc) fun _ _ _ _ _ k => lv_icmp_le hx hb hd ht (fun z => absurd z hc) (fun _ => k)

end GM
end
section
/-! SOUNDNESS, 2: switches, fields, arrays, what is made, calls -/
def gm_U : List Cond := lw_tbl.filter goodWord
theorem gm_U_in {w : Cond} (h : w ∈ lw_tbl) (hg : goodWord w = true) : w ∈ gm_U := List.mem_filter.mpr ⟨h, hg⟩
theorem gm_U_good {ws : List Cond} (h : ∀ w ∈ ws, w ∈ gm_U) : GoodIn gm_U ws := fun w hw => ⟨h w hw, good_of_word (List.mem_filter.mp (h w hw)).2⟩
def gm_tyf (ci j : Nat) : FieldType := match ci with
  | 0 => tyX0 j
  | 1 => tyX1 j
  | 2 => tyX2 j
  | 3 => tyX3 j
  | 4 => tyX4 j
  | 5 => tyX5 j
  | 6 => tyX6 j
  | _ => tyX7 j
def gm_tys (cy : Nat → ClassId) : List (ClassId × FieldType) := [(cy 0, .int), (cy 1, .char), (cy 2, .boolean), (cy 3, .long), (cy 4, .double)]
theorem gm_cl_ty : ∀ (ci : Nat) (r : vw_C), vwCl[ci]? = some r → (∀ k, k < r.2.2 → parseFieldDescriptor (r.2.1 k).2.2.1 = some (gm_tyf ci k)) ∧ (∀ a, a < r.2.2 → ∀ b, b < r.2.2 → a ≠ b → (r.2.1 a).2.1 ≠ (r.2.1 b).2.1) := by
  intro ci r h
  match ci, h with
  | 0, h => cases h; exact ⟨tyX0_ok, nmX0⟩
  | 1, h => cases h; exact ⟨tyX1_ok, nmX1⟩
  | 2, h => cases h; exact ⟨tyX2_ok, nmX2⟩
  | 3, h => cases h; exact ⟨tyX3_ok, nmX3⟩
  | 4, h => cases h; exact ⟨tyX4_ok, nmX4⟩
  | 5, h => cases h; exact ⟨tyX5_ok, nmX5⟩
  | 6, h => cases h; exact ⟨tyX6_ok, nmX6⟩
  | 7, h => cases h; exact ⟨tyX7_ok, nmX7⟩
  | ci + 8, h => simp [vwCl] at h
theorem gm_W_at {cy : Nat → ClassId} {ad : Nat → Nat} {h : pH} {a : Nat} {e : pE} (he : gm_nth h a = some e) : (gm_W cy ad 0 h)[a]? = some (ad a, gm_e cy ad e) := by
  rw [gm_W_get, ← gm_nth_some, he]
  simp
theorem gm_W_up {cy : Nat → ClassId} {ad : Nat → Nat} {h : pH} {a : Nat} {e : pE} : (gm_W cy ad 0 h).set a (ad a, gm_e cy ad e) = gm_W cy ad 0 (gm_set h a e) := by
  rw [gm_set_eq, gm_W_set]
  simp
theorem gm_ok_nf (ad : Nat → Nat) {ty : FieldType} {v : Value} (h : gm_ok ty v) : narrow ty (gm_v ad v) = gm_v ad v ∧ fits ty (gm_v ad v) = true := by
  unfold gm_ok at h
  split at h
  · exact ⟨rfl, rfl⟩
  · rcases h with rfl | rfl <;> exact ⟨rfl, rfl⟩
  · rename_i x
    refine ⟨?_, ?_⟩
    · show narrow .char (.int x) = .int x
      have h0 : 0 ≤ x.toInt := by simpa [Int32.le_iff_toInt_le] using h.1
      have h1 : x.toInt ≤ 65535 := by simpa [Int32.le_iff_toInt_le] using h.2
      obtain ⟨n, hn⟩ : ∃ n : Nat, x.toInt = (n : Int) := ⟨x.toInt.toNat, by omega⟩
      have hx : x = nI n := by
        apply Int32.toInt_inj.mp
        rw [hn, nI_toInt (by omega)]
      rw [hx]
      exact (pk_charN (q := n) (by omega)).1
    · show fits .char (.int x) = true
      simp [fits, h.1, h.2]
  all_goals first | exact ⟨rfl, rfl⟩ | exact h.elim
theorem gm_set_len {h : pH} {a : Nat} {e : pE} : (gm_set h a e).length = h.length := by rw [gm_set_eq, List.length_set]
theorem gm_ag.put {n0 : Nat} {ad0 ad : Nat → Nat} {h : pH} {a : Nat} {e : pE} (h1 : gm_ag n0 ad0 ad h) : gm_ag n0 ad0 ad (gm_set h a e) := by
  unfold gm_ag
  rw [gm_set_len]
  exact h1
theorem gm_fr_v {n : Nat} {ad ad1 : Nat → Nat} (hag : ∀ i, i < n ∨ i = 88888 → ad1 i = ad i) {v : Value} (h : gm_fr n v = true) : gm_v ad1 v = gm_v ad v := by
  cases v with
  | ref a =>
    simp only [gm_fr, Bool.or_eq_true] at h
    show Value.ref (ad1 a) = Value.ref (ad a)
    rw [hag a (h.imp (fun z => Nat.blt_eq.mp z) (fun z => Nat.eq_of_beq_eq_true z))]
  | _ => rfl
theorem gm_frs_v {n : Nat} {ad ad1 : Nat → Nat} (hag : ∀ i, i < n ∨ i = 88888 → ad1 i = ad i) : ∀ {st : List Value}, gm_frs n st = true → st.map (gm_v ad1) = st.map (gm_v ad)
  | [], _ => rfl
  | v :: r, h => by
    simp only [gm_frs, Bool.and_eq_true] at h
    simp only [List.map_cons, gm_fr_v hag h.1, gm_frs_v hag h.2]
theorem gm_frl_v {n : Nat} {ad ad1 : Nat → Nat} (hag : ∀ i, i < n ∨ i = 88888 → ad1 i = ad i) : ∀ {ls : pL}, gm_frl n ls = true → ∀ (i : Nat) (v : Value), ls[i]? = some (some v) → gm_v ad1 v = gm_v ad v
  | [], _, i, v, h => by simp at h
  | none :: r, h, i, v, hv => by
    cases i with
    | zero => simp at hv
    | succ i => exact gm_frl_v hag (ls := r) h i v (by simpa using hv)
  | some w :: r, h, i, v, hv => by
    simp only [gm_frl, Bool.and_eq_true] at h
    cases i with
    | zero =>
      simp at hv
      subst hv
      exact gm_fr_v hag h.1
    | succ i => exact gm_frl_v hag h.2 i v (by simpa using hv)
theorem gm_frh_W {n : Nat} {ad ad1 : Nat → Nat} {cy : Nat → ClassId} (hag : ∀ i, i < n ∨ i = 88888 → ad1 i = ad i) : ∀ {h : pH} {k : Nat}, k + h.length ≤ n → gm_frh n h = true → gm_W cy ad1 k h = gm_W cy ad k h
  | [], _, _, _ => rfl
  | .inl q :: r, k, hk, h => by
    simp only [List.length_cons] at hk
    simp only [gm_W, gm_e, hag k (Or.inl (by omega)), gm_frh_W hag (h := r) (k := k + 1) (by omega) h]
  | .inr q :: r, k, hk, h => by
    simp only [List.length_cons] at hk
    simp only [gm_frh, Bool.and_eq_true] at h
    simp only [gm_W, gm_e, hag k (Or.inl (by omega)), gm_frs_v hag h.1, gm_frh_W hag (h := r) (k := k + 1) (by omega) h.2]
theorem gm_hL.moved {lsA : Array Slot} {nL n : Nat} {ad ad1 : Nat → Nat} {ls : pL} (h : gm_hL lsA nL ad ls) (hag : ∀ i, i < n ∨ i = 88888 → ad1 i = ad i) (hf : gm_frl n ls = true) : gm_hL lsA nL ad1 ls :=
  ⟨h.1, h.2.1, h.2.2.1, fun i v hv => by rw [gm_frl_v hag hf i v hv]; exact h.2.2.2 i v hv⟩
section GM
variable {p : Program} {l : Launch} {e : Env} {R : Room} {s : State} {m : MethodId} {args : Array Value} {below : List Frame} {meth : Method} {c : Code} {Q : State → Prop} {dC : Nat → ClassId} {dI : Nat → Nat → Nat} {cy : Nat → ClassId} {A : Nat → Prop} {ad0 : Nat → Nat} {n0 nL : Nat}
variable {pc n : Nat} {ls : pL} {st : List Value} {h : pH} {cl sl : Nat} {cc : ByteArray}
theorem gm_look_of {d : Int} {x : Int32} {f : Nat → Prop} : ∀ {ps : List (Int × Int)}, (∀ q ∈ ps, (gm_lit q.1).toInt = q.1) → gm_look pc d x f ps → ∃ (o : Int) (t : Nat), Op.lookupswitch.offset ps d x.toInt = o ∧ (pc : Int) + o = (t : Int) ∧ f t
  | [], _, h => by
    obtain ⟨t, h1, h2⟩ := gm_jmp_of h
    exact ⟨d, t, rfl, h1, h2⟩
  | (k, o) :: r, hk, h => by
    have hk1 : (gm_lit k).toInt = k := hk (k, o) List.mem_cons_self
    by_cases hx : x = gm_lit k
    · obtain ⟨t, h1, h2⟩ := gm_jmp_of (h.1 hx)
      refine ⟨o, t, ?_, h1, h2⟩
      rw [hx, hk1]
      simp [Op.lookupswitch.offset]
    · obtain ⟨o2, t, h1, h2, h3⟩ := gm_look_of (fun q hq => hk q (List.mem_cons_of_mem _ hq)) (h.2 hx)
      exact ⟨o2, t, by rw [lv_osw hx hk1]; exact h1, h2, h3⟩
theorem gm_s_look {d : Int} {ps : Array (Int × Int)} {x : Int32} {r : List Value} {len : Nat} (hx : p.tables.exec = Jvm.exec) (hb : c.code = cc) (hd : decode cc pc = .ok (.lookupswitch d ps, len)) (hp : (ps.toList.zip (ps.toList.drop 1)).all (fun (a, next) => a.1 < next.1) = true) (hk : ∀ q ∈ ps.toList, (gm_lit q.1).toInt = q.1) (h0 : gm_look pc d x (fun t => gm_G p l e R s m args below meth c Q dC dI cy A ad0 n0 nL t ls r h cl sl) ps.toList) : gm_G p l e R s m args below meth c Q dC dI cy A ad0 n0 nL pc ls (.int x :: r) h cl sl := by
  obtain ⟨o, t, h1, h2, h3⟩ := gm_look_of hk h0
  exact gm_lift0 h3 fun _ _ _ _ _ k => lv_lookup hx hb hd hp h1 h2 k
theorem gm_tab_of {d : Int} {x : Int32} {f : Nat → Prop} : ∀ {os : List Int} {v : Int}, (∀ j : Nat, j < os.length → (gm_lit (v + j)).toInt = v + j) → gm_tab pc d x f v os → (∃ (j : Nat) (o : Int) (t : Nat), x.toInt = v + j ∧ os[j]? = some o ∧ (pc : Int) + o = (t : Int) ∧ f t) ∨ ((∀ j : Nat, j < os.length → x.toInt ≠ v + j) ∧ ∃ t : Nat, (pc : Int) + d = (t : Int) ∧ f t)
  | [], v, _, h => by
    obtain ⟨t, h1, h2⟩ := gm_jmp_of h
    exact Or.inr ⟨fun j hj => by simp at hj, t, h1, h2⟩
  | o :: r, v, hk, h => by
    have hk0 : (gm_lit v).toInt = v := by simpa using hk 0 (by simp)
    by_cases hx : x = gm_lit v
    · obtain ⟨t, h1, h2⟩ := gm_jmp_of (h.1 hx)
      exact Or.inl ⟨0, o, t, by rw [hx, hk0]; simp, by simp, h1, h2⟩
    · have hk' : ∀ j : Nat, j < r.length → (gm_lit (v + 1 + j)).toInt = v + 1 + j := fun j hj => by
        have := hk (j + 1) (by simp; omega)
        rw [show v + 1 + (j : Int) = v + ((j + 1 : Nat) : Int) by push_cast; omega]
        exact this
      rcases gm_tab_of hk' (h.2 hx) with ⟨j, o2, t, h1, h2, h3, h4⟩ | ⟨h1, t, h2, h3⟩
      · exact Or.inl ⟨j + 1, o2, t, by rw [h1]; push_cast; omega, by simpa using h2, h3, h4⟩
      · refine Or.inr ⟨fun j hj => ?_, t, h2, h3⟩
        cases j with
        | zero =>
          intro hxe
          apply hx
          apply Int32.toInt_inj.mp
          rw [hk0, hxe]
          simp
        | succ j =>
          have := h1 j (by simpa using hj)
          intro hxe
          apply this
          rw [hxe]
          push_cast
          omega
theorem gm_s_tab {d lo hi : Int} {os : Array Int} {x : Int32} {r : List Value} {len : Nat} (hx : p.tables.exec = Jvm.exec) (hb : c.code = cc) (hd : decode cc pc = .ok (.tableswitch d lo hi os, len)) (hh : hi + 1 = lo + os.size) (hk : ∀ j : Nat, j < os.toList.length → (gm_lit (lo + j)).toInt = lo + j) (h0 : gm_tab pc d x (fun t => gm_G p l e R s m args below meth c Q dC dI cy A ad0 n0 nL t ls r h cl sl) lo os.toList) : gm_G p l e R s m args below meth c Q dC dI cy A ad0 n0 nL pc ls (.int x :: r) h cl sl := by
  rcases gm_tab_of hk h0 with ⟨j, o, t, h1, h2, h3, h4⟩ | ⟨h1, t, h2, h3⟩
  · have hj : j < os.toList.length := (List.getElem?_eq_some_iff.mp h2).1
    have hj2 : j < os.size := by simpa using hj
    refine gm_lift0 h4 fun _ _ _ _ _ k => lv_tableIn hx hb hd (by omega) (by omega) ?_ h3 k
    rw [h1, show (lo + (j : Int) - lo).toNat = j by omega]
    rw [← Array.getElem?_toList]
    exact h2
  · refine gm_lift0 h3 fun _ _ _ _ _ k => lv_tableOut hx hb hd ?_ h2 k
    by_cases hlo : x.toInt < lo
    · exact Or.inl hlo
    · refine Or.inr ?_
      rcases Int.lt_or_le hi x.toInt with hz | hz
      · exact hz
      · exfalso
        have := h1 (x.toInt - lo).toNat (by simp; omega)
        omega
theorem gm_s_getfield {F : List (Nat × Nat × Nat)} {own : String} (hx : p.tables.exec = Jvm.exec) (hb : c.code = cc) (hown : s.vm.findClass own = some m.cls) (hts : ∀ w ∈ gm_U, w.before args s = true) (hcu : ∀ (ci : Nat) (r : vw_C), vwCl[ci]? = some r → ∀ w ∈ u_ws r.1 r.2.1 r.2.2, w ∈ gm_U) (hK : va_K (dC, dI) vwCl (gm_tys cy) s)
    (hF : ∀ k f, gm_asc F k = some f → ∃ r : vw_C, vwCl[f.1]? = some r ∧ f.2 < r.2.2 ∧ Cond.fieldLink own k (r.2.1 f.2).1 (r.2.1 f.2).2.1 (r.2.1 f.2).2.2.1 ∈ gm_U)
    {k : Nat} (hd : decode cc pc = .ok (.getfield k, 3)) (h0 : gm_sa st fun a r => gm_op (gm_asc F k) fun f => gm_ob h a fun ci fs => ci = f.1 ∧ gm_op (gm_nth fs f.2) fun v => gm_G p l e R s m args below meth c Q dC dI cy A ad0 n0 nL (pc + 3) ls (v :: r) h cl sl) : gm_G p l e R s m args below meth c Q dC dI cy A ad0 n0 nL pc ls st h cl sl := by
  unfold gm_sa at h0
  split at h0
  · rename_i a r
    unfold gm_op at h0
    split at h0
    · rename_i f hf
      unfold gm_ob at h0
      split at h0
      · rename_i ci fs hcell
        obtain ⟨rfl, h0⟩ := h0
        split at h0
        · rename_i v hv
          obtain ⟨r2, h1, h2, h3⟩ := hF k f hf
          refine gm_lift h0 fun ad H locs lsA hag hP hD hS hL kk => ?_
          refine va_get (D := (dC, dI)) (cl := vwCl) (tys := gm_tys cy) (C := r2.1) (T := r2.2.1) (N := r2.2.2) (Ts := gm_U) (ref := (r2.2.1 f.2).1) hx hb hts (hcu f.1 r2 h1) hown hK hP a (gm_W_at hcell) h1 f.2 h2 (hts _ h3) (fun _ z => z) (v := gm_v ad v) ?_ hd (kk lsA hL)
          rw [List.getElem?_map, ← gm_nth_some, hv]
          rfl
        · exact h0.elim
      · exact h0.elim
    · exact h0.elim
  · exact h0.elim
theorem gm_s_putfield {F : List (Nat × Nat × Nat)} {own : String} {v : Value} {a : Nat} {r : List Value} (hx : p.tables.exec = Jvm.exec) (hb : c.code = cc) (hown : s.vm.findClass own = some m.cls) (hts : ∀ w ∈ gm_U, w.before args s = true) (hcu : ∀ (ci : Nat) (r : vw_C), vwCl[ci]? = some r → ∀ w ∈ u_ws r.1 r.2.1 r.2.2, w ∈ gm_U) (hK : va_K (dC, dI) vwCl (gm_tys cy) s)
    (hF : ∀ k f, gm_asc F k = some f → ∃ r : vw_C, vwCl[f.1]? = some r ∧ f.2 < r.2.2 ∧ Cond.fieldLink own k (r.2.1 f.2).1 (r.2.1 f.2).2.1 (r.2.1 f.2).2.2.1 ∈ gm_U)
    {k : Nat} (hput : ∀ f r, gm_asc F k = some f → vwCl[f.1]? = some r → (r.2.1 f.2).2.2.2 = false ∨ ((r.2.1 f.2).2.2.2 = true ∧ meth.name = "<init>" ∧ (r.2.1 f.2).1 = own))
    (hd : decode cc pc = .ok (.putfield k, 3)) (h0 : gm_op (gm_asc F k) fun f => gm_ob h a fun ci fs => gm_op (gm_nth fs f.2) fun _ => ci = f.1 ∧ gm_ok (gm_tyf f.1 f.2) v ∧ gm_G p l e R s m args below meth c Q dC dI cy A ad0 n0 nL (pc + 3) ls r (gm_set h a (.inr (ci, gm_set fs f.2 v))) cl sl) : gm_G p l e R s m args below meth c Q dC dI cy A ad0 n0 nL pc ls (v :: .ref a :: r) h cl sl := by
  unfold gm_op at h0
  split at h0
  · rename_i f hf
    unfold gm_ob at h0
    split at h0
    · rename_i ci fs hcell
      split at h0
      · rename_i v0 hv0
        obtain ⟨rfl, hok, h0⟩ := h0
        obtain ⟨r2, h1, h2, h3⟩ := hF k f hf
        refine ⟨h0.1, fun ad H locs lsA hag hP hD hS hL => ?_⟩
        have hl : f.2 < (fs.map (gm_v ad)).length := by
          rw [gm_nth_some] at hv0
          rw [List.length_map]
          exact (List.getElem?_eq_some_iff.mp hv0).1
        have hnf := gm_ok_nf ad hok
        have hcell2 : ∀ (H1 : Heap) (locs1 : List Loc), va_P (dC, dI) vwCl ((gm_W cy ad 0 h).set a (ad a, .inr (f.1, (fs.map (gm_v ad)).set f.2 (gm_v ad v)))) H1 → va_D A ((gm_W cy ad 0 h).set a (ad a, .inr (f.1, (fs.map (gm_v ad)).set f.2 (gm_v ad v)))) → va_S A s.heap H1 locs1 → W p l e R s m args below meth c H1 locs1 cl sl Q (F0 m (pc + 3) lsA (r.map (gm_v ad))) := by
          intro H1 locs1 hP1 hD1 hS1
          have he : (gm_W cy ad 0 h).set a (ad a, .inr (f.1, (fs.map (gm_v ad)).set f.2 (gm_v ad v))) = gm_W cy ad 0 (gm_set h a (.inr (f.1, gm_set fs f.2 v))) := by
            rw [← gm_W_up, gm_set_eq fs]
            simp [gm_e, List.map_set]
          rw [he] at hP1 hD1
          exact h0.2 ad H1 locs1 lsA hag.put hP1 hD1 hS1 hL
        rcases hput f r2 hf h1 with hfin | ⟨hfin, hin, hown2⟩
        · exact va_put (D := (dC, dI)) (cl := vwCl) (tys := gm_tys cy) (C := r2.1) (T := r2.2.1) (N := r2.2.2) (Ts := gm_U) (ref := (r2.2.1 f.2).1) hx hb hts (hcu f.1 r2 h1) (gm_tyf f.1) (gm_cl_ty f.1 r2 h1).1 (gm_cl_ty f.1 r2 h1).2 hown hK hP hD hS a (gm_W_at hcell) h1 f.2 h2 (hts _ h3) (fun _ z => z) hfin ((gm_cl_ty f.1 r2 h1).1 f.2 h2) hnf.1 hnf.2 hl hd hcell2
        · exact va_putF (D := (dC, dI)) (cl := vwCl) (tys := gm_tys cy) (C := r2.1) (T := r2.2.1) (N := r2.2.2) (Ts := gm_U) (ref := (r2.2.1 f.2).1) hx hb hts (hcu f.1 r2 h1) (gm_tyf f.1) (gm_cl_ty f.1 r2 h1).1 (gm_cl_ty f.1 r2 h1).2 hown hK hP hD hS a (gm_W_at hcell) h1 f.2 h2 (hts _ h3) (fun _ z => z) hfin hin hown2 ((gm_cl_ty f.1 r2 h1).1 f.2 h2) hnf.1 hnf.2 hl hd hcell2
      · exact h0.elim
    · exact h0.elim
  · exact h0.elim
theorem gm_ai_of {a t : Nat} {f : Nat → (Nat → Int32) → Prop} (h0 : gm_ai h a t f) : ∃ N g, gm_nth h a = some (.inl (t, N, .inl g)) ∧ f N g := by
  unfold gm_ai at h0
  split at h0
  · rename_i k N g hq
    cases hk : Nat.beq k t with
    | true =>
      rw [hk] at h0
      rw [Nat.eq_of_beq_eq_true hk] at hq
      exact ⟨N, g, hq, h0⟩
    | false =>
      rw [hk] at h0
      exact h0.elim
  · exact h0.elim
theorem gm_al_of {a : Nat} {f : Nat → (Nat → Int64) → Prop} (h0 : gm_al h a f) : ∃ N g, gm_nth h a = some (.inl (3, N, .inr (.inl g))) ∧ f N g := by
  unfold gm_al at h0
  split at h0
  · rename_i N g hq
    exact ⟨N, g, hq, h0⟩
  · exact h0.elim
theorem gm_ad_of {a : Nat} {f : Nat → (Nat → UInt64) → Prop} (h0 : gm_ad h a f) : ∃ N g, gm_nth h a = some (.inl (4, N, .inr (.inr (.inr (.inl g))))) ∧ f N g := by
  unfold gm_ad at h0
  split at h0
  · rename_i N g hq
    exact ⟨N, g, hq, h0⟩
  · exact h0.elim
theorem gm_i1_of {f : Int32 → List Value → Prop} (h0 : gm_i1 st f) : ∃ x r, st = .int x :: r ∧ f x r := by
  unfold gm_i1 at h0
  split at h0
  · exact ⟨_, _, rfl, h0⟩
  · exact h0.elim
theorem gm_i2_of {f : Int32 → Int32 → List Value → Prop} (h0 : gm_i2 st f) : ∃ x y r, st = .int y :: .int x :: r ∧ f x y r := by
  unfold gm_i2 at h0
  split at h0
  · exact ⟨_, _, _, rfl, h0⟩
  · exact h0.elim
theorem gm_l1_of {f : Int64 → List Value → Prop} (h0 : gm_l1 st f) : ∃ x r, st = .long x :: r ∧ f x r := by
  unfold gm_l1 at h0
  split at h0
  · exact ⟨_, _, rfl, h0⟩
  · exact h0.elim
theorem gm_d1_of {f : UInt64 → List Value → Prop} (h0 : gm_d1 st f) : ∃ x r, st = .double x :: r ∧ f x r := by
  unfold gm_d1 at h0
  split at h0
  · exact ⟨_, _, rfl, h0⟩
  · exact h0.elim
theorem gm_sa_of {f : Nat → List Value → Prop} (h0 : gm_sa st f) : ∃ x r, st = .ref x :: r ∧ f x r := by
  unfold gm_sa at h0
  split at h0
  · exact ⟨_, _, rfl, h0⟩
  · exact h0.elim
theorem gm_op_of {α : Type} {o : Option α} {f : α → Prop} (h0 : gm_op o f) : ∃ a, o = some a ∧ f a := by
  unfold gm_op at h0
  split at h0
  · exact ⟨_, rfl, h0⟩
  · exact h0.elim

theorem gm_s_caload (hx : p.tables.exec = Jvm.exec) (hb : c.code = cc) (hK : va_K (dC, dI) vwCl (gm_tys cy) s) (hd : decode cc pc = .ok (.caload, 1)) (h0 : gm_i1 st fun x r => gm_sa r fun a r => gm_ai h a 1 fun N f => vp_in x N ∧ gm_G p l e R s m args below meth c Q dC dI cy A ad0 n0 nL (pc + 1) ls (.int (f x.toNatClampNeg) :: r) h cl sl) : gm_G p l e R s m args below meth c Q dC dI cy A ad0 n0 nL pc ls st h cl sl := by
  obtain ⟨x, r, rfl, h0⟩ := gm_i1_of h0
  obtain ⟨a, r, rfl, h0⟩ := gm_sa_of h0
  obtain ⟨N, f, hq, hin, h0⟩ := gm_ai_of h0
  exact gm_lift h0 fun ad H locs lsA hag hP hD hS hL kk => va_cald (D := (dC, dI)) (cl := vwCl) (tys := gm_tys cy) hx hb hK hP a 1 (gm_W_at hq) rfl hin hd (kk lsA hL)

theorem gm_s_baload (hx : p.tables.exec = Jvm.exec) (hb : c.code = cc) (hK : va_K (dC, dI) vwCl (gm_tys cy) s) (hd : decode cc pc = .ok (.baload, 1)) (h0 : gm_i1 st fun x r => gm_sa r fun a r => gm_ai h a 2 fun N f => vp_in x N ∧ gm_G p l e R s m args below meth c Q dC dI cy A ad0 n0 nL (pc + 1) ls (.int (f x.toNatClampNeg) :: r) h cl sl) : gm_G p l e R s m args below meth c Q dC dI cy A ad0 n0 nL pc ls st h cl sl := by
  obtain ⟨x, r, rfl, h0⟩ := gm_i1_of h0
  obtain ⟨a, r, rfl, h0⟩ := gm_sa_of h0
  obtain ⟨N, f, hq, hin, h0⟩ := gm_ai_of h0
  exact gm_lift h0 fun ad H locs lsA hag hP hD hS hL kk => va_zald (D := (dC, dI)) (cl := vwCl) (tys := gm_tys cy) hx hb hK hP a 2 (gm_W_at hq) rfl hin hd (kk lsA hL)

theorem gm_s_laload (hx : p.tables.exec = Jvm.exec) (hb : c.code = cc) (hK : va_K (dC, dI) vwCl (gm_tys cy) s) (hd : decode cc pc = .ok (.laload, 1)) (h0 : gm_i1 st fun x r => gm_sa r fun a r => gm_al h a fun N f => vp_in x N ∧ gm_G p l e R s m args below meth c Q dC dI cy A ad0 n0 nL (pc + 1) ls (.long (f x.toNatClampNeg) :: r) h cl sl) : gm_G p l e R s m args below meth c Q dC dI cy A ad0 n0 nL pc ls st h cl sl := by
  obtain ⟨x, r, rfl, h0⟩ := gm_i1_of h0
  obtain ⟨a, r, rfl, h0⟩ := gm_sa_of h0
  obtain ⟨N, f, hq, hin, h0⟩ := gm_al_of h0
  exact gm_lift h0 fun ad H locs lsA hag hP hD hS hL kk => va_lald (D := (dC, dI)) (cl := vwCl) (tys := gm_tys cy) hx hb hK hP a 3 (gm_W_at hq) rfl hin hd (kk lsA hL)

theorem gm_s_daload (hx : p.tables.exec = Jvm.exec) (hb : c.code = cc) (hK : va_K (dC, dI) vwCl (gm_tys cy) s) (hd : decode cc pc = .ok (.daload, 1)) (h0 : gm_i1 st fun x r => gm_sa r fun a r => gm_ad h a fun N f => vp_in x N ∧ gm_G p l e R s m args below meth c Q dC dI cy A ad0 n0 nL (pc + 1) ls (.double (f x.toNatClampNeg) :: r) h cl sl) : gm_G p l e R s m args below meth c Q dC dI cy A ad0 n0 nL pc ls st h cl sl := by
  obtain ⟨x, r, rfl, h0⟩ := gm_i1_of h0
  obtain ⟨a, r, rfl, h0⟩ := gm_sa_of h0
  obtain ⟨N, f, hq, hin, h0⟩ := gm_ad_of h0
  exact gm_lift h0 fun ad H locs lsA hag hP hD hS hL kk => va_dald (D := (dC, dI)) (cl := vwCl) (tys := gm_tys cy) hx hb hK hP a 4 (gm_W_at hq) rfl hin hd (kk lsA hL)

theorem gm_s_iaload {sq : pQ} (hx : p.tables.exec = Jvm.exec) (hb : c.code = cc) (hK : va_K (dC, dI) vwCl (gm_tys cy) s) (hscr : ∀ q, sq = some q → va_X (ad0 88888) q.1 q.2 s s.heap ∧ ad0 88888 < s.heap.size ∧ ¬ A (ad0 88888)) (hd : decode cc pc = .ok (.iaload, 1)) (h0 : gm_i1 st fun x r => gm_sa r fun a r => bif Nat.beq a 88888 then gm_op sq (fun q => vp_in x q.1 ∧ gm_G p l e R s m args below meth c Q dC dI cy A ad0 n0 nL (pc + 1) ls (.int (q.2 x.toNatClampNeg) :: r) h cl sl) else gm_ai h a 0 fun N f => vp_in x N ∧ gm_G p l e R s m args below meth c Q dC dI cy A ad0 n0 nL (pc + 1) ls (.int (f x.toNatClampNeg) :: r) h cl sl) : gm_G p l e R s m args below meth c Q dC dI cy A ad0 n0 nL pc ls st h cl sl := by
  obtain ⟨x, r, rfl, h1⟩ := gm_i1_of h0
  obtain ⟨a, r, rfl, h2⟩ := gm_sa_of h1
  try dsimp only at h2
  clear h0 h1
  cases hk : Nat.beq a 88888 with
  | true =>
    rw [hk] at h2
    have ha := Nat.eq_of_beq_eq_true hk
    subst ha
    obtain ⟨q, hq, hin, h0⟩ := gm_op_of h2
    obtain ⟨z1, z2, z3⟩ := hscr q hq
    refine gm_lift h0 fun ad H locs lsA hag hP hD hS hL kk => ?_
    have h4 : gm_v ad (.ref 88888) = .ref (ad0 88888) := by
      show Value.ref (ad 88888) = _
      rw [hag.2.2.2]
    simp only [List.map_cons, h4]
    exact va_sld hx hb z1 z2 z3 hS hin hd (kk lsA hL)
  | false =>
    rw [hk] at h2
    obtain ⟨N, f, hq, hin, h0⟩ := gm_ai_of h2
    exact gm_lift h0 fun ad H locs lsA hag hP hD hS hL kk => va_iald (D := (dC, dI)) (cl := vwCl) (tys := gm_tys cy) hx hb hK hP a 0 (gm_W_at hq) rfl hin hd (kk lsA hL)
theorem gm_s_arraylength {sq : pQ} (hx : p.tables.exec = Jvm.exec) (hb : c.code = cc) (hscr : ∀ q, sq = some q → va_X (ad0 88888) q.1 q.2 s s.heap ∧ ad0 88888 < s.heap.size ∧ ¬ A (ad0 88888)) (hd : decode cc pc = .ok (.arraylength, 1)) (h0 : gm_sa st fun a r => bif Nat.beq a 88888 then gm_op sq (fun q => gm_G p l e R s m args below meth c Q dC dI cy A ad0 n0 nL (pc + 1) ls (.int (Int32.ofNat q.1) :: r) h cl sl) else False) : gm_G p l e R s m args below meth c Q dC dI cy A ad0 n0 nL pc ls st h cl sl := by
  obtain ⟨a, r, rfl, h2⟩ := gm_sa_of h0
  try dsimp only at h2
  clear h0
  cases hk : Nat.beq a 88888 with
  | true =>
    rw [hk] at h2
    have ha := Nat.eq_of_beq_eq_true hk
    subst ha
    obtain ⟨q, hq, h0⟩ := gm_op_of h2
    obtain ⟨z1, z2, z3⟩ := hscr q hq
    refine gm_lift h0 fun ad H locs lsA hag hP hD hS hL kk => ?_
    have h4 : gm_v ad (.ref 88888) = .ref (ad0 88888) := by
      show Value.ref (ad 88888) = _
      rw [hag.2.2.2]
    simp only [List.map_cons, h4]
    exact va_slen hx hb z1 z2 z3 hS hd (kk lsA hL)
  | false =>
    rw [hk] at h2
    exact h2.elim

theorem gm_s_iastore (hx : p.tables.exec = Jvm.exec) (hb : c.code = cc) (hK : va_K (dC, dI) vwCl (gm_tys cy) s) (hd : decode cc pc = .ok (.iastore, 1)) (h0 : gm_i2 st fun x y r => gm_sa r fun a r => gm_ai h a 0 fun N f => vp_in x N ∧ gm_G p l e R s m args below meth c Q dC dI cy A ad0 n0 nL (pc + 1) ls r (gm_set h a (.inl (0, N, .inl (upd f x.toNatClampNeg y)))) cl sl) : gm_G p l e R s m args below meth c Q dC dI cy A ad0 n0 nL pc ls st h cl sl := by
  obtain ⟨x, y, r, rfl, h0⟩ := gm_i2_of h0
  obtain ⟨a, r, rfl, h0⟩ := gm_sa_of h0
  obtain ⟨N, f, hq, hin, h0⟩ := gm_ai_of h0
  exact ⟨h0.1, fun ad H locs lsA hag hP hD hS hL => va_iast (D := (dC, dI)) (cl := vwCl) (tys := gm_tys cy) hx hb hK hP hD hS a 0 (gm_W_at hq) rfl hin hd (fun H1 locs1 hP1 hD1 hS1 => by exact h0.2 ad H1 locs1 lsA hag.put (gm_W_up (e := .inl (0, N, .inl (upd f x.toNatClampNeg y))) ▸ hP1) (gm_W_up (e := .inl (0, N, .inl (upd f x.toNatClampNeg y))) ▸ hD1) hS1 hL)⟩

theorem gm_s_castore (hx : p.tables.exec = Jvm.exec) (hb : c.code = cc) (hK : va_K (dC, dI) vwCl (gm_tys cy) s) (hd : decode cc pc = .ok (.castore, 1)) (h0 : gm_i2 st fun x y r => gm_sa r fun a r => gm_ai h a 1 fun N f => vp_in x N ∧ (0 ≤ y ∧ y ≤ 65535) ∧ gm_G p l e R s m args below meth c Q dC dI cy A ad0 n0 nL (pc + 1) ls r (gm_set h a (.inl (1, N, .inl (upd f x.toNatClampNeg y)))) cl sl) : gm_G p l e R s m args below meth c Q dC dI cy A ad0 n0 nL pc ls st h cl sl := by
  obtain ⟨x, y, r, rfl, h0⟩ := gm_i2_of h0
  obtain ⟨a, r, rfl, h0⟩ := gm_sa_of h0
  obtain ⟨N, f, hq, hin, hy, h0⟩ := gm_ai_of h0
  have hn : vp_nar .char y = y := by
    have := (gm_ok_nf (fun z => z) (ty := .char) (v := .int y) hy).1
    unfold vp_nar
    rw [show narrow .char (.int y) = .int y from this]
  exact ⟨h0.1, fun ad H locs lsA hag hP hD hS hL => va_cast (D := (dC, dI)) (cl := vwCl) (tys := gm_tys cy) hx hb hK hP hD hS a 1 (gm_W_at hq) rfl hin hd (fun H1 locs1 hP1 hD1 hS1 => by rw [hn] at hP1 hD1; exact h0.2 ad H1 locs1 lsA hag.put (gm_W_up (e := .inl (1, N, .inl (upd f x.toNatClampNeg y))) ▸ hP1) (gm_W_up (e := .inl (1, N, .inl (upd f x.toNatClampNeg y))) ▸ hD1) hS1 hL)⟩

theorem gm_s_bastore (hx : p.tables.exec = Jvm.exec) (hb : c.code = cc) (hK : va_K (dC, dI) vwCl (gm_tys cy) s) (hd : decode cc pc = .ok (.bastore, 1)) (h0 : gm_i2 st fun x y r => gm_sa r fun a r => gm_ai h a 2 fun N f => vp_in x N ∧ (y = 0 ∨ y = 1) ∧ gm_G p l e R s m args below meth c Q dC dI cy A ad0 n0 nL (pc + 1) ls r (gm_set h a (.inl (2, N, .inl (upd f x.toNatClampNeg y)))) cl sl) : gm_G p l e R s m args below meth c Q dC dI cy A ad0 n0 nL pc ls st h cl sl := by
  obtain ⟨x, y, r, rfl, h0⟩ := gm_i2_of h0
  obtain ⟨a, r, rfl, h0⟩ := gm_sa_of h0
  obtain ⟨N, f, hq, hin, hy, h0⟩ := gm_ai_of h0
  have hn : vp_nar .boolean y = y := by
    have := (gm_ok_nf (fun z => z) (ty := .boolean) (v := .int y) hy).1
    unfold vp_nar
    rw [show narrow .boolean (.int y) = .int y from this]
  exact ⟨h0.1, fun ad H locs lsA hag hP hD hS hL => va_zast (D := (dC, dI)) (cl := vwCl) (tys := gm_tys cy) hx hb hK hP hD hS a 2 (gm_W_at hq) rfl hin hd (fun H1 locs1 hP1 hD1 hS1 => by rw [hn] at hP1 hD1; exact h0.2 ad H1 locs1 lsA hag.put (gm_W_up (e := .inl (2, N, .inl (upd f x.toNatClampNeg y))) ▸ hP1) (gm_W_up (e := .inl (2, N, .inl (upd f x.toNatClampNeg y))) ▸ hD1) hS1 hL)⟩

theorem gm_s_lastore (hx : p.tables.exec = Jvm.exec) (hb : c.code = cc) (hK : va_K (dC, dI) vwCl (gm_tys cy) s) (hd : decode cc pc = .ok (.lastore, 1)) (h0 : gm_l1 st fun y r => gm_i1 r fun x r => gm_sa r fun a r => gm_al h a fun N f => vp_in x N ∧ gm_G p l e R s m args below meth c Q dC dI cy A ad0 n0 nL (pc + 1) ls r (gm_set h a (.inl (3, N, .inr (.inl (vp_updL f x.toNatClampNeg y))))) cl sl) : gm_G p l e R s m args below meth c Q dC dI cy A ad0 n0 nL pc ls st h cl sl := by
  obtain ⟨y, r, rfl, h0⟩ := gm_l1_of h0
  obtain ⟨x, r, rfl, h0⟩ := gm_i1_of h0
  obtain ⟨a, r, rfl, h0⟩ := gm_sa_of h0
  obtain ⟨N, f, hq, hin, h0⟩ := gm_al_of h0
  exact ⟨h0.1, fun ad H locs lsA hag hP hD hS hL => va_last (D := (dC, dI)) (cl := vwCl) (tys := gm_tys cy) hx hb hK hP hD hS a 3 (gm_W_at hq) rfl hin hd (fun H1 locs1 hP1 hD1 hS1 => h0.2 ad H1 locs1 lsA hag.put (gm_W_up (e := .inl (3, N, .inr (.inl (vp_updL f x.toNatClampNeg y)))) ▸ hP1) (gm_W_up (e := .inl (3, N, .inr (.inl (vp_updL f x.toNatClampNeg y)))) ▸ hD1) hS1 hL)⟩
theorem gm_s_dastore (hx : p.tables.exec = Jvm.exec) (hb : c.code = cc) (hK : va_K (dC, dI) vwCl (gm_tys cy) s) (hd : decode cc pc = .ok (.dastore, 1)) (h0 : gm_d1 st fun y r => gm_i1 r fun x r => gm_sa r fun a r => gm_ad h a fun N f => vp_in x N ∧ gm_G p l e R s m args below meth c Q dC dI cy A ad0 n0 nL (pc + 1) ls r (gm_set h a (.inl (4, N, .inr (.inr (.inr (.inl (vf_upd f x.toNatClampNeg y))))))) cl sl) : gm_G p l e R s m args below meth c Q dC dI cy A ad0 n0 nL pc ls st h cl sl := by
  obtain ⟨y, r, rfl, h0⟩ := gm_d1_of h0
  obtain ⟨x, r, rfl, h0⟩ := gm_i1_of h0
  obtain ⟨a, r, rfl, h0⟩ := gm_sa_of h0
  obtain ⟨N, f, hq, hin, h0⟩ := gm_ad_of h0
  exact ⟨h0.1, fun ad H locs lsA hag hP hD hS hL => va_dast (D := (dC, dI)) (cl := vwCl) (tys := gm_tys cy) hx hb hK hP hD hS a 4 (gm_W_at hq) rfl hin hd (fun H1 locs1 hP1 hD1 hS1 => h0.2 ad H1 locs1 lsA hag.put (gm_W_up (e := .inl (4, N, .inr (.inr (.inr (.inl (vf_upd f x.toNatClampNeg y)))))) ▸ hP1) (gm_W_up (e := .inl (4, N, .inr (.inr (.inr (.inl (vf_upd f x.toNatClampNeg y)))))) ▸ hD1) hS1 hL)⟩
end GM
end
section
/-! SOUNDNESS, 3: what is made; calls -/
def gm_exs : List String := ["java/lang/IllegalArgumentException", "java/lang/IllegalStateException", "java/lang/IndexOutOfBoundsException", "java/util/NoSuchElementException", "java/lang/UnsupportedOperationException"]
def gm_strs : List (Nat × String) := [(71, "the term has no such symbol"), (82, "the term can't be made"), (91, "there is no such term"), (96, "a letter is between 0 and 3"), (99, "a region is between 0 and 15"), (158, "the term has no such prime implicant"), (163, "no rule can rewrite anything in the term"), (170, "the step can't be made"), (178, "there are 6 assumptions"), (191, "there is no assumption"), (208, "no assumption denies the region"), (216, "the goal does not follow"), (221, "the goal does not demand an element"), (226, "there is no witness"), (231, "there is no such kind"), (233, "there is no goal"), (251, "the least counterexample has no such element"), (265, "the goal follows"), (267, "no such number of elements")]
/-- private members of nest mates that are called -/
def gm_nests : List (String × Nat × MethodName) := [(RX6, 9, yX4_init), (RX6, 18, yX1_init), (RX1, 11, yX5_init), (RX0, 34, yX6_isIn), (RX6, 32, yX3_init), (RX6, 39, yX2_init), (RX4, 89, yX6_isIn), (RX3, 42, yX6_isIn), (RX2, 50, yX6_isIn)]
/-- what a throw needs of the state -/
def gm_Ex (A : Nat → Prop) (U : State) : Prop := vx_Zq Bundle.tN "UNASSIGNED_STACK" Bundle.steD A U U.heap ∧ vx_Zq Bundle.tN "SUPPRESSED_SENTINEL" Bundle.listD A U U.heap ∧ (∀ E ∈ gm_exs, va_Nw (.castable E E) U) ∧ (∀ q ∈ gm_strs, ∃ a, vk_R RX6 q.1 q.2 a U) ∧ (∀ E ∈ gm_exs, ∀ E2 ∈ gm_exs, E ≠ E2 → va_Nc E E2 U) ∧ (∀ q ∈ gm_nests, va_Nw (.methodLinkNest q.1 q.2.1 q.2.2 RX6) U)
theorem gm_exs_warm {E : String} {s U : State} (hW : s.WarmedH U.vm) (h : va_Nw (.castable E E) s) : va_Nw (.castable E E) U := va_Nw.warmC hW h
theorem gm_Ex.next {A A1 : Nat → Prop} {s U : State} {H : Heap} {locs : List Loc} (h : gm_Ex A s) (hS : va_S A s.heap H locs) (hW : s.WarmedH U.vm) (hU : U.heap = H) (hA : ∀ q, A1 q → A q) : gm_Ex A1 U := by
  obtain ⟨h1, h2, h3, h4, h5, h6⟩ := h
  refine ⟨?_, ?_, fun E hE => gm_exs_warm hW (h3 E hE), fun q hq => ?_, fun E hE E2 hE2 hn => va_Nc.moved hW.alike (h5 E hE E2 hE2 hn), fun q hq => va_Nw.warmM hW (h6 q hq)⟩
  · rw [hU]
    exact ((h1.kept hS.2.1).moved hW.alike).narrow hA
  · rw [hU]
    exact ((h2.kept hS.2.1).moved hW.alike).narrow hA
  · obtain ⟨a, ha⟩ := h4 q hq
    exact ⟨a, vk_R.warm hW ha⟩
theorem gm_Ex.blind {A : Nat → Prop} {U : State} (h : gm_Ex A U) (g : JFrame) (mk : MethodId) (a : Array Value) : gm_Ex A (U.calling g mk a) := by
  obtain ⟨h1, h2, h3, h4, h5, h6⟩ := h
  refine ⟨vx_Zq.moved (u := U) (U := U.calling g mk a) (Vm.Alike.refl U.vm) h1, vx_Zq.moved (u := U) (U := U.calling g mk a) (Vm.Alike.refl U.vm) h2, fun E hE => va_tabs (u := U) rfl rfl (h3 E hE), fun q hq => ?_, fun E hE E2 hE2 hn => va_Nc.moved (u := U) (U := U.calling g mk a) (Vm.Alike.refl U.vm) (h5 E hE E2 hE2 hn), fun q hq => va_Nw.same (u := U) rfl rfl (h6 q hq)⟩
  obtain ⟨b, hb⟩ := h4 q hq
  exact ⟨b, vk_R.same (u := U) rfl hb⟩
def gm_cw (M : pM) : Cond := match M.2.2.2.2.2.2.1 with
  | [] => .code M.2.1 M.2.2.1 M.2.2.2.1 M.2.2.2.2.1
  | q :: r => .codeWith M.2.1 M.2.2.1 M.2.2.2.1 M.2.2.2.2.1 (q :: r)
def gm_ws (M : pM) : List Cond := gm_cw M :: gm_U
def gm_rm (d c1 s1 : Nat) : Room := { frames := d + 12, cells := c1, slots := s1, locals := 60 * d + 150 }
def gm_Pc (dC : Nat → ClassId) (dI : Nat → Nat → Nat) (cy : Nat → ClassId) (ad : Nat → Nat) (h : pH) (av : List Value) (sz : Nat) : Array Value → State → Prop := va_Pc (av.map (gm_v ad)) (fun U => U.heap.size = sz ∧ va_P (dC, dI) vwCl (gm_W cy ad 0 h) U.heap ∧ va_K (dC, dI) vwCl (gm_tys cy) U ∧ va_D (fun _ => True) (gm_W cy ad 0 h) ∧ gm_Ex (va_A (gm_W cy ad 0 h) sz) U)
def gm_Q (dC : Nat → ClassId) (dI : Nat → Nat → Nat) (cy : Nat → ClassId) (ad : Nat → Nat) (h h1 : pH) (v : Option Value) (sz : Nat) : Array Value → State → Outcome → State → Prop := fun _ st oc t =>
  (∃ ad1, gm_ag h.length ad ad1 h1 ∧ oc = .returned (v.map (gm_v ad1)) ∧ va_P (dC, dI) vwCl (gm_W cy ad1 0 h1) t.heap ∧ va_D (va_A (gm_W cy ad 0 h) sz) (gm_W cy ad1 0 h1)) ∧ va_F (va_A (gm_W cy ad 0 h) sz) st t
def gm_XC (E0 : String) (dC : Nat → ClassId) (dI : Nat → Nat → Nat) (cy : Nat → ClassId) (ad : Nat → Nat) (h h1 : pH) (sz : Nat) : String → State → State → Prop := fun E st t =>
  E = E0 ∧ va_P (dC, dI) vwCl (gm_W cy ad 0 h1) t.heap ∧ va_D (va_A (gm_W cy ad 0 h) sz) (gm_W cy ad 0 h1) ∧ va_F (va_A (gm_W cy ad 0 h) sz) st t
def gm_Met1 (l : Launch) (d : Nat) (M : pM) (av : List Value) (h : pH) (v : Option Value) (h1 : pH) (c1 s1 : Nat) : Prop := ∀ (dC : Nat → ClassId) (dI : Nat → Nat → Nat) (cy : Nat → ClassId) (ad : Nat → Nat) (sz : Nat),
  Met l M.2.1 (gm_ws M) (gm_rm d c1 s1) (gm_Pc dC dI cy ad h av sz) (gm_Q dC dI cy ad h h1 v sz) c1 s1 (va_A (gm_W cy ad 0 h) sz)
def gm_Met2 (l : Launch) (d : Nat) (M : pM) (av : List Value) (h : pH) (E : String) (h1 : pH) (c1 s1 : Nat) : Prop := ∀ (dC : Nat → ClassId) (dI : Nat → Nat → Nat) (cy : Nat → ClassId) (ad : Nat → Nat) (sz : Nat),
  vx_Met l M.2.1 (gm_ws M) (gm_rm d c1 s1) (gm_Pc dC dI cy ad h av sz) (fun _ _ _ _ => False) (gm_XC E dC dI cy ad h h1 sz) c1 s1 (va_A (gm_W cy ad 0 h) sz)
theorem gm_Pc_blind {dC : Nat → ClassId} {dI : Nat → Nat → Nat} {cy : Nat → ClassId} {ad : Nat → Nat} {h : pH} {av : List Value} {sz : Nat} : FrameBlind (gm_Pc dC dI cy ad h av sz) := by
  intro a U g mk q
  obtain ⟨q0, q1, qP, qK, qD, qE⟩ := q
  exact ⟨q0, q1, qP, va_K.moved (u := U) (U := U.calling g mk a) (Vm.Alike.refl U.vm) qK, qD, qE.blind g mk a⟩
section GM
variable {p : Program} {l : Launch} {e : Env} {R : Room} {s : State} {m : MethodId} {args : Array Value} {below : List Frame} {meth : Method} {c : Code} {Q : State → Prop} {dC : Nat → ClassId} {dI : Nat → Nat → Nat} {cy : Nat → ClassId} {A : Nat → Prop} {ad0 : Nat → Nat} {n0 nL : Nat}
variable {pc n : Nat} {ls : pL} {st : List Value} {h : pH} {cl sl : Nat} {cc : ByteArray}
def gm_nr : List Value → Bool
  | [] => true
  | .ref _ :: _ => false
  | _ :: r => gm_nr r
theorem gm_nr_v (ad : Nat → Nat) : ∀ {fs : List Value}, gm_nr fs = true → fs.map (gm_v ad) = fs
  | [], _ => rfl
  | v :: r, h => by
    cases v with
    | ref a => simp [gm_nr] at h
    | _ =>
      simp only [List.map_cons, gm_v]
      rw [gm_nr_v ad (fs := r) (by simpa [gm_nr] using h)]
theorem gm_up_ag {q n : Nat} {ad : Nat → Nat} (hn : n < 88888) : ∀ i, i < n ∨ i = 88888 → va_up ad n q i = ad i := by
  intro i hi
  have : i ≠ n := by omega
  simp [va_up, this]
theorem gm_ag.push {q : Nat} {ad : Nat → Nat} {x : pE} (h1 : gm_ag n0 ad0 ad h) (hn : h.length < 88888) : gm_ag n0 ad0 (va_up ad h.length q) (h ++ [x]) := by
  obtain ⟨a1, a2, a3, a4⟩ := h1
  refine ⟨by simp; omega, fun hz => by simp at hz; omega, fun i hi => ?_, ?_⟩
  · rw [gm_up_ag hn i (Or.inl (by omega)), a3 i hi]
  · rw [gm_up_ag hn 88888 (Or.inr rfl), a4]
/-- a cell has come: the world is the list with it behind -/
theorem gm_grow {x : pE} {pc2 : Nat} {r : List Value} {q c1 s1 : Nat} {H1 : Heap} {locs : List Loc} {lsA : Array Slot} {ad : Nat → Nat} (h0 : gm_G p l e R s m args below meth c Q dC dI cy A ad0 n0 nL pc2 ls (.ref h.length :: r) (h ++ [x]) c1 s1) (hf : (gm_frs h.length r && (gm_frl h.length ls && gm_frh h.length h)) = true) (hn : h.length < 88888)
    (hag : gm_ag n0 ad0 ad h) (hL : gm_hL lsA nL ad ls) (hx1 : gm_e cy (va_up ad h.length q) x = gm_e cy ad x)
    (hP : va_P (dC, dI) vwCl (gm_W cy ad 0 h ++ [(q, gm_e cy ad x)]) H1) (hD : va_D A (gm_W cy ad 0 h ++ [(q, gm_e cy ad x)])) (hS : va_S A s.heap H1 locs) : W p l e R s m args below meth c H1 locs c1 s1 Q (F0 m pc2 lsA (.ref q :: r.map (gm_v ad))) := by
  simp only [Bool.and_eq_true] at hf
  obtain ⟨f1, f2, f3⟩ := hf
  have hup := gm_up_ag (q := q) (ad := ad) hn
  have he : gm_W cy (va_up ad h.length q) 0 (h ++ [x]) = gm_W cy ad 0 h ++ [(q, gm_e cy ad x)] := by
    rw [gm_W_app, gm_frh_W hup (by omega) f3, hx1]
    simp [va_up]
  have hk := h0.2 (va_up ad h.length q) H1 locs lsA (hag.push hn) (by rw [he]; exact hP) (by rw [he]; exact hD) hS (hL.moved hup f2)
  have hst : (Value.ref h.length :: r).map (gm_v (va_up ad h.length q)) = .ref q :: r.map (gm_v ad) := by
    simp only [List.map_cons, gm_frs_v hup f1]
    simp [gm_v, va_up]
  rw [hst] at hk
  exact hk
theorem gm_s_new {own : String} {k : Nat} {q : Nat × List Value} (hx : p.tables.exec = Jvm.exec) (hb : c.code = cc) (hown : s.vm.findClass own = some m.cls) (hts : ∀ w ∈ gm_U, w.before args s = true) (hcu : ∀ (ci : Nat) (r : vw_C), vwCl[ci]? = some r → ∀ w ∈ u_ws r.1 r.2.1 r.2.2, w ∈ gm_U) (hK : va_K (dC, dI) vwCl (gm_tys cy) s) (hA : ∀ q, s.heap.size ≤ q → A q)
    (hN : ∃ r : vw_C, vwCl[q.1]? = some r ∧ q.2.length = r.2.2 ∧ gm_nr q.2 = true ∧ Cond.classLink own k r.1 ∈ gm_U ∧ Cond.instantiable r.1 r.2.2 ∈ gm_U ∧ Cond.initialized r.1 ∈ gm_U ∧ ∀ j, j < r.2.2 → defaultValue (gm_tyf q.1 j) = vp_V q.2 j)
    (hd : decode cc pc = .ok (.new k, 3)) (hf : (gm_frs h.length st && (gm_frl h.length ls && gm_frh h.length h) && (gm_frs h.length q.2 && Nat.blt h.length 88888)) = true) (h0 : gm_G p l e R s m args below meth c Q dC dI cy A ad0 n0 nL (pc + 3) ls (.ref h.length :: st) (h ++ [.inr q]) (cl + 1) (sl + q.2.length)) : gm_G p l e R s m args below meth c Q dC dI cy A ad0 n0 nL pc ls st h cl sl := by
  obtain ⟨r, h1, h2, h3, h4, h5, h6, h7⟩ := hN
  have hbd := h0.1
  refine ⟨⟨by omega, by omega⟩, fun ad H locs lsA hag hP hD hS hL => ?_⟩
  have hf2 := Bool.and_eq_true_iff.mp hf
  have hn : h.length < 88888 := Nat.blt_eq.mp (Bool.and_eq_true_iff.mp hf2.2).2
  refine va_new (ci := q.1) (fs := q.2) (C := r.1) (T := r.2.1) (N := r.2.2) (Ts := gm_U) hx hb hts (hcu q.1 r h1) (gm_tyf q.1) (gm_cl_ty q.1 r h1).1 hown (hts _ h4) (hts _ h5) (hts _ h6) hK hP hD hS hA h1 h7 hbd.1 (by rw [← h2]; exact hbd.2) hd (fun a H1 hP1 hD1 hS1 => ?_)
  have he : gm_e cy ad (.inr q) = .inr (q.1, q.2) := by simp [gm_e, gm_nr_v ad h3]
  have he2 : gm_e cy (va_up ad h.length a) (.inr q) = gm_e cy ad (.inr q) := by simp [gm_e, gm_nr_v _ h3]
  rw [← h2]
  exact gm_grow h0 hf2.1 hn hag hL he2 (by rw [he]; exact hP1) (by rw [he]; exact hD1) hS1
theorem gm_s_newarray {t : ArrayType} {x : Int32} {r : List Value} {E : pE} (hx : p.tables.exec = Jvm.exec) (hb : c.code = cc) (hts : ∀ w ∈ gm_U, w.before args s = true) (hcw : Cond.arrayClass (newarray.typeOf t) ∈ gm_U) (hK : va_K (dC, dI) vwCl (gm_tys cy) s) (hA : ∀ q, s.heap.size ≤ q → A q)
    (hd : decode cc pc = .ok (.newarray t, 2)) (hneg : ¬ x < 0) (hle : Nat.ble x.toNatClampNeg 100000 = true) (hf : (gm_frs h.length r && (gm_frl h.length ls && gm_frh h.length h) && Nat.blt h.length 88888) = true) (hz : gm_zero t x.toNatClampNeg = some E) (h0 : gm_G p l e R s m args below meth c Q dC dI cy A ad0 n0 nL (pc + 2) ls (.ref h.length :: r) (h ++ [E]) (cl + 1) (sl + x.toNatClampNeg)) : gm_G p l e R s m args below meth c Q dC dI cy A ad0 n0 nL pc ls (.int x :: r) h cl sl := by
  have hbd := h0.1
  refine ⟨⟨by omega, by omega⟩, fun ad H locs lsA hag hP hD hS hL => ?_⟩
  have hf2 := Bool.and_eq_true_iff.mp hf
  have hn : h.length < 88888 := Nat.blt_eq.mp hf2.2
  have hle2 : x.toNatClampNeg ≤ 100000 := Nat.le_of_ble_eq_true hle
  have go : ∀ (tg : Nat) (ty : FieldType) (a0 : vp_A), newarray.typeOf t = ty → (gm_tys cy)[tg]? = some (cy tg, ty) → E = .inl (tg, a0) → (∀ cA : ClassId, vp_cell cA a0 = arrV cA x.toNatClampNeg (fun _ => defaultValue ty)) → x.toNatClampNeg * componentBytes ty ≤ 536870912 → (∀ (u v : ClassId), va_RA s u ty → va_RA s v ty → u = v) → W p l e R s m args below meth c H locs cl sl Q (F0 m pc lsA ((Value.int x :: r).map (gm_v ad))) := by
    intro tg ty a0 h1 h2 h3 h4 h5 h6
    subst h3
    refine va_newa (ty := ty) (a0 := a0) (N' := x.toNatClampNeg) hx hb (hts _ hcw) h1 hK hP hD hS hA h4 hneg rfl h5 hbd.1 hbd.2 hd (fun a cA H1 hK1 hP1 hD1 hS1 => ?_)
    have hcA : cA = cy tg := h6 cA (cy tg) (hK1.2 (gm_tys cy).length (cA, ty) (by simp)).2 (hK.2 tg (cy tg, ty) h2).2
    subst hcA
    exact gm_grow (x := .inl (tg, a0)) h0 hf2.1 hn hag hL rfl hP1 hD1 hS1
  have uniq : ∀ (ty : FieldType), (∀ u, va_RA s u ty → s.vm.findClass ("[" ++ ty.toString) = some u) → ∀ (u v : ClassId), va_RA s u ty → va_RA s v ty → u = v := fun ty hy u v hu hv => Option.some.inj ((hy u hu).symm.trans (hy v hv))
  cases t with
  | int => cases hz; exact go 0 .int _ rfl rfl rfl (fun cA => rfl) (by simp [componentBytes]; omega) (uniq _ fun u hu => hu)
  | char => cases hz; exact go 1 .char _ rfl rfl rfl (fun cA => rfl) (by simp [componentBytes]; omega) (uniq _ fun u hu => hu)
  | boolean => cases hz; exact go 2 .boolean _ rfl rfl rfl (fun cA => rfl) (by simp [componentBytes]; omega) (uniq _ fun u hu => hu)
  | long => cases hz; exact go 3 .long _ rfl rfl rfl (fun cA => rfl) (by simp [componentBytes]; omega) (uniq _ fun u hu => hu)
  | double => cases hz; exact go 4 .double _ rfl rfl rfl (fun cA => rfl) (by simp [componentBytes]; omega) (uniq _ fun u hu => hu)
  | _ => cases hz
/-- q thrown over this method's frame -/
def gm_GX (p : Program) (l : Launch) (e : Env) (R : Room) (s : State) (m : MethodId) (args : Array Value) (below : List Frame) (meth : Method) (c : Code) (Q : State → Prop) (dC : Nat → ClassId) (dI : Nat → Nat → Nat) (cy : Nat → ClassId) (A : Nat → Prop) (ad0 : Nat → Nat) (n0 nL : Nat) (pc : Nat) (ls : pL) (E : String) (h : pH) (cl sl : Nat) : Prop :=
  (cl ≤ R.cells ∧ sl ≤ R.slots) ∧ ∀ (ad : Nat → Nat) (H : Heap) (locs : List Loc) (lsA : Array Slot) (rest : List Value) (q : Addr) (ce : Cell), gm_ag n0 ad0 ad h → va_P (dC, dI) vwCl (gm_W cy ad 0 h) H → va_D A (gm_W cy ad 0 h) → va_S A s.heap H locs → gm_hL lsA nL ad ls → H[q]? = some ce → ce.vm = .none → s.vm.findClass E = some ce.cls → vx_W p l e R s m args below meth c H locs cl sl Q (F0 m pc lsA rest) q
/-- behind a call that returns -/
theorem gm_after {v : Option Value} {h1 : pH} {c1 s1 : Nat} {ad : Nat → Nat} {H : Heap} {locs : List Loc} {lsA : Array Slot} {rest st0 : List Value} {aA : Array Value}
    (hr : va_Run p l e R s m args below meth c H locs cl sl c1 s1 (F0 m pc lsA st0) (rest.map (gm_v ad)) (gm_Q dC dI cy ad h h1 v H.size aA) (va_A (gm_W cy ad 0 h) H.size))
    (hA : ∀ q, s.heap.size ≤ q → A q) (hag : gm_ag n0 ad0 ad h) (hD : va_D A (gm_W cy ad 0 h)) (hS : va_S A s.heap H locs) (hL : gm_hL lsA nL ad ls)
    (hG : gm_G p l e R s m args below meth c Q dC dI cy A ad0 n0 nL (pc + 3) ls (gm_vl v rest) h1 (cl + c1) (sl + s1)) (hkeep : h1.length = h.length ∨ (gm_frs h.length rest && gm_frl h.length ls) = true) : W p l e R s m args below meth c H locs cl sl Q (F0 m pc lsA st0) := by
  intro T hT X
  obtain ⟨v2, st₀, t, T', L, e0, X', hL2, e1, e2, ⟨⟨ad1, g1, hv, hP1, hD1⟩, hF⟩, stp⟩ := hr T hT X
  have hA1 : ∀ q, va_A (gm_W cy ad 0 h) H.size q → A q := va_free hD hS hA (List.range (gm_W cy ad 0 h).length) (by
    apply List.ext_getElem?
    intro i
    simp only [List.getElem?_map]
    by_cases hi : i < (gm_W cy ad 0 h).length
    · simp [List.getElem?_range hi, hi]
    · simp only [Nat.not_lt] at hi
      rw [List.getElem?_eq_none (by simpa using hi), List.getElem?_eq_none hi]
      rfl)
  obtain ⟨k1, k2, k3⟩ := vx_keep (A1 := va_A (gm_W cy ad 0 h) H.size) e0 e1 hS (fun q _ hq => hA1 q hq) hA1 hL2 hF
  cases hv
  have key : (∀ i : Nat, i < ls.length → True) ∧ gm_hL lsA nL ad1 ls ∧ rest.map (gm_v ad1) = rest.map (gm_v ad) := by
    refine ⟨fun _ _ => trivial, ?_⟩
    rcases hkeep with hk | hk
    · rw [g1.2.1 hk]
      exact ⟨hL, rfl⟩
    · have hk2 := Bool.and_eq_true_iff.mp hk
      have hup : ∀ i, i < h.length ∨ i = 88888 → ad1 i = ad i := fun i hi => hi.elim (fun z => g1.2.2.1 i z) (fun z => by rw [z]; exact g1.2.2.2)
      exact ⟨hL.moved hup hk2.2, gm_frs_v hup hk2.1⟩
  have hag1 : gm_ag n0 ad0 ad1 h1 := by
    obtain ⟨a1, a2, a3, a4⟩ := hag
    obtain ⟨b1, b2, b3, b4⟩ := g1
    refine ⟨by omega, fun hz => ?_, fun i hi => ?_, by rw [b4, a4]⟩
    · rw [b2 (by omega), a2 (by omega)]
    · rw [b3 i (by omega), a3 i hi]
  have hk := hG.2 ad1 T'.heap (locs ++ L) lsA hag1 (by rw [e1]; exact hP1) (hD1.weaken (fun k q _ hq => hA1 q.1 hq)) k3 key.2.1
  have hst : (gm_vl v rest).map (gm_v ad1) = (v.map (gm_v ad1)).toList ++ rest.map (gm_v ad) := by
    rw [← key.2.2]
    cases v <;> rfl
  rw [hst] at hk
  obtain ⟨t2, a1, b1⟩ := hk T' rfl X'
  exact ⟨t2, stp t2 a1, b1⟩
/-- behind a call that throws -/
theorem gm_afterX {E : String} {h1 : pH} {c1 s1 : Nat} {ad : Nat → Nat} {H : Heap} {locs : List Loc} {lsA : Array Slot} {rest st0 : List Value} {aA : Array Value}
    (hr : vx_Run p l e R s m args below meth c H locs cl sl c1 s1 (F0 m pc lsA st0) rest ((fun _ _ _ _ => False : Array Value → State → Outcome → State → Prop) aA) (gm_XC E dC dI cy ad h h1 H.size) (va_A (gm_W cy ad 0 h) H.size))
    (hA : ∀ q, s.heap.size ≤ q → A q) (hlen : h1.length = h.length) (hag : gm_ag n0 ad0 ad h) (hD : va_D A (gm_W cy ad 0 h)) (hS : va_S A s.heap H locs) (hL : gm_hL lsA nL ad ls)
    (hG : gm_GX p l e R s m args below meth c Q dC dI cy A ad0 n0 nL pc ls E h1 (cl + c1) (sl + s1)) : W p l e R s m args below meth c H locs cl sl Q (F0 m pc lsA st0) := by
  intro T hT X
  rcases hr T hT X with ⟨v, st₀, t, T', L, e0, X', hL2, e1, e2, hF, stp⟩ | ⟨q, st₀, t, T', L, E2, ce, e0, X', hL2, e1, e2, ⟨rfl, hP1, hD1, hF⟩, hce, hcv, hcl, stp⟩
  · exact hF.elim
  · have hA1 : ∀ q, va_A (gm_W cy ad 0 h) H.size q → A q := va_free hD hS hA (List.range (gm_W cy ad 0 h).length) (by
      apply List.ext_getElem?
      intro i
      simp only [List.getElem?_map]
      by_cases hi : i < (gm_W cy ad 0 h).length
      · simp [List.getElem?_range hi, hi]
      · simp only [Nat.not_lt] at hi
        rw [List.getElem?_eq_none (by simpa using hi), List.getElem?_eq_none hi]
        rfl)
    obtain ⟨k1, k2, k3⟩ := vx_keep (A1 := va_A (gm_W cy ad 0 h) H.size) e0 e1 hS (fun q _ hq => hA1 q hq) hA1 hL2 hF
    have hag1 : gm_ag n0 ad0 ad h1 := by
      unfold gm_ag
      rw [hlen]
      exact hag
    obtain ⟨t2, a1, b1⟩ := hG.2 ad T'.heap (locs ++ L) lsA rest q ce hag1 (by rw [e1]; exact hP1) (hD1.weaken (fun k q _ hq => hA1 q.1 hq)) k3 hL (by rw [e1]; exact hce) hcv hcl T' rfl X'
    exact ⟨t2, stp.trans a1, b1⟩
end GM
end
section
/-! SOUNDNESS, 4: calls, and the whole method -/
theorem gm_pop_of : ∀ {n : Nat} {acc st : List Value} {z : List Value × List Value}, gm_pop n acc st = some z → ∃ as : List Value, z.1 = as ++ acc ∧ as.length = n ∧ st = as.reverse ++ z.2
  | 0, acc, st, z, h => by
    simp only [gm_pop, Option.some.injEq] at h
    subst h
    exact ⟨[], rfl, rfl, rfl⟩
  | n + 1, acc, [], z, h => by simp [gm_pop] at h
  | n + 1, acc, v :: st, z, h => by
    simp only [gm_pop] at h
    obtain ⟨as, h1, h2, h3⟩ := gm_pop_of h
    refine ⟨as ++ [v], by rw [h1]; simp, by simp [h2], by rw [h3]; simp⟩
def gm_pd (y : MethodName) : Option Nat := (parseMethodDescriptor y.desc).map (fun d => d.parameters.length)
/-- what the tables say of a method -/
def gm_Mok (M : pM) : Prop := gm_cw M ∈ gm_U ∧ plainName M.2.1.cls = true ∧ M.2.1.cls ≠ "java/lang/invoke/MethodHandle" ∧ M.2.1.cls ≠ "java/lang/invoke/VarHandle" ∧ M.2.2.2.1 ≤ 41 ∧ Cond.initialized M.2.1.cls ∈ gm_U ∧ M.1 = M.2.1.cls
/-- what the tables say of a call, by the place of the constant pool -/
def gm_mok (MT : Nat → Option pM) (own : String) (k : Nat) (q : Nat × Nat) : Prop :=
  (q.1 = 0 ∧ q.2 = 200 ∧ Cond.methodLink own k objectInit ∈ gm_U ∧ Cond.instanceMethod objectInit ∈ gm_U ∧ Cond.code objectInit ⟨#[0xb1]⟩ 1 none ∈ gm_U) ∨
  (∃ M2 : pM, MT q.1 = some M2 ∧ q.1 ≠ 0 ∧ (Cond.methodLink own k M2.2.1 ∈ gm_U ∨ ((50 ≤ q.2 ∧ q.2 < 100 ∨ 200 ≤ q.2) ∧ (own, k, M2.2.1) ∈ gm_nests)) ∧
    ((50 ≤ q.2 ∧ q.2 < 100 ∧ (own, k, M2.2.1) ∈ gm_nests ∧ M2.2.1.name ≠ "<init>" ∧ Cond.static M2.2.1 ∈ gm_U ∧ gm_pd M2.2.1 = some (q.2 - 50) ∧ M2.2.2.2.2.2.2.1 = []) ∨ (q.2 < 50 ∧ M2.2.1.name ≠ "<init>" ∧ Cond.static M2.2.1 ∈ gm_U ∧ gm_pd M2.2.1 = some q.2) ∨
     (100 ≤ q.2 ∧ q.2 < 200 ∧ M2.2.1.name ≠ "<init>" ∧ Cond.instanceMethod M2.2.1 ∈ gm_U ∧ Cond.selects M2.2.1.cls M2.2.1 M2.2.1 ∈ gm_U ∧ gm_pd M2.2.1 = some (q.2 - 100) ∧ (∃ (ci : Nat) (r : vw_C), q.1 / 1000 = ci + 1 ∧ vwCl[ci]? = some r ∧ r.1 = M2.2.1.cls) ∧ M2.2.2.2.2.2.2.1 = []) ∨
     (200 ≤ q.2 ∧ Cond.instanceMethod M2.2.1 ∈ gm_U ∧ M2.2.1.name = "<init>" ∧ gm_pd M2.2.1 = some (q.2 - 200) ∧ M2.2.2.2.2.1 = none ∧ M2.2.2.2.2.2.2.1 = [])))
section GM
variable {p : Program} {l : Launch} {e : Env} {R : Room} {s : State} {m : MethodId} {args : Array Value} {below : List Frame} {meth : Method} {c : Code} {Q : State → Prop} {dC : Nat → ClassId} {dI : Nat → Nat → Nat} {cy : Nat → ClassId} {A : Nat → Prop} {ad0 : Nat → Nat} {n0 nL : Nat}
variable {pc n : Nat} {ls : pL} {st : List Value} {h : pH} {cl sl : Nat} {cc : ByteArray}
theorem gm_free (hA : ∀ q, s.heap.size ≤ q → A q) {ad : Nat → Nat} {H : Heap} {locs : List Loc} (hD : va_D A (gm_W cy ad 0 h)) (hS : va_S A s.heap H locs) : ∀ q, va_A (gm_W cy ad 0 h) H.size q → A q :=
  va_free hD hS hA (List.range (gm_W cy ad 0 h).length) (by
    apply List.ext_getElem?
    intro i
    simp only [List.getElem?_map]
    by_cases hi : i < (gm_W cy ad 0 h).length
    · simp [List.getElem?_range hi, hi]
    · simp only [Nat.not_lt] at hi
      rw [List.getElem?_eq_none (by simpa using hi), List.getElem?_eq_none hi]
      rfl)
theorem gm_pre (hK : va_K (dC, dI) vwCl (gm_tys cy) s) (hA : ∀ q, s.heap.size ≤ q → A q) (hEx : gm_Ex A s) {ad : Nat → Nat} {H : Heap} {locs : List Loc} {av : List Value} (hP : va_P (dC, dI) vwCl (gm_W cy ad 0 h) H) (hD : va_D A (gm_W cy ad 0 h)) (hS : va_S A s.heap H locs) :
    ∀ U : State, U.heap = H → s.WarmedH U.vm → gm_Pc dC dI cy ad h av H.size (av.map (gm_v ad)).toArray U :=
  fun U hU hW => ⟨rfl, by rw [hU], by rw [hU]; exact hP, va_K.moved hW.alike hK, hD.weaken (fun _ _ _ _ => trivial), hEx.next hS hW hU (gm_free hA hD hS)⟩
theorem gm_ws_cons (M : pM) (hn : M.2.2.2.2.2.2.1 = []) : gm_ws M = Cond.code M.2.1 M.2.2.1 M.2.2.2.1 M.2.2.2.2.1 :: gm_U := by
  unfold gm_ws gm_cw
  rw [hn]
theorem gm_ws_consW (M : pM) {q : Nat × Nat × Nat × Nat} {r : List (Nat × Nat × Nat × Nat)} (hn : M.2.2.2.2.2.2.1 = q :: r) : gm_ws M = Cond.codeWith M.2.1 M.2.2.1 M.2.2.2.1 M.2.2.2.2.1 (q :: r) :: gm_U := by
  unfold gm_ws gm_cw
  rw [hn]
theorem gm_ws_in {M : pM} (hM : gm_Mok M) : ∀ w ∈ gm_ws M, w ∈ gm_U := fun w hw => (List.mem_cons.mp hw).elim (fun z => z ▸ hM.1) id
theorem gm_s_static {own : String} {k : Nat} {q : Nat × Nat} {M2 : pM} {d : Nat} {z : List Value × List Value} {v : Option Value} {h1 : pH} {c1 s1 : Nat} (hx : p.tables.exec = Jvm.exec) (hb : c.code = cc) (hml : c.maxLocals = nL) (hown : s.vm.findClass own = some m.cls) (hts : ∀ w ∈ gm_U, w.before args s = true) (hK : va_K (dC, dI) vwCl (gm_tys cy) s) (hA : ∀ q, s.heap.size ≤ q → A q) (hEx : gm_Ex A s) (hR : d + 13 ≤ R.frames ∧ 60 * d + 210 ≤ R.locals)
    (hM : gm_Mok M2) (hl : Cond.methodLink own k M2.2.1 ∈ gm_U) (hstt : Cond.static M2.2.1 ∈ gm_U) (hpd : gm_pd M2.2.1 = some q.2)
    (hMet : gm_Met1 l d M2 z.1 h v h1 c1 s1) (hlen : h1.length = h.length) (hd : decode cc pc = .ok (.invokestatic k, 3)) (hpop : gm_pop q.2 [] st = some z) (hsum : Nat.ble (gm_sum z.2) 8 = true) (hG : gm_G p l e R s m args below meth c Q dC dI cy A ad0 n0 nL (pc + 3) ls (gm_vl v z.2) h1 (cl + c1) (sl + s1)) : gm_G p l e R s m args below meth c Q dC dI cy A ad0 n0 nL pc ls st h cl sl := by
  have hbd := hG.1
  obtain ⟨as, e1, e2, e3⟩ := gm_pop_of hpop
  rw [List.append_nil] at e1
  refine ⟨⟨by omega, by omega⟩, fun ad H locs lsA hag hP hD hS hL => ?_⟩
  have hpre := gm_pre (av := z.1) hK hA hEx hP hD hS
  have hin : ∀ w ∈ va_wsS own k M2.2.1 (gm_ws M2), w ∈ gm_U := by
    intro w hw
    unfold va_wsS at hw
    rcases List.mem_append.mp hw with h9 | h9
    · simp only [List.mem_cons, List.not_mem_nil, or_false] at h9
      rcases h9 with rfl | rfl | rfl
      · exact hl
      · exact hstt
      · exact hM.2.2.2.2.2.1
    · exact gm_ws_in hM w h9
  have hstk : st.map (gm_v ad) = (z.1.map (gm_v ad)).reverse ++ z.2.map (gm_v ad) := by rw [e3, e1]; simp
  have hnn : (z.1.map (gm_v ad)).length = q.2 := by rw [List.length_map, e1, e2]
  have hrm : (gm_rm d c1 s1).frames + 1 ≤ R.frames ∧ 8 + (M2.2.2.2.1 + 11) + (gm_rm d c1 s1).locals ≤ R.locals := by
    have := hM.2.2.2.2.1
    exact ⟨by show d + 12 + 1 ≤ R.frames; omega, by show 8 + (M2.2.2.2.1 + 11) + (60 * d + 150) ≤ R.locals; omega⟩
  have hroom : ((z.2.map (gm_v ad)).map fun v => v.category).sum ≤ 8 := by rw [gm_v_sum]; exact Nat.le_of_ble_eq_true hsum
  refine gm_after (rest := z.2) (v := v) (h1 := h1) (c1 := c1) (s1 := s1) (aA := (z.1.map (gm_v ad)).toArray) ?_ hA hag hD hS hL hG (Or.inl hlen)
  cases hh : M2.2.2.2.2.2.2.1 with
  | nil =>
    exact va_runS (As := z.1.map (gm_v ad)) (rest := z.2.map (gm_v ad)) ⟨hx, hb, hml, hown, hts⟩ (hMet dC dI cy ad H.size) (va_cwS q.2 hts (gm_U_good hin) (gm_ws_cons M2 hh) rfl rfl ⟨hM.2.2.1, hM.2.2.2.1, hpd⟩ hrm) ⟨gm_Pc_blind, hpre⟩ rfl hnn hL.1 hstk (lv_room hroom) hd hbd
  | cons a r =>
    exact vx_runSW (As := z.1.map (gm_v ad)) (rest := z.2.map (gm_v ad)) ⟨hx, hb, hml, hown, hts⟩ (hMet dC dI cy ad H.size) (vx_cwSW q.2 hts (gm_U_good hin) (gm_ws_consW M2 hh) rfl rfl ⟨hM.2.2.1, hM.2.2.2.1, hpd⟩ hrm) ⟨gm_Pc_blind, hpre⟩ rfl hnn hL.1 hstk (lv_room hroom) hd hbd
theorem gm_s_staticN {own : String} {k : Nat} {q : Nat × Nat} {M2 : pM} {d : Nat} {z : List Value × List Value} {v : Option Value} {h1 : pH} {c1 s1 : Nat} (hx : p.tables.exec = Jvm.exec) (hb : c.code = cc) (hml : c.maxLocals = nL) (hown : s.vm.findClass own = some m.cls) (hts : ∀ w ∈ gm_U, w.before args s = true) (hK : va_K (dC, dI) vwCl (gm_tys cy) s) (hA : ∀ q, s.heap.size ≤ q → A q) (hEx : gm_Ex A s) (hR : d + 13 ≤ R.frames ∧ 60 * d + 210 ≤ R.locals)
    (hM : gm_Mok M2) (hl : (own, k, M2.2.1) ∈ gm_nests) (hstt : Cond.static M2.2.1 ∈ gm_U) (hpd : gm_pd M2.2.1 = some (q.2 - 50)) (hh : M2.2.2.2.2.2.2.1 = [])
    (hMet : gm_Met1 l d M2 z.1 h v h1 c1 s1) (hlen : h1.length = h.length) (hd : decode cc pc = .ok (.invokestatic k, 3)) (hpop : gm_pop (q.2 - 50) [] st = some z) (hsum : Nat.ble (gm_sum z.2) 8 = true) (hG : gm_G p l e R s m args below meth c Q dC dI cy A ad0 n0 nL (pc + 3) ls (gm_vl v z.2) h1 (cl + c1) (sl + s1)) : gm_G p l e R s m args below meth c Q dC dI cy A ad0 n0 nL pc ls st h cl sl := by
  have hbd := hG.1
  obtain ⟨as, e1, e2, e3⟩ := gm_pop_of hpop
  rw [List.append_nil] at e1
  refine ⟨⟨by omega, by omega⟩, fun ad H locs lsA hag hP hD hS hL => ?_⟩
  have hpre := gm_pre (av := z.1) hK hA hEx hP hD hS
  have hstk : st.map (gm_v ad) = (z.1.map (gm_v ad)).reverse ++ z.2.map (gm_v ad) := by rw [e3, e1]; simp
  have hnn : (z.1.map (gm_v ad)).length = q.2 - 50 := by rw [List.length_map, e1, e2]
  have hrm : (gm_rm d c1 s1).frames + 1 ≤ R.frames ∧ 8 + (M2.2.2.2.1 + 11) + (gm_rm d c1 s1).locals ≤ R.locals := by
    have := hM.2.2.2.2.1
    exact ⟨by show d + 12 + 1 ≤ R.frames; omega, by show 8 + (M2.2.2.2.1 + 11) + (60 * d + 150) ≤ R.locals; omega⟩
  have hroom : ((z.2.map (gm_v ad)).map fun v => v.category).sum ≤ 8 := by rw [gm_v_sum]; exact Nat.le_of_ble_eq_true hsum
  refine gm_after (rest := z.2) (v := v) (h1 := h1) (c1 := c1) (s1 := s1) (aA := (z.1.map (gm_v ad)).toArray) ?_ hA hag hD hS hL hG (Or.inl hlen)
  exact va_runSN (As := z.1.map (gm_v ad)) (rest := z.2.map (gm_v ad)) ⟨hx, hb, hml, hown, hts⟩ (hMet dC dI cy ad H.size) ⟨va_cnB (q.2 - 50) hts (gm_U_good (gm_ws_in hM)) (gm_ws_cons M2 hh) rfl rfl (hEx.2.2.2.2.2 _ hl) (hts _ hM.2.2.2.2.2.1) ⟨hM.2.2.1, hM.2.2.2.1, hpd⟩ hrm, hts _ hstt, trivial⟩ ⟨gm_Pc_blind, hpre⟩ rfl hnn hL.1 hstk (lv_room hroom) hd hbd
theorem gm_s_staticX {own : String} {k : Nat} {q : Nat × Nat} {M2 : pM} {d : Nat} {z : List Value × List Value} {E : String} {h1 : pH} {c1 s1 : Nat} (hx : p.tables.exec = Jvm.exec) (hb : c.code = cc) (hml : c.maxLocals = nL) (hown : s.vm.findClass own = some m.cls) (hts : ∀ w ∈ gm_U, w.before args s = true) (hK : va_K (dC, dI) vwCl (gm_tys cy) s) (hA : ∀ q, s.heap.size ≤ q → A q) (hEx : gm_Ex A s) (hR : d + 13 ≤ R.frames ∧ 60 * d + 210 ≤ R.locals)
    (hM : gm_Mok M2) (hl : Cond.methodLink own k M2.2.1 ∈ gm_U) (hstt : Cond.static M2.2.1 ∈ gm_U) (hpd : gm_pd M2.2.1 = some q.2) (hh : M2.2.2.2.2.2.2.1 = [])
    (hMet : gm_Met2 l d M2 z.1 h E h1 c1 s1) (hlen : h1.length = h.length) (hd : decode cc pc = .ok (.invokestatic k, 3)) (hpop : gm_pop q.2 [] st = some z) (hsum : Nat.ble (gm_sum z.2) 8 = true) (hG : gm_GX p l e R s m args below meth c Q dC dI cy A ad0 n0 nL pc ls E h1 (cl + c1) (sl + s1)) : gm_G p l e R s m args below meth c Q dC dI cy A ad0 n0 nL pc ls st h cl sl := by
  have hbd := hG.1
  obtain ⟨as, e1, e2, e3⟩ := gm_pop_of hpop
  rw [List.append_nil] at e1
  refine ⟨⟨by omega, by omega⟩, fun ad H locs lsA hag hP hD hS hL => ?_⟩
  have hpre := gm_pre (av := z.1) hK hA hEx hP hD hS
  have hin : ∀ w ∈ va_wsS own k M2.2.1 (gm_ws M2), w ∈ gm_U := by
    intro w hw
    unfold va_wsS at hw
    rcases List.mem_append.mp hw with h9 | h9
    · simp only [List.mem_cons, List.not_mem_nil, or_false] at h9
      rcases h9 with rfl | rfl | rfl
      · exact hl
      · exact hstt
      · exact hM.2.2.2.2.2.1
    · exact gm_ws_in hM w h9
  have hstk : st.map (gm_v ad) = (z.1.map (gm_v ad)).reverse ++ z.2.map (gm_v ad) := by rw [e3, e1]; simp
  have hnn : (z.1.map (gm_v ad)).length = q.2 := by rw [List.length_map, e1, e2]
  have hrm : (gm_rm d c1 s1).frames + 1 ≤ R.frames ∧ 8 + (M2.2.2.2.1 + 11) + (gm_rm d c1 s1).locals ≤ R.locals := by
    have := hM.2.2.2.2.1
    exact ⟨by show d + 12 + 1 ≤ R.frames; omega, by show 8 + (M2.2.2.2.1 + 11) + (60 * d + 150) ≤ R.locals; omega⟩
  have hroom : ((z.2.map (gm_v ad)).map fun v => v.category).sum ≤ 8 := by rw [gm_v_sum]; exact Nat.le_of_ble_eq_true hsum
  refine gm_afterX (rest := z.2.map (gm_v ad)) (E := E) (h1 := h1) (c1 := c1) (s1 := s1) (aA := (z.1.map (gm_v ad)).toArray) ?_ hA hlen hag hD hS hL hG
  exact vx_runS (As := z.1.map (gm_v ad)) (rest := z.2.map (gm_v ad)) ⟨hx, hb, hml, hown, hts⟩ (hMet dC dI cy ad H.size) (va_cwS q.2 hts (gm_U_good hin) (gm_ws_cons M2 hh) rfl rfl ⟨hM.2.2.1, hM.2.2.2.1, hpd⟩ hrm) ⟨gm_Pc_blind, hpre⟩ rfl hnn hL.1 hstk (lv_room hroom) hd hbd

theorem gm_s_virtual {own : String} {k ci a : Nat} {q : Nat × Nat} {M2 : pM} {d : Nat} {z : List Value × List Value} {r : List Value} {fs : List Value} {rc : vw_C} {v : Option Value} {h1 : pH} {c1 s1 : Nat} (hx : p.tables.exec = Jvm.exec) (hb : c.code = cc) (hml : c.maxLocals = nL) (hown : s.vm.findClass own = some m.cls) (hts : ∀ w ∈ gm_U, w.before args s = true) (hK : va_K (dC, dI) vwCl (gm_tys cy) s) (hA : ∀ q, s.heap.size ≤ q → A q) (hEx : gm_Ex A s) (hR : d + 13 ≤ R.frames ∧ 60 * d + 210 ≤ R.locals)
    (hM : gm_Mok M2) (hl : Cond.methodLink own k M2.2.1 ∈ gm_U) (hins : Cond.instanceMethod M2.2.1 ∈ gm_U) (hsel : Cond.selects M2.2.1.cls M2.2.1 M2.2.1 ∈ gm_U) (hpd : gm_pd M2.2.1 = some (q.2 - 100)) (hh : M2.2.2.2.2.2.2.1 = []) (hrc : vwCl[ci]? = some rc) (hrn : rc.1 = M2.2.1.cls) (hcell : gm_nth h a = some (.inr (ci, fs)))
    (hMet : gm_Met1 l d M2 (.ref a :: z.1) h v h1 c1 s1) (hlen : h1.length = h.length) (hd : decode cc pc = .ok (.invokevirtual k, 3)) (hpop : gm_pop (q.2 - 100) [] st = some z) (hz : z.2 = .ref a :: r) (hsum : Nat.ble (gm_sum r) 8 = true) (hG : gm_G p l e R s m args below meth c Q dC dI cy A ad0 n0 nL (pc + 3) ls (gm_vl v r) h1 (cl + c1) (sl + s1)) : gm_G p l e R s m args below meth c Q dC dI cy A ad0 n0 nL pc ls st h cl sl := by
  have hbd := hG.1
  obtain ⟨as, e1, e2, e3⟩ := gm_pop_of hpop
  rw [List.append_nil] at e1
  refine ⟨⟨by omega, by omega⟩, fun ad H locs lsA hag hP hD hS hL => ?_⟩
  have hpre := gm_pre (av := .ref a :: z.1) hK hA hEx hP hD hS
  have hin : ∀ w ∈ wsV own k M2.2.1.cls M2.2.1 (gm_ws M2), w ∈ gm_U := by
    intro w hw
    unfold wsV at hw
    rcases List.mem_append.mp hw with h9 | h9
    · simp only [List.mem_cons, List.not_mem_nil, or_false] at h9
      rcases h9 with rfl | rfl | rfl | rfl
      · exact hl
      · exact hins
      · exact hsel
      · exact hM.2.2.2.2.2.1
    · exact gm_ws_in hM w h9
  have hstk : st.map (gm_v ad) = (z.1.map (gm_v ad)).reverse ++ .ref (ad a) :: r.map (gm_v ad) := by
    rw [e3, e1, hz]
    simp [gm_v]
  have hnn : (z.1.map (gm_v ad)).length = q.2 - 100 := by rw [List.length_map, e1, e2]
  have hrm : (gm_rm d c1 s1).frames + 1 ≤ R.frames ∧ 8 + (M2.2.2.2.1 + 11) + (gm_rm d c1 s1).locals ≤ R.locals := by
    have := hM.2.2.2.2.1
    exact ⟨by show d + 12 + 1 ≤ R.frames; omega, by show 8 + (M2.2.2.2.1 + 11) + (60 * d + 150) ≤ R.locals; omega⟩
  have hroom : ((r.map (gm_v ad)).map fun v => v.category).sum ≤ 8 := by rw [gm_v_sum]; exact Nat.le_of_ble_eq_true hsum
  have hrecv : ∃ cellB : Cell, H[ad a]? = some cellB ∧ cellB.vm.isStatics = false ∧ s.vm.findClass M2.2.1.cls = some cellB.cls := by
    rw [← hrn]
    exact va_recv hK hP hrc (gm_W_at hcell)
  refine gm_after (rest := r) (v := v) (h1 := h1) (c1 := c1) (s1 := s1) (aA := ((Value.ref a :: z.1).map (gm_v ad)).toArray) ?_ hA hag hD hS hL hG (Or.inl hlen)
  exact va_runV (As := z.1.map (gm_v ad)) (rest := r.map (gm_v ad)) (b := ad a) (C := M2.2.1.cls) ⟨hx, hb, hml, hown, hts⟩ (hMet dC dI cy ad H.size) (cwV (q.2 - 100) hts (gm_U_good hin) (gm_ws_cons M2 hh) rfl rfl ⟨rfl, hM.2.2.1, hM.2.2.2.1, hpd⟩ hrm) ⟨gm_Pc_blind, hrecv, hpre⟩ rfl hnn hL.1 hstk (lv_room hroom) hd hbd

theorem gm_s_virtualX {own : String} {k ci a : Nat} {q : Nat × Nat} {M2 : pM} {d : Nat} {z : List Value × List Value} {r : List Value} {fs : List Value} {rc : vw_C} {E : String} {h1 : pH} {c1 s1 : Nat} (hx : p.tables.exec = Jvm.exec) (hb : c.code = cc) (hml : c.maxLocals = nL) (hown : s.vm.findClass own = some m.cls) (hts : ∀ w ∈ gm_U, w.before args s = true) (hK : va_K (dC, dI) vwCl (gm_tys cy) s) (hA : ∀ q, s.heap.size ≤ q → A q) (hEx : gm_Ex A s) (hR : d + 13 ≤ R.frames ∧ 60 * d + 210 ≤ R.locals)
    (hM : gm_Mok M2) (hl : Cond.methodLink own k M2.2.1 ∈ gm_U) (hins : Cond.instanceMethod M2.2.1 ∈ gm_U) (hsel : Cond.selects M2.2.1.cls M2.2.1 M2.2.1 ∈ gm_U) (hpd : gm_pd M2.2.1 = some (q.2 - 100)) (hh : M2.2.2.2.2.2.2.1 = []) (hrc : vwCl[ci]? = some rc) (hrn : rc.1 = M2.2.1.cls) (hcell : gm_nth h a = some (.inr (ci, fs)))
    (hMet : gm_Met2 l d M2 (.ref a :: z.1) h E h1 c1 s1) (hlen : h1.length = h.length) (hd : decode cc pc = .ok (.invokevirtual k, 3)) (hpop : gm_pop (q.2 - 100) [] st = some z) (hz : z.2 = .ref a :: r) (hsum : Nat.ble (gm_sum r) 8 = true) (hG : gm_GX p l e R s m args below meth c Q dC dI cy A ad0 n0 nL pc ls E h1 (cl + c1) (sl + s1)) : gm_G p l e R s m args below meth c Q dC dI cy A ad0 n0 nL pc ls st h cl sl := by
  have hbd := hG.1
  obtain ⟨as, e1, e2, e3⟩ := gm_pop_of hpop
  rw [List.append_nil] at e1
  refine ⟨⟨by omega, by omega⟩, fun ad H locs lsA hag hP hD hS hL => ?_⟩
  have hpre := gm_pre (av := .ref a :: z.1) hK hA hEx hP hD hS
  have hin : ∀ w ∈ wsV own k M2.2.1.cls M2.2.1 (gm_ws M2), w ∈ gm_U := by
    intro w hw
    unfold wsV at hw
    rcases List.mem_append.mp hw with h9 | h9
    · simp only [List.mem_cons, List.not_mem_nil, or_false] at h9
      rcases h9 with rfl | rfl | rfl | rfl
      · exact hl
      · exact hins
      · exact hsel
      · exact hM.2.2.2.2.2.1
    · exact gm_ws_in hM w h9
  have hstk : st.map (gm_v ad) = (z.1.map (gm_v ad)).reverse ++ .ref (ad a) :: r.map (gm_v ad) := by
    rw [e3, e1, hz]
    simp [gm_v]
  have hnn : (z.1.map (gm_v ad)).length = q.2 - 100 := by rw [List.length_map, e1, e2]
  have hrm : (gm_rm d c1 s1).frames + 1 ≤ R.frames ∧ 8 + (M2.2.2.2.1 + 11) + (gm_rm d c1 s1).locals ≤ R.locals := by
    have := hM.2.2.2.2.1
    exact ⟨by show d + 12 + 1 ≤ R.frames; omega, by show 8 + (M2.2.2.2.1 + 11) + (60 * d + 150) ≤ R.locals; omega⟩
  have hroom : ((r.map (gm_v ad)).map fun v => v.category).sum ≤ 8 := by rw [gm_v_sum]; exact Nat.le_of_ble_eq_true hsum
  have hrecv : ∃ cellB : Cell, H[ad a]? = some cellB ∧ cellB.vm.isStatics = false ∧ s.vm.findClass M2.2.1.cls = some cellB.cls := by
    rw [← hrn]
    exact va_recv hK hP hrc (gm_W_at hcell)
  refine gm_afterX (rest := r.map (gm_v ad)) (E := E) (h1 := h1) (c1 := c1) (s1 := s1) (aA := ((Value.ref a :: z.1).map (gm_v ad)).toArray) ?_ hA hlen hag hD hS hL hG
  exact vx_runV (As := z.1.map (gm_v ad)) (rest := r.map (gm_v ad)) (b := ad a) (C := M2.2.1.cls) ⟨hx, hb, hml, hown, hts⟩ (hMet dC dI cy ad H.size) (cwV (q.2 - 100) hts (gm_U_good hin) (gm_ws_cons M2 hh) rfl rfl ⟨rfl, hM.2.2.1, hM.2.2.2.1, hpd⟩ hrm) ⟨gm_Pc_blind, hrecv, hpre⟩ rfl hnn hL.1 hstk (lv_room hroom) hd hbd

theorem gm_s_init {own : String} {k a : Nat} {q : Nat × Nat} {M2 : pM} {d : Nat} {z : List Value × List Value} {r : List Value} {h1 : pH} {c1 s1 : Nat} (hx : p.tables.exec = Jvm.exec) (hb : c.code = cc) (hml : c.maxLocals = nL) (hown : s.vm.findClass own = some m.cls) (hts : ∀ w ∈ gm_U, w.before args s = true) (hK : va_K (dC, dI) vwCl (gm_tys cy) s) (hA : ∀ q, s.heap.size ≤ q → A q) (hEx : gm_Ex A s) (hR : d + 13 ≤ R.frames ∧ 60 * d + 210 ≤ R.locals)
    (hM : gm_Mok M2) (hl : Cond.methodLink own k M2.2.1 ∈ gm_U ∨ (own, k, M2.2.1) ∈ gm_nests) (hins : Cond.instanceMethod M2.2.1 ∈ gm_U) (hname : M2.2.1.name = "<init>") (hpd : gm_pd M2.2.1 = some (q.2 - 200)) (hret : M2.2.2.2.2.1 = none) (hh : M2.2.2.2.2.2.2.1 = [])
    (hMet : gm_Met1 l d M2 (.ref a :: z.1) h none h1 c1 s1) (hd : decode cc pc = .ok (.invokespecial k, 3)) (hpop : gm_pop (q.2 - 200) [] st = some z) (hz : z.2 = .ref a :: r) (hsum : Nat.ble (gm_sum r) 6 = true) (hfr : (gm_frs h.length r && gm_frl h.length ls) = true) (hG : gm_G p l e R s m args below meth c Q dC dI cy A ad0 n0 nL (pc + 3) ls r h1 (cl + c1) (sl + s1)) : gm_G p l e R s m args below meth c Q dC dI cy A ad0 n0 nL pc ls st h cl sl := by
  have hbd := hG.1
  obtain ⟨as, e1, e2, e3⟩ := gm_pop_of hpop
  rw [List.append_nil] at e1
  refine ⟨⟨by omega, by omega⟩, fun ad H locs lsA hag hP hD hS hL => ?_⟩
  have hpre := gm_pre (av := .ref a :: z.1) hK hA hEx hP hD hS
  have hstk : st.map (gm_v ad) = (z.1.map (gm_v ad)).reverse ++ .ref (ad a) :: r.map (gm_v ad) := by
    rw [e3, e1, hz]
    simp [gm_v]
  have hnn : (z.1.map (gm_v ad)).length = q.2 - 200 := by rw [List.length_map, e1, e2]
  have hrm : (gm_rm d c1 s1).frames + 1 ≤ R.frames ∧ 8 + (M2.2.2.2.1 + 11) + (gm_rm d c1 s1).locals ≤ R.locals := by
    have := hM.2.2.2.2.1
    exact ⟨by show d + 12 + 1 ≤ R.frames; omega, by show 8 + (M2.2.2.2.1 + 11) + (60 * d + 150) ≤ R.locals; omega⟩
  have hroom : ((r.map (gm_v ad)).map fun v => v.category).sum ≤ 8 := by
    rw [gm_v_sum]
    have := Nat.le_of_ble_eq_true hsum
    omega
  refine gm_after (rest := r) (v := none) (h1 := h1) (c1 := c1) (s1 := s1) (aA := ((Value.ref a :: z.1).map (gm_v ad)).toArray) ?_ hA hag hD hS hL hG (Or.inr hfr)
  have hw : gm_ws M2 = Cond.code M2.2.1 M2.2.2.1 M2.2.2.2.1 none :: gm_U := by rw [gm_ws_cons M2 hh, hret]
  rcases hl with hl | hl
  · exact va_runI (As := z.1.map (gm_v ad)) (rest := r.map (gm_v ad)) (b := ad a) ⟨hx, hb, hml, hown, hts⟩ (hMet dC dI cy ad H.size) (cwI (q.2 - 200) hts (gm_U_good (gm_ws_in hM)) hw rfl rfl (hts _ hM.2.2.2.2.2.1) (hts _ hl) (hts _ hins) hname ⟨hM.2.2.1, hM.2.2.2.1, hpd⟩ hrm) ⟨gm_Pc_blind, hpre⟩ rfl hnn hL.1 hstk (lv_room hroom) hd hbd
  · exact va_runIN (As := z.1.map (gm_v ad)) (rest := r.map (gm_v ad)) (b := ad a) ⟨hx, hb, hml, hown, hts⟩ (hMet dC dI cy ad H.size) ⟨va_cnB (q.2 - 200) hts (gm_U_good (gm_ws_in hM)) hw rfl rfl (hEx.2.2.2.2.2 _ hl) (hts _ hM.2.2.2.2.2.1) ⟨hM.2.2.1, hM.2.2.2.1, hpd⟩ hrm, hname, hts _ hins⟩ ⟨gm_Pc_blind, hpre⟩ rfl hnn hL.1 hstk (lv_room hroom) hd hbd
theorem gm_s_obj {own : String} {k a : Nat} {r : List Value} (hx : p.tables.exec = Jvm.exec) (hb : c.code = cc) (hml : c.maxLocals = nL) (hown : s.vm.findClass own = some m.cls) (hts : ∀ w ∈ gm_U, w.before args s = true) (hR : 1 ≤ R.frames ∧ 60 ≤ R.locals) (hl : Cond.methodLink own k objectInit ∈ gm_U) (hins : Cond.instanceMethod objectInit ∈ gm_U) (hcode : Cond.code objectInit ⟨#[0xb1]⟩ 1 none ∈ gm_U)
    (hd : decode cc pc = .ok (.invokespecial k, 3)) (hsum : Nat.ble (gm_sum r) 6 = true) (hG : gm_G p l e R s m args below meth c Q dC dI cy A ad0 n0 nL (pc + 3) ls r h cl sl) : gm_G p l e R s m args below meth c Q dC dI cy A ad0 n0 nL pc ls (.ref a :: r) h cl sl := by
  refine gm_lift hG fun ad H locs lsA hag hP hD hS hL kk => ?_
  refine W.objInit hx hb hown (hts _ hl) (hts _ hins) (hts _ hcode) rfl (by rw [hml]; exact hL.1) (a := ad a) (rest := r.map (gm_v ad)) rfl hd hR.1 ?_ (kk lsA hL)
  have h1 : ((r.map (gm_v ad)).map fun v => v.category).sum ≤ 6 := by
    rw [gm_v_sum]
    exact Nat.le_of_ble_eq_true hsum
  have h2 : 2 * (F0 m pc lsA (.ref (ad a) :: r.map (gm_v ad))).monitorRoom + ((r.map (gm_v ad)).map fun v => v.category).sum ≤ 8 := lv_room (by omega)
  show 2 * (F0 m pc lsA (.ref (ad a) :: r.map (gm_v ad))).monitorRoom + ((r.map (gm_v ad)).map fun v => v.category).sum + 12 ≤ R.locals
  omega
end GM
end
section
/-! SOUNDNESS, 5: an instruction's length and numbers; the machine's predicate goes back along the code -/
def gm_lenok : Instr → Nat → Bool
  | .iconst _, n => Nat.beq n 1
  | .lconst _, n => Nat.beq n 1
  | .fconst _, n => Nat.beq n 1
  | .iload_n _, n => Nat.beq n 1
  | .lload_n _, n => Nat.beq n 1
  | .aload_n _, n => Nat.beq n 1
  | .istore_n _, n => Nat.beq n 1
  | .lstore_n _, n => Nat.beq n 1
  | .astore_n _, n => Nat.beq n 1
  | .iadd, n => Nat.beq n 1
  | .isub, n => Nat.beq n 1
  | .imul, n => Nat.beq n 1
  | .iand, n => Nat.beq n 1
  | .ior, n => Nat.beq n 1
  | .ixor, n => Nat.beq n 1
  | .ineg, n => Nat.beq n 1
  | .idiv, n => Nat.beq n 1
  | .irem, n => Nat.beq n 1
  | .ishl, n => Nat.beq n 1
  | .ishr, n => Nat.beq n 1
  | .iushr, n => Nat.beq n 1
  | .ladd, n => Nat.beq n 1
  | .lmul, n => Nat.beq n 1
  | .lneg, n => Nat.beq n 1
  | .lcmp, n => Nat.beq n 1
  | .i2l, n => Nat.beq n 1
  | .i2c, n => Nat.beq n 1
  | .i2f, n => Nat.beq n 1
  | .f2d, n => Nat.beq n 1
  | .fdiv, n => Nat.beq n 1
  | .fcmp _, n => Nat.beq n 1
  | .dcmp _, n => Nat.beq n 1
  | .dup, n => Nat.beq n 1
  | .dup_x1, n => Nat.beq n 1
  | .dup2, n => Nat.beq n 1
  | .pop, n => Nat.beq n 1
  | .iaload, n => Nat.beq n 1
  | .caload, n => Nat.beq n 1
  | .baload, n => Nat.beq n 1
  | .laload, n => Nat.beq n 1
  | .daload, n => Nat.beq n 1
  | .iastore, n => Nat.beq n 1
  | .castore, n => Nat.beq n 1
  | .bastore, n => Nat.beq n 1
  | .lastore, n => Nat.beq n 1
  | .dastore, n => Nat.beq n 1
  | .arraylength, n => Nat.beq n 1
  | .ireturn, n => Nat.beq n 1
  | .lreturn, n => Nat.beq n 1
  | .freturn, n => Nat.beq n 1
  | .areturn, n => Nat.beq n 1
  | .return_, n => Nat.beq n 1
  | .athrow, n => Nat.beq n 1
  | .iload _, n => Nat.beq n 2
  | .lload _, n => Nat.beq n 2
  | .fload _, n => Nat.beq n 2
  | .aload _, n => Nat.beq n 2
  | .istore _, n => Nat.beq n 2
  | .lstore _, n => Nat.beq n 2
  | .fstore _, n => Nat.beq n 2
  | .astore _, n => Nat.beq n 2
  | .ldc _, n => Nat.beq n 2
  | .newarray _, n => Nat.beq n 2
  | .iinc _ _, n => Nat.beq n 3
  | .ldc_w _, n => Nat.beq n 3
  | .ldc2_w _, n => Nat.beq n 3
  | .goto _, n => Nat.beq n 3
  | .ifCond _ _, n => Nat.beq n 3
  | .if_icmp _ _, n => Nat.beq n 3
  | .getfield _, n => Nat.beq n 3
  | .putfield _, n => Nat.beq n 3
  | .new _, n => Nat.beq n 3
  | .invokestatic _, n => Nat.beq n 3
  | .invokevirtual _, n => Nat.beq n 3
  | .invokespecial _, n => Nat.beq n 3
  | .bipush k, n => Nat.beq n 2 && decide ((Int8.ofInt k).toInt32 = gm_lit k)
  | .sipush k, n => Nat.beq n 3 && decide ((Int16.ofInt k).toInt32 = gm_lit k)
  | .lookupswitch _ ps, _ => (ps.toList.zip (ps.toList.drop 1)).all (fun (a, next) => a.1 < next.1) && ps.toList.all (fun q => decide ((gm_lit q.1).toInt = q.1))
  | .tableswitch _ lo hi os, _ => decide (hi + 1 = lo + os.size) && (List.range os.toList.length).all (fun j => decide ((gm_lit (lo + (j : Int))).toInt = lo + (j : Int)))
  | _, _ => false
def gm_rt : Instr → List Value → Option (Option Value)
  | .ireturn, [.int x] => some (some (.int x))
  | .lreturn, [.long x] => some (some (.long x))
  | .freturn, [.float x] => some (some (.float x))
  | .areturn, [.ref x] => some (some (.ref x))
  | .return_, [] => some none
  | _, _ => none
def gm_arrs : List FieldType := [.int, .char, .boolean, .long, .double]
/-- what a method's class tables say -/
def gm_Kok (MT : Nat → Option pM) (own : String) (K : pK) : Prop :=
  (∀ k f, gm_asc K.1 k = some f → ∃ r : vw_C, vwCl[f.1]? = some r ∧ f.2 < r.2.2 ∧ Cond.fieldLink own k (r.2.1 f.2).1 (r.2.1 f.2).2.1 (r.2.1 f.2).2.2.1 ∈ gm_U) ∧
  (∀ k q, gm_asc K.2.1 k = some q → gm_mok MT own k q) ∧
  (∀ k v, gm_asc K.2.2.1 k = some v → (∃ x, v = .int x ∧ Cond.constant own k x ∈ gm_U) ∨ (∃ x, v = .long x ∧ Cond.constantLong own k x ∈ gm_U) ∨ (∃ x, v = .float x ∧ Cond.constantFloat own k x ∈ gm_U)) ∧
  (∀ k q, gm_asc K.2.2.2.1 k = some q → ∃ r : vw_C, vwCl[q.1]? = some r ∧ q.2.length = r.2.2 ∧ gm_nr q.2 = true ∧ Cond.classLink own k r.1 ∈ gm_U ∧ Cond.instantiable r.1 r.2.2 ∈ gm_U ∧ Cond.initialized r.1 ∈ gm_U ∧ ∀ j, j < r.2.2 → defaultValue (gm_tyf q.1 j) = vp_V q.2 j)
/-- what a method's code is -/
def gm_Cok (M : pM) : Prop :=
  (∀ pc i len, gm_asc M.2.2.2.2.2.1 pc = some (i, len) → decode M.2.2.1 pc = .ok (i, len) ∧ gm_lenok i len = true) ∧
  (∀ pc k len, gm_asc M.2.2.2.2.2.1 pc = some (.putfield k, len) → ∀ f r, gm_asc M.2.2.2.2.2.2.2.1 k = some f → vwCl[f.1]? = some r → (r.2.1 f.2).2.2.2 = false ∨ ((r.2.1 f.2).2.2.2 = true ∧ M.2.1.name = "<init>" ∧ (r.2.1 f.2).1 = M.1))
section GM
variable {p : Program} {l : Launch} {e : Env} {R : Room} {s : State} {m : MethodId} {args : Array Value} {below : List Frame} {meth : Method} {c : Code} {Q : State → Prop} {dC : Nat → ClassId} {dI : Nat → Nat → Nat} {cy : Nat → ClassId} {A : Nat → Prop} {ad0 : Nat → Nat} {n0 nL : Nat}
set_option maxHeartbeats 4000000 in
theorem gm_closed {M : pM} {MT : Nat → Option pM} {sq : pQ} {Sp : pS} {X : pX} {d : Nat}
    (hx : p.tables.exec = Jvm.exec) (hb : c.code = M.2.2.1) (hml : c.maxLocals = nL) (hown : s.vm.findClass M.1 = some m.cls) (hts : ∀ w ∈ gm_U, w.before args s = true) (hcu : ∀ (ci : Nat) (r : vw_C), vwCl[ci]? = some r → ∀ w ∈ u_ws r.1 r.2.1 r.2.2, w ∈ gm_U) (hK : va_K (dC, dI) vwCl (gm_tys cy) s) (hA : ∀ q, s.heap.size ≤ q → A q) (hEx : gm_Ex A s) (hR : d + 13 ≤ R.frames ∧ 60 * d + 210 ≤ R.locals)
    (hC : gm_Cok M) (hKK : gm_Kok MT M.1 M.2.2.2.2.2.2.2) (hMok : ∀ mid M2, MT mid = some M2 → gm_Mok M2) (harr : ∀ t ∈ gm_arrs, Cond.arrayClass t ∈ gm_U)
    (hscr : ∀ q, sq = some q → va_X (ad0 88888) q.1 q.2 s s.heap ∧ ad0 88888 < s.heap.size ∧ ¬ A (ad0 88888)) (hinit : M.2.1.name = "<init>" → meth.name = "<init>")
    (hS1 : ∀ mid M2 av h v h1 c1 s1, MT mid = some M2 → Sp mid av h (.inl v) h1 c1 s1 → gm_Met1 l d M2 av h v h1 c1 s1 ∧ (M2.2.1.name = "<init>" ∨ h1.length = h.length))
    (hS2 : ∀ mid M2 av h E h1 c1 s1, MT mid = some M2 → Sp mid av h (.inr E) h1 c1 s1 → gm_Met2 l d M2 av h E h1 c1 s1 ∧ h1.length = h.length ∧ M2.2.2.2.2.2.2.1 = [])
    (hret : ∀ pc i len ls st h cl sl v, gm_asc M.2.2.2.2.2.1 pc = some (i, len) → gm_rt i st = some v → gm_okr M.2.2.2.2.1 v → X (.inl v) h cl sl → gm_G p l e R s m args below meth c Q dC dI cy A ad0 n0 nL pc ls st h cl sl)
    (hthr : ∀ pc k len E ls st h cl sl, gm_asc M.2.2.2.2.2.1 pc = some (.new k, len) → gm_asc M.2.2.2.2.2.2.2.2.2.2.2 k = some E → gm_sum st ≤ 8 → X (.inr E) h (cl + 1) (sl + 6) → gm_G p l e R s m args below meth c Q dC dI cy A ad0 n0 nL pc ls st h cl sl)
    (hgx : ∀ pc ls E h cl sl, gm_thr M (gm_G p l e R s m args below meth c Q dC dI cy A ad0 n0 nL) X pc ls E h cl sl → gm_GX p l e R s m args below meth c Q dC dI cy A ad0 n0 nL pc ls E h cl sl) : gm_cl M gm_tyf sq Sp (gm_G p l e R s m args below meth c Q dC dI cy A ad0 n0 nL) X := by
  intro pc i len hasc ls st h cl sl hw
  obtain ⟨hd, hlen⟩ := hC.1 pc i len hasc
  obtain ⟨hKF, hKM, hKC, hKN⟩ := hKK
  have one : ∀ {n : Nat}, Nat.beq len n = true → len = n := fun h => Nat.eq_of_beq_eq_true h
  cases i with
  | iconst k => have hl := one hlen; subst hl; exact gm_s_iconst hx hb hd hw
  | bipush k =>
    have h9 := Bool.and_eq_true_iff.mp hlen
    have hl := one h9.1; subst hl
    exact gm_s_bipush (of_decide_eq_true h9.2) hx hb hd hw
  | sipush k =>
    have h9 := Bool.and_eq_true_iff.mp hlen
    have hl := one h9.1; subst hl
    exact gm_s_sipush (of_decide_eq_true h9.2) hx hb hd hw
  | lconst k => have hl := one hlen; subst hl; exact gm_s_lconst hx hb hd hw
  | fconst k =>
    have hl := one hlen; subst hl
    match k, hd, hw with
    | 0, hd, hw => exact gm_s_fconst0 hx hb hd hw
    | 1, hd, hw => exact False.elim hw
    | 2, hd, hw => exact False.elim hw
  | ldc k =>
    have hl := one hlen; subst hl
    obtain ⟨v, hv, h0⟩ := gm_op_of hw
    rcases hKC k v hv with ⟨x, rfl, hc⟩ | ⟨x, rfl, hc⟩ | ⟨x, rfl, hc⟩
    · exact gm_lift0 h0 fun _ _ _ _ _ kk => lv_ldc hx hb hown (hts _ hc) hd kk
    · exact False.elim h0
    · exact gm_lift0 h0 fun _ _ _ _ _ kk => lv_ldcf hx hb hown (hts _ hc) hd kk
  | ldc_w k =>
    have hl := one hlen; subst hl
    obtain ⟨v, hv, h0⟩ := gm_op_of hw
    rcases hKC k v hv with ⟨x, rfl, hc⟩ | ⟨x, rfl, hc⟩ | ⟨x, rfl, hc⟩
    · exact gm_lift0 h0 fun _ _ _ _ _ kk => lv_ldcw hx hb hown (hts _ hc) hd kk
    · exact False.elim h0
    · exact False.elim h0
  | ldc2_w k =>
    have hl := one hlen; subst hl
    obtain ⟨v, hv, h0⟩ := gm_op_of hw
    rcases hKC k v hv with ⟨x, rfl, hc⟩ | ⟨x, rfl, hc⟩ | ⟨x, rfl, hc⟩
    · exact False.elim h0
    · exact gm_lift0 h0 fun _ _ _ _ _ kk => lv_ldc2 hx hb hown (hts _ hc) hd kk
    · exact False.elim h0
  | iload_n k => have hl := one hlen; subst hl; exact gm_s_iload_n hx hb hd hw
  | lload_n k => have hl := one hlen; subst hl; exact gm_s_lload_n hx hb hd hw
  | aload_n k => have hl := one hlen; subst hl; exact gm_s_aload_n hx hb hd hw
  | istore_n k => have hl := one hlen; subst hl; exact gm_s_istore_n hx hb hd hw
  | lstore_n k => have hl := one hlen; subst hl; exact gm_s_lstore_n hx hb hd hw
  | astore_n k => have hl := one hlen; subst hl; exact gm_s_astore_n hx hb hd hw
  | iload k => have hl := one hlen; subst hl; exact gm_s_iload hx hb hd hw
  | lload k => have hl := one hlen; subst hl; exact gm_s_lload hx hb hd hw
  | fload k => have hl := one hlen; subst hl; exact gm_s_fload hx hb hd hw
  | aload k => have hl := one hlen; subst hl; exact gm_s_aload hx hb hd hw
  | istore k => have hl := one hlen; subst hl; exact gm_s_istore hx hb hd hw
  | lstore k => have hl := one hlen; subst hl; exact gm_s_lstore hx hb hd hw
  | fstore k => have hl := one hlen; subst hl; exact gm_s_fstore hx hb hd hw
  | astore k => have hl := one hlen; subst hl; exact gm_s_astore hx hb hd hw
  | goto k => have hl := one hlen; subst hl; exact gm_s_goto hx hb hd hw
  | iinc k dd => have hl := one hlen; subst hl; exact gm_s_iinc hx hb hd hw
  | iadd => have hl := one hlen; subst hl; exact gm_s_iadd hx hb hd hw
  | isub => have hl := one hlen; subst hl; exact gm_s_isub hx hb hd hw
  | imul => have hl := one hlen; subst hl; exact gm_s_imul hx hb hd hw
  | iand => have hl := one hlen; subst hl; exact gm_s_iand hx hb hd hw
  | ior => have hl := one hlen; subst hl; exact gm_s_ior hx hb hd hw
  | ixor => have hl := one hlen; subst hl; exact gm_s_ixor hx hb hd hw
  | ishl => have hl := one hlen; subst hl; exact gm_s_ishl hx hb hd hw
  | ishr => have hl := one hlen; subst hl; exact gm_s_ishr hx hb hd hw
  | iushr => have hl := one hlen; subst hl; exact gm_s_iushr hx hb hd hw
  | idiv => have hl := one hlen; subst hl; exact gm_s_idiv hx hb hd hw
  | irem => have hl := one hlen; subst hl; exact gm_s_irem hx hb hd hw
  | ladd => have hl := one hlen; subst hl; exact gm_s_ladd hx hb hd hw
  | lmul => have hl := one hlen; subst hl; exact gm_s_lmul hx hb hd hw
  | lcmp => have hl := one hlen; subst hl; exact gm_s_lcmp hx hb hd hw
  | ineg => have hl := one hlen; subst hl; exact gm_s_ineg hx hb hd hw
  | lneg => have hl := one hlen; subst hl; exact gm_s_lneg hx hb hd hw
  | i2l => have hl := one hlen; subst hl; exact gm_s_i2l hx hb hd hw
  | i2c => have hl := one hlen; subst hl; exact gm_s_i2c hx hb hd hw
  | i2f => have hl := one hlen; subst hl; exact gm_s_i2f hx hb hd hw
  | f2d => have hl := one hlen; subst hl; exact gm_s_f2d hx hb hd hw
  | caload => have hl := one hlen; subst hl; exact gm_s_caload hx hb hK hd hw
  | baload => have hl := one hlen; subst hl; exact gm_s_baload hx hb hK hd hw
  | laload => have hl := one hlen; subst hl; exact gm_s_laload hx hb hK hd hw
  | daload => have hl := one hlen; subst hl; exact gm_s_daload hx hb hK hd hw
  | iastore => have hl := one hlen; subst hl; exact gm_s_iastore hx hb hK hd hw
  | castore => have hl := one hlen; subst hl; exact gm_s_castore hx hb hK hd hw
  | bastore => have hl := one hlen; subst hl; exact gm_s_bastore hx hb hK hd hw
  | lastore => have hl := one hlen; subst hl; exact gm_s_lastore hx hb hK hd hw
  | dastore => have hl := one hlen; subst hl; exact gm_s_dastore hx hb hK hd hw
  | iaload => have hl := one hlen; subst hl; exact gm_s_iaload hx hb hK hscr hd hw
  | arraylength => have hl := one hlen; subst hl; exact gm_s_arraylength hx hb hscr hd hw
  | fdiv =>
    have hl := one hlen; subst hl
    match st, hw with
    | .float y :: .float x :: r, hw => exact gm_s_fdiv hx hb hd hw
  | fcmp op =>
    have hl := one hlen; subst hl
    match st, hw with
    | .float y :: .float x :: r, hw => exact gm_s_fcmp hx hb hd hw
  | dcmp op =>
    have hl := one hlen; subst hl
    match st, hw with
    | .double y :: .double x :: r, hw => exact gm_s_dcmp hx hb hd hw
  | dup =>
    have hl := one hlen; subst hl
    match st, hw with
    | v :: r, hw => exact gm_s_dup hx hb hd hw
  | dup_x1 =>
    have hl := one hlen; subst hl
    match st, hw with
    | v :: w :: r, hw => exact gm_s_dup_x1 hx hb hd hw
  | dup2 =>
    have hl := one hlen; subst hl
    match st, hw with
    | v :: w :: r, hw => exact gm_s_dup2 hx hb hd hw
  | pop =>
    have hl := one hlen; subst hl
    match st, hw with
    | v :: r, hw => exact gm_s_pop hx hb hd hw
  | ifCond cd o =>
    have hl := one hlen; subst hl
    obtain ⟨x, r, rfl, h0⟩ := gm_i1_of hw
    cases cd with
    | eq => exact gm_s_if_eq hx hb hd h0
    | ne => exact gm_s_if_ne hx hb hd h0
    | lt => exact gm_s_if_lt hx hb hd h0
    | ge => exact gm_s_if_ge hx hb hd h0
    | gt => exact gm_s_if_gt hx hb hd h0
    | le => exact gm_s_if_le hx hb hd h0
  | if_icmp cd o =>
    have hl := one hlen; subst hl
    obtain ⟨x, y, r, rfl, h0⟩ := gm_i2_of hw
    cases cd with
    | eq => exact gm_s_icmp_eq hx hb hd h0
    | ne => exact gm_s_icmp_ne hx hb hd h0
    | lt => exact gm_s_icmp_lt hx hb hd h0
    | ge => exact gm_s_icmp_ge hx hb hd h0
    | gt => exact gm_s_icmp_gt hx hb hd h0
    | le => exact gm_s_icmp_le hx hb hd h0
  | lookupswitch dd ps =>
    obtain ⟨x, r, rfl, h0⟩ := gm_i1_of hw
    have h9 := Bool.and_eq_true_iff.mp hlen
    exact gm_s_look hx hb hd h9.1 (fun q hq => of_decide_eq_true (List.all_eq_true.mp h9.2 q hq)) h0
  | tableswitch dd lo hi os =>
    obtain ⟨x, r, rfl, h0⟩ := gm_i1_of hw
    have h9 := Bool.and_eq_true_iff.mp hlen
    exact gm_s_tab hx hb hd (of_decide_eq_true h9.1) (fun j hj => of_decide_eq_true (List.all_eq_true.mp h9.2 j (List.mem_range.mpr hj))) h0
  | getfield k => have hl := one hlen; subst hl; exact gm_s_getfield hx hb hown hts hcu hK hKF hd hw
  | putfield k =>
    have hl := one hlen; subst hl
    match st, hw with
    | v :: .ref a :: r, hw => exact gm_s_putfield hx hb hown hts hcu hK hKF (fun f r hf hr => (hC.2 pc k _ hasc f r hf hr).imp id (fun z => ⟨z.1, hinit z.2.1, z.2.2⟩)) hd hw
  | newarray t =>
    have hl := one hlen; subst hl
    obtain ⟨x, r, rfl, h1, h2, h3, h4⟩ := gm_i1_of hw
    obtain ⟨E, hE, h5⟩ := gm_op_of h4
    refine gm_s_newarray hx hb hts (harr _ ?_) hK hA hd h1 h2 h3 hE h5
    cases t <;> first | exact (by decide) | cases hE
  | new k =>
    have hl := one hlen; subst hl
    rcases hw with ⟨E, h1, h2, h3⟩ | ⟨q, h1, h2, h3⟩
    · exact hthr pc k _ E ls st h cl sl hasc h1 (Nat.le_of_ble_eq_true h2) h3
    · exact gm_s_new hx hb hown hts hcu hK hA (hKN k q h1) hd h2 h3
  | invokestatic k =>
    have hl := one hlen; subst hl
    obtain ⟨q, hq, h0⟩ := gm_op_of hw
    cases hk : Nat.ble 100 q.2 with
    | true => rw [hk] at h0; exact False.elim h0
    | false =>
      rw [hk, cond_false] at h0
      have hlt : q.2 < 100 := by
        rcases Nat.lt_or_ge q.2 100 with z | z
        · exact z
        · rw [Nat.ble_eq_true_of_le z] at hk; cases hk
      cases hk5 : Nat.ble 50 q.2 with
      | true =>
        rw [hk5, cond_true] at h0
        have hge : 50 ≤ q.2 := Nat.le_of_ble_eq_true hk5
        generalize hn9 : q.2 - 50 = n9 at h0
        obtain ⟨z, hz, hsum, v, h1, c1, s1, hSp, hG⟩ := gm_op_of h0
        rcases hKM k q hq with ⟨_, z1, _⟩ | ⟨M2, hM2, _, _, ⟨_, _, hns, hnm, hstt, hpd, hhh⟩ | ⟨z1, _⟩ | ⟨z1, _⟩ | ⟨z1, _⟩⟩
        · omega
        · obtain ⟨hm1, hm2⟩ := hS1 _ M2 _ _ _ _ _ _ hM2 hSp
          exact gm_s_staticN (q := q) hx hb hml hown hts hK hA hEx hR (hMok _ _ hM2) hns hstt hpd hhh hm1 (hm2.resolve_left hnm) hd (by rw [hn9]; exact hz) hsum hG
        · omega
        · omega
        · omega
      | false =>
        rw [hk5, cond_false] at h0
        have hlt5 : q.2 < 50 := by
          rcases Nat.lt_or_ge q.2 50 with z | z
          · exact z
          · rw [Nat.ble_eq_true_of_le z] at hk5; cases hk5
        obtain ⟨z, hz, hsum, hcall⟩ := gm_op_of h0
        rcases hKM k q hq with ⟨_, z1, _⟩ | ⟨M2, hM2, _, hlk, ⟨z1, _⟩ | ⟨_, hnm, hstt, hpd⟩ | ⟨z1, _⟩ | ⟨z1, _⟩⟩
        · omega
        · omega
        · have hlk := hlk.resolve_right (fun z => by omega)
          rcases hcall with ⟨v, h1, c1, s1, hSp, hG⟩ | ⟨E, h1, c1, s1, hSp, hG⟩
          · obtain ⟨hm1, hm2⟩ := hS1 _ M2 _ _ _ _ _ _ hM2 hSp
            exact gm_s_static (q := q) hx hb hml hown hts hK hA hEx hR (hMok _ _ hM2) hlk hstt hpd hm1 (hm2.resolve_left hnm) hd hz hsum hG
          · obtain ⟨hm1, hm2, hm3⟩ := hS2 _ M2 _ _ _ _ _ _ hM2 hSp
            exact gm_s_staticX (q := q) hx hb hml hown hts hK hA hEx hR (hMok _ _ hM2) hlk hstt hpd hm3 hm1 hm2 hd hz hsum (hgx _ _ _ _ _ _ hG)
        · omega
        · omega
  | invokevirtual k =>
    have hl := one hlen; subst hl
    obtain ⟨q, hq, h0⟩ := gm_op_of hw
    cases hk : (Nat.blt q.2 100 || Nat.ble 200 q.2) with
    | true => rw [hk] at h0; exact False.elim h0
    | false =>
      rw [hk] at h0
      have hk2 := Bool.or_eq_false_iff.mp hk
      have hge : 100 ≤ q.2 := by
        rcases Nat.lt_or_ge q.2 100 with z | z
        · rw [Nat.blt_eq.mpr z] at hk2; cases hk2.1
        · exact z
      have hlt : q.2 < 200 := by
        rcases Nat.lt_or_ge q.2 200 with z | z
        · exact z
        · rw [Nat.ble_eq_true_of_le z] at hk2; cases hk2.2
      obtain ⟨z, hz, h2⟩ := gm_op_of h0
      obtain ⟨a, r, hzr, h3⟩ := gm_sa_of h2
      unfold gm_ob at h3
      split at h3
      · rename_i ci fs hcell
        cases hk3 : Nat.beq (q.1 / 1000) (ci + 1) with
        | false => rw [hk3] at h3; exact False.elim h3
        | true =>
          rw [hk3] at h3
          obtain ⟨hsum, hcall⟩ := h3
          rcases hKM k q hq with ⟨_, z1, _⟩ | ⟨M2, hM2, _, hlk, ⟨_, z1, _⟩ | ⟨z1, _⟩ | ⟨_, _, hnm, hins, hsel, hpd, hrc, hhh⟩ | ⟨z1, _⟩⟩
          · omega
          · omega
          · omega
          · obtain ⟨ci9, rc, hci9, hrc1, hrn⟩ := hrc
            have hlk := hlk.resolve_right (fun z => by omega)
            have hci : ci9 = ci := by
              have := Nat.eq_of_beq_eq_true hk3
              omega
            subst hci
            rcases hcall with ⟨v, h1, c1, s1, hSp, hG⟩ | ⟨E, h1, c1, s1, hSp, hG⟩
            · obtain ⟨hm1, hm2⟩ := hS1 _ M2 _ _ _ _ _ _ hM2 hSp
              exact gm_s_virtual (q := q) hx hb hml hown hts hK hA hEx hR (hMok _ _ hM2) hlk hins hsel hpd hhh hrc1 hrn hcell hm1 (hm2.resolve_left hnm) hd hz hzr hsum hG
            · obtain ⟨hm1, hm2, hm3⟩ := hS2 _ M2 _ _ _ _ _ _ hM2 hSp
              exact gm_s_virtualX (q := q) hx hb hml hown hts hK hA hEx hR (hMok _ _ hM2) hlk hins hsel hpd hhh hrc1 hrn hcell hm1 hm2 hd hz hzr hsum (hgx _ _ _ _ _ _ hG)
          · omega
      · exact False.elim h3
  | invokespecial k =>
    have hl := one hlen; subst hl
    obtain ⟨q, hq, h0⟩ := gm_op_of hw
    cases hk : Nat.blt q.2 200 with
    | true => rw [hk] at h0; exact False.elim h0
    | false =>
      rw [hk, cond_false] at h0
      have hge : 200 ≤ q.2 := by
        rcases Nat.lt_or_ge q.2 200 with z | z
        · rw [Nat.blt_eq.mpr z] at hk; cases hk
        · exact z
      generalize hn9 : q.2 - 200 = n9 at h0
      obtain ⟨z, hz, h2⟩ := gm_op_of h0
      obtain ⟨a, r, hzr, hsum, h3⟩ := gm_sa_of h2
      rcases hKM k q hq with ⟨z0, z1, hl1, hl2, hl3⟩ | ⟨M2, hM2, hne, hlk, ⟨_, z1, _⟩ | ⟨z1, _⟩ | ⟨_, z1, _⟩ | ⟨_, hins, hnm, hpd, hrt, hhh⟩⟩
      · rw [z0] at h3
        have hst : st = .ref a :: r := by
          have h00 : n9 = 0 := by omega
          rw [h00] at hz
          simp only [gm_pop, Option.some.injEq] at hz
          subst hz
          exact hzr
        subst hst
        exact gm_s_obj hx hb hml hown hts ⟨by omega, by omega⟩ hl1 hl2 hl3 hd hsum h3
      · omega
      · omega
      · omega
      · obtain ⟨n1, hn1⟩ := Nat.exists_eq_succ_of_ne_zero hne
        rw [hn1] at h3
        obtain ⟨h1, c1, s1, hSp, hfr, hG⟩ := h3
        rw [hn1] at hM2
        obtain ⟨hm1, hm2⟩ := hS1 _ M2 _ _ _ _ _ _ hM2 hSp
        exact gm_s_init (q := q) hx hb hml hown hts hK hA hEx hR (hMok _ _ hM2) (hlk.imp id (fun z => z.2)) hins hnm hpd hrt hhh hm1 hd (by rw [hn9]; exact hz) hzr hsum hfr hG
  | ireturn =>
    match st, hw with
    | [.int x], hw => exact hret pc _ len ls _ h cl sl _ hasc rfl hw.1 hw.2
  | lreturn =>
    match st, hw with
    | [.long x], hw => exact hret pc _ len ls _ h cl sl _ hasc rfl hw.1 hw.2
  | freturn =>
    match st, hw with
    | [.float x], hw => exact hret pc _ len ls _ h cl sl _ hasc rfl hw.1 hw.2
  | areturn =>
    match st, hw with
    | [.ref x], hw => exact hret pc _ len ls _ h cl sl _ hasc rfl hw.1 hw.2
  | return_ =>
    match st, hw with
    | [], hw => exact hret pc _ len ls _ h cl sl _ hasc rfl hw.1 hw.2
  | _ => exact False.elim hw
end GM
end
section
/-! SOUNDNESS, 6: a method, from its abstract run -/
def gm_args (n : Nat) (av : List Value) : pL := av.map some ++ List.replicate (n - av.length) none
/-- sides of a run: nothing is made but by constructors, arguments of one slot each, only methods without handlers throw -/
def gm_sd (M : pM) (av : List Value) (h : pH) (o : pO) (h1 : pH) : Prop := (M.2.1.name = "<init>" ∨ h1.length = h.length) ∧ gm_sum av = av.length ∧ Nat.ble av.length M.2.2.2.1 = true ∧ match o with
  | .inl _ => True
  | .inr _ => M.2.2.2.2.2.2.1 = [] ∧ h1.length = h.length
/-- the abstract run of a method, calls at most d deep -/
def gm_Sp (MT : Nat → Option pM) : Nat → pS
  | 0 => fun _ _ _ _ _ _ _ => False
  | d + 1 => fun mid av h o h1 c1 s1 => ∃ M : pM, MT mid = some M ∧ gm_sd M av h o h1 ∧ ∀ (G : pG) (X : pX), gm_cl M gm_tyf none (gm_Sp MT d) G X → X o h1 c1 s1 → G 0 (gm_args M.2.2.2.1 av) [] h 0 0
def gm_names : List String := ["java/lang/RuntimeException", "java/lang/Exception"]
/-- what the tables say of an exception class made by Gimlet -/
def gm_Eok (k ic : Nat) (E : String) : Prop := E ∈ gm_exs ∧ Bundle.fit E = true ∧ Cond.classLink RX6 k E ∈ gm_U ∧ Cond.initialized E ∈ gm_U ∧ ∀ w ∈ vx_atS RX6 ic E gm_names, w ∈ gm_U ∨ w = .castable E E
/-- the places where a method throws, and its handlers -/
def gm_Tok (M : pM) : Prop :=
  (∀ pc k len E, gm_asc M.2.2.2.2.2.1 pc = some (.new k, len) → gm_asc M.2.2.2.2.2.2.2.2.2.2.2 k = some E → ∃ (ic : Nat) (q : Nat × String), q ∈ gm_strs ∧ M.1 = RX6 ∧ gm_Eok k ic E ∧ decode M.2.2.1 pc = .ok (.new k, 3) ∧ decode M.2.2.1 (pc + 3) = .ok (.dup, 1) ∧
    ((decode M.2.2.1 (pc + 4) = .ok (.ldc q.1, 2) ∧ decode M.2.2.1 (pc + 6) = .ok (.invokespecial ic, 3) ∧ decode M.2.2.1 (pc + 9) = .ok (.athrow, 1)) ∨
     (decode M.2.2.1 (pc + 4) = .ok (.ldc_w q.1, 3) ∧ decode M.2.2.1 (pc + 7) = .ok (.invokespecial ic, 3) ∧ decode M.2.2.1 (pc + 10) = .ok (.athrow, 1)))) ∧
  (∀ q ∈ M.2.2.2.2.2.2.1, ∃ E, gm_asc M.2.2.2.2.2.2.2.2.2.2.2 q.2.2.2 = some E ∧ E ∈ gm_exs ∧ Cond.classLink M.1 q.2.2.2 E ∈ gm_U ∧ q.2.2.2 ≠ 0)
/-- all that the tables say -/
def gm_Aok (MT : Nat → Option pM) : Prop :=
  (∀ (ci : Nat) (r : vw_C), vwCl[ci]? = some r → ∀ w ∈ u_ws r.1 r.2.1 r.2.2, w ∈ gm_U) ∧ (∀ t ∈ gm_arrs, Cond.arrayClass t ∈ gm_U) ∧ (∀ mid M, MT mid = some M → gm_Mok M ∧ gm_Cok M ∧ gm_Kok MT M.1 M.2.2.2.2.2.2.2 ∧ gm_Tok M)
theorem gm_hL.st1n {lsA lsB : Array Slot} {nL : Nat} {ad : Nat → Nat} {ls : pL} {i : Nat} {v V : Value} (h : gm_hL lsA nL ad ls) (hi : i < nL)
    (hB : lv_has lsB nL ((i, V) :: (gm_lv ad 0 ls).filter (fun q => !(q.1 == i) && !(q.1 + 1 == i && q.2.category == 2)))) : gm_hL lsB nL ad (gm_set (gm_st1 ls i v) i none) := by
  obtain ⟨b1, b2, b3⟩ := hB
  have hlen : (gm_set (gm_st1 ls i v) i none).length = nL := by
    cases i with
    | zero => simp [gm_st1, gm_set_eq, h.2.1]
    | succ i =>
      simp only [gm_st1, gm_set_eq]
      cases gm_cat2 (gm_nth ls i) <;> simp [h.2.1]
  refine ⟨b1, hlen, b2, fun j w hj => ?_⟩
  have rest : j ≠ i → ls[j]? = some (some w) → ¬ (j + 1 = i ∧ w.category = 2) → lsB[j]? = some (.val (gm_v ad w)) := by
    intro h1 h2 h3
    refine b3 (j, gm_v ad w) (List.mem_cons_of_mem _ (List.mem_filter.mpr ⟨(gm_lv_mem ad ls 0 _).mpr ⟨j, w, h2, by simp⟩, ?_⟩))
    simp only [Bool.and_eq_true, Bool.not_eq_true', beq_eq_false_iff_ne, ne_eq, Bool.and_eq_false_iff, gm_v_cat]
    refine ⟨h1, ?_⟩
    by_cases h4 : j + 1 = i
    · exact Or.inr fun h5 => h3 ⟨h4, h5⟩
    · exact Or.inl h4
  have hil : i < ls.length := by rw [h.2.1]; exact hi
  rw [gm_set_eq] at hj
  by_cases hj0 : j = i
  · subst hj0
    rw [List.getElem?_set_self (by
      cases j with
      | zero => simp [gm_st1, gm_set_eq]; omega
      | succ j =>
        simp only [gm_st1, gm_set_eq]
        cases gm_cat2 (gm_nth ls j) <;> simp <;> omega)] at hj
    cases hj
  · rw [List.getElem?_set_ne (Ne.symm hj0)] at hj
    cases i with
    | zero =>
      simp only [gm_st1, gm_set_eq] at hj
      rw [List.getElem?_set_ne (Ne.symm hj0)] at hj
      exact rest hj0 hj (by omega)
    | succ i =>
      simp only [gm_st1, gm_set_eq] at hj
      rw [List.getElem?_set_ne (Ne.symm hj0)] at hj
      cases hc : gm_cat2 (gm_nth ls i) with
      | false =>
        rw [hc] at hj
        simp only [cond_false] at hj
        refine rest hj0 hj (fun hz => ?_)
        have hji : j = i := by omega
        subst hji
        rw [gm_cat2_of hj, hz.2] at hc
        simp at hc
      | true =>
        rw [hc] at hj
        simp only [cond_true] at hj
        by_cases hji : j = i
        · subst hji
          rw [List.getElem?_set_self (by omega)] at hj
          cases hj
        · rw [List.getElem?_set_ne (Ne.symm hji)] at hj
          exact rest hj0 hj (fun hz => hji (by omega))
theorem gm_cat1_all : ∀ {av : List Value}, gm_sum av = av.length → ∀ v ∈ av, v.category = 1
  | [], _, v, hv => by simp at hv
  | w :: r, h, v, hv => by
    have hle : ∀ l : List Value, l.length ≤ gm_sum l := by
      intro l
      induction l with
      | nil => exact Nat.le_refl _
      | cons a l ih => cases a <;> simp only [gm_sum, List.length_cons] <;> omega
    have hr := hle r
    have hw : w.category = 1 ∧ gm_sum r = r.length := by
      cases w <;> simp only [gm_sum, List.length_cons] at h <;> first | exact ⟨rfl, by omega⟩ | (exfalso; omega)
    rcases List.mem_cons.mp hv with rfl | hv
    · exact hw.1
    · exact gm_cat1_all hw.2 v hv
theorem gm_lv_args : ∀ {vs : List Value}, (∀ v ∈ vs, v.category = 1) → ∀ (k i : Nat) (v : Value), vs[i]? = some v → (k + i, v) ∈ lv_args k vs
  | [], _, k, i, v, h => by simp at h
  | w :: r, hc, k, i, v, h => by
    have hw : ¬ w.category = 2 := by have := hc w List.mem_cons_self; omega
    simp only [lv_args, hw, if_false]
    cases i with
    | zero =>
      simp at h
      subst h
      exact List.mem_cons_self
    | succ i =>
      refine List.mem_cons_of_mem _ ?_
      have := gm_lv_args (fun z hz => hc z (List.mem_cons_of_mem _ hz)) (k + 1) i v (by simpa using h)
      rw [show k + (i + 1) = k + 1 + i by omega]
      exact this
theorem gm_sl_len : ∀ {vs : List Value}, (∀ v ∈ vs, v.category = 1) → (lg_sl vs).length = vs.length
  | [], _ => rfl
  | w :: r, hc => by
    have hw : ¬ w.category = 2 := by have := hc w List.mem_cons_self; omega
    have := gm_sl_len (vs := r) (fun z hz => hc z (List.mem_cons_of_mem _ hz))
    simp only [lg_sl, List.flatMap_cons, hw, if_false] at this ⊢
    simp [this]
theorem gm_entry {av : List Value} {ad : Nat → Nat} {n : Nat} (hs : gm_sum av = av.length) (hn : av.length ≤ n) : gm_hL ((lg_sl (av.map (gm_v ad)) ++ List.replicate (n - (lg_sl (av.map (gm_v ad))).length) Slot.unset).toArray) n ad (gm_args n av) := by
  have hc : ∀ v ∈ av.map (gm_v ad), v.category = 1 := by
    intro v hv
    obtain ⟨w, hw, rfl⟩ := List.mem_map.mp hv
    rw [gm_v_cat]
    exact gm_cat1_all hs w hw
  have hl := lv_entry (av.map (gm_v ad)) (n := n) (by rw [gm_sl_len hc, List.length_map]; exact hn)
  refine ⟨hl.1, by simp [gm_args]; omega, hl.2.1, fun i v hv => ?_⟩
  have hi : i < av.length := by
    rcases Nat.lt_or_ge i av.length with z | z
    · exact z
    · exfalso
      simp only [gm_args] at hv
      rw [List.getElem?_append_right (by simpa using z)] at hv
      have := List.mem_of_getElem? hv
      simp at this
  have hv2 : av[i]? = some v := by
    simp only [gm_args] at hv
    rw [List.getElem?_append_left (by simpa using hi)] at hv
    simpa using hv
  have := hl.2.2 (0 + i, gm_v ad v) (gm_lv_args hc 0 i (gm_v ad v) (by simp [hv2]))
  simpa using this
theorem gm_hd_of {tn : List (Nat × String)} {E : String} {pc : Nat} : ∀ {hh : List (Nat × Nat × Nat × Nat)} {t : Nat}, gm_hd tn E pc hh = some t → ∃ pre x suf, hh = pre ++ x :: suf ∧ x.2.2.1 = t ∧ x.1 ≤ pc ∧ pc < x.2.1 ∧ gm_asc tn x.2.2.2 = some E ∧ ∀ z ∈ pre, ¬ (z.1 ≤ pc ∧ pc < z.2.1) ∨ gm_asc tn z.2.2.2 ≠ some E
  | [], t, h => by simp [gm_hd] at h
  | (a, b, t0, k) :: r, t, h => by
    simp only [gm_hd] at h
    cases hb : (Nat.ble a pc && Nat.blt pc b && (gm_asc tn k == some E)) with
    | true =>
      rw [hb] at h
      simp only [cond_true, Option.some.injEq] at h
      have h9 := Bool.and_eq_true_iff.mp hb
      have h8 := Bool.and_eq_true_iff.mp h9.1
      exact ⟨[], (a, b, t0, k), r, rfl, h, Nat.le_of_ble_eq_true h8.1, Nat.blt_eq.mp h8.2, by simpa using h9.2, fun z hz => by simp at hz⟩
    | false =>
      rw [hb] at h
      simp only [cond_false] at h
      obtain ⟨pre, x, suf, e1, e2, e3, e4, e5, e6⟩ := gm_hd_of h
      refine ⟨(a, b, t0, k) :: pre, x, suf, by rw [e1]; rfl, e2, e3, e4, e5, fun z hz => ?_⟩
      rcases List.mem_cons.mp hz with rfl | hz
      · by_cases g1 : a ≤ pc ∧ pc < b
        · refine Or.inr fun g2 => ?_
          rw [Nat.ble_eq_true_of_le g1.1, Nat.blt_eq.mpr g1.2, g2] at hb
          simp at hb
        · exact Or.inl g1
      · exact e6 z hz
section GM
variable {p : Program} {l : Launch} {e : Env} {R : Room} {s : State} {m : MethodId} {args : Array Value} {below : List Frame} {meth : Method} {c : Code} {Q : State → Prop} {dC : Nat → ClassId} {dI : Nat → Nat → Nat} {cy : Nat → ClassId} {A : Nat → Prop} {ad0 : Nat → Nat} {n0 nL : Nat}
/-- a handler of this method takes the exception -/
theorem gm_catch {M : pM} {X : pX} {pc t : Nat} {ls : pL} {E : String} {h : pH} {cl sl : Nat} (hx : p.tables.exec = Jvm.exec) (hb : c.code = M.2.2.1) (hown : s.vm.findClass M.1 = some m.cls) (hts : ∀ w ∈ gm_U, w.before args s = true) (hEx : gm_Ex A s) (hC : gm_Cok M) (hT : gm_Tok M) (htab : c.exceptionTable.toList = tableOf M.2.2.2.2.2.2.1)
    (ht : gm_hd M.2.2.2.2.2.2.2.2.2.2.2 E pc M.2.2.2.2.2.2.1 = some t) (hG : gm_thr M (gm_G p l e R s m args below meth c Q dC dI cy A ad0 n0 nL) X pc ls E h cl sl) : gm_GX p l e R s m args below meth c Q dC dI cy A ad0 n0 nL pc ls E h cl sl := by
  obtain ⟨pre, x, suf, e1, e2, e3, e4, e5, e6⟩ := gm_hd_of ht
  have hxin : x ∈ M.2.2.2.2.2.2.1 := by rw [e1]; exact List.mem_append_right _ List.mem_cons_self
  obtain ⟨E1, g1, g2, g3, g4⟩ := hT.2 x hxin
  cases Option.some.inj (g1.symm.trans e5)
  unfold gm_thr at hG
  rw [ht] at hG
  dsimp only at hG
  have key : ∀ (k : Nat) (n2 : Nat), Nat.blt k ls.length = true → gm_G p l e R s m args below meth c Q dC dI cy A ad0 n0 nL (t + n2) (gm_set (gm_st1 ls k (.int 0)) k none) [] h cl sl → (∀ (H : Heap) (locs : List Loc) (lsA : Array Slot) (q : Addr) (lv : List (Nat × Value)), lv_has lsA nL lv → k < nL → (∀ lsB : Array Slot, lv_has lsB nL ((k, .ref q) :: lv.filter (fun q => !(q.1 == k) && !(q.1 + 1 == k && q.2.category == 2))) → W p l e R s m args below meth c H locs cl sl Q (F0 m (t + n2) lsB [])) → W p l e R s m args below meth c H locs cl sl Q (F0 m t lsA [.ref q])) → gm_GX p l e R s m args below meth c Q dC dI cy A ad0 n0 nL pc ls E h cl sl := by
    intro k n2 hk hG2 hrow
    refine ⟨hG2.1, fun ad H locs lsA rest q ce hag hP hD hS hL hce hcv hcl => ?_⟩
    have hkn : k < nL := by rw [← hL.2.1]; exact Nat.blt_eq.mp hk
    refine vx_catch (own := M.1) (name := E) (E := E) hown (tableOf pre) ⟨x.1, x.2.1, x.2.2.1, x.2.2.2⟩ (tableOf suf) (by rw [htab, e1]; simp [tableOf]) (fun z hz => ?_) (by simp [covers, e3, e4]) g4 (hts _ g3) (va_Nw.use rfl (hEx.2.2.1 E g2)) hce hcv hcl ?_
    · obtain ⟨z0, hz0, rfl⟩ := List.mem_map.mp hz
      rcases e6 z0 hz0 with g | g
      · refine Or.inl ?_
        simp only [covers]
        by_cases w1 : z0.1 ≤ pc
        · by_cases w2 : pc < z0.2.1
          · exact absurd ⟨w1, w2⟩ g
          · simp [w2]
        · simp [w1]
      · have hz0in : z0 ∈ M.2.2.2.2.2.2.1 := by rw [e1]; exact List.mem_append_left _ hz0
        obtain ⟨E3, f1, f2, f3, f4⟩ := hT.2 z0 hz0in
        refine Or.inr ⟨f4, E3, hts _ f3, hEx.2.2.2.2.1 E g2 E3 f2 (fun hz => g (by rw [f1, hz]))⟩
    · rw [e2]
      exact hrow H locs lsA q (gm_lv ad 0 ls) hL.has hkn (fun lsB hB => hG2.2 ad H locs lsB hag hP hD hS (hL.st1n hkn hB))
  split at hG
  · rename_i k len hk
    obtain ⟨hd, hlen⟩ := hC.1 _ _ _ hk
    have hl := Nat.eq_of_beq_eq_true hlen
    subst hl
    exact key k.val 1 hG.1 hG.2 (fun H locs lsA q lv h1 h2 h3 => lv_astore_n hx hb hd rfl h1 h2 rfl h3)
  · rename_i k len hk
    obtain ⟨hd, hlen⟩ := hC.1 _ _ _ hk
    have hl := Nat.eq_of_beq_eq_true hlen
    subst hl
    exact key k 2 hG.1 hG.2 (fun H locs lsA q lv h1 h2 h3 => lv_astore hx hb hd h1 h2 rfl h3)
  · exact hG.elim
end GM
end
section
/-! SOUNDNESS, 7: by induction on the depth of calls -/
section GM
variable {l : Launch}
theorem gm_hts {M : pM} {y : MethodName} {rm : Room} {cc : ByteArray} {maxL : Nat} {ret : Option FieldType} {p : Program} {e : Env} {s : State} {m : MethodId} {args : Array Value} {below : List Frame} {meth : Method} {c : Code} {s₁ : State} (B : BodyLoose p l y (headSpec (gm_ws M) rm) cc maxL ret e s m args below meth c s₁) : ∀ w ∈ gm_ws M, w.before args s = true := atoms_spec (ws := gm_ws M) B.pre
/-- the walk of a body that returns -/
theorem gm_body1 {M : pM} {MT : Nat → Option pM} {d : Nat} {av : List Value} {h h1 : pH} {v : Option Value} {c1 s1 : Nat} {p : Program} {e : Env} {s : State} {m : MethodId} {args : Array Value} {below : List Frame} {meth : Method} {c : Code} {dC : Nat → ClassId} {dI : Nat → Nat → Nat} {cy : Nat → ClassId} {ad : Nat → Nat} {sz : Nat} {R : Room}
    (hall : gm_Aok MT) (hRr : R = gm_rm (d + 1) c1 s1)
    (hx : p.tables.exec = Jvm.exec) (hb : c.code = M.2.2.1) (hml : c.maxLocals = M.2.2.2.1) (hown : s.vm.findClass M.2.1.cls = some m.cls) (hts : ∀ w ∈ gm_U, w.before args s = true) (hrt : meth.sig.returnType = M.2.2.2.2.1) (hlocks : meth.locks = false) (hinit : M.2.1.name = "<init>" → meth.name = "<init>")
    (htab : c.exceptionTable.toList = tableOf M.2.2.2.2.2.2.1)
    (hpc : gm_Pc dC dI cy ad h av sz args s) {mid : Nat} (hMT : MT mid = some M)
    (hS1 : ∀ mid M2 av h v h1 c1 s1, MT mid = some M2 → gm_Sp MT d mid av h (.inl v) h1 c1 s1 → gm_Met1 l d M2 av h v h1 c1 s1 ∧ (M2.2.1.name = "<init>" ∨ h1.length = h.length))
    (hS2 : ∀ mid M2 av h E h1 c1 s1, MT mid = some M2 → gm_Sp MT d mid av h (.inr E) h1 c1 s1 → gm_Met2 l d M2 av h E h1 c1 s1 ∧ h1.length = h.length ∧ M2.2.2.2.2.2.2.1 = [])
    (hsd : gm_sd M av h (.inl v) h1) (hrun : ∀ (G : pG) (X : pX), gm_cl M gm_tyf none (gm_Sp MT d) G X → X (.inl v) h1 c1 s1 → G 0 (gm_args M.2.2.2.1 av) [] h 0 0) :
    W p l e R s m args below meth c s.heap [] 0 0 (MQ below (gm_Q dC dI cy ad h h1 v sz) args s c1 s1 (va_A (gm_W cy ad 0 h) sz)) (entryFrame m args M.2.2.2.1) := by
  obtain ⟨hM, hC, hKK, hT⟩ := hall.2.2 mid M hMT
  obtain ⟨rfl, hsz, hP, hK, hD0, hEx⟩ := hpc
  subst hsz
  subst hRr
  have hD : va_D (va_A (gm_W cy ad 0 h) s.heap.size) (gm_W cy ad 0 h) := hD0.self
  have hA : ∀ q : Nat, s.heap.size ≤ q → va_A (gm_W cy ad 0 h) s.heap.size q := fun q h => Or.inr h
  have hS : va_S (va_A (gm_W cy ad 0 h) s.heap.size) s.heap s.heap [] := va_S.rf
  have hown2 : s.vm.findClass M.1 = some m.cls := by rw [hM.2.2.2.2.2.2]; exact hown
  let Q := MQ below (gm_Q dC dI cy ad h h1 v s.heap.size) (av.map (gm_v ad)).toArray s c1 s1 (va_A (gm_W cy ad 0 h) s.heap.size)
  let G := gm_G p l e (gm_rm (d + 1) c1 s1) s m (av.map (gm_v ad)).toArray below meth c Q dC dI cy (va_A (gm_W cy ad 0 h) s.heap.size) ad h.length M.2.2.2.1
  let X : pX := fun o9 h9 c9 s9 => o9 = .inl v ∧ h9 = h1 ∧ c9 = c1 ∧ s9 = s1
  have hcl : gm_cl M gm_tyf none (gm_Sp MT d) G X := by
    refine gm_closed (MT := MT) (d := d) hx hb hml hown2 hts hall.1 hK hA hEx ⟨by show d + 13 ≤ d + 1 + 12; omega, by show 60 * d + 210 ≤ 60 * (d + 1) + 150; omega⟩ hC hKK (fun mid M2 h => (hall.2.2 mid M2 h).1) hall.2.1 (fun q hq => by cases hq) hinit hS1 hS2 ?_ ?_ ?_
    · intro pc i len ls st h9 cl sl v9 hasc hrtv hokr hX
      obtain ⟨hv, rfl, rfl, rfl⟩ := hX
      cases hv
      obtain ⟨hd, hlen⟩ := hC.1 pc i len hasc
      refine ⟨⟨Nat.le_refl _, Nat.le_refl _⟩, fun ad2 H locs lsA hag hP2 hD2 hS2 hL => ?_⟩
      have hq : ∀ t : State, t.heap = H → s.WarmedH t.vm → gm_Q dC dI cy ad h h9 v s.heap.size (av.map (gm_v ad)).toArray s (.returned (v.map (gm_v ad2))) t := fun t ht hW => ⟨⟨ad2, hag, rfl, by rw [ht]; exact hP2, hD2⟩, hS2.F ht⟩
      unfold gm_rt at hrtv
      split at hrtv
      · cases hrtv
        have hl := Nat.eq_of_beq_eq_true hlen
        subst hl
        cases hr9 : M.2.2.2.2.1 with
        | none => rw [hr9] at hokr; exact False.elim hokr
        | some ty =>
          rw [hr9] at hokr
          exact W.zret hx hb (hrt.trans hr9) (gm_ok_nf ad2 hokr).1 hq hS2.2.2 hd hlocks
      · cases hrtv
        have hl := Nat.eq_of_beq_eq_true hlen
        subst hl
        cases hr9 : M.2.2.2.2.1 with
        | none => rw [hr9] at hokr; exact False.elim hokr
        | some ty =>
          rw [hr9] at hokr
          have hty : ty = .long := by
            cases ty <;> first | rfl | exact False.elim hokr
          subst hty
          exact W.lret hx hb (hrt.trans hr9) hq hS2.2.2 hd hlocks
      · cases hrtv
        have hl := Nat.eq_of_beq_eq_true hlen
        subst hl
        cases hr9 : M.2.2.2.2.1 with
        | none => rw [hr9] at hokr; exact False.elim hokr
        | some ty =>
          rw [hr9] at hokr
          have hty : ty = .float := by
            cases ty <;> first | rfl | exact False.elim hokr
          subst hty
          exact W.fret hx hb (hrt.trans hr9) hq hS2.2.2 hd hlocks
      · cases hrtv
        have hl := Nat.eq_of_beq_eq_true hlen
        subst hl
        rename_i x9
        cases hr9 : M.2.2.2.2.1 with
        | none => rw [hr9] at hokr; exact False.elim hokr
        | some ty =>
          rw [hr9] at hokr
          refine W.aret (v := .ref (ad2 x9)) hx hb (hrt.trans hr9) ?_ (Or.inr ⟨_, rfl⟩) hq hS2.2.2 hd hlocks
          cases ty <;> first | exact Or.inl ⟨_, rfl⟩ | exact Or.inr ⟨_, rfl⟩ | exact False.elim hokr
      · cases hrtv
        have hl := Nat.eq_of_beq_eq_true hlen
        subst hl
        cases hr9 : M.2.2.2.2.1 with
        | none => exact W.vret hx hb (hrt.trans hr9) hq hS2.2.2 hd hlocks
        | some ty => rw [hr9] at hokr; exact False.elim hokr
      · cases hrtv
    · intro pc k len E ls st h9 cl sl _ _ _ hX
      exact False.elim (by have := hX.1; cases this)
    · intro pc ls E h9 cl sl hthr
      cases ht : gm_hd M.2.2.2.2.2.2.2.2.2.2.2 E pc M.2.2.2.2.2.2.1 with
      | none =>
        unfold gm_thr at hthr
        rw [ht] at hthr
        exact False.elim (by have := hthr.1; cases this)
      | some t => exact gm_catch hx hb hown2 hts hEx hC hT htab ht hthr
  have hG := hrun G X hcl ⟨rfl, rfl, rfl, rfl⟩
  rw [lg_entry_eq]
  have hag0 : gm_ag h.length ad ad h := ⟨Nat.le_refl _, fun _ => rfl, fun _ _ => rfl, rfl⟩
  exact hG.2 ad s.heap [] _ hag0 hP hD hS (gm_entry hsd.2.1 (Nat.le_of_ble_eq_true hsd.2.2.1))
/-- the walk of a body that throws -/
theorem gm_body2 (hl : l.stackTraces = false) {M : pM} {MT : Nat → Option pM} {d : Nat} {av : List Value} {h h1 : pH} {E : String} {c1 s1 : Nat} {p : Program} {e : Env} {s : State} {m : MethodId} {args : Array Value} {below : List Frame} {meth : Method} {c : Code} {dC : Nat → ClassId} {dI : Nat → Nat → Nat} {cy : Nat → ClassId} {ad : Nat → Nat} {sz : Nat} {R : Room}
    (hall : gm_Aok MT) (hRr : R = gm_rm (d + 1) c1 s1)
    (hx : p.tables.exec = Jvm.exec) (hb : c.code = M.2.2.1) (hml : c.maxLocals = M.2.2.2.1) (hown : s.vm.findClass M.2.1.cls = some m.cls) (hts : ∀ w ∈ gm_U, w.before args s = true) (hlocks : meth.locks = false) (hinit : M.2.1.name = "<init>" → meth.name = "<init>")
    (htab : ∀ x ∈ c.exceptionTable.toList, False)
    (hpc : gm_Pc dC dI cy ad h av sz args s) {mid : Nat} (hMT : MT mid = some M)
    (hS1 : ∀ mid M2 av h v h1 c1 s1, MT mid = some M2 → gm_Sp MT d mid av h (.inl v) h1 c1 s1 → gm_Met1 l d M2 av h v h1 c1 s1 ∧ (M2.2.1.name = "<init>" ∨ h1.length = h.length))
    (hS2 : ∀ mid M2 av h E h1 c1 s1, MT mid = some M2 → gm_Sp MT d mid av h (.inr E) h1 c1 s1 → gm_Met2 l d M2 av h E h1 c1 s1 ∧ h1.length = h.length ∧ M2.2.2.2.2.2.2.1 = [])
    (hsd : gm_sd M av h (.inr E) h1) (hrun : ∀ (G : pG) (X : pX), gm_cl M gm_tyf none (gm_Sp MT d) G X → X (.inr E) h1 c1 s1 → G 0 (gm_args M.2.2.2.1 av) [] h 0 0) :
    W p l e R s m args below meth c s.heap [] 0 0 (vx_MQ below (fun _ _ _ _ => False) (gm_XC E dC dI cy ad h h1 sz) args s c1 s1 (va_A (gm_W cy ad 0 h) sz)) (entryFrame m args M.2.2.2.1) := by
  obtain ⟨hM, hC, hKK, hT⟩ := hall.2.2 mid M hMT
  obtain ⟨rfl, hsz, hP, hK, hD0, hEx⟩ := hpc
  subst hsz
  subst hRr
  have hlen : h1.length = h.length := hsd.2.2.2.2
  have hhn : M.2.2.2.2.2.2.1 = [] := hsd.2.2.2.1
  have hD : va_D (va_A (gm_W cy ad 0 h) s.heap.size) (gm_W cy ad 0 h) := hD0.self
  have hA : ∀ q : Nat, s.heap.size ≤ q → va_A (gm_W cy ad 0 h) s.heap.size q := fun q h => Or.inr h
  have hS : va_S (va_A (gm_W cy ad 0 h) s.heap.size) s.heap s.heap [] := va_S.rf
  have hown2 : s.vm.findClass M.1 = some m.cls := by rw [hM.2.2.2.2.2.2]; exact hown
  let Q := vx_MQ below (fun _ _ _ _ => False) (gm_XC E dC dI cy ad h h1 s.heap.size) (av.map (gm_v ad)).toArray s c1 s1 (va_A (gm_W cy ad 0 h) s.heap.size)
  let G := gm_G p l e (gm_rm (d + 1) c1 s1) s m (av.map (gm_v ad)).toArray below meth c Q dC dI cy (va_A (gm_W cy ad 0 h) s.heap.size) ad h.length M.2.2.2.1
  let X : pX := fun o9 h9 c9 s9 => o9 = .inr E ∧ h9 = h1 ∧ c9 = c1 ∧ s9 = s1
  have hcl : gm_cl M gm_tyf none (gm_Sp MT d) G X := by
    refine gm_closed (MT := MT) (d := d) hx hb hml hown2 hts hall.1 hK hA hEx ⟨by show d + 13 ≤ d + 1 + 12; omega, by show 60 * d + 210 ≤ 60 * (d + 1) + 150; omega⟩ hC hKK (fun mid M2 h => (hall.2.2 mid M2 h).1) hall.2.1 (fun q hq => by cases hq) hinit hS1 hS2 ?_ ?_ ?_
    · intro pc i len ls st h9 cl sl v9 hasc hrtv hokr hX
      exact False.elim (by have := hX.1; cases this)
    · intro pc k len E9 ls st h9 cl sl hasc hexc hsum hX
      obtain ⟨hE, rfl, hc1, hs1⟩ := hX
      cases hE
      obtain ⟨ic, q, hq, hRX, hEok, d0, d3, hdd⟩ := hT.1 pc k len E hasc hexc
      obtain ⟨g1, g2, g3, g4, g5⟩ := hEok
      obtain ⟨sa, hsa⟩ := hEx.2.2.2.1 q hq
      have hown3 : s.vm.findClass RX6 = some m.cls := by rw [← hRX]; exact hown2
      refine ⟨⟨by show cl ≤ c1; omega, by show sl ≤ s1; omega⟩, fun ad2 H locs lsA hag hP2 hD2 hS2 hL => ?_⟩
      have had : ad2 = ad := hag.2.1 hlen
      subst had
      have hat : ∀ w ∈ vx_atS RX6 ic E gm_names, w.before (av.map (gm_v ad2)).toArray s = true := fun w hw => (g5 w hw).elim (fun z => hts w z) (fun z => by rw [z]; exact va_Nw.use rfl (hEx.2.2.1 E g1))
      have hgood : ∀ w ∈ Cond.classLink RX6 k E :: Cond.initialized E :: vx_atS RX6 ic E gm_names, vx_ot w = true := by
        have hu : ∀ w ∈ gm_U, vx_ot w = true := fun w hw => by
          unfold vx_ot
          rw [(List.mem_filter.mp hw).2, Bool.or_true]
        intro w hw
        rcases List.mem_cons.mp hw with rfl | hw
        · exact hu _ g3
        rcases List.mem_cons.mp hw with rfl | hw
        · exact hu _ g4
        · exact (g5 w hw).elim (hu w) (fun z => by rw [z]; rfl)
      have hnames : ∀ n ∈ gm_names, Bundle.fit n = true := by decide +kernel
      have hxc : ∀ t : State, s.vm.Alike t.vm → H.size ≤ t.heap.size → (∀ q : Nat, q < H.size → t.heap[q]? = H[q]?) → gm_XC E dC dI cy ad2 h h9 s.heap.size E s t := by
        intro t _ ht1 ht2
        refine ⟨rfl, hP2.kept (fun k q hk => ht2 q.1 (hP2 k q hk).lt), hD2, Nat.le_trans hS2.1 ht1, fun q h1 h2 => ?_⟩
        rw [ht2 q (Nat.lt_of_lt_of_le h1 hS2.1)]
        exact hS2.2.1 q h1 h2
      have hrl : ((st.map (gm_v ad2)).map fun v => v.category).sum + (13 * (gm_names.length + 1) + 43) ≤ (gm_rm (d + 1) c1 s1).locals := by
        rw [gm_v_sum]
        show gm_sum st + (13 * (2 + 1) + 43) ≤ 60 * (d + 1) + 150
        omega
      have hrf : gm_names.length + 3 < (gm_rm (d + 1) c1 s1).frames := by
        show 2 + 3 < d + 1 + 12
        omega
      have hc1' : cl + 1 = c1 := hc1
      have hs1' : sl + 6 = s1 := hs1
      rcases hdd with ⟨d4, d6, d9⟩ | ⟨d4, d7, d10⟩
      · exact vx_throwS hx hb hl hown3 g2 hnames (hts _ g3) (hts _ g4) hsa hat hgood hEx.1 hEx.2.1 hS2 (by rw [hml]; exact hL.1) d0 d3 d4 d6 d9 (fun x hx => (htab x hx).elim) hrf hrl (by show cl + 1 ≤ c1; omega) (by show sl + 6 ≤ s1; omega) hlocks hxc hS2.2.2 (by omega) (by omega)
      · exact vx_throwSW hx hb hl hown3 g2 hnames (hts _ g3) (hts _ g4) hsa hat hgood hEx.1 hEx.2.1 hS2 (by rw [hml]; exact hL.1) d0 d3 d4 d7 d10 (fun x hx => (htab x hx).elim) hrf hrl (by show cl + 1 ≤ c1; omega) (by show sl + 6 ≤ s1; omega) hlocks hxc hS2.2.2 (by omega) (by omega)
    · intro pc ls E9 h9 cl sl hthr
      unfold gm_thr at hthr
      rw [hhn] at hthr
      simp only [gm_hd] at hthr
      obtain ⟨hE, rfl, rfl, rfl⟩ := hthr
      cases hE
      refine ⟨⟨Nat.le_refl _, Nat.le_refl _⟩, fun ad2 H locs lsA rest q ce hag hP2 hD2 hS2 hL hce hcv hcl => ?_⟩
      have had : ad2 = ad := hag.2.1 hlen
      subst had
      exact vx_out (fun x hx => (htab x hx).elim) hlocks hce hcv hcl (fun t ht _ => ⟨rfl, by rw [ht]; exact hP2, hD2, hS2.F ht⟩) hS2.2.2 (Nat.le_refl _) (Nat.le_refl _)
  have hG := hrun G X hcl ⟨rfl, rfl, rfl, rfl⟩
  rw [lg_entry_eq]
  have hag0 : gm_ag h.length ad ad h := ⟨Nat.le_refl _, fun _ => rfl, fun _ _ => rfl, rfl⟩
  exact hG.2 ad s.heap [] _ hag0 hP hD hS (gm_entry hsd.2.1 (Nat.le_of_ble_eq_true hsd.2.2.1))
theorem gm_sound (hl : l.stackTraces = false) {MT : Nat → Option pM} (hall : gm_Aok MT) : ∀ (d mid : Nat) (M : pM) (av : List Value) (h : pH) (o : pO) (h1 : pH) (c1 s1 : Nat), MT mid = some M → gm_Sp MT d mid av h o h1 c1 s1 → match o with
    | .inl v => gm_Met1 l d M av h v h1 c1 s1 ∧ (M.2.1.name = "<init>" ∨ h1.length = h.length)
    | .inr E => gm_Met2 l d M av h E h1 c1 s1 ∧ h1.length = h.length ∧ M.2.2.2.2.2.2.1 = [] := by
  intro d
  induction d with
  | zero => intro mid M av h o h1 c1 s1 _ hSp; exact False.elim hSp
  | succ d ih =>
    intro mid M av h o h1 c1 s1 hMT hSp
    have hS1 : ∀ mid M2 av h v h1 c1 s1, MT mid = some M2 → gm_Sp MT d mid av h (.inl v) h1 c1 s1 → gm_Met1 l d M2 av h v h1 c1 s1 ∧ (M2.2.1.name = "<init>" ∨ h1.length = h.length) := fun mid M2 av h v h1 c1 s1 g1 g2 => ih mid M2 av h (.inl v) h1 c1 s1 g1 g2
    have hS2 : ∀ mid M2 av h E h1 c1 s1, MT mid = some M2 → gm_Sp MT d mid av h (.inr E) h1 c1 s1 → gm_Met2 l d M2 av h E h1 c1 s1 ∧ h1.length = h.length ∧ M2.2.2.2.2.2.2.1 = [] := fun mid M2 av h E h1 c1 s1 g1 g2 => ih mid M2 av h (.inr E) h1 c1 s1 g1 g2
    obtain ⟨M9, hM9, hsd, hrun⟩ := hSp
    cases Option.some.inj (hM9.symm.trans hMT)
    obtain ⟨hM, hC, hKK, hT⟩ := hall.2.2 mid M hMT
    cases o with
    | inl v =>
      refine ⟨fun dC dI cy ad sz => ?_, hsd.1⟩
      cases hh : M.2.2.2.2.2.2.1 with
      | nil =>
        refine Met.ofW (cc := M.2.2.1) (maxL := M.2.2.2.1) (ret := M.2.2.2.2.1) hM.2.1 (gm_ws_cons M hh) ?_
        intro p e s m args below meth c s₁ B hml hpc
        have hts := gm_hts B
        have htab : c.exceptionTable.toList = tableOf M.2.2.2.2.2.2.1 := by
          obtain ⟨meth9, c9, h1, h2, -, -, -, -, h7, -⟩ := Cond.code_spec B.named (hts _ (by rw [gm_ws_cons M hh]; exact List.mem_cons_self))
          cases Option.some.inj (h1.symm.trans B.method)
          cases Option.some.inj (h2.symm.trans (Stand.of_body B).code)
          rw [hh, Array.isEmpty_iff.mp h7]
          rfl
        exact gm_body1 hall rfl B.exec B.bytes hml (findClass_of_methodNamed B.named) (fun w hw => hts w (List.mem_cons_of_mem _ hw)) B.returns B.notSynchronized (fun hn => ((name_of_methodNamed B.named B.method).1).trans hn) htab hpc hMT hS1 hS2 hsd hrun
      | cons a r =>
        refine va_MetW (cc := M.2.2.1) (maxL := M.2.2.2.1) (ret := M.2.2.2.2.1) (hh := a :: r) hM.2.1 (gm_ws_consW M hh) ?_
        intro p e s m args below meth c s₁ B hml hpc
        have hts := gm_hts B
        have htab : c.exceptionTable.toList = tableOf M.2.2.2.2.2.2.1 := by
          rw [hh]
          exact vx_table (x := M.2.1) B (hts _ (by rw [gm_ws_consW M hh]; exact List.mem_cons_self))
        exact gm_body1 hall rfl B.exec B.bytes hml (findClass_of_methodNamed B.named) (fun w hw => hts w (List.mem_cons_of_mem _ hw)) B.returns B.notSynchronized (fun hn => ((name_of_methodNamed B.named B.method).1).trans hn) htab hpc hMT hS1 hS2 hsd hrun
    | inr E =>
      have hh : M.2.2.2.2.2.2.1 = [] := hsd.2.2.2.1
      refine ⟨fun dC dI cy ad sz => ?_, hsd.2.2.2.2, hh⟩
      refine vx_ofW (cc := M.2.2.1) (maxL := M.2.2.2.1) (ret := M.2.2.2.2.1) hM.2.1 (gm_ws_cons M hh) ?_
      intro p e s m args below meth c s₁ B hml htab hpc
      have hts := gm_hts B
      exact gm_body2 hl hall rfl B.exec B.bytes hml (findClass_of_methodNamed B.named) (fun w hw => hts w (List.mem_cons_of_mem _ hw)) B.notSynchronized (fun hn => ((name_of_methodNamed B.named B.method).1).trans hn) htab hpc hMT hS1 hS2 hsd hrun
end GM
end
section
/-! TABLES: methods, classes by their constant pools (written by a program out of NAMES, Statement) -/
def gm_KX0 : pK := ([(11, 0, 0), (15, 0, 1), (19, 0, 2)], [(3, 0, 200), (22, 1004, 1), (26, 1002, 2), (30, 1005, 2), (34, 7021, 52), (37, 1007, 1), (41, 1008, 102), (45, 1003, 1), (48, 1013, 2), (51, 1012, 102)], [], [], [])
def gm_KX1 : pK := ([(12, 1, 0), (18, 1, 1), (21, 1, 2), (25, 1, 3)], [(3, 0, 200), (11, 6000, 200), (29, 6003, 100), (32, 5003, 101), (38, 5008, 102), (42, 6007, 101), (46, 2005, 100), (49, 6009, 100), (52, 6002, 100), (56, 2006, 101), (60, 6006, 101), (63, 2007, 1), (67, 2008, 103), (71, 6010, 101), (74, 6011, 102), (78, 6012, 102), (81, 6008, 103), (85, 2010, 101), (89, 2011, 103), (93, 2012, 103), (97, 2013, 104), (101, 2014, 2)], [], [(9, 5, [.null, .null, .int 0, .int 0])], [])
def gm_KX2 : pK := ([(11, 2, 0), (15, 2, 1), (18, 2, 2)], [(5, 0, 200), (22, 4010, 100), (28, 4007, 100), (32, 4008, 100), (35, 3002, 102), (39, 4001, 100), (42, 4004, 101), (46, 4005, 101), (50, 7021, 52), (54, 3004, 102), (58, 9001, 2), (63, 3007, 102)], [], [], [])
def gm_KX3 : pK := ([(9, 3, 0), (15, 3, 1), (19, 3, 2), (23, 3, 3), (27, 3, 4), (30, 3, 5)], [(3, 0, 200), (34, 4004, 101), (38, 4005, 101), (42, 7021, 52), (46, 4010, 100), (50, 4012, 101), (53, 4014, 100), (56, 4013, 100), (60, 4018, 101), (63, 4019, 101), (66, 9000, 1), (71, 4020, 2), (75, 4022, 2), (79, 4016, 101)], [(33, .int (65535))], [], [])
def gm_KX4 : pK := ([(9, 4, 0), (15, 4, 1), (19, 4, 2), (22, 4, 3), (25, 4, 4), (28, 4, 5)], [(3, 0, 200), (32, 5002, 101), (36, 5006, 101), (40, 5003, 101), (43, 5007, 101), (46, 5005, 101), (50, 5010, 103), (54, 5004, 101), (57, 5011, 3), (65, 6004, 100), (70, 5013, 102), (74, 6005, 100), (78, 6001, 1), (82, 5009, 103), (85, 5015, 103), (89, 7021, 52)], [(60, .int (43690)), (61, .int (52428)), (62, .int (61680)), (63, .int (65280)), (64, .int (65535))], [], [])
def gm_KX5 : pK := ([(11, 5, 0), (15, 5, 1), (19, 5, 2), (23, 5, 3)], [(3, 0, 200), (26, 6006, 101), (30, 6007, 101), (34, 9001, 2), (40, 6001, 1), (44, 6010, 101), (48, 6011, 102)], [], [], [])
def gm_KX6 : pK := ([(10, 6, 0), (19, 6, 1), (26, 6, 2), (33, 6, 3), (40, 6, 4)], [(1, 0, 200), (9, 5000, 200), (18, 2000, 200), (25, 1000, 200), (32, 4000, 200), (39, 3000, 200), (44, 7015, 101), (48, 5009, 103), (52, 7013, 101), (56, 7014, 101), (59, 7012, 103), (62, 5001, 100), (66, 5003, 101), (76, 5008, 102), (85, 5002, 101), (101, 5004, 101), (104, 9000, 1), (109, 7016, 101), (112, 7021, 2), (116, 5014, 102), (119, 2001, 102), (123, 7029, 100), (127, 7030, 100), (130, 2002, 100), (134, 5012, 101), (139, 2003, 100), (143, 2009, 100), (146, 1006, 101), (149, 1009, 100), (152, 1011, 101), (155, 1010, 101), (160, 1001, 2), (165, 2004, 100), (173, 7040, 103), (177, 4001, 100), (180, 7043, 1), (184, 7044, 103), (187, 4002, 102), (193, 4003, 100), (196, 4006, 100), (199, 4009, 102), (202, 4013, 100), (205, 4011, 101), (210, 7041, 100), (213, 4015, 100), (218, 4007, 100), (223, 4014, 100), (228, 7042, 1), (235, 3001, 101), (239, 3003, 100), (242, 7051, 101), (245, 3006, 100), (248, 3005, 101), (253, 7052, 102), (257, 4017, 101), (261, 4021, 101)], [(138, .int (1000000)), (264, .float (1098907648))], [(7, 4, [.null, .null, .null, .null, .null, .int 0]), (16, 1, [.null, .null, .int 0, .int 0]), (23, 0, [.null, .null, .null]), (30, 3, [.null, .null, .int 0, .int 0, .int 0, .int 0]), (37, 2, [.null, .null, .int 0])], [(69, "java/util/NoSuchElementException"), (80, "java/lang/IllegalStateException"), (89, "java/lang/IndexOutOfBoundsException"), (94, "java/lang/IllegalArgumentException"), (168, "java/lang/UnsupportedOperationException")])
def gm_KX7 : pK := ([(7, 7, 7), (13, 7, 8), (16, 7, 9), (19, 7, 10), (22, 7, 11), (25, 7, 12), (28, 7, 13), (31, 7, 14), (34, 7, 18), (37, 7, 19), (40, 7, 20), (43, 7, 21), (46, 7, 0), (50, 7, 1), (83, 7, 4), (114, 7, 22), (124, 7, 5), (155, 7, 15), (158, 7, 16), (161, 7, 17), (170, 7, 2), (173, 7, 3), (188, 7, 6)], [(1, 0, 200), (53, 8003, 3), (58, 8006, 1), (62, 8007, 103), (66, 8002, 101), (69, 8008, 103), (72, 8009, 104), (76, 8004, 101), (80, 8014, 103), (86, 8021, 101), (90, 8022, 101), (93, 9000, 1), (98, 8025, 102), (102, 8005, 1), (105, 8028, 101), (108, 8029, 102), (111, 8030, 101), (117, 8033, 102), (121, 8032, 101), (127, 8035, 100), (131, 8031, 100), (134, 8034, 101), (137, 8036, 101), (140, 8041, 1), (143, 8042, 2), (146, 8043, 2), (149, 8044, 101), (152, 8049, 103), (164, 8047, 1), (167, 8052, 102), (176, 8048, 1), (179, 8050, 101), (182, 8057, 100), (185, 8058, 101), (191, 8051, 100), (194, 8061, 100), (197, 8063, 100), (201, 8062, 100), (204, 8059, 100), (207, 8067, 105), (211, 8069, 100), (214, 8068, 100), (217, 8070, 100), (222, 8073, 2), (226, 8074, 101)], [(57, .int (65535)), (220, .long (-1)), (230, .float (1098907648))], [], [])
def gm_KJ6 : pK := ([], [], [(265, .int (1431655765)), (266, .int (858993459)), (267, .int (252645135))], [], [])
def gm_KJ9 : pK := ([], [], [], [], [])
def gm_KL : pK := ([], [(7, 7001, 101), (17, 7002, 100), (21, 7003, 100), (24, 7004, 101), (29, 7005, 102), (33, 7006, 102), (36, 7007, 102), (39, 7008, 102), (42, 7010, 101), (45, 7011, 102), (51, 7017, 101), (54, 7018, 102), (58, 7019, 102), (61, 7020, 102), (64, 7022, 101), (68, 7023, 101), (73, 7024, 101), (76, 7025, 101), (79, 7026, 101), (82, 7027, 101), (85, 7028, 103), (89, 7031, 103), (93, 7032, 100), (96, 7034, 103), (100, 7036, 101), (103, 7037, 100), (107, 7038, 100), (111, 7039, 100), (114, 7045, 100), (117, 7046, 100), (120, 7047, 101), (123, 7048, 101), (127, 7049, 101), (130, 7050, 101), (134, 7000, 200), (137, 8000, 200), (138, 10000, 3), (143, 8010, 101), (144, 8001, 100), (147, 10001, 2), (150, 8011, 100), (151, 10002, 2), (153, 8012, 100), (154, 10003, 3), (156, 8013, 101), (157, 10004, 4), (160, 8015, 102), (161, 10005, 4), (163, 8016, 102), (164, 10006, 4), (166, 8017, 102), (167, 10007, 4), (169, 8018, 102), (170, 7009, 100), (173, 8019, 100), (174, 10008, 3), (176, 8020, 101), (177, 10009, 4), (179, 8023, 102), (180, 10010, 3), (182, 8024, 101), (183, 10011, 4), (185, 8025, 102), (186, 10012, 4), (188, 8026, 102), (189, 10013, 4), (191, 8027, 102), (192, 10014, 3), (194, 8037, 101), (195, 10015, 3), (197, 8038, 101), (198, 10016, 3), (200, 8039, 101), (201, 10017, 3), (203, 8040, 101), (204, 10018, 3), (206, 8044, 101), (207, 10019, 3), (209, 8045, 101), (210, 10020, 5), (213, 8046, 103), (214, 10021, 5), (217, 8053, 103), (218, 10022, 2), (220, 8054, 100), (221, 7033, 100), (224, 8055, 100), (225, 10023, 5), (227, 8056, 103), (228, 7035, 100), (231, 8059, 100), (232, 10024, 3), (234, 8060, 101), (235, 10025, 2), (237, 8064, 100), (238, 10026, 2), (240, 8065, 100), (241, 10027, 2), (243, 8066, 100), (244, 10028, 2), (246, 8070, 100), (247, 10029, 2), (249, 8071, 100), (250, 10030, 3), (252, 8072, 101), (253, 10031, 3), (255, 8075, 101), (256, 10032, 3), (258, 8076, 101), (259, 10033, 3), (262, 8077, 101)], [], [(8, 6, [.null, .null, .null, .null, .null]), (135, 7, [.int 0, .int 0, .int 0, .int 0, .int 0, .int 0, .int 0, .null, .null, .null, .null, .null, .null, .null, .null, .int 0, .int 0, .int 0, .null, .null, .null, .null, .int 0])], [(13, "java/lang/IllegalArgumentException"), (15, "java/lang/IllegalStateException"), (27, "java/lang/IndexOutOfBoundsException"), (49, "java/util/NoSuchElementException"), (71, "java/lang/UnsupportedOperationException")])
def gm_cX0_init : List (Nat × Instr × Nat) := [(0, .aload_n 0, 1), (1, .invokespecial 3, 3), (4, .aload_n 0, 1), (5, .bipush 81, 2), (7, .newarray .int, 2), (9, .putfield 11, 3), (12, .aload_n 0, 1), (13, .bipush 81, 2), (15, .newarray .boolean, 2), (17, .putfield 15, 3), (20, .aload_n 0, 1), (21, .bipush 81, 2), (23, .newarray .boolean, 2), (25, .putfield 19, 3), (28, .iconst 0, 1), (29, .istore_n 1, 1), (30, .iload_n 1, 1), (31, .bipush 81, 2), (33, .if_icmp .ge 19, 3), (36, .aload_n 0, 1), (37, .getfield 11, 3), (40, .iload_n 1, 1), (41, .iload_n 1, 1), (42, .invokestatic 22, 3), (45, .iastore, 1), (46, .iinc 1 1, 3), (49, .goto (-19), 3), (52, .return_, 1)]
def gm_mX0_init : pM := (RX0, yX0_init, cX0_init, 2, none, gm_cX0_init, [], gm_KX0)
def gm_cX0_tells : List (Nat × Instr × Nat) := [(0, .iload_n 0, 1), (1, .iload_n 1, 1), (2, .invokestatic 26, 3), (5, .istore_n 2, 1), (6, .iload_n 2, 1), (7, .ifCond .ne 6, 3), (10, .bipush 45, 2), (12, .ireturn, 1), (13, .iload_n 2, 1), (14, .iconst 1, 1), (15, .if_icmp .ne 8, 3), (18, .bipush 48, 2), (20, .goto 5, 3), (23, .bipush 49, 2), (25, .ireturn, 1)]
def gm_mX0_tells : pM := (RX0, yX0_tells, cX0_tells, 3, (some .char), gm_cX0_tells, [], gm_KX0)
def gm_cX0_digitOf : List (Nat × Instr × Nat) := [(0, .iload_n 1, 1), (1, .tableswitch 45 0 2 #[27, 32, 39], 27), (28, .iload_n 0, 1), (29, .bipush 27, 2), (31, .idiv, 1), (32, .ireturn, 1), (33, .iload_n 0, 1), (34, .bipush 9, 2), (36, .idiv, 1), (37, .iconst 3, 1), (38, .irem, 1), (39, .ireturn, 1), (40, .iload_n 0, 1), (41, .iconst 3, 1), (42, .idiv, 1), (43, .iconst 3, 1), (44, .irem, 1), (45, .ireturn, 1), (46, .iload_n 0, 1), (47, .iconst 3, 1), (48, .irem, 1), (49, .ireturn, 1)]
def gm_mX0_digitOf : pM := (RX0, yX0_digitOf, cX0_digitOf, 2, (some .int), gm_cX0_digitOf, [], gm_KX0)
def gm_cX0_weightOf : List (Nat × Instr × Nat) := [(0, .iload_n 0, 1), (1, .tableswitch 35 0 2 #[27, 30, 33], 27), (28, .bipush 27, 2), (30, .ireturn, 1), (31, .bipush 9, 2), (33, .ireturn, 1), (34, .iconst 3, 1), (35, .ireturn, 1), (36, .iconst 1, 1), (37, .ireturn, 1)]
def gm_mX0_weightOf : pM := (RX0, yX0_weightOf, cX0_weightOf, 1, (some .int), gm_cX0_weightOf, [], gm_KX0)
def gm_cX0_regionsIn : List (Nat × Instr × Nat) := [(0, .iconst 0, 1), (1, .istore_n 1, 1), (2, .iconst 0, 1), (3, .istore_n 2, 1), (4, .iload_n 2, 1), (5, .bipush 16, 2), (7, .if_icmp .ge 23, 3), (10, .iload_n 0, 1), (11, .iload_n 2, 1), (12, .invokestatic 30, 3), (15, .ifCond .eq 9, 3), (18, .iload_n 1, 1), (19, .iconst 1, 1), (20, .iload_n 2, 1), (21, .ishl, 1), (22, .ior, 1), (23, .istore_n 1, 1), (24, .iinc 2 1, 3), (27, .goto (-23), 3), (30, .iload_n 1, 1), (31, .ireturn, 1)]
def gm_mX0_regionsIn : pM := (RX0, yX0_regionsIn, cX0_regionsIn, 3, (some .int), gm_cX0_regionsIn, [], gm_KX0)
def gm_cX0_contains : List (Nat × Instr × Nat) := [(0, .iconst 0, 1), (1, .istore_n 2, 1), (2, .iload_n 2, 1), (3, .iconst 4, 1), (4, .if_icmp .ge 39, 3), (7, .iload_n 0, 1), (8, .iload_n 2, 1), (9, .invokestatic 26, 3), (12, .istore_n 3, 1), (13, .iload_n 3, 1), (14, .ifCond .eq 23, 3), (17, .iload_n 2, 1), (18, .iload_n 1, 1), (19, .invokestatic 34, 3), (22, .iload_n 3, 1), (23, .iconst 1, 1), (24, .if_icmp .ne 7, 3), (27, .iconst 1, 1), (28, .goto 4, 3), (31, .iconst 0, 1), (32, .if_icmp .ne 5, 3), (35, .iconst 0, 1), (36, .ireturn, 1), (37, .iinc 2 1, 3), (40, .goto (-38), 3), (43, .iconst 1, 1), (44, .ireturn, 1)]
def gm_mX0_contains : pM := (RX0, yX0_contains, cX0_contains, 4, (some .boolean), gm_cX0_contains, [], gm_KX0)
def gm_cX0_join : List (Nat × Instr × Nat) := [(0, .bipush 80, 2), (2, .istore_n 2, 1), (3, .iload_n 2, 1), (4, .ifCond .lt 72, 3), (7, .aload_n 0, 1), (8, .getfield 19, 3), (11, .iload_n 2, 1), (12, .iconst 0, 1), (13, .bastore, 1), (14, .aload_n 0, 1), (15, .getfield 15, 3), (18, .iload_n 2, 1), (19, .iload_n 2, 1), (20, .invokestatic 37, 3), (23, .ifCond .eq 18, 3), (26, .aload_n 0, 1), (27, .getfield 11, 3), (30, .iload_n 2, 1), (31, .iaload, 1), (32, .iload_n 1, 1), (33, .iand, 1), (34, .ifCond .eq 7, 3), (37, .iconst 1, 1), (38, .goto 4, 3), (41, .iconst 0, 1), (42, .bastore, 1), (43, .iconst 0, 1), (44, .istore_n 3, 1), (45, .iload_n 3, 1), (46, .iconst 4, 1), (47, .if_icmp .ge 23, 3), (50, .iload_n 2, 1), (51, .iload_n 3, 1), (52, .invokestatic 26, 3), (55, .ifCond .ne 9, 3), (58, .aload_n 0, 1), (59, .iload_n 2, 1), (60, .iload_n 3, 1), (61, .invokevirtual 41, 3), (64, .iinc 3 1, 3), (67, .goto (-22), 3), (70, .iinc 2 (-1), 3), (73, .goto (-70), 3), (76, .return_, 1)]
def gm_mX0_join : pM := (RX0, yX0_join, cX0_join, 4, none, gm_cX0_join, [], gm_KX0)
def gm_cX0_isSingle : List (Nat × Instr × Nat) := [(0, .iconst 0, 1), (1, .istore_n 1, 1), (2, .iload_n 1, 1), (3, .iconst 4, 1), (4, .if_icmp .ge 19, 3), (7, .iload_n 0, 1), (8, .iload_n 1, 1), (9, .invokestatic 26, 3), (12, .ifCond .ne 5, 3), (15, .iconst 0, 1), (16, .ireturn, 1), (17, .iinc 1 1, 3), (20, .goto (-18), 3), (23, .iconst 1, 1), (24, .ireturn, 1)]
def gm_mX0_isSingle : pM := (RX0, yX0_isSingle, cX0_isSingle, 2, (some .boolean), gm_cX0_isSingle, [], gm_KX0)
def gm_cX0_joinParts : List (Nat × Instr × Nat) := [(0, .iload_n 1, 1), (1, .iload_n 2, 1), (2, .invokestatic 45, 3), (5, .iadd, 1), (6, .istore_n 3, 1), (7, .iload_n 3, 1), (8, .iload_n 2, 1), (9, .invokestatic 45, 3), (12, .iadd, 1), (13, .istore 4, 2), (15, .iload_n 1, 1), (16, .ifCond .lt 51, 3), (19, .iload 4, 2), (21, .bipush 81, 2), (23, .if_icmp .ge 44, 3), (26, .aload_n 0, 1), (27, .getfield 15, 3), (30, .iload_n 3, 1), (31, .baload, 1), (32, .ifCond .eq 35, 3), (35, .aload_n 0, 1), (36, .getfield 15, 3), (39, .iload 4, 2), (41, .baload, 1), (42, .ifCond .eq 25, 3), (45, .aload_n 0, 1), (46, .getfield 15, 3), (49, .iload_n 1, 1), (50, .iconst 1, 1), (51, .bastore, 1), (52, .aload_n 0, 1), (53, .getfield 19, 3), (56, .iload_n 3, 1), (57, .iconst 1, 1), (58, .bastore, 1), (59, .aload_n 0, 1), (60, .getfield 19, 3), (63, .iload 4, 2), (65, .iconst 1, 1), (66, .bastore, 1), (67, .return_, 1)]
def gm_mX0_joinParts : pM := (RX0, yX0_joinParts, cX0_joinParts, 5, none, gm_cX0_joinParts, [], gm_KX0)
def gm_cX0_countPrimes : List (Nat × Instr × Nat) := [(0, .iconst 0, 1), (1, .istore_n 1, 1), (2, .iconst 0, 1), (3, .istore_n 2, 1), (4, .iload_n 2, 1), (5, .bipush 81, 2), (7, .if_icmp .ge 30, 3), (10, .aload_n 0, 1), (11, .getfield 15, 3), (14, .iload_n 2, 1), (15, .baload, 1), (16, .ifCond .eq 15, 3), (19, .aload_n 0, 1), (20, .getfield 19, 3), (23, .iload_n 2, 1), (24, .baload, 1), (25, .ifCond .ne 6, 3), (28, .iinc 1 1, 3), (31, .iinc 2 1, 3), (34, .goto (-30), 3), (37, .iload_n 1, 1), (38, .ireturn, 1)]
def gm_mX0_countPrimes : pM := (RX0, yX0_countPrimes, cX0_countPrimes, 3, (some .int), gm_cX0_countPrimes, [], gm_KX0)
def gm_cX0_primeAt : List (Nat × Instr × Nat) := [(0, .iconst 0, 1), (1, .istore_n 2, 1), (2, .iconst 0, 1), (3, .istore_n 3, 1), (4, .iload_n 3, 1), (5, .bipush 81, 2), (7, .if_icmp .ge 37, 3), (10, .aload_n 0, 1), (11, .getfield 15, 3), (14, .iload_n 3, 1), (15, .baload, 1), (16, .ifCond .eq 22, 3), (19, .aload_n 0, 1), (20, .getfield 19, 3), (23, .iload_n 3, 1), (24, .baload, 1), (25, .ifCond .ne 13, 3), (28, .iload_n 2, 1), (29, .iload_n 1, 1), (30, .if_icmp .ne 5, 3), (33, .iload_n 3, 1), (34, .ireturn, 1), (35, .iinc 2 1, 3), (38, .iinc 3 1, 3), (41, .goto (-37), 3), (44, .iconst (-1), 1), (45, .ireturn, 1)]
def gm_mX0_primeAt : pM := (RX0, yX0_primeAt, cX0_primeAt, 4, (some .int), gm_cX0_primeAt, [], gm_KX0)
def gm_cX0_countByTrying : List (Nat × Instr × Nat) := [(0, .iconst 0, 1), (1, .istore_n 2, 1), (2, .iconst 0, 1), (3, .istore_n 3, 1), (4, .iload_n 3, 1), (5, .bipush 81, 2), (7, .if_icmp .ge 34, 3), (10, .aload_n 0, 1), (11, .getfield 11, 3), (14, .iload_n 3, 1), (15, .iaload, 1), (16, .iload_n 1, 1), (17, .invokestatic 48, 3), (20, .ifCond .eq 15, 3), (23, .aload_n 0, 1), (24, .iload_n 3, 1), (25, .iload_n 1, 1), (26, .invokevirtual 51, 3), (29, .ifCond .ne 6, 3), (32, .iinc 2 1, 3), (35, .iinc 3 1, 3), (38, .goto (-34), 3), (41, .iload_n 2, 1), (42, .ireturn, 1)]
def gm_mX0_countByTrying : pM := (RX0, yX0_countByTrying, cX0_countByTrying, 4, (some .int), gm_cX0_countByTrying, [], gm_KX0)
def gm_cX0_isInLarger : List (Nat × Instr × Nat) := [(0, .iload_n 1, 1), (1, .ifCond .lt 9, 3), (4, .iload_n 1, 1), (5, .bipush 81, 2), (7, .if_icmp .lt 5, 3), (10, .iconst 0, 1), (11, .ireturn, 1), (12, .iconst 0, 1), (13, .istore_n 3, 1), (14, .iload_n 3, 1), (15, .bipush 81, 2), (17, .if_icmp .ge 47, 3), (20, .iload_n 3, 1), (21, .iload_n 1, 1), (22, .if_icmp .eq 36, 3), (25, .aload_n 0, 1), (26, .getfield 11, 3), (29, .iload_n 3, 1), (30, .iaload, 1), (31, .iload_n 2, 1), (32, .invokestatic 48, 3), (35, .ifCond .eq 23, 3), (38, .aload_n 0, 1), (39, .getfield 11, 3), (42, .iload_n 1, 1), (43, .iaload, 1), (44, .aload_n 0, 1), (45, .getfield 11, 3), (48, .iload_n 3, 1), (49, .iaload, 1), (50, .invokestatic 48, 3), (53, .ifCond .eq 5, 3), (56, .iconst 1, 1), (57, .ireturn, 1), (58, .iinc 3 1, 3), (61, .goto (-47), 3), (64, .iconst 0, 1), (65, .ireturn, 1)]
def gm_mX0_isInLarger : pM := (RX0, yX0_isInLarger, cX0_isInLarger, 4, (some .boolean), gm_cX0_isInLarger, [], gm_KX0)
def gm_cX0_isInside : List (Nat × Instr × Nat) := [(0, .iload_n 0, 1), (1, .iload_n 1, 1), (2, .iconst (-1), 1), (3, .ixor, 1), (4, .iand, 1), (5, .ifCond .ne 7, 3), (8, .iconst 1, 1), (9, .goto 4, 3), (12, .iconst 0, 1), (13, .ireturn, 1)]
def gm_mX0_isInside : pM := (RX0, yX0_isInside, cX0_isInside, 2, (some .boolean), gm_cX0_isInside, [], gm_KX0)
def gm_cX1_init : List (Nat × Instr × Nat) := [(0, .aload_n 0, 1), (1, .invokespecial 3, 3), (4, .aload_n 0, 1), (5, .new 9, 3), (8, .dup, 1), (9, .invokespecial 11, 3), (12, .putfield 12, 3), (15, .aload_n 0, 1), (16, .new 9, 3), (19, .dup, 1), (20, .invokespecial 11, 3), (23, .putfield 18, 3), (26, .aload_n 0, 1), (27, .iconst 0, 1), (28, .putfield 21, 3), (31, .aload_n 0, 1), (32, .bipush 32, 2), (34, .putfield 25, 3), (37, .return_, 1)]
def gm_mX1_init : pM := (RX1, yX1_init, cX1_init, 1, none, gm_cX1_init, [], gm_KX1)
def gm_cX1_load : List (Nat × Instr × Nat) := [(0, .aload_n 0, 1), (1, .getfield 12, 3), (4, .invokevirtual 29, 3), (7, .aload_n 1, 1), (8, .iload_n 2, 1), (9, .invokevirtual 32, 3), (12, .istore_n 3, 1), (13, .iconst 0, 1), (14, .istore 4, 2), (16, .iload 4, 2), (18, .iload_n 3, 1), (19, .if_icmp .ge 23, 3), (22, .aload_n 0, 1), (23, .getfield 12, 3), (26, .aload_n 1, 1), (27, .iload_n 2, 1), (28, .iload 4, 2), (30, .invokevirtual 38, 3), (33, .invokevirtual 42, 3), (36, .iinc 4 1, 3), (39, .goto (-23), 3), (42, .aload_n 0, 1), (43, .invokevirtual 46, 3), (46, .return_, 1)]
def gm_mX1_load : pM := (RX1, yX1_load, cX1_load, 5, none, gm_cX1_load, [], gm_KX1)
def gm_cX1_text : List (Nat × Instr × Nat) := [(0, .aload_n 0, 1), (1, .getfield 12, 3), (4, .areturn, 1)]
def gm_mX1_text : pM := (RX1, yX1_text, cX1_text, 1, (some (.object "Gimlet$Text")), gm_cX1_text, [], gm_KX1)
def gm_cX1_canGoOn : List (Nat × Instr × Nat) := [(0, .aload_n 0, 1), (1, .getfield 25, 3), (4, .bipush 32, 2), (6, .if_icmp .eq 7, 3), (9, .iconst 1, 1), (10, .goto 4, 3), (13, .iconst 0, 1), (14, .ireturn, 1)]
def gm_mX1_canGoOn : pM := (RX1, yX1_canGoOn, cX1_canGoOn, 1, (some .boolean), gm_cX1_canGoOn, [], gm_KX1)
def gm_cX1_nextRule : List (Nat × Instr × Nat) := [(0, .aload_n 0, 1), (1, .getfield 25, 3), (4, .ireturn, 1)]
def gm_mX1_nextRule : pM := (RX1, yX1_nextRule, cX1_nextRule, 1, (some .char), gm_cX1_nextRule, [], gm_KX1)
def gm_cX1_seek : List (Nat × Instr × Nat) := [(0, .aload_n 0, 1), (1, .getfield 12, 3), (4, .invokevirtual 49, 3), (7, .aload_n 0, 1), (8, .bipush 32, 2), (10, .putfield 25, 3), (13, .iconst 0, 1), (14, .istore_n 1, 1), (15, .iload_n 1, 1), (16, .aload_n 0, 1), (17, .getfield 12, 3), (20, .invokevirtual 52, 3), (23, .if_icmp .ge 32, 3), (26, .aload_n 0, 1), (27, .getfield 25, 3), (30, .bipush 32, 2), (32, .if_icmp .ne 23, 3), (35, .aload_n 0, 1), (36, .iload_n 1, 1), (37, .putfield 21, 3), (40, .aload_n 0, 1), (41, .aload_n 0, 1), (42, .iload_n 1, 1), (43, .invokevirtual 56, 3), (46, .putfield 25, 3), (49, .iinc 1 1, 3), (52, .goto (-37), 3), (55, .return_, 1)]
def gm_mX1_seek : pM := (RX1, yX1_seek, cX1_seek, 2, none, gm_cX1_seek, [], gm_KX1)
def gm_cX1_ruleAt : List (Nat × Instr × Nat) := [(0, .aload_n 0, 1), (1, .getfield 12, 3), (4, .iload_n 1, 1), (5, .invokevirtual 60, 3), (8, .lookupswitch 96 #[(67, 52), (68, 66), (73, 72), (83, 69), (85, 84)], 52), (60, .aload_n 0, 1), (61, .getfield 12, 3), (64, .iload_n 1, 1), (65, .iconst 1, 1), (66, .iadd, 1), (67, .invokevirtual 60, 3), (70, .invokestatic 63, 3), (73, .ireturn, 1), (74, .bipush 100, 2), (76, .ireturn, 1), (77, .bipush 115, 2), (79, .ireturn, 1), (80, .aload_n 0, 1), (81, .iload_n 1, 1), (82, .iconst 1, 1), (83, .iadd, 1), (84, .bipush 122, 2), (86, .bipush 111, 2), (88, .invokevirtual 67, 3), (91, .ireturn, 1), (92, .aload_n 0, 1), (93, .iload_n 1, 1), (94, .iconst 1, 1), (95, .iadd, 1), (96, .bipush 121, 2), (98, .bipush 116, 2), (100, .invokevirtual 67, 3), (103, .ireturn, 1), (104, .bipush 32, 2), (106, .ireturn, 1)]
def gm_mX1_ruleAt : pM := (RX1, yX1_ruleAt, cX1_ruleAt, 2, (some .char), gm_cX1_ruleAt, [], gm_KX1)
def gm_cX1_ruleOfComplement : List (Nat × Instr × Nat) := [(0, .iload_n 0, 1), (1, .lookupswitch 66 #[(48, 54), (49, 57), (67, 51), (73, 63), (85, 60)], 51), (52, .bipush 110, 2), (54, .ireturn, 1), (55, .bipush 101, 2), (57, .ireturn, 1), (58, .bipush 118, 2), (60, .ireturn, 1), (61, .bipush 117, 2), (63, .ireturn, 1), (64, .bipush 105, 2), (66, .ireturn, 1), (67, .bipush 32, 2), (69, .ireturn, 1)]
def gm_mX1_ruleOfComplement : pM := (RX1, yX1_ruleOfComplement, cX1_ruleOfComplement, 1, (some .char), gm_cX1_ruleOfComplement, [], gm_KX1)
def gm_cX1_ruleOfPair : List (Nat × Instr × Nat) := [(0, .aload_n 0, 1), (1, .getfield 12, 3), (4, .iload_n 1, 1), (5, .invokevirtual 71, 3), (8, .istore 4, 2), (10, .aload_n 0, 1), (11, .getfield 12, 3), (14, .iload_n 1, 1), (15, .invokevirtual 60, 3), (18, .bipush 48, 2), (20, .if_icmp .eq 17, 3), (23, .aload_n 0, 1), (24, .getfield 12, 3), (27, .iload 4, 2), (29, .invokevirtual 60, 3), (32, .bipush 48, 2), (34, .if_icmp .ne 5, 3), (37, .iload_n 2, 1), (38, .ireturn, 1), (39, .aload_n 0, 1), (40, .getfield 12, 3), (43, .iload_n 1, 1), (44, .invokevirtual 60, 3), (47, .bipush 49, 2), (49, .if_icmp .eq 17, 3), (52, .aload_n 0, 1), (53, .getfield 12, 3), (56, .iload 4, 2), (58, .invokevirtual 60, 3), (61, .bipush 49, 2), (63, .if_icmp .ne 5, 3), (66, .iload_n 3, 1), (67, .ireturn, 1), (68, .aload_n 0, 1), (69, .getfield 12, 3), (72, .iload_n 1, 1), (73, .iload 4, 2), (75, .invokevirtual 74, 3), (78, .ifCond .eq 6, 3), (81, .bipush 112, 2), (83, .ireturn, 1), (84, .aload_n 0, 1), (85, .getfield 12, 3), (88, .iload_n 1, 1), (89, .iload 4, 2), (91, .invokevirtual 78, 3), (94, .ifCond .ne 16, 3), (97, .aload_n 0, 1), (98, .getfield 12, 3), (101, .iload 4, 2), (103, .iload_n 1, 1), (104, .invokevirtual 78, 3), (107, .ifCond .eq 8, 3), (110, .bipush 99, 2), (112, .goto 5, 3), (115, .bipush 32, 2), (117, .ireturn, 1)]
def gm_mX1_ruleOfPair : pM := (RX1, yX1_ruleOfPair, cX1_ruleOfPair, 5, (some .char), gm_cX1_ruleOfPair, [], gm_KX1)
def gm_cX1_rewrite : List (Nat × Instr × Nat) := [(0, .aload_n 0, 1), (1, .getfield 12, 3), (4, .aload_n 0, 1), (5, .getfield 21, 3), (8, .invokevirtual 71, 3), (11, .istore_n 1, 1), (12, .aload_n 0, 1), (13, .getfield 18, 3), (16, .invokevirtual 29, 3), (19, .aload_n 0, 1), (20, .getfield 18, 3), (23, .aload_n 0, 1), (24, .getfield 12, 3), (27, .iconst 0, 1), (28, .aload_n 0, 1), (29, .getfield 21, 3), (32, .invokevirtual 81, 3), (35, .aload_n 0, 1), (36, .iload_n 1, 1), (37, .invokevirtual 85, 3), (40, .aload_n 0, 1), (41, .getfield 18, 3), (44, .aload_n 0, 1), (45, .getfield 12, 3), (48, .iload_n 1, 1), (49, .aload_n 0, 1), (50, .getfield 12, 3), (53, .invokevirtual 52, 3), (56, .invokevirtual 81, 3), (59, .aload_n 0, 1), (60, .getfield 18, 3), (63, .invokevirtual 52, 3), (66, .bipush 40, 2), (68, .if_icmp .le 5, 3), (71, .iconst 0, 1), (72, .ireturn, 1), (73, .aload_n 0, 1), (74, .getfield 12, 3), (77, .astore_n 2, 1), (78, .aload_n 0, 1), (79, .aload_n 0, 1), (80, .getfield 18, 3), (83, .putfield 12, 3), (86, .aload_n 0, 1), (87, .aload_n 2, 1), (88, .putfield 18, 3), (91, .aload_n 0, 1), (92, .invokevirtual 46, 3), (95, .iconst 1, 1), (96, .ireturn, 1)]
def gm_mX1_rewrite : pM := (RX1, yX1_rewrite, cX1_rewrite, 3, (some .boolean), gm_cX1_rewrite, [], gm_KX1)
def gm_cX1_putRewritten : List (Nat × Instr × Nat) := [(0, .aload_n 0, 1), (1, .getfield 21, 3), (4, .iconst 1, 1), (5, .iadd, 1), (6, .istore_n 2, 1), (7, .aload_n 0, 1), (8, .getfield 12, 3), (11, .iload_n 2, 1), (12, .invokevirtual 71, 3), (15, .istore_n 3, 1), (16, .aload_n 0, 1), (17, .getfield 25, 3), (20, .tableswitch 245 100 121 #[148, 245, 245, 245, 245, 135, 245, 245, 245, 245, 104, 205, 229, 245, 245, 195, 245, 122, 245, 245, 245, 217], 104), (124, .aload_n 0, 1), (125, .getfield 18, 3), (128, .aload_n 0, 1), (129, .getfield 12, 3), (132, .iload_n 2, 1), (133, .iconst 1, 1), (134, .iadd, 1), (135, .iload_n 1, 1), (136, .invokevirtual 81, 3), (139, .goto 151, 3), (142, .aload_n 0, 1), (143, .bipush 73, 2), (145, .iload_n 2, 1), (146, .iconst 1, 1), (147, .iadd, 1), (148, .iload_n 1, 1), (149, .invokevirtual 89, 3), (152, .goto 138, 3), (155, .aload_n 0, 1), (156, .bipush 85, 2), (158, .iload_n 2, 1), (159, .iconst 1, 1), (160, .iadd, 1), (161, .iload_n 1, 1), (162, .invokevirtual 89, 3), (165, .goto 125, 3), (168, .aload_n 0, 1), (169, .getfield 18, 3), (172, .bipush 73, 2), (174, .invokevirtual 42, 3), (177, .aload_n 0, 1), (178, .getfield 18, 3), (181, .aload_n 0, 1), (182, .getfield 12, 3), (185, .iload_n 2, 1), (186, .iload_n 3, 1), (187, .invokevirtual 81, 3), (190, .aload_n 0, 1), (191, .getfield 18, 3), (194, .bipush 67, 2), (196, .invokevirtual 42, 3), (199, .aload_n 0, 1), (200, .getfield 18, 3), (203, .aload_n 0, 1), (204, .getfield 12, 3), (207, .iload_n 3, 1), (208, .iload_n 1, 1), (209, .invokevirtual 81, 3), (212, .goto 78, 3), (215, .aload_n 0, 1), (216, .iload_n 2, 1), (217, .iload_n 3, 1), (218, .iload_n 1, 1), (219, .invokevirtual 93, 3), (222, .goto 68, 3), (225, .aload_n 0, 1), (226, .bipush 49, 2), (228, .iload_n 2, 1), (229, .iload_n 3, 1), (230, .iload_n 1, 1), (231, .invokevirtual 97, 3), (234, .goto 56, 3), (237, .aload_n 0, 1), (238, .bipush 48, 2), (240, .iload_n 2, 1), (241, .iload_n 3, 1), (242, .iload_n 1, 1), (243, .invokevirtual 97, 3), (246, .goto 44, 3), (249, .aload_n 0, 1), (250, .getfield 18, 3), (253, .aload_n 0, 1), (254, .getfield 12, 3), (257, .iload_n 2, 1), (258, .iload_n 3, 1), (259, .invokevirtual 81, 3), (262, .goto 28, 3), (265, .aload_n 0, 1), (266, .getfield 18, 3), (269, .aload_n 0, 1), (270, .getfield 25, 3), (273, .aload_n 0, 1), (274, .getfield 12, 3), (277, .aload_n 0, 1), (278, .getfield 21, 3), (281, .invokevirtual 60, 3), (284, .invokestatic 101, 3), (287, .invokevirtual 42, 3), (290, .return_, 1)]
def gm_mX1_putRewritten : pM := (RX1, yX1_putRewritten, cX1_putRewritten, 4, none, gm_cX1_putRewritten, [], gm_KX1)
def gm_cX1_putComplements : List (Nat × Instr × Nat) := [(0, .aload_n 0, 1), (1, .getfield 12, 3), (4, .iload_n 2, 1), (5, .invokevirtual 71, 3), (8, .istore 4, 2), (10, .aload_n 0, 1), (11, .getfield 18, 3), (14, .iload_n 1, 1), (15, .invokevirtual 42, 3), (18, .aload_n 0, 1), (19, .getfield 18, 3), (22, .bipush 67, 2), (24, .invokevirtual 42, 3), (27, .aload_n 0, 1), (28, .getfield 18, 3), (31, .aload_n 0, 1), (32, .getfield 12, 3), (35, .iload_n 2, 1), (36, .iload 4, 2), (38, .invokevirtual 81, 3), (41, .aload_n 0, 1), (42, .getfield 18, 3), (45, .bipush 67, 2), (47, .invokevirtual 42, 3), (50, .aload_n 0, 1), (51, .getfield 18, 3), (54, .aload_n 0, 1), (55, .getfield 12, 3), (58, .iload 4, 2), (60, .iload_n 3, 1), (61, .invokevirtual 81, 3), (64, .return_, 1)]
def gm_mX1_putComplements : pM := (RX1, yX1_putComplements, cX1_putComplements, 5, none, gm_cX1_putComplements, [], gm_KX1)
def gm_cX1_putDifferences : List (Nat × Instr × Nat) := [(0, .aload_n 0, 1), (1, .getfield 18, 3), (4, .bipush 85, 2), (6, .invokevirtual 42, 3), (9, .aload_n 0, 1), (10, .getfield 18, 3), (13, .bipush 68, 2), (15, .invokevirtual 42, 3), (18, .aload_n 0, 1), (19, .getfield 18, 3), (22, .aload_n 0, 1), (23, .getfield 12, 3), (26, .iload_n 1, 1), (27, .iload_n 3, 1), (28, .invokevirtual 81, 3), (31, .aload_n 0, 1), (32, .getfield 18, 3), (35, .bipush 68, 2), (37, .invokevirtual 42, 3), (40, .aload_n 0, 1), (41, .getfield 18, 3), (44, .aload_n 0, 1), (45, .getfield 12, 3), (48, .iload_n 2, 1), (49, .iload_n 3, 1), (50, .invokevirtual 81, 3), (53, .aload_n 0, 1), (54, .getfield 18, 3), (57, .aload_n 0, 1), (58, .getfield 12, 3), (61, .iload_n 1, 1), (62, .iload_n 2, 1), (63, .invokevirtual 81, 3), (66, .return_, 1)]
def gm_mX1_putDifferences : pM := (RX1, yX1_putDifferences, cX1_putDifferences, 4, none, gm_cX1_putDifferences, [], gm_KX1)
def gm_cX1_putOtherSide : List (Nat × Instr × Nat) := [(0, .aload_n 0, 1), (1, .getfield 12, 3), (4, .iload_n 2, 1), (5, .invokevirtual 60, 3), (8, .iload_n 1, 1), (9, .if_icmp .ne 20, 3), (12, .aload_n 0, 1), (13, .getfield 18, 3), (16, .aload_n 0, 1), (17, .getfield 12, 3), (20, .iload_n 3, 1), (21, .iload 4, 2), (23, .invokevirtual 81, 3), (26, .goto 16, 3), (29, .aload_n 0, 1), (30, .getfield 18, 3), (33, .aload_n 0, 1), (34, .getfield 12, 3), (37, .iload_n 2, 1), (38, .iload_n 3, 1), (39, .invokevirtual 81, 3), (42, .return_, 1)]
def gm_mX1_putOtherSide : pM := (RX1, yX1_putOtherSide, cX1_putOtherSide, 5, none, gm_cX1_putOtherSide, [], gm_KX1)
def gm_cX1_constantOf : List (Nat × Instr × Nat) := [(0, .iload_n 0, 1), (1, .lookupswitch 52 #[(99, 38), (101, 35), (116, 35)], 35), (36, .bipush 49, 2), (38, .ireturn, 1), (39, .iload_n 1, 1), (40, .bipush 85, 2), (42, .if_icmp .ne 8, 3), (45, .bipush 49, 2), (47, .goto 5, 3), (50, .bipush 48, 2), (52, .ireturn, 1), (53, .bipush 48, 2), (55, .ireturn, 1)]
def gm_mX1_constantOf : pM := (RX1, yX1_constantOf, cX1_constantOf, 2, (some .char), gm_cX1_constantOf, [], gm_KX1)
def gm_cX2_init : List (Nat × Instr × Nat) := [(0, .aload_n 0, 1), (1, .invokespecial 5, 3), (4, .aload_n 0, 1), (5, .bipush 16, 2), (7, .newarray .int, 2), (9, .putfield 11, 3), (12, .aload_n 0, 1), (13, .sipush 2176, 3), (16, .newarray .int, 2), (18, .putfield 15, 3), (21, .aload_n 0, 1), (22, .iconst 0, 1), (23, .putfield 18, 3), (26, .return_, 1)]
def gm_mX2_init : pM := (RX2, yX2_init, cX2_init, 1, none, gm_cX2_init, [], gm_KX2)
def gm_cX2_prepare : List (Nat × Instr × Nat) := [(0, .iconst 0, 1), (1, .istore_n 2, 1), (2, .iload_n 2, 1), (3, .bipush 16, 2), (5, .if_icmp .ge 16, 3), (8, .aload_n 0, 1), (9, .getfield 11, 3), (12, .iload_n 2, 1), (13, .iconst 0, 1), (14, .iastore, 1), (15, .iinc 2 1, 3), (18, .goto (-16), 3), (21, .aload_n 0, 1), (22, .iconst 0, 1), (23, .putfield 18, 3), (26, .aload_n 1, 1), (27, .invokevirtual 22, 3), (30, .istore_n 2, 1), (31, .aload_n 1, 1), (32, .invokevirtual 28, 3), (35, .ifCond .eq 15, 3), (38, .iload_n 2, 1), (39, .aload_n 1, 1), (40, .invokevirtual 32, 3), (43, .iconst (-1), 1), (44, .ixor, 1), (45, .iand, 1), (46, .istore_n 2, 1), (47, .goto 15, 3), (50, .aload_n 0, 1), (51, .bipush 6, 2), (53, .aload_n 1, 1), (54, .invokevirtual 32, 3), (57, .iload_n 2, 1), (58, .iand, 1), (59, .invokevirtual 35, 3), (62, .iconst 0, 1), (63, .istore_n 3, 1), (64, .iload_n 3, 1), (65, .aload_n 1, 1), (66, .invokevirtual 39, 3), (69, .if_icmp .ge 29, 3), (72, .aload_n 1, 1), (73, .iload_n 3, 1), (74, .invokevirtual 42, 3), (77, .ifCond .eq 15, 3), (80, .aload_n 0, 1), (81, .iload_n 3, 1), (82, .aload_n 1, 1), (83, .iload_n 3, 1), (84, .invokevirtual 46, 3), (87, .iload_n 2, 1), (88, .iand, 1), (89, .invokevirtual 35, 3), (92, .iinc 3 1, 3), (95, .goto (-31), 3), (98, .return_, 1)]
def gm_mX2_prepare : pM := (RX2, yX2_prepare, cX2_prepare, 4, none, gm_cX2_prepare, [], gm_KX2)
def gm_cX2_want : List (Nat × Instr × Nat) := [(0, .aload_n 0, 1), (1, .dup, 1), (2, .getfield 18, 3), (5, .iconst 1, 1), (6, .iload_n 1, 1), (7, .ishl, 1), (8, .ior, 1), (9, .putfield 18, 3), (12, .iconst 0, 1), (13, .istore_n 3, 1), (14, .iload_n 3, 1), (15, .bipush 16, 2), (17, .if_icmp .ge 29, 3), (20, .iload_n 3, 1), (21, .iload_n 2, 1), (22, .invokestatic 50, 3), (25, .ifCond .eq 15, 3), (28, .aload_n 0, 1), (29, .getfield 11, 3), (32, .iload_n 3, 1), (33, .dup2, 1), (34, .iaload, 1), (35, .iconst 1, 1), (36, .iload_n 1, 1), (37, .ishl, 1), (38, .ior, 1), (39, .iastore, 1), (40, .iinc 3 1, 3), (43, .goto (-29), 3), (46, .return_, 1)]
def gm_mX2_want : pM := (RX2, yX2_want, cX2_want, 4, none, gm_cX2_want, [], gm_KX2)
def gm_cX2_fewestBySets : List (Nat × Instr × Nat) := [(0, .iconst 0, 1), (1, .istore_n 1, 1), (2, .iload_n 1, 1), (3, .sipush 128, 3), (6, .if_icmp .ge 29, 3), (9, .aload_n 0, 1), (10, .getfield 15, 3), (13, .sipush 2048, 3), (16, .iload_n 1, 1), (17, .iadd, 1), (18, .iload_n 1, 1), (19, .ifCond .ne 7, 3), (22, .iconst 0, 1), (23, .goto 5, 3), (26, .bipush 100, 2), (28, .iastore, 1), (29, .iinc 1 1, 3), (32, .goto (-30), 3), (35, .bipush 15, 2), (37, .istore_n 1, 1), (38, .iload_n 1, 1), (39, .ifCond .lt 76, 3), (42, .aload_n 0, 1), (43, .getfield 11, 3), (46, .iload_n 1, 1), (47, .iaload, 1), (48, .istore_n 2, 1), (49, .iconst 0, 1), (50, .istore_n 3, 1), (51, .iload_n 3, 1), (52, .sipush 128, 3), (55, .if_icmp .ge 54, 3), (58, .aload_n 0, 1), (59, .iload_n 1, 1), (60, .iconst 1, 1), (61, .iadd, 1), (62, .iload_n 3, 1), (63, .invokevirtual 54, 3), (66, .istore 4, 2), (68, .iconst 1, 1), (69, .aload_n 0, 1), (70, .iload_n 1, 1), (71, .iconst 1, 1), (72, .iadd, 1), (73, .iload_n 3, 1), (74, .iload_n 2, 1), (75, .iconst (-1), 1), (76, .ixor, 1), (77, .iand, 1), (78, .invokevirtual 54, 3), (81, .iadd, 1), (82, .istore 5, 2), (84, .aload_n 0, 1), (85, .getfield 15, 3), (88, .iload_n 1, 1), (89, .sipush 128, 3), (92, .imul, 1), (93, .iload_n 3, 1), (94, .iadd, 1), (95, .iload 4, 2), (97, .iload 5, 2), (99, .invokestatic 58, 3), (102, .iastore, 1), (103, .iinc 3 1, 3), (106, .goto (-55), 3), (109, .iinc 1 (-1), 3), (112, .goto (-74), 3), (115, .aload_n 0, 1), (116, .iconst 0, 1), (117, .aload_n 0, 1), (118, .getfield 18, 3), (121, .invokevirtual 54, 3), (124, .istore_n 1, 1), (125, .iload_n 1, 1), (126, .bipush 100, 2), (128, .if_icmp .ge 7, 3), (131, .iload_n 1, 1), (132, .goto 4, 3), (135, .iconst (-1), 1), (136, .ireturn, 1)]
def gm_mX2_fewestBySets : pM := (RX2, yX2_fewestBySets, cX2_fewestBySets, 6, (some .int), gm_cX2_fewestBySets, [], gm_KX2)
def gm_cX2_fewestFrom : List (Nat × Instr × Nat) := [(0, .iload_n 1, 1), (1, .ifCond .lt 20, 3), (4, .iload_n 1, 1), (5, .bipush 16, 2), (7, .if_icmp .gt 14, 3), (10, .iload_n 2, 1), (11, .ifCond .lt 10, 3), (14, .iload_n 2, 1), (15, .sipush 128, 3), (18, .if_icmp .lt 6, 3), (21, .bipush 100, 2), (23, .ireturn, 1), (24, .aload_n 0, 1), (25, .getfield 15, 3), (28, .iload_n 1, 1), (29, .sipush 128, 3), (32, .imul, 1), (33, .iload_n 2, 1), (34, .iadd, 1), (35, .iaload, 1), (36, .ireturn, 1)]
def gm_mX2_fewestFrom : pM := (RX2, yX2_fewestFrom, cX2_fewestFrom, 3, (some .int), gm_cX2_fewestFrom, [], gm_KX2)
def gm_cX2_regionOf : List (Nat × Instr × Nat) := [(0, .aload_n 0, 1), (1, .getfield 18, 3), (4, .istore_n 2, 1), (5, .iconst 0, 1), (6, .istore_n 3, 1), (7, .iconst 0, 1), (8, .istore 4, 2), (10, .iload 4, 2), (12, .bipush 16, 2), (14, .if_icmp .ge 64, 3), (17, .iload_n 2, 1), (18, .aload_n 0, 1), (19, .getfield 11, 3), (22, .iload 4, 2), (24, .iaload, 1), (25, .iconst (-1), 1), (26, .ixor, 1), (27, .iand, 1), (28, .istore 5, 2), (30, .iload 5, 2), (32, .iload_n 2, 1), (33, .if_icmp .eq 39, 3), (36, .aload_n 0, 1), (37, .iload 4, 2), (39, .iconst 1, 1), (40, .iadd, 1), (41, .iload 5, 2), (43, .invokevirtual 54, 3), (46, .iconst 1, 1), (47, .iadd, 1), (48, .aload_n 0, 1), (49, .iload 4, 2), (51, .iload_n 2, 1), (52, .invokevirtual 54, 3), (55, .if_icmp .ne 17, 3), (58, .iload_n 3, 1), (59, .iload_n 1, 1), (60, .if_icmp .ne 6, 3), (63, .iload 4, 2), (65, .ireturn, 1), (66, .iinc 3 1, 3), (69, .iload 5, 2), (71, .istore_n 2, 1), (72, .iinc 4 1, 3), (75, .goto (-65), 3), (78, .iconst (-1), 1), (79, .ireturn, 1)]
def gm_mX2_regionOf : pM := (RX2, yX2_regionOf, cX2_regionOf, 6, (some .int), gm_cX2_regionOf, [], gm_KX2)
def gm_cX2_fewestByTrying : List (Nat × Instr × Nat) := [(0, .iconst 0, 1), (1, .istore_n 1, 1), (2, .iload_n 1, 1), (3, .bipush 7, 2), (5, .if_icmp .gt 23, 3), (8, .aload_n 0, 1), (9, .aload_n 0, 1), (10, .getfield 18, 3), (13, .iload_n 1, 1), (14, .invokevirtual 63, 3), (17, .ifCond .eq 5, 3), (20, .iload_n 1, 1), (21, .ireturn, 1), (22, .iinc 1 1, 3), (25, .goto (-23), 3), (28, .iconst (-1), 1), (29, .ireturn, 1)]
def gm_mX2_fewestByTrying : pM := (RX2, yX2_fewestByTrying, cX2_fewestByTrying, 2, (some .int), gm_cX2_fewestByTrying, [], gm_KX2)
def gm_cX2_canMeet : List (Nat × Instr × Nat) := [(0, .iload_n 1, 1), (1, .ifCond .ne 5, 3), (4, .iconst 1, 1), (5, .ireturn, 1), (6, .iload_n 2, 1), (7, .ifCond .gt 5, 3), (10, .iconst 0, 1), (11, .ireturn, 1), (12, .iload_n 1, 1), (13, .iload_n 1, 1), (14, .ineg, 1), (15, .iand, 1), (16, .istore_n 3, 1), (17, .iconst 0, 1), (18, .istore 4, 2), (20, .iload 4, 2), (22, .bipush 16, 2), (24, .if_icmp .ge 44, 3), (27, .aload_n 0, 1), (28, .getfield 11, 3), (31, .iload 4, 2), (33, .iaload, 1), (34, .iload_n 3, 1), (35, .iand, 1), (36, .ifCond .eq 26, 3), (39, .aload_n 0, 1), (40, .iload_n 1, 1), (41, .aload_n 0, 1), (42, .getfield 11, 3), (45, .iload 4, 2), (47, .iaload, 1), (48, .iconst (-1), 1), (49, .ixor, 1), (50, .iand, 1), (51, .iload_n 2, 1), (52, .iconst 1, 1), (53, .isub, 1), (54, .invokevirtual 63, 3), (57, .ifCond .eq 5, 3), (60, .iconst 1, 1), (61, .ireturn, 1), (62, .iinc 4 1, 3), (65, .goto (-45), 3), (68, .iconst 0, 1), (69, .ireturn, 1)]
def gm_mX2_canMeet : pM := (RX2, yX2_canMeet, cX2_canMeet, 5, (some .boolean), gm_cX2_canMeet, [], gm_KX2)
def gm_cX3_init : List (Nat × Instr × Nat) := [(0, .aload_n 0, 1), (1, .invokespecial 3, 3), (4, .aload_n 0, 1), (5, .bipush 6, 2), (7, .newarray .boolean, 2), (9, .putfield 9, 3), (12, .aload_n 0, 1), (13, .bipush 6, 2), (15, .newarray .int, 2), (17, .putfield 15, 3), (20, .aload_n 0, 1), (21, .iconst 0, 1), (22, .putfield 19, 3), (25, .aload_n 0, 1), (26, .iconst 0, 1), (27, .putfield 23, 3), (30, .aload_n 0, 1), (31, .iconst 0, 1), (32, .putfield 27, 3), (35, .aload_n 0, 1), (36, .iconst 0, 1), (37, .putfield 30, 3), (40, .return_, 1)]
def gm_mX3_init : pM := (RX3, yX3_init, cX3_init, 1, none, gm_cX3_init, [], gm_KX3)
def gm_cX3_howMany : List (Nat × Instr × Nat) := [(0, .aload_n 0, 1), (1, .getfield 19, 3), (4, .ireturn, 1)]
def gm_mX3_howMany : pM := (RX3, yX3_howMany, cX3_howMany, 1, (some .int), gm_cX3_howMany, [], gm_KX3)
def gm_cX3_add : List (Nat × Instr × Nat) := [(0, .aload_n 0, 1), (1, .getfield 19, 3), (4, .ifCond .lt 42, 3), (7, .aload_n 0, 1), (8, .getfield 19, 3), (11, .bipush 6, 2), (13, .if_icmp .ge 33, 3), (16, .aload_n 0, 1), (17, .getfield 9, 3), (20, .aload_n 0, 1), (21, .getfield 19, 3), (24, .iload_n 1, 1), (25, .bastore, 1), (26, .aload_n 0, 1), (27, .getfield 15, 3), (30, .aload_n 0, 1), (31, .getfield 19, 3), (34, .iload_n 2, 1), (35, .iastore, 1), (36, .aload_n 0, 1), (37, .dup, 1), (38, .getfield 19, 3), (41, .iconst 1, 1), (42, .iadd, 1), (43, .putfield 19, 3), (46, .return_, 1)]
def gm_mX3_add : pM := (RX3, yX3_add, cX3_add, 3, none, gm_cX3_add, [], gm_KX3)
def gm_cX3_removeLast : List (Nat × Instr × Nat) := [(0, .aload_n 0, 1), (1, .getfield 19, 3), (4, .ifCond .le 13, 3), (7, .aload_n 0, 1), (8, .dup, 1), (9, .getfield 19, 3), (12, .iconst 1, 1), (13, .isub, 1), (14, .putfield 19, 3), (17, .return_, 1)]
def gm_mX3_removeLast : pM := (RX3, yX3_removeLast, cX3_removeLast, 1, none, gm_cX3_removeLast, [], gm_KX3)
def gm_cX3_demandsElement : List (Nat × Instr × Nat) := [(0, .iload_n 1, 1), (1, .ifCond .lt 30, 3), (4, .iload_n 1, 1), (5, .aload_n 0, 1), (6, .getfield 19, 3), (9, .if_icmp .ge 22, 3), (12, .iload_n 1, 1), (13, .bipush 6, 2), (15, .if_icmp .ge 16, 3), (18, .aload_n 0, 1), (19, .getfield 9, 3), (22, .iload_n 1, 1), (23, .baload, 1), (24, .ifCond .eq 7, 3), (27, .iconst 1, 1), (28, .goto 4, 3), (31, .iconst 0, 1), (32, .ireturn, 1)]
def gm_mX3_demandsElement : pM := (RX3, yX3_demandsElement, cX3_demandsElement, 2, (some .boolean), gm_cX3_demandsElement, [], gm_KX3)
def gm_cX3_placesAt : List (Nat × Instr × Nat) := [(0, .iload_n 1, 1), (1, .ifCond .lt 26, 3), (4, .iload_n 1, 1), (5, .aload_n 0, 1), (6, .getfield 19, 3), (9, .if_icmp .ge 18, 3), (12, .iload_n 1, 1), (13, .bipush 6, 2), (15, .if_icmp .ge 12, 3), (18, .aload_n 0, 1), (19, .getfield 15, 3), (22, .iload_n 1, 1), (23, .iaload, 1), (24, .goto 4, 3), (27, .iconst 0, 1), (28, .ireturn, 1)]
def gm_mX3_placesAt : pM := (RX3, yX3_placesAt, cX3_placesAt, 2, (some .int), gm_cX3_placesAt, [], gm_KX3)
def gm_cX3_hasGoal : List (Nat × Instr × Nat) := [(0, .aload_n 0, 1), (1, .getfield 23, 3), (4, .ireturn, 1)]
def gm_mX3_hasGoal : pM := (RX3, yX3_hasGoal, cX3_hasGoal, 1, (some .boolean), gm_cX3_hasGoal, [], gm_KX3)
def gm_cX3_goalDemands : List (Nat × Instr × Nat) := [(0, .aload_n 0, 1), (1, .getfield 27, 3), (4, .ireturn, 1)]
def gm_mX3_goalDemands : pM := (RX3, yX3_goalDemands, cX3_goalDemands, 1, (some .boolean), gm_cX3_goalDemands, [], gm_KX3)
def gm_cX3_goalRegions : List (Nat × Instr × Nat) := [(0, .aload_n 0, 1), (1, .getfield 30, 3), (4, .ireturn, 1)]
def gm_mX3_goalRegions : pM := (RX3, yX3_goalRegions, cX3_goalRegions, 1, (some .int), gm_cX3_goalRegions, [], gm_KX3)
def gm_cX3_aimAt : List (Nat × Instr × Nat) := [(0, .aload_n 0, 1), (1, .iconst 1, 1), (2, .putfield 23, 3), (5, .aload_n 0, 1), (6, .iload_n 1, 1), (7, .putfield 27, 3), (10, .aload_n 0, 1), (11, .iload_n 2, 1), (12, .putfield 30, 3), (15, .return_, 1)]
def gm_mX3_aimAt : pM := (RX3, yX3_aimAt, cX3_aimAt, 3, none, gm_cX3_aimAt, [], gm_KX3)
def gm_cX3_allowed : List (Nat × Instr × Nat) := [(0, .ldc 33, 2), (2, .istore_n 1, 1), (3, .iconst 0, 1), (4, .istore_n 2, 1), (5, .iload_n 2, 1), (6, .aload_n 0, 1), (7, .getfield 19, 3), (10, .if_icmp .ge 27, 3), (13, .aload_n 0, 1), (14, .iload_n 2, 1), (15, .invokevirtual 34, 3), (18, .ifCond .ne 13, 3), (21, .iload_n 1, 1), (22, .aload_n 0, 1), (23, .iload_n 2, 1), (24, .invokevirtual 38, 3), (27, .iconst (-1), 1), (28, .ixor, 1), (29, .iand, 1), (30, .istore_n 1, 1), (31, .iinc 2 1, 3), (34, .goto (-29), 3), (37, .iload_n 1, 1), (38, .ireturn, 1)]
def gm_mX3_allowed : pM := (RX3, yX3_allowed, cX3_allowed, 3, (some .int), gm_cX3_allowed, [], gm_KX3)
def gm_cX3_firstDenial : List (Nat × Instr × Nat) := [(0, .iconst 0, 1), (1, .istore_n 2, 1), (2, .iload_n 2, 1), (3, .aload_n 0, 1), (4, .getfield 19, 3), (7, .if_icmp .ge 31, 3), (10, .aload_n 0, 1), (11, .iload_n 2, 1), (12, .invokevirtual 34, 3), (15, .ifCond .ne 17, 3), (18, .iload_n 1, 1), (19, .aload_n 0, 1), (20, .iload_n 2, 1), (21, .invokevirtual 38, 3), (24, .invokestatic 42, 3), (27, .ifCond .eq 5, 3), (30, .iload_n 2, 1), (31, .ireturn, 1), (32, .iinc 2 1, 3), (35, .goto (-33), 3), (38, .iconst (-1), 1), (39, .ireturn, 1)]
def gm_mX3_firstDenial : pM := (RX3, yX3_firstDenial, cX3_firstDenial, 3, (some .int), gm_cX3_firstDenial, [], gm_KX3)
def gm_cX3_firstUnmet : List (Nat × Instr × Nat) := [(0, .iconst 0, 1), (1, .istore_n 2, 1), (2, .iload_n 2, 1), (3, .aload_n 0, 1), (4, .getfield 19, 3), (7, .if_icmp .ge 29, 3), (10, .aload_n 0, 1), (11, .iload_n 2, 1), (12, .invokevirtual 34, 3), (15, .ifCond .eq 15, 3), (18, .aload_n 0, 1), (19, .iload_n 2, 1), (20, .invokevirtual 38, 3), (23, .iload_n 1, 1), (24, .iand, 1), (25, .ifCond .ne 5, 3), (28, .iload_n 2, 1), (29, .ireturn, 1), (30, .iinc 2 1, 3), (33, .goto (-31), 3), (36, .iconst (-1), 1), (37, .ireturn, 1)]
def gm_mX3_firstUnmet : pM := (RX3, yX3_firstUnmet, cX3_firstUnmet, 3, (some .int), gm_cX3_firstUnmet, [], gm_KX3)
def gm_cX3_haveModel : List (Nat × Instr × Nat) := [(0, .aload_n 0, 1), (1, .aload_n 0, 1), (2, .invokevirtual 46, 3), (5, .invokevirtual 50, 3), (8, .iconst (-1), 1), (9, .if_icmp .ne 7, 3), (12, .iconst 1, 1), (13, .goto 4, 3), (16, .iconst 0, 1), (17, .ireturn, 1)]
def gm_mX3_haveModel : pM := (RX3, yX3_haveModel, cX3_haveModel, 1, (some .boolean), gm_cX3_haveModel, [], gm_KX3)
def gm_cX3_firstWitness : List (Nat × Instr × Nat) := [(0, .aload_n 0, 1), (1, .aload_n 0, 1), (2, .invokevirtual 46, 3), (5, .aload_n 0, 1), (6, .getfield 30, 3), (9, .iconst (-1), 1), (10, .ixor, 1), (11, .iand, 1), (12, .invokevirtual 50, 3), (15, .ireturn, 1)]
def gm_mX3_firstWitness : pM := (RX3, yX3_firstWitness, cX3_firstWitness, 1, (some .int), gm_cX3_firstWitness, [], gm_KX3)
def gm_cX3_proveGoal : List (Nat × Instr × Nat) := [(0, .aload_n 0, 1), (1, .getfield 27, 3), (4, .ifCond .eq 17, 3), (7, .aload_n 0, 1), (8, .invokevirtual 53, 3), (11, .iconst (-1), 1), (12, .if_icmp .eq 7, 3), (15, .iconst 1, 1), (16, .goto 4, 3), (19, .iconst 0, 1), (20, .ireturn, 1), (21, .aload_n 0, 1), (22, .invokevirtual 56, 3), (25, .ifCond .eq 15, 3), (28, .aload_n 0, 1), (29, .invokevirtual 46, 3), (32, .aload_n 0, 1), (33, .getfield 30, 3), (36, .iand, 1), (37, .ifCond .ne 7, 3), (40, .iconst 1, 1), (41, .goto 4, 3), (44, .iconst 0, 1), (45, .ireturn, 1)]
def gm_mX3_proveGoal : pM := (RX3, yX3_proveGoal, cX3_proveGoal, 1, (some .boolean), gm_cX3_proveGoal, [], gm_KX3)
def gm_cX3_allHold : List (Nat × Instr × Nat) := [(0, .iconst 0, 1), (1, .istore_n 2, 1), (2, .iload_n 2, 1), (3, .aload_n 0, 1), (4, .getfield 19, 3), (7, .if_icmp .ge 34, 3), (10, .aload_n 0, 1), (11, .iload_n 2, 1), (12, .invokevirtual 34, 3), (15, .aload_n 0, 1), (16, .iload_n 2, 1), (17, .invokevirtual 38, 3), (20, .iload_n 1, 1), (21, .iand, 1), (22, .ifCond .eq 7, 3), (25, .iconst 1, 1), (26, .goto 4, 3), (29, .iconst 0, 1), (30, .if_icmp .eq 5, 3), (33, .iconst 0, 1), (34, .ireturn, 1), (35, .iinc 2 1, 3), (38, .goto (-36), 3), (41, .iconst 1, 1), (42, .ireturn, 1)]
def gm_mX3_allHold : pM := (RX3, yX3_allHold, cX3_allHold, 3, (some .boolean), gm_cX3_allHold, [], gm_KX3)
def gm_cX3_countModels : List (Nat × Instr × Nat) := [(0, .aload_n 0, 1), (1, .invokevirtual 46, 3), (4, .istore_n 2, 1), (5, .lconst 0, 1), (6, .lstore_n 3, 1), (7, .iconst 0, 1), (8, .istore 5, 2), (10, .iload 5, 2), (12, .iconst 1, 1), (13, .aload_n 0, 1), (14, .getfield 19, 3), (17, .ishl, 1), (18, .if_icmp .ge 58, 3), (21, .aload_n 0, 1), (22, .iload 5, 2), (24, .invokevirtual 60, 3), (27, .ifCond .eq 43, 3), (30, .iload_n 2, 1), (31, .aload_n 0, 1), (32, .iload 5, 2), (34, .invokevirtual 63, 3), (37, .iconst (-1), 1), (38, .ixor, 1), (39, .iand, 1), (40, .invokestatic 66, 3), (43, .iload_n 1, 1), (44, .invokestatic 71, 3), (47, .lstore 6, 2), (49, .lload_n 3, 1), (50, .iload 5, 2), (52, .invokestatic 66, 3), (55, .iconst 2, 1), (56, .irem, 1), (57, .ifCond .ne 8, 3), (60, .lload 6, 2), (62, .goto 6, 3), (65, .lload 6, 2), (67, .lneg, 1), (68, .ladd, 1), (69, .lstore_n 3, 1), (70, .iinc 5 1, 3), (73, .goto (-63), 3), (76, .lload_n 3, 1), (77, .lreturn, 1)]
def gm_mX3_countModels : pM := (RX3, yX3_countModels, cX3_countModels, 8, (some .long), gm_cX3_countModels, [], gm_KX3)
def gm_cX3_isSetOfDemands : List (Nat × Instr × Nat) := [(0, .iconst 0, 1), (1, .istore_n 2, 1), (2, .iload_n 2, 1), (3, .aload_n 0, 1), (4, .getfield 19, 3), (7, .if_icmp .ge 27, 3), (10, .iload_n 2, 1), (11, .iload_n 1, 1), (12, .invokestatic 42, 3), (15, .ifCond .eq 13, 3), (18, .aload_n 0, 1), (19, .iload_n 2, 1), (20, .invokevirtual 34, 3), (23, .ifCond .ne 5, 3), (26, .iconst 0, 1), (27, .ireturn, 1), (28, .iinc 2 1, 3), (31, .goto (-29), 3), (34, .iconst 1, 1), (35, .ireturn, 1)]
def gm_mX3_isSetOfDemands : pM := (RX3, yX3_isSetOfDemands, cX3_isSetOfDemands, 3, (some .boolean), gm_cX3_isSetOfDemands, [], gm_KX3)
def gm_cX3_placesOfSet : List (Nat × Instr × Nat) := [(0, .iconst 0, 1), (1, .istore_n 2, 1), (2, .iconst 0, 1), (3, .istore_n 3, 1), (4, .iload_n 3, 1), (5, .aload_n 0, 1), (6, .getfield 19, 3), (9, .if_icmp .ge 25, 3), (12, .iload_n 3, 1), (13, .iload_n 1, 1), (14, .invokestatic 42, 3), (17, .ifCond .eq 11, 3), (20, .iload_n 2, 1), (21, .aload_n 0, 1), (22, .iload_n 3, 1), (23, .invokevirtual 38, 3), (26, .ior, 1), (27, .istore_n 2, 1), (28, .iinc 3 1, 3), (31, .goto (-27), 3), (34, .iload_n 2, 1), (35, .ireturn, 1)]
def gm_mX3_placesOfSet : pM := (RX3, yX3_placesOfSet, cX3_placesOfSet, 4, (some .int), gm_cX3_placesOfSet, [], gm_KX3)
def gm_cX3_power : List (Nat × Instr × Nat) := [(0, .lconst 1, 1), (1, .lstore_n 2, 1), (2, .iconst 0, 1), (3, .istore 4, 2), (5, .iload 4, 2), (7, .iload_n 1, 1), (8, .if_icmp .ge 14, 3), (11, .lload_n 2, 1), (12, .iload_n 0, 1), (13, .i2l, 1), (14, .lmul, 1), (15, .lstore_n 2, 1), (16, .iinc 4 1, 3), (19, .goto (-14), 3), (22, .lload_n 2, 1), (23, .lreturn, 1)]
def gm_mX3_power : pM := (RX3, yX3_power, cX3_power, 5, (some .long), gm_cX3_power, [], gm_KX3)
def gm_cX3_countModelsByTrying : List (Nat × Instr × Nat) := [(0, .lconst 0, 1), (1, .lstore_n 2, 1), (2, .bipush 16, 2), (4, .iload_n 1, 1), (5, .invokestatic 71, 3), (8, .lstore 4, 2), (10, .iconst 0, 1), (11, .istore 6, 2), (13, .iload 6, 2), (15, .i2l, 1), (16, .lload 4, 2), (18, .lcmp, 1), (19, .ifCond .ge 26, 3), (22, .aload_n 0, 1), (23, .iload 6, 2), (25, .iload_n 1, 1), (26, .invokestatic 75, 3), (29, .invokevirtual 79, 3), (32, .ifCond .eq 7, 3), (35, .lload_n 2, 1), (36, .lconst 1, 1), (37, .ladd, 1), (38, .lstore_n 2, 1), (39, .iinc 6 1, 3), (42, .goto (-29), 3), (45, .lload_n 2, 1), (46, .lreturn, 1)]
def gm_mX3_countModelsByTrying : pM := (RX3, yX3_countModelsByTrying, cX3_countModelsByTrying, 7, (some .long), gm_cX3_countModelsByTrying, [], gm_KX3)
def gm_cX3_occupiedBy : List (Nat × Instr × Nat) := [(0, .iconst 0, 1), (1, .istore_n 2, 1), (2, .iconst 0, 1), (3, .istore_n 3, 1), (4, .iload_n 3, 1), (5, .iload_n 1, 1), (6, .if_icmp .ge 22, 3), (9, .iload_n 2, 1), (10, .iconst 1, 1), (11, .iload_n 0, 1), (12, .iconst 4, 1), (13, .iload_n 3, 1), (14, .imul, 1), (15, .ishr, 1), (16, .bipush 15, 2), (18, .iand, 1), (19, .ishl, 1), (20, .ior, 1), (21, .istore_n 2, 1), (22, .iinc 3 1, 3), (25, .goto (-21), 3), (28, .iload_n 2, 1), (29, .ireturn, 1)]
def gm_mX3_occupiedBy : pM := (RX3, yX3_occupiedBy, cX3_occupiedBy, 4, (some .int), gm_cX3_occupiedBy, [], gm_KX3)
def gm_cX4_init : List (Nat × Instr × Nat) := [(0, .aload_n 0, 1), (1, .invokespecial 3, 3), (4, .aload_n 0, 1), (5, .bipush 120, 2), (7, .newarray .char, 2), (9, .putfield 9, 3), (12, .aload_n 0, 1), (13, .bipush 120, 2), (15, .newarray .int, 2), (17, .putfield 15, 3), (20, .aload_n 0, 1), (21, .bipush 120, 2), (23, .newarray .int, 2), (25, .putfield 19, 3), (28, .aload_n 0, 1), (29, .bipush 120, 2), (31, .newarray .int, 2), (33, .putfield 22, 3), (36, .aload_n 0, 1), (37, .bipush 120, 2), (39, .newarray .int, 2), (41, .putfield 25, 3), (44, .aload_n 0, 1), (45, .iconst 0, 1), (46, .putfield 28, 3), (49, .return_, 1)]
def gm_mX4_init : pM := (RX4, yX4_init, cX4_init, 1, none, gm_cX4_init, [], gm_KX4)
def gm_cX4_howMany : List (Nat × Instr × Nat) := [(0, .aload_n 0, 1), (1, .getfield 28, 3), (4, .ireturn, 1)]
def gm_mX4_howMany : pM := (RX4, yX4_howMany, cX4_howMany, 1, (some .int), gm_cX4_howMany, [], gm_KX4)
def gm_cX4_isKnown : List (Nat × Instr × Nat) := [(0, .iload_n 1, 1), (1, .ifCond .lt 21, 3), (4, .iload_n 1, 1), (5, .aload_n 0, 1), (6, .getfield 28, 3), (9, .if_icmp .ge 13, 3), (12, .iload_n 1, 1), (13, .bipush 120, 2), (15, .if_icmp .ge 7, 3), (18, .iconst 1, 1), (19, .goto 4, 3), (22, .iconst 0, 1), (23, .ireturn, 1)]
def gm_mX4_isKnown : pM := (RX4, yX4_isKnown, cX4_isKnown, 2, (some .boolean), gm_cX4_isKnown, [], gm_KX4)
def gm_cX4_sizeOf : List (Nat × Instr × Nat) := [(0, .aload_n 0, 1), (1, .iload_n 1, 1), (2, .invokevirtual 32, 3), (5, .ifCond .eq 12, 3), (8, .aload_n 0, 1), (9, .getfield 22, 3), (12, .iload_n 1, 1), (13, .iaload, 1), (14, .goto 4, 3), (17, .iconst 0, 1), (18, .ireturn, 1)]
def gm_mX4_sizeOf : pM := (RX4, yX4_sizeOf, cX4_sizeOf, 2, (some .int), gm_cX4_sizeOf, [], gm_KX4)
def gm_cX4_coverOf : List (Nat × Instr × Nat) := [(0, .aload_n 0, 1), (1, .iload_n 1, 1), (2, .invokevirtual 32, 3), (5, .ifCond .eq 12, 3), (8, .aload_n 0, 1), (9, .getfield 25, 3), (12, .iload_n 1, 1), (13, .iaload, 1), (14, .goto 4, 3), (17, .iconst 0, 1), (18, .ireturn, 1)]
def gm_mX4_coverOf : pM := (RX4, yX4_coverOf, cX4_coverOf, 2, (some .int), gm_cX4_coverOf, [], gm_KX4)
def gm_cX4_headOf : List (Nat × Instr × Nat) := [(0, .aload_n 0, 1), (1, .iload_n 1, 1), (2, .invokevirtual 32, 3), (5, .ifCond .eq 12, 3), (8, .aload_n 0, 1), (9, .getfield 9, 3), (12, .iload_n 1, 1), (13, .caload, 1), (14, .goto 5, 3), (17, .bipush 32, 2), (19, .ireturn, 1)]
def gm_mX4_headOf : pM := (RX4, yX4_headOf, cX4_headOf, 2, (some .char), gm_cX4_headOf, [], gm_KX4)
def gm_cX4_leftOf : List (Nat × Instr × Nat) := [(0, .aload_n 0, 1), (1, .iload_n 1, 1), (2, .invokevirtual 32, 3), (5, .ifCond .eq 12, 3), (8, .aload_n 0, 1), (9, .getfield 15, 3), (12, .iload_n 1, 1), (13, .iaload, 1), (14, .goto 4, 3), (17, .iconst (-1), 1), (18, .ireturn, 1)]
def gm_mX4_leftOf : pM := (RX4, yX4_leftOf, cX4_leftOf, 2, (some .int), gm_cX4_leftOf, [], gm_KX4)
def gm_cX4_rightOf : List (Nat × Instr × Nat) := [(0, .aload_n 0, 1), (1, .iload_n 1, 1), (2, .invokevirtual 32, 3), (5, .ifCond .eq 12, 3), (8, .aload_n 0, 1), (9, .getfield 19, 3), (12, .iload_n 1, 1), (13, .iaload, 1), (14, .goto 4, 3), (17, .iconst (-1), 1), (18, .ireturn, 1)]
def gm_mX4_rightOf : pM := (RX4, yX4_rightOf, cX4_rightOf, 2, (some .int), gm_cX4_rightOf, [], gm_KX4)
def gm_cX4_symbolOf : List (Nat × Instr × Nat) := [(0, .iload_n 1, 1), (1, .istore_n 3, 1), (2, .iload_n 2, 1), (3, .istore 4, 2), (5, .iconst 0, 1), (6, .istore 5, 2), (8, .iload 5, 2), (10, .bipush 40, 2), (12, .if_icmp .ge 80, 3), (15, .iload 4, 2), (17, .ifCond .le 75, 3), (20, .aload_n 0, 1), (21, .iload_n 3, 1), (22, .invokevirtual 36, 3), (25, .istore 6, 2), (27, .aload_n 0, 1), (28, .iload 6, 2), (30, .invokevirtual 40, 3), (33, .istore 7, 2), (35, .iload 4, 2), (37, .iload 7, 2), (39, .if_icmp .gt 7, 3), (42, .iconst 1, 1), (43, .goto 4, 3), (46, .iconst 0, 1), (47, .istore 8, 2), (49, .iload 8, 2), (51, .ifCond .eq 8, 3), (54, .iload 6, 2), (56, .goto 8, 3), (59, .aload_n 0, 1), (60, .iload_n 3, 1), (61, .invokevirtual 43, 3), (64, .istore_n 3, 1), (65, .iload 8, 2), (67, .ifCond .eq 10, 3), (70, .iload 4, 2), (72, .iconst 1, 1), (73, .isub, 1), (74, .goto 10, 3), (77, .iload 4, 2), (79, .iconst 1, 1), (80, .isub, 1), (81, .iload 7, 2), (83, .isub, 1), (84, .istore 4, 2), (86, .iinc 5 1, 3), (89, .goto (-81), 3), (92, .aload_n 0, 1), (93, .iload_n 3, 1), (94, .invokevirtual 46, 3), (97, .ireturn, 1)]
def gm_mX4_symbolOf : pM := (RX4, yX4_symbolOf, cX4_symbolOf, 9, (some .char), gm_cX4_symbolOf, [], gm_KX4)
def gm_cX4_make : List (Nat × Instr × Nat) := [(0, .aload_n 0, 1), (1, .iload_n 1, 1), (2, .iload_n 2, 1), (3, .iload_n 3, 1), (4, .invokevirtual 50, 3), (7, .istore 4, 2), (9, .iload 4, 2), (11, .iconst (-1), 1), (12, .if_icmp .eq 6, 3), (15, .iload 4, 2), (17, .ireturn, 1), (18, .iconst 1, 1), (19, .aload_n 0, 1), (20, .iload_n 2, 1), (21, .invokevirtual 40, 3), (24, .iadd, 1), (25, .aload_n 0, 1), (26, .iload_n 3, 1), (27, .invokevirtual 40, 3), (30, .iadd, 1), (31, .istore 5, 2), (33, .aload_n 0, 1), (34, .getfield 28, 3), (37, .istore 6, 2), (39, .iload 5, 2), (41, .bipush 40, 2), (43, .if_icmp .gt 15, 3), (46, .iload 6, 2), (48, .ifCond .lt 10, 3), (51, .iload 6, 2), (53, .bipush 120, 2), (55, .if_icmp .lt 5, 3), (58, .iconst (-1), 1), (59, .ireturn, 1), (60, .aload_n 0, 1), (61, .getfield 9, 3), (64, .iload 6, 2), (66, .iload_n 1, 1), (67, .castore, 1), (68, .aload_n 0, 1), (69, .getfield 15, 3), (72, .iload 6, 2), (74, .iload_n 2, 1), (75, .iastore, 1), (76, .aload_n 0, 1), (77, .getfield 19, 3), (80, .iload 6, 2), (82, .iload_n 3, 1), (83, .iastore, 1), (84, .aload_n 0, 1), (85, .getfield 22, 3), (88, .iload 6, 2), (90, .iload 5, 2), (92, .iastore, 1), (93, .aload_n 0, 1), (94, .getfield 25, 3), (97, .iload 6, 2), (99, .iload_n 1, 1), (100, .aload_n 0, 1), (101, .iload_n 2, 1), (102, .invokevirtual 54, 3), (105, .aload_n 0, 1), (106, .iload_n 3, 1), (107, .invokevirtual 54, 3), (110, .invokestatic 57, 3), (113, .iastore, 1), (114, .aload_n 0, 1), (115, .iload 6, 2), (117, .iconst 1, 1), (118, .iadd, 1), (119, .putfield 28, 3), (122, .iload 6, 2), (124, .ireturn, 1)]
def gm_mX4_make : pM := (RX4, yX4_make, cX4_make, 7, (some .int), gm_cX4_make, [], gm_KX4)
def gm_cX4_find : List (Nat × Instr × Nat) := [(0, .iconst 0, 1), (1, .istore 4, 2), (3, .iload 4, 2), (5, .aload_n 0, 1), (6, .getfield 28, 3), (9, .if_icmp .ge 52, 3), (12, .iload 4, 2), (14, .bipush 120, 2), (16, .if_icmp .ge 45, 3), (19, .aload_n 0, 1), (20, .getfield 9, 3), (23, .iload 4, 2), (25, .caload, 1), (26, .iload_n 1, 1), (27, .if_icmp .ne 28, 3), (30, .aload_n 0, 1), (31, .getfield 15, 3), (34, .iload 4, 2), (36, .iaload, 1), (37, .iload_n 2, 1), (38, .if_icmp .ne 17, 3), (41, .aload_n 0, 1), (42, .getfield 19, 3), (45, .iload 4, 2), (47, .iaload, 1), (48, .iload_n 3, 1), (49, .if_icmp .ne 6, 3), (52, .iload 4, 2), (54, .ireturn, 1), (55, .iinc 4 1, 3), (58, .goto (-55), 3), (61, .iconst (-1), 1), (62, .ireturn, 1)]
def gm_mX4_find : pM := (RX4, yX4_find, cX4_find, 5, (some .int), gm_cX4_find, [], gm_KX4)
def gm_cX4_coverFrom : List (Nat × Instr × Nat) := [(0, .iload_n 0, 1), (1, .lookupswitch 131 #[(49, 103), (67, 106), (68, 121), (73, 117), (83, 127), (85, 113), (97, 91), (98, 94), (99, 97), (100, 100)], 91), (92, .ldc 60, 2), (94, .ireturn, 1), (95, .ldc 61, 2), (97, .ireturn, 1), (98, .ldc 62, 2), (100, .ireturn, 1), (101, .ldc 63, 2), (103, .ireturn, 1), (104, .ldc 64, 2), (106, .ireturn, 1), (107, .ldc 64, 2), (109, .iload_n 1, 1), (110, .iconst (-1), 1), (111, .ixor, 1), (112, .iand, 1), (113, .ireturn, 1), (114, .iload_n 1, 1), (115, .iload_n 2, 1), (116, .ior, 1), (117, .ireturn, 1), (118, .iload_n 1, 1), (119, .iload_n 2, 1), (120, .iand, 1), (121, .ireturn, 1), (122, .iload_n 1, 1), (123, .iload_n 2, 1), (124, .iconst (-1), 1), (125, .ixor, 1), (126, .iand, 1), (127, .ireturn, 1), (128, .iload_n 1, 1), (129, .iload_n 2, 1), (130, .ixor, 1), (131, .ireturn, 1), (132, .iconst 0, 1), (133, .ireturn, 1)]
def gm_mX4_coverFrom : pM := (RX4, yX4_coverFrom, cX4_coverFrom, 3, (some .int), gm_cX4_coverFrom, [], gm_KX4)
def gm_cX4_makeAll : List (Nat × Instr × Nat) := [(0, .aload_n 0, 1), (1, .getfield 28, 3), (4, .istore_n 2, 1), (5, .aload_n 1, 1), (6, .invokevirtual 65, 3), (9, .aload_n 0, 1), (10, .aload_n 1, 1), (11, .iconst 0, 1), (12, .invokevirtual 70, 3), (15, .istore_n 3, 1), (16, .iload_n 3, 1), (17, .iconst (-1), 1), (18, .if_icmp .ne 8, 3), (21, .aload_n 0, 1), (22, .iload_n 2, 1), (23, .putfield 28, 3), (26, .iload_n 3, 1), (27, .ireturn, 1)]
def gm_mX4_makeAll : pM := (RX4, yX4_makeAll, cX4_makeAll, 4, (some .int), gm_cX4_makeAll, [], gm_KX4)
def gm_cX4_makeNext : List (Nat × Instr × Nat) := [(0, .iload_n 2, 1), (1, .bipush 40, 2), (3, .if_icmp .lt 5, 3), (6, .iconst (-1), 1), (7, .ireturn, 1), (8, .aload_n 1, 1), (9, .invokevirtual 74, 3), (12, .istore_n 3, 1), (13, .iload_n 3, 1), (14, .invokestatic 78, 3), (17, .istore 4, 2), (19, .iconst (-1), 1), (20, .istore 5, 2), (22, .iconst (-1), 1), (23, .istore 6, 2), (25, .iload 4, 2), (27, .ifCond .le 21, 3), (30, .aload_n 0, 1), (31, .aload_n 1, 1), (32, .iload_n 2, 1), (33, .iconst 1, 1), (34, .iadd, 1), (35, .invokevirtual 70, 3), (38, .istore 5, 2), (40, .iload 5, 2), (42, .iconst (-1), 1), (43, .if_icmp .ne 5, 3), (46, .iconst (-1), 1), (47, .ireturn, 1), (48, .iload 4, 2), (50, .iconst 1, 1), (51, .if_icmp .le 21, 3), (54, .aload_n 0, 1), (55, .aload_n 1, 1), (56, .iload_n 2, 1), (57, .iconst 1, 1), (58, .iadd, 1), (59, .invokevirtual 70, 3), (62, .istore 6, 2), (64, .iload 6, 2), (66, .iconst (-1), 1), (67, .if_icmp .ne 5, 3), (70, .iconst (-1), 1), (71, .ireturn, 1), (72, .aload_n 0, 1), (73, .iload_n 3, 1), (74, .iload 5, 2), (76, .iload 6, 2), (78, .invokevirtual 82, 3), (81, .ireturn, 1)]
def gm_mX4_makeNext : pM := (RX4, yX4_makeNext, cX4_makeNext, 7, (some .int), gm_cX4_makeNext, [], gm_KX4)
def gm_cX4_reaches : List (Nat × Instr × Nat) := [(0, .aload_n 0, 1), (1, .iload_n 1, 1), (2, .iload_n 2, 1), (3, .iconst 0, 1), (4, .invokevirtual 85, 3), (7, .ireturn, 1)]
def gm_mX4_reaches : pM := (RX4, yX4_reaches, cX4_reaches, 3, (some .boolean), gm_cX4_reaches, [], gm_KX4)
def gm_cX4_reachesBelow : List (Nat × Instr × Nat) := [(0, .iload_n 3, 1), (1, .bipush 40, 2), (3, .if_icmp .ge 11, 3), (6, .aload_n 0, 1), (7, .iload_n 1, 1), (8, .invokevirtual 32, 3), (11, .ifCond .ne 5, 3), (14, .iconst 0, 1), (15, .ireturn, 1), (16, .aload_n 0, 1), (17, .iload_n 1, 1), (18, .invokevirtual 46, 3), (21, .istore 4, 2), (23, .iload 4, 2), (25, .bipush 97, 2), (27, .if_icmp .lt 20, 3), (30, .iload 4, 2), (32, .bipush 100, 2), (34, .if_icmp .gt 13, 3), (37, .iload 4, 2), (39, .bipush 97, 2), (41, .isub, 1), (42, .iload_n 2, 1), (43, .invokestatic 89, 3), (46, .ireturn, 1), (47, .aload_n 0, 1), (48, .aload_n 0, 1), (49, .iload_n 1, 1), (50, .invokevirtual 36, 3), (53, .iload_n 2, 1), (54, .iload_n 3, 1), (55, .iconst 1, 1), (56, .iadd, 1), (57, .invokevirtual 85, 3), (60, .istore 5, 2), (62, .aload_n 0, 1), (63, .aload_n 0, 1), (64, .iload_n 1, 1), (65, .invokevirtual 43, 3), (68, .iload_n 2, 1), (69, .iload_n 3, 1), (70, .iconst 1, 1), (71, .iadd, 1), (72, .invokevirtual 85, 3), (75, .istore 6, 2), (77, .iload 4, 2), (79, .lookupswitch 131 #[(49, 57), (67, 59), (68, 102), (73, 86), (83, 118), (85, 70)], 57), (136, .iconst 1, 1), (137, .ireturn, 1), (138, .iload 5, 2), (140, .ifCond .ne 7, 3), (143, .iconst 1, 1), (144, .goto 4, 3), (147, .iconst 0, 1), (148, .ireturn, 1), (149, .iload 5, 2), (151, .ifCond .ne 8, 3), (154, .iload 6, 2), (156, .ifCond .eq 7, 3), (159, .iconst 1, 1), (160, .goto 4, 3), (163, .iconst 0, 1), (164, .ireturn, 1), (165, .iload 5, 2), (167, .ifCond .eq 12, 3), (170, .iload 6, 2), (172, .ifCond .eq 7, 3), (175, .iconst 1, 1), (176, .goto 4, 3), (179, .iconst 0, 1), (180, .ireturn, 1), (181, .iload 5, 2), (183, .ifCond .eq 12, 3), (186, .iload 6, 2), (188, .ifCond .ne 7, 3), (191, .iconst 1, 1), (192, .goto 4, 3), (195, .iconst 0, 1), (196, .ireturn, 1), (197, .iload 5, 2), (199, .iload 6, 2), (201, .if_icmp .eq 7, 3), (204, .iconst 1, 1), (205, .goto 4, 3), (208, .iconst 0, 1), (209, .ireturn, 1), (210, .iconst 0, 1), (211, .ireturn, 1)]
def gm_mX4_reachesBelow : pM := (RX4, yX4_reachesBelow, cX4_reachesBelow, 7, (some .boolean), gm_cX4_reachesBelow, [], gm_KX4)
def gm_cX5_init : List (Nat × Instr × Nat) := [(0, .aload_n 0, 1), (1, .invokespecial 3, 3), (4, .aload_n 0, 1), (5, .bipush 81, 2), (7, .newarray .char, 2), (9, .putfield 11, 3), (12, .aload_n 0, 1), (13, .bipush 81, 2), (15, .newarray .int, 2), (17, .putfield 15, 3), (20, .aload_n 0, 1), (21, .iconst 0, 1), (22, .putfield 19, 3), (25, .aload_n 0, 1), (26, .iconst 0, 1), (27, .putfield 23, 3), (30, .return_, 1)]
def gm_mX5_init : pM := (RX5, yX5_init, cX5_init, 1, none, gm_cX5_init, [], gm_KX5)
def gm_cX5_partsOf : List (Nat × Instr × Nat) := [(0, .iload_n 0, 1), (1, .lookupswitch 55 #[(67, 51), (68, 53), (73, 53), (83, 53), (85, 53)], 51), (52, .iconst 1, 1), (53, .ireturn, 1), (54, .iconst 2, 1), (55, .ireturn, 1), (56, .iconst 0, 1), (57, .ireturn, 1)]
def gm_mX5_partsOf : pM := (RX5, yX5_partsOf, cX5_partsOf, 1, (some .int), gm_cX5_partsOf, [], gm_KX5)
def gm_cX5_length : List (Nat × Instr × Nat) := [(0, .aload_n 0, 1), (1, .getfield 19, 3), (4, .ireturn, 1)]
def gm_mX5_length : pM := (RX5, yX5_length, cX5_length, 1, (some .int), gm_cX5_length, [], gm_KX5)
def gm_cX5_clear : List (Nat × Instr × Nat) := [(0, .aload_n 0, 1), (1, .iconst 0, 1), (2, .putfield 19, 3), (5, .return_, 1)]
def gm_mX5_clear : pM := (RX5, yX5_clear, cX5_clear, 1, none, gm_cX5_clear, [], gm_KX5)
def gm_cX5_rewind : List (Nat × Instr × Nat) := [(0, .aload_n 0, 1), (1, .iconst 0, 1), (2, .putfield 23, 3), (5, .return_, 1)]
def gm_mX5_rewind : pM := (RX5, yX5_rewind, cX5_rewind, 1, none, gm_cX5_rewind, [], gm_KX5)
def gm_cX5_read : List (Nat × Instr × Nat) := [(0, .aload_n 0, 1), (1, .aload_n 0, 1), (2, .getfield 23, 3), (5, .invokevirtual 26, 3), (8, .istore_n 1, 1), (9, .aload_n 0, 1), (10, .dup, 1), (11, .getfield 23, 3), (14, .iconst 1, 1), (15, .iadd, 1), (16, .putfield 23, 3), (19, .iload_n 1, 1), (20, .ireturn, 1)]
def gm_mX5_read : pM := (RX5, yX5_read, cX5_read, 2, (some .char), gm_cX5_read, [], gm_KX5)
def gm_cX5_at : List (Nat × Instr × Nat) := [(0, .iload_n 1, 1), (1, .ifCond .lt 26, 3), (4, .iload_n 1, 1), (5, .aload_n 0, 1), (6, .getfield 19, 3), (9, .if_icmp .ge 18, 3), (12, .iload_n 1, 1), (13, .bipush 81, 2), (15, .if_icmp .ge 12, 3), (18, .aload_n 0, 1), (19, .getfield 11, 3), (22, .iload_n 1, 1), (23, .caload, 1), (24, .goto 5, 3), (27, .bipush 32, 2), (29, .ireturn, 1)]
def gm_mX5_at : pM := (RX5, yX5_at, cX5_at, 2, (some .char), gm_cX5_at, [], gm_KX5)
def gm_cX5_put : List (Nat × Instr × Nat) := [(0, .aload_n 0, 1), (1, .getfield 19, 3), (4, .ifCond .lt 32, 3), (7, .aload_n 0, 1), (8, .getfield 19, 3), (11, .bipush 81, 2), (13, .if_icmp .ge 23, 3), (16, .aload_n 0, 1), (17, .getfield 11, 3), (20, .aload_n 0, 1), (21, .getfield 19, 3), (24, .iload_n 1, 1), (25, .castore, 1), (26, .aload_n 0, 1), (27, .dup, 1), (28, .getfield 19, 3), (31, .iconst 1, 1), (32, .iadd, 1), (33, .putfield 19, 3), (36, .return_, 1)]
def gm_mX5_put : pM := (RX5, yX5_put, cX5_put, 2, none, gm_cX5_put, [], gm_KX5)
def gm_cX5_putPart : List (Nat × Instr × Nat) := [(0, .iload_n 2, 1), (1, .istore 4, 2), (3, .iload 4, 2), (5, .iload_n 3, 1), (6, .if_icmp .ge 26, 3), (9, .iload 4, 2), (11, .bipush 81, 2), (13, .if_icmp .ge 19, 3), (16, .aload_n 0, 1), (17, .aload_n 1, 1), (18, .iload 4, 2), (20, .invokevirtual 26, 3), (23, .invokevirtual 30, 3), (26, .iinc 4 1, 3), (29, .goto (-26), 3), (32, .return_, 1)]
def gm_mX5_putPart : pM := (RX5, yX5_putPart, cX5_putPart, 5, none, gm_cX5_putPart, [], gm_KX5)
def gm_cX5_measure : List (Nat × Instr × Nat) := [(0, .aload_n 0, 1), (1, .getfield 19, 3), (4, .bipush 81, 2), (6, .invokestatic 34, 3), (9, .iconst 1, 1), (10, .isub, 1), (11, .istore_n 1, 1), (12, .iload_n 1, 1), (13, .ifCond .lt 51, 3), (16, .iload_n 1, 1), (17, .iconst 1, 1), (18, .iadd, 1), (19, .istore_n 2, 1), (20, .aload_n 0, 1), (21, .getfield 11, 3), (24, .iload_n 1, 1), (25, .caload, 1), (26, .invokestatic 40, 3), (29, .istore_n 3, 1), (30, .iconst 0, 1), (31, .istore 4, 2), (33, .iload 4, 2), (35, .iload_n 3, 1), (36, .if_icmp .ge 15, 3), (39, .aload_n 0, 1), (40, .iload_n 2, 1), (41, .invokevirtual 44, 3), (44, .istore_n 2, 1), (45, .iinc 4 1, 3), (48, .goto (-15), 3), (51, .aload_n 0, 1), (52, .getfield 15, 3), (55, .iload_n 1, 1), (56, .iload_n 2, 1), (57, .iastore, 1), (58, .iinc 1 (-1), 3), (61, .goto (-49), 3), (64, .return_, 1)]
def gm_mX5_measure : pM := (RX5, yX5_measure, cX5_measure, 5, none, gm_cX5_measure, [], gm_KX5)
def gm_cX5_endOf : List (Nat × Instr × Nat) := [(0, .iload_n 1, 1), (1, .ifCond .lt 26, 3), (4, .iload_n 1, 1), (5, .aload_n 0, 1), (6, .getfield 19, 3), (9, .if_icmp .ge 18, 3), (12, .iload_n 1, 1), (13, .bipush 81, 2), (15, .if_icmp .ge 12, 3), (18, .aload_n 0, 1), (19, .getfield 15, 3), (22, .iload_n 1, 1), (23, .iaload, 1), (24, .goto 7, 3), (27, .aload_n 0, 1), (28, .getfield 19, 3), (31, .ireturn, 1)]
def gm_mX5_endOf : pM := (RX5, yX5_endOf, cX5_endOf, 2, (some .int), gm_cX5_endOf, [], gm_KX5)
def gm_cX5_isSame : List (Nat × Instr × Nat) := [(0, .aload_n 0, 1), (1, .iload_n 1, 1), (2, .invokevirtual 44, 3), (5, .iload_n 1, 1), (6, .isub, 1), (7, .istore_n 3, 1), (8, .aload_n 0, 1), (9, .iload_n 2, 1), (10, .invokevirtual 44, 3), (13, .iload_n 2, 1), (14, .isub, 1), (15, .iload_n 3, 1), (16, .if_icmp .eq 5, 3), (19, .iconst 0, 1), (20, .ireturn, 1), (21, .iconst 0, 1), (22, .istore 4, 2), (24, .iload 4, 2), (26, .iload_n 3, 1), (27, .if_icmp .ge 30, 3), (30, .aload_n 0, 1), (31, .iload_n 1, 1), (32, .iload 4, 2), (34, .iadd, 1), (35, .invokevirtual 26, 3), (38, .aload_n 0, 1), (39, .iload_n 2, 1), (40, .iload 4, 2), (42, .iadd, 1), (43, .invokevirtual 26, 3), (46, .if_icmp .eq 5, 3), (49, .iconst 0, 1), (50, .ireturn, 1), (51, .iinc 4 1, 3), (54, .goto (-30), 3), (57, .iconst 1, 1), (58, .ireturn, 1)]
def gm_mX5_isSame : pM := (RX5, yX5_isSame, cX5_isSame, 5, (some .boolean), gm_cX5_isSame, [], gm_KX5)
def gm_cX5_isComplement : List (Nat × Instr × Nat) := [(0, .aload_n 0, 1), (1, .iload_n 1, 1), (2, .invokevirtual 26, 3), (5, .bipush 67, 2), (7, .if_icmp .ne 18, 3), (10, .aload_n 0, 1), (11, .iload_n 1, 1), (12, .iconst 1, 1), (13, .iadd, 1), (14, .iload_n 2, 1), (15, .invokevirtual 48, 3), (18, .ifCond .eq 7, 3), (21, .iconst 1, 1), (22, .goto 4, 3), (25, .iconst 0, 1), (26, .ireturn, 1)]
def gm_mX5_isComplement : pM := (RX5, yX5_isComplement, cX5_isComplement, 3, (some .boolean), gm_cX5_isComplement, [], gm_KX5)
def gm_cX6_init : List (Nat × Instr × Nat) := [(0, .aload_n 0, 1), (1, .invokespecial 1, 3), (4, .aload_n 0, 1), (5, .new 7, 3), (8, .dup, 1), (9, .invokespecial 9, 3), (12, .putfield 10, 3), (15, .aload_n 0, 1), (16, .new 16, 3), (19, .dup, 1), (20, .invokespecial 18, 3), (23, .putfield 19, 3), (26, .aload_n 0, 1), (27, .new 23, 3), (30, .dup, 1), (31, .invokespecial 25, 3), (34, .putfield 26, 3), (37, .aload_n 0, 1), (38, .new 30, 3), (41, .dup, 1), (42, .invokespecial 32, 3), (45, .putfield 33, 3), (48, .aload_n 0, 1), (49, .new 37, 3), (52, .dup, 1), (53, .invokespecial 39, 3), (56, .putfield 40, 3), (59, .return_, 1)]
def gm_mX6_init : pM := (RX6, yX6_init, cX6_init, 1, none, gm_cX6_init, [], gm_KX6)
def gm_cX6_letter : List (Nat × Instr × Nat) := [(0, .aload_n 0, 1), (1, .iload_n 1, 1), (2, .invokevirtual 44, 3), (5, .aload_n 0, 1), (6, .aload_n 0, 1), (7, .getfield 10, 3), (10, .bipush 97, 2), (12, .iload_n 1, 1), (13, .iadd, 1), (14, .i2c, 1), (15, .iconst (-1), 1), (16, .iconst (-1), 1), (17, .invokevirtual 48, 3), (20, .invokevirtual 52, 3), (23, .ireturn, 1)]
def gm_mX6_letter : pM := (RX6, yX6_letter, cX6_letter, 2, (some .int), gm_cX6_letter, [], gm_KX6)
def gm_cX6_empty : List (Nat × Instr × Nat) := [(0, .aload_n 0, 1), (1, .aload_n 0, 1), (2, .getfield 10, 3), (5, .bipush 48, 2), (7, .iconst (-1), 1), (8, .iconst (-1), 1), (9, .invokevirtual 48, 3), (12, .invokevirtual 52, 3), (15, .ireturn, 1)]
def gm_mX6_empty : pM := (RX6, yX6_empty, cX6_empty, 1, (some .int), gm_cX6_empty, [], gm_KX6)
def gm_cX6_universe : List (Nat × Instr × Nat) := [(0, .aload_n 0, 1), (1, .aload_n 0, 1), (2, .getfield 10, 3), (5, .bipush 49, 2), (7, .iconst (-1), 1), (8, .iconst (-1), 1), (9, .invokevirtual 48, 3), (12, .invokevirtual 52, 3), (15, .ireturn, 1)]
def gm_mX6_universe : pM := (RX6, yX6_universe, cX6_universe, 1, (some .int), gm_cX6_universe, [], gm_KX6)
def gm_cX6_complement : List (Nat × Instr × Nat) := [(0, .aload_n 0, 1), (1, .iload_n 1, 1), (2, .invokevirtual 56, 3), (5, .aload_n 0, 1), (6, .aload_n 0, 1), (7, .getfield 10, 3), (10, .bipush 67, 2), (12, .iload_n 1, 1), (13, .iconst (-1), 1), (14, .invokevirtual 48, 3), (17, .invokevirtual 52, 3), (20, .ireturn, 1)]
def gm_mX6_complement : pM := (RX6, yX6_complement, cX6_complement, 2, (some .int), gm_cX6_complement, [], gm_KX6)
def gm_cX6_union : List (Nat × Instr × Nat) := [(0, .aload_n 0, 1), (1, .bipush 85, 2), (3, .iload_n 1, 1), (4, .iload_n 2, 1), (5, .invokevirtual 59, 3), (8, .ireturn, 1)]
def gm_mX6_union : pM := (RX6, yX6_union, cX6_union, 3, (some .int), gm_cX6_union, [], gm_KX6)
def gm_cX6_intersection : List (Nat × Instr × Nat) := [(0, .aload_n 0, 1), (1, .bipush 73, 2), (3, .iload_n 1, 1), (4, .iload_n 2, 1), (5, .invokevirtual 59, 3), (8, .ireturn, 1)]
def gm_mX6_intersection : pM := (RX6, yX6_intersection, cX6_intersection, 3, (some .int), gm_cX6_intersection, [], gm_KX6)
def gm_cX6_difference : List (Nat × Instr × Nat) := [(0, .aload_n 0, 1), (1, .bipush 68, 2), (3, .iload_n 1, 1), (4, .iload_n 2, 1), (5, .invokevirtual 59, 3), (8, .ireturn, 1)]
def gm_mX6_difference : pM := (RX6, yX6_difference, cX6_difference, 3, (some .int), gm_cX6_difference, [], gm_KX6)
def gm_cX6_symmetric : List (Nat × Instr × Nat) := [(0, .aload_n 0, 1), (1, .bipush 83, 2), (3, .iload_n 1, 1), (4, .iload_n 2, 1), (5, .invokevirtual 59, 3), (8, .ireturn, 1)]
def gm_mX6_symmetric : pM := (RX6, yX6_symmetric, cX6_symmetric, 3, (some .int), gm_cX6_symmetric, [], gm_KX6)
def gm_cX6_terms : List (Nat × Instr × Nat) := [(0, .aload_n 0, 1), (1, .getfield 10, 3), (4, .invokevirtual 62, 3), (7, .ireturn, 1)]
def gm_mX6_terms : pM := (RX6, yX6_terms, cX6_terms, 1, (some .int), gm_cX6_terms, [], gm_KX6)
def gm_cX6_size : List (Nat × Instr × Nat) := [(0, .aload_n 0, 1), (1, .iload_n 1, 1), (2, .invokevirtual 56, 3), (5, .aload_n 0, 1), (6, .getfield 10, 3), (9, .iload_n 1, 1), (10, .invokevirtual 66, 3), (13, .ireturn, 1)]
def gm_mX6_size : pM := (RX6, yX6_size, cX6_size, 2, (some .int), gm_cX6_size, [], gm_KX6)
def gm_cX6_symbol : List (Nat × Instr × Nat) := [(0, .aload_n 0, 1), (1, .iload_n 1, 1), (2, .invokevirtual 56, 3), (5, .iload_n 2, 1), (6, .ifCond .lt 15, 3), (9, .iload_n 2, 1), (10, .aload_n 0, 1), (11, .getfield 10, 3), (14, .iload_n 1, 1), (15, .invokevirtual 66, 3), (18, .if_icmp .lt 13, 3), (21, .new 69, 3), (24, .dup, 1), (25, .ldc 71, 2), (27, .invokespecial 73, 3), (30, .athrow, 1), (31, .aload_n 0, 1), (32, .getfield 10, 3), (35, .iload_n 1, 1), (36, .iload_n 2, 1), (37, .invokevirtual 76, 3), (40, .ireturn, 1)]
def gm_mX6_symbol : pM := (RX6, yX6_symbol, cX6_symbol, 3, (some .char), gm_cX6_symbol, [], gm_KX6)
def gm_cX6_makePair : List (Nat × Instr × Nat) := [(0, .aload_n 0, 1), (1, .iload_n 2, 1), (2, .invokevirtual 56, 3), (5, .aload_n 0, 1), (6, .iload_n 3, 1), (7, .invokevirtual 56, 3), (10, .aload_n 0, 1), (11, .aload_n 0, 1), (12, .getfield 10, 3), (15, .iload_n 1, 1), (16, .iload_n 2, 1), (17, .iload_n 3, 1), (18, .invokevirtual 48, 3), (21, .invokevirtual 52, 3), (24, .ireturn, 1)]
def gm_mX6_makePair : pM := (RX6, yX6_makePair, cX6_makePair, 4, (some .int), gm_cX6_makePair, [], gm_KX6)
def gm_cX6_madeOrThrow : List (Nat × Instr × Nat) := [(0, .iload_n 1, 1), (1, .iconst (-1), 1), (2, .if_icmp .ne 13, 3), (5, .new 80, 3), (8, .dup, 1), (9, .ldc 82, 2), (11, .invokespecial 84, 3), (14, .athrow, 1), (15, .iload_n 1, 1), (16, .ireturn, 1)]
def gm_mX6_madeOrThrow : pM := (RX6, yX6_madeOrThrow, cX6_madeOrThrow, 2, (some .int), gm_cX6_madeOrThrow, [], gm_KX6)
def gm_cX6_checkTerm : List (Nat × Instr × Nat) := [(0, .aload_n 0, 1), (1, .getfield 10, 3), (4, .iload_n 1, 1), (5, .invokevirtual 85, 3), (8, .ifCond .ne 13, 3), (11, .new 89, 3), (14, .dup, 1), (15, .ldc 91, 2), (17, .invokespecial 93, 3), (20, .athrow, 1), (21, .return_, 1)]
def gm_mX6_checkTerm : pM := (RX6, yX6_checkTerm, cX6_checkTerm, 2, none, gm_cX6_checkTerm, [], gm_KX6)
def gm_cX6_checkLetter : List (Nat × Instr × Nat) := [(0, .iload_n 1, 1), (1, .ifCond .lt 8, 3), (4, .iload_n 1, 1), (5, .iconst 4, 1), (6, .if_icmp .lt 13, 3), (9, .new 94, 3), (12, .dup, 1), (13, .ldc 96, 2), (15, .invokespecial 98, 3), (18, .athrow, 1), (19, .return_, 1)]
def gm_mX6_checkLetter : pM := (RX6, yX6_checkLetter, cX6_checkLetter, 2, none, gm_cX6_checkLetter, [], gm_KX6)
def gm_cX6_checkRegion : List (Nat × Instr × Nat) := [(0, .iload_n 1, 1), (1, .ifCond .lt 9, 3), (4, .iload_n 1, 1), (5, .bipush 16, 2), (7, .if_icmp .lt 13, 3), (10, .new 94, 3), (13, .dup, 1), (14, .ldc 99, 2), (16, .invokespecial 98, 3), (19, .athrow, 1), (20, .return_, 1)]
def gm_mX6_checkRegion : pM := (RX6, yX6_checkRegion, cX6_checkRegion, 2, none, gm_cX6_checkRegion, [], gm_KX6)
def gm_cX6_regions : List (Nat × Instr × Nat) := [(0, .aload_n 0, 1), (1, .iload_n 1, 1), (2, .invokevirtual 56, 3), (5, .aload_n 0, 1), (6, .getfield 10, 3), (9, .iload_n 1, 1), (10, .invokevirtual 101, 3), (13, .invokestatic 104, 3), (16, .ireturn, 1)]
def gm_mX6_regions : pM := (RX6, yX6_regions, cX6_regions, 2, (some .int), gm_cX6_regions, [], gm_KX6)
def gm_cX6_covers : List (Nat × Instr × Nat) := [(0, .aload_n 0, 1), (1, .iload_n 1, 1), (2, .invokevirtual 56, 3), (5, .aload_n 0, 1), (6, .iload_n 2, 1), (7, .invokevirtual 109, 3), (10, .iload_n 2, 1), (11, .aload_n 0, 1), (12, .getfield 10, 3), (15, .iload_n 1, 1), (16, .invokevirtual 101, 3), (19, .invokestatic 112, 3), (22, .ireturn, 1)]
def gm_mX6_covers : pM := (RX6, yX6_covers, cX6_covers, 3, (some .boolean), gm_cX6_covers, [], gm_KX6)
def gm_cX6_coversByTerm : List (Nat × Instr × Nat) := [(0, .aload_n 0, 1), (1, .iload_n 1, 1), (2, .invokevirtual 56, 3), (5, .aload_n 0, 1), (6, .iload_n 2, 1), (7, .invokevirtual 109, 3), (10, .aload_n 0, 1), (11, .getfield 10, 3), (14, .iload_n 1, 1), (15, .iload_n 2, 1), (16, .invokevirtual 116, 3), (19, .ireturn, 1)]
def gm_mX6_coversByTerm : pM := (RX6, yX6_coversByTerm, cX6_coversByTerm, 3, (some .boolean), gm_cX6_coversByTerm, [], gm_KX6)
def gm_cX6_isEqual : List (Nat × Instr × Nat) := [(0, .aload_n 0, 1), (1, .iload_n 1, 1), (2, .invokevirtual 56, 3), (5, .aload_n 0, 1), (6, .iload_n 2, 1), (7, .invokevirtual 56, 3), (10, .aload_n 0, 1), (11, .getfield 10, 3), (14, .iload_n 1, 1), (15, .invokevirtual 101, 3), (18, .aload_n 0, 1), (19, .getfield 10, 3), (22, .iload_n 2, 1), (23, .invokevirtual 101, 3), (26, .if_icmp .ne 7, 3), (29, .iconst 1, 1), (30, .goto 4, 3), (33, .iconst 0, 1), (34, .ireturn, 1)]
def gm_mX6_isEqual : pM := (RX6, yX6_isEqual, cX6_isEqual, 3, (some .boolean), gm_cX6_isEqual, [], gm_KX6)
def gm_cX6_isIn : List (Nat × Instr × Nat) := [(0, .iload_n 1, 1), (1, .iload_n 0, 1), (2, .ishr, 1), (3, .iconst 1, 1), (4, .iand, 1), (5, .iconst 1, 1), (6, .if_icmp .ne 7, 3), (9, .iconst 1, 1), (10, .goto 4, 3), (13, .iconst 0, 1), (14, .ireturn, 1)]
def gm_mX6_isIn : pM := (RX6, yX6_isIn, cX6_isIn, 2, (some .boolean), gm_cX6_isIn, [], gm_KX6)
def gm_cX6_rule : List (Nat × Instr × Nat) := [(0, .aload_n 0, 1), (1, .iload_n 1, 1), (2, .invokevirtual 56, 3), (5, .aload_n 0, 1), (6, .getfield 19, 3), (9, .aload_n 0, 1), (10, .getfield 10, 3), (13, .iload_n 1, 1), (14, .invokevirtual 119, 3), (17, .aload_n 0, 1), (18, .invokevirtual 123, 3), (21, .ireturn, 1)]
def gm_mX6_rule : pM := (RX6, yX6_rule, cX6_rule, 2, (some .char), gm_cX6_rule, [], gm_KX6)
def gm_cX6_step : List (Nat × Instr × Nat) := [(0, .aload_n 0, 1), (1, .iload_n 1, 1), (2, .invokevirtual 56, 3), (5, .aload_n 0, 1), (6, .getfield 19, 3), (9, .aload_n 0, 1), (10, .getfield 10, 3), (13, .iload_n 1, 1), (14, .invokevirtual 119, 3), (17, .aload_n 0, 1), (18, .invokevirtual 123, 3), (21, .pop, 1), (22, .aload_n 0, 1), (23, .invokevirtual 127, 3), (26, .aload_n 0, 1), (27, .aload_n 0, 1), (28, .getfield 10, 3), (31, .aload_n 0, 1), (32, .getfield 19, 3), (35, .invokevirtual 130, 3), (38, .invokevirtual 134, 3), (41, .invokevirtual 52, 3), (44, .ireturn, 1)]
def gm_mX6_step : pM := (RX6, yX6_step, cX6_step, 2, (some .int), gm_cX6_step, [], gm_KX6)
def gm_cX6_steps : List (Nat × Instr × Nat) := [(0, .aload_n 0, 1), (1, .iload_n 1, 1), (2, .invokevirtual 56, 3), (5, .aload_n 0, 1), (6, .getfield 19, 3), (9, .aload_n 0, 1), (10, .getfield 10, 3), (13, .iload_n 1, 1), (14, .invokevirtual 119, 3), (17, .iconst 0, 1), (18, .istore_n 2, 1), (19, .iload_n 2, 1), (20, .ldc 138, 2), (22, .if_icmp .ge 29, 3), (25, .aload_n 0, 1), (26, .getfield 19, 3), (29, .invokevirtual 139, 3), (32, .ifCond .eq 19, 3), (35, .aload_n 0, 1), (36, .getfield 19, 3), (39, .invokevirtual 143, 3), (42, .ifCond .eq 9, 3), (45, .iinc 2 1, 3), (48, .goto (-29), 3), (51, .iload_n 2, 1), (52, .ireturn, 1)]
def gm_mX6_steps : pM := (RX6, yX6_steps, cX6_steps, 3, (some .int), gm_cX6_steps, [], gm_KX6)
def gm_cX6_normalForm : List (Nat × Instr × Nat) := [(0, .aload_n 0, 1), (1, .iload_n 1, 1), (2, .invokevirtual 56, 3), (5, .aload_n 0, 1), (6, .getfield 19, 3), (9, .aload_n 0, 1), (10, .getfield 10, 3), (13, .iload_n 1, 1), (14, .invokevirtual 119, 3), (17, .iconst 0, 1), (18, .istore_n 2, 1), (19, .iload_n 2, 1), (20, .ldc 138, 2), (22, .if_icmp .ge 23, 3), (25, .aload_n 0, 1), (26, .getfield 19, 3), (29, .invokevirtual 139, 3), (32, .ifCond .eq 13, 3), (35, .aload_n 0, 1), (36, .invokevirtual 127, 3), (39, .iinc 2 1, 3), (42, .goto (-23), 3), (45, .aload_n 0, 1), (46, .aload_n 0, 1), (47, .getfield 10, 3), (50, .aload_n 0, 1), (51, .getfield 19, 3), (54, .invokevirtual 130, 3), (57, .invokevirtual 134, 3), (60, .invokevirtual 52, 3), (63, .ireturn, 1)]
def gm_mX6_normalForm : pM := (RX6, yX6_normalForm, cX6_normalForm, 3, (some .int), gm_cX6_normalForm, [], gm_KX6)
def gm_cX6_primes : List (Nat × Instr × Nat) := [(0, .aload_n 0, 1), (1, .iload_n 1, 1), (2, .invokevirtual 56, 3), (5, .aload_n 0, 1), (6, .getfield 26, 3), (9, .aload_n 0, 1), (10, .getfield 10, 3), (13, .iload_n 1, 1), (14, .invokevirtual 101, 3), (17, .invokevirtual 146, 3), (20, .aload_n 0, 1), (21, .getfield 26, 3), (24, .invokevirtual 149, 3), (27, .ireturn, 1)]
def gm_mX6_primes : pM := (RX6, yX6_primes, cX6_primes, 2, (some .int), gm_cX6_primes, [], gm_KX6)
def gm_cX6_primesByTrying : List (Nat × Instr × Nat) := [(0, .aload_n 0, 1), (1, .iload_n 1, 1), (2, .invokevirtual 56, 3), (5, .aload_n 0, 1), (6, .getfield 26, 3), (9, .aload_n 0, 1), (10, .getfield 10, 3), (13, .iload_n 1, 1), (14, .invokevirtual 101, 3), (17, .invokevirtual 152, 3), (20, .ireturn, 1)]
def gm_mX6_primesByTrying : pM := (RX6, yX6_primesByTrying, cX6_primesByTrying, 2, (some .int), gm_cX6_primesByTrying, [], gm_KX6)
def gm_cX6_prime : List (Nat × Instr × Nat) := [(0, .aload_n 0, 1), (1, .iload_n 1, 1), (2, .invokevirtual 56, 3), (5, .aload_n 0, 1), (6, .getfield 26, 3), (9, .aload_n 0, 1), (10, .getfield 10, 3), (13, .iload_n 1, 1), (14, .invokevirtual 101, 3), (17, .invokevirtual 146, 3), (20, .aload_n 0, 1), (21, .getfield 26, 3), (24, .iload_n 2, 1), (25, .invokevirtual 155, 3), (28, .istore 4, 2), (30, .iload 4, 2), (32, .iconst (-1), 1), (33, .if_icmp .ne 13, 3), (36, .new 69, 3), (39, .dup, 1), (40, .ldc 158, 2), (42, .invokespecial 73, 3), (45, .athrow, 1), (46, .aload_n 0, 1), (47, .iload_n 3, 1), (48, .invokevirtual 44, 3), (51, .iload 4, 2), (53, .iload_n 3, 1), (54, .invokestatic 160, 3), (57, .ireturn, 1)]
def gm_mX6_prime : pM := (RX6, yX6_prime, cX6_prime, 5, (some .char), gm_cX6_prime, [], gm_KX6)
def gm_cX6_ruleOrThrow : List (Nat × Instr × Nat) := [(0, .aload_n 0, 1), (1, .getfield 19, 3), (4, .invokevirtual 139, 3), (7, .ifCond .ne 13, 3), (10, .new 69, 3), (13, .dup, 1), (14, .ldc 163, 2), (16, .invokespecial 73, 3), (19, .athrow, 1), (20, .aload_n 0, 1), (21, .getfield 19, 3), (24, .invokevirtual 165, 3), (27, .ireturn, 1)]
def gm_mX6_ruleOrThrow : pM := (RX6, yX6_ruleOrThrow, cX6_ruleOrThrow, 1, (some .char), gm_cX6_ruleOrThrow, [], gm_KX6)
def gm_cX6_rewriteOrThrow : List (Nat × Instr × Nat) := [(0, .aload_n 0, 1), (1, .getfield 19, 3), (4, .invokevirtual 143, 3), (7, .ifCond .ne 13, 3), (10, .new 168, 3), (13, .dup, 1), (14, .ldc 170, 2), (16, .invokespecial 172, 3), (19, .athrow, 1), (20, .return_, 1)]
def gm_mX6_rewriteOrThrow : pM := (RX6, yX6_rewriteOrThrow, cX6_rewriteOrThrow, 1, none, gm_cX6_rewriteOrThrow, [], gm_KX6)
def gm_cX6_assume : List (Nat × Instr × Nat) := [(0, .aload_n 0, 1), (1, .iload_n 1, 1), (2, .iload_n 2, 1), (3, .iload_n 3, 1), (4, .invokevirtual 173, 3), (7, .aload_n 0, 1), (8, .getfield 33, 3), (11, .invokevirtual 177, 3), (14, .bipush 6, 2), (16, .if_icmp .lt 13, 3), (19, .new 80, 3), (22, .dup, 1), (23, .ldc 178, 2), (25, .invokespecial 84, 3), (28, .athrow, 1), (29, .aload_n 0, 1), (30, .getfield 33, 3), (33, .iload_n 1, 1), (34, .invokestatic 180, 3), (37, .aload_n 0, 1), (38, .iload_n 1, 1), (39, .iload_n 2, 1), (40, .iload_n 3, 1), (41, .invokevirtual 184, 3), (44, .invokevirtual 187, 3), (47, .aload_n 0, 1), (48, .getfield 33, 3), (51, .invokevirtual 177, 3), (54, .iconst 1, 1), (55, .isub, 1), (56, .ireturn, 1)]
def gm_mX6_assume : pM := (RX6, yX6_assume, cX6_assume, 4, (some .int), gm_cX6_assume, [], gm_KX6)
def gm_cX6_drop : List (Nat × Instr × Nat) := [(0, .aload_n 0, 1), (1, .getfield 33, 3), (4, .invokevirtual 177, 3), (7, .ifCond .ne 13, 3), (10, .new 80, 3), (13, .dup, 1), (14, .ldc 191, 2), (16, .invokespecial 84, 3), (19, .athrow, 1), (20, .aload_n 0, 1), (21, .getfield 33, 3), (24, .invokevirtual 193, 3), (27, .aload_n 0, 1), (28, .getfield 33, 3), (31, .invokevirtual 177, 3), (34, .ireturn, 1)]
def gm_mX6_drop : pM := (RX6, yX6_drop, cX6_drop, 1, (some .int), gm_cX6_drop, [], gm_KX6)
def gm_cX6_assumptions : List (Nat × Instr × Nat) := [(0, .aload_n 0, 1), (1, .getfield 33, 3), (4, .invokevirtual 177, 3), (7, .ireturn, 1)]
def gm_mX6_assumptions : pM := (RX6, yX6_assumptions, cX6_assumptions, 1, (some .int), gm_cX6_assumptions, [], gm_KX6)
def gm_cX6_setGoal : List (Nat × Instr × Nat) := [(0, .aload_n 0, 1), (1, .iload_n 1, 1), (2, .iload_n 2, 1), (3, .iload_n 3, 1), (4, .invokevirtual 173, 3), (7, .aload_n 0, 1), (8, .getfield 33, 3), (11, .invokevirtual 196, 3), (14, .istore 4, 2), (16, .aload_n 0, 1), (17, .getfield 33, 3), (20, .iload_n 1, 1), (21, .invokestatic 180, 3), (24, .aload_n 0, 1), (25, .iload_n 1, 1), (26, .iload_n 2, 1), (27, .iload_n 3, 1), (28, .invokevirtual 184, 3), (31, .invokevirtual 199, 3), (34, .iload 4, 2), (36, .ireturn, 1)]
def gm_mX6_setGoal : pM := (RX6, yX6_setGoal, cX6_setGoal, 5, (some .boolean), gm_cX6_setGoal, [], gm_KX6)
def gm_cX6_isConsistent : List (Nat × Instr × Nat) := [(0, .aload_n 0, 1), (1, .getfield 33, 3), (4, .invokevirtual 202, 3), (7, .ireturn, 1)]
def gm_mX6_isConsistent : pM := (RX6, yX6_isConsistent, cX6_isConsistent, 1, (some .boolean), gm_cX6_isConsistent, [], gm_KX6)
def gm_cX6_deniedBy : List (Nat × Instr × Nat) := [(0, .aload_n 0, 1), (1, .iload_n 1, 1), (2, .invokevirtual 109, 3), (5, .aload_n 0, 1), (6, .getfield 33, 3), (9, .iload_n 1, 1), (10, .invokevirtual 205, 3), (13, .istore_n 2, 1), (14, .iload_n 2, 1), (15, .iconst (-1), 1), (16, .if_icmp .ne 13, 3), (19, .new 69, 3), (22, .dup, 1), (23, .ldc 208, 2), (25, .invokespecial 73, 3), (28, .athrow, 1), (29, .iload_n 2, 1), (30, .ireturn, 1)]
def gm_mX6_deniedBy : pM := (RX6, yX6_deniedBy, cX6_deniedBy, 3, (some .int), gm_cX6_deniedBy, [], gm_KX6)
def gm_cX6_follows : List (Nat × Instr × Nat) := [(0, .aload_n 0, 1), (1, .invokevirtual 210, 3), (4, .aload_n 0, 1), (5, .getfield 33, 3), (8, .invokevirtual 213, 3), (11, .ireturn, 1)]
def gm_mX6_follows : pM := (RX6, yX6_follows, cX6_follows, 1, (some .boolean), gm_cX6_follows, [], gm_KX6)
def gm_cX6_why : List (Nat × Instr × Nat) := [(0, .aload_n 0, 1), (1, .invokevirtual 210, 3), (4, .aload_n 0, 1), (5, .getfield 33, 3), (8, .invokevirtual 213, 3), (11, .ifCond .ne 13, 3), (14, .new 69, 3), (17, .dup, 1), (18, .ldc 216, 2), (20, .invokespecial 73, 3), (23, .athrow, 1), (24, .aload_n 0, 1), (25, .getfield 33, 3), (28, .invokevirtual 202, 3), (31, .ifCond .ne 6, 3), (34, .bipush 109, 2), (36, .ireturn, 1), (37, .aload_n 0, 1), (38, .getfield 33, 3), (41, .invokevirtual 218, 3), (44, .ifCond .eq 8, 3), (47, .bipush 119, 2), (49, .goto 5, 3), (52, .bipush 114, 2), (54, .ireturn, 1)]
def gm_mX6_why : pM := (RX6, yX6_why, cX6_why, 1, (some .char), gm_cX6_why, [], gm_KX6)
def gm_cX6_witness : List (Nat × Instr × Nat) := [(0, .aload_n 0, 1), (1, .invokevirtual 210, 3), (4, .aload_n 0, 1), (5, .getfield 33, 3), (8, .invokevirtual 218, 3), (11, .ifCond .ne 13, 3), (14, .new 168, 3), (17, .dup, 1), (18, .ldc 221, 2), (20, .invokespecial 172, 3), (23, .athrow, 1), (24, .aload_n 0, 1), (25, .getfield 33, 3), (28, .invokevirtual 223, 3), (31, .istore_n 1, 1), (32, .iload_n 1, 1), (33, .iconst (-1), 1), (34, .if_icmp .ne 13, 3), (37, .new 69, 3), (40, .dup, 1), (41, .ldc 226, 2), (43, .invokespecial 73, 3), (46, .athrow, 1), (47, .iload_n 1, 1), (48, .ireturn, 1)]
def gm_mX6_witness : pM := (RX6, yX6_witness, cX6_witness, 2, (some .int), gm_cX6_witness, [], gm_KX6)
def gm_cX6_checkStatement : List (Nat × Instr × Nat) := [(0, .iload_n 1, 1), (1, .invokestatic 228, 3), (4, .ifCond .ne 20, 3), (7, .iload_n 1, 1), (8, .invokestatic 180, 3), (11, .ifCond .ne 13, 3), (14, .new 94, 3), (17, .dup, 1), (18, .ldc 231, 2), (20, .invokespecial 98, 3), (23, .athrow, 1), (24, .aload_n 0, 1), (25, .iload_n 2, 1), (26, .invokevirtual 56, 3), (29, .aload_n 0, 1), (30, .iload_n 3, 1), (31, .invokevirtual 56, 3), (34, .return_, 1)]
def gm_mX6_checkStatement : pM := (RX6, yX6_checkStatement, cX6_checkStatement, 4, none, gm_cX6_checkStatement, [], gm_KX6)
def gm_cX6_checkGoal : List (Nat × Instr × Nat) := [(0, .aload_n 0, 1), (1, .getfield 33, 3), (4, .invokevirtual 196, 3), (7, .ifCond .ne 13, 3), (10, .new 80, 3), (13, .dup, 1), (14, .ldc 233, 2), (16, .invokespecial 84, 3), (19, .athrow, 1), (20, .return_, 1)]
def gm_mX6_checkGoal : pM := (RX6, yX6_checkGoal, cX6_checkGoal, 1, none, gm_cX6_checkGoal, [], gm_KX6)
def gm_cX6_isDenial : List (Nat × Instr × Nat) := [(0, .iload_n 0, 1), (1, .bipush 115, 2), (3, .if_icmp .eq 15, 3), (6, .iload_n 0, 1), (7, .bipush 101, 2), (9, .if_icmp .eq 9, 3), (12, .iload_n 0, 1), (13, .bipush 100, 2), (15, .if_icmp .ne 7, 3), (18, .iconst 1, 1), (19, .goto 4, 3), (22, .iconst 0, 1), (23, .ireturn, 1)]
def gm_mX6_isDenial : pM := (RX6, yX6_isDenial, cX6_isDenial, 1, (some .boolean), gm_cX6_isDenial, [], gm_KX6)
def gm_cX6_isDemand : List (Nat × Instr × Nat) := [(0, .iload_n 0, 1), (1, .bipush 120, 2), (3, .if_icmp .eq 15, 3), (6, .iload_n 0, 1), (7, .bipush 110, 2), (9, .if_icmp .eq 9, 3), (12, .iload_n 0, 1), (13, .bipush 105, 2), (15, .if_icmp .ne 7, 3), (18, .iconst 1, 1), (19, .goto 4, 3), (22, .iconst 0, 1), (23, .ireturn, 1)]
def gm_mX6_isDemand : pM := (RX6, yX6_isDemand, cX6_isDemand, 1, (some .boolean), gm_cX6_isDemand, [], gm_KX6)
def gm_cX6_placesOf : List (Nat × Instr × Nat) := [(0, .aload_n 0, 1), (1, .getfield 10, 3), (4, .iload_n 2, 1), (5, .invokevirtual 101, 3), (8, .istore 4, 2), (10, .aload_n 0, 1), (11, .getfield 10, 3), (14, .iload_n 3, 1), (15, .invokevirtual 101, 3), (18, .istore 5, 2), (20, .iload_n 1, 1), (21, .lookupswitch 57 #[(101, 51), (110, 51), (115, 43), (120, 43)], 43), (64, .iload 4, 2), (66, .iload 5, 2), (68, .iconst (-1), 1), (69, .ixor, 1), (70, .iand, 1), (71, .ireturn, 1), (72, .iload 4, 2), (74, .iload 5, 2), (76, .ixor, 1), (77, .ireturn, 1), (78, .iload 4, 2), (80, .iload 5, 2), (82, .iand, 1), (83, .ireturn, 1)]
def gm_mX6_placesOf : pM := (RX6, yX6_placesOf, cX6_placesOf, 6, (some .int), gm_cX6_placesOf, [], gm_KX6)
def gm_cX6_elements : List (Nat × Instr × Nat) := [(0, .aload_n 0, 1), (1, .invokevirtual 210, 3), (4, .aload_n 0, 1), (5, .getfield 40, 3), (8, .aload_n 0, 1), (9, .getfield 33, 3), (12, .invokevirtual 235, 3), (15, .aload_n 0, 1), (16, .aload_n 0, 1), (17, .getfield 40, 3), (20, .invokevirtual 239, 3), (23, .invokevirtual 242, 3), (26, .ireturn, 1)]
def gm_mX6_elements : pM := (RX6, yX6_elements, cX6_elements, 1, (some .int), gm_cX6_elements, [], gm_KX6)
def gm_cX6_elementsByTrying : List (Nat × Instr × Nat) := [(0, .aload_n 0, 1), (1, .invokevirtual 210, 3), (4, .aload_n 0, 1), (5, .getfield 40, 3), (8, .aload_n 0, 1), (9, .getfield 33, 3), (12, .invokevirtual 235, 3), (15, .aload_n 0, 1), (16, .aload_n 0, 1), (17, .getfield 40, 3), (20, .invokevirtual 245, 3), (23, .invokevirtual 242, 3), (26, .ireturn, 1)]
def gm_mX6_elementsByTrying : pM := (RX6, yX6_elementsByTrying, cX6_elementsByTrying, 1, (some .int), gm_cX6_elementsByTrying, [], gm_KX6)
def gm_cX6_region : List (Nat × Instr × Nat) := [(0, .aload_n 0, 1), (1, .invokevirtual 210, 3), (4, .aload_n 0, 1), (5, .getfield 40, 3), (8, .aload_n 0, 1), (9, .getfield 33, 3), (12, .invokevirtual 235, 3), (15, .aload_n 0, 1), (16, .aload_n 0, 1), (17, .getfield 40, 3), (20, .invokevirtual 239, 3), (23, .invokevirtual 242, 3), (26, .pop, 1), (27, .aload_n 0, 1), (28, .getfield 40, 3), (31, .iload_n 1, 1), (32, .invokevirtual 248, 3), (35, .istore_n 2, 1), (36, .iload_n 2, 1), (37, .iconst (-1), 1), (38, .if_icmp .ne 13, 3), (41, .new 69, 3), (44, .dup, 1), (45, .ldc 251, 2), (47, .invokespecial 73, 3), (50, .athrow, 1), (51, .iload_n 2, 1), (52, .ireturn, 1)]
def gm_mX6_region : pM := (RX6, yX6_region, cX6_region, 3, (some .int), gm_cX6_region, [], gm_KX6)
def gm_cX6_models : List (Nat × Instr × Nat) := [(0, .aload_n 0, 1), (1, .iload_n 1, 1), (2, .bipush 6, 2), (4, .invokevirtual 253, 3), (7, .aload_n 0, 1), (8, .getfield 33, 3), (11, .iload_n 1, 1), (12, .invokevirtual 257, 3), (15, .lreturn, 1)]
def gm_mX6_models : pM := (RX6, yX6_models, cX6_models, 2, (some .long), gm_cX6_models, [], gm_KX6)
def gm_cX6_modelsByTrying : List (Nat × Instr × Nat) := [(0, .aload_n 0, 1), (1, .iload_n 1, 1), (2, .iconst 3, 1), (3, .invokevirtual 253, 3), (6, .aload_n 0, 1), (7, .getfield 33, 3), (10, .iload_n 1, 1), (11, .invokevirtual 261, 3), (14, .lreturn, 1)]
def gm_mX6_modelsByTrying : pM := (RX6, yX6_modelsByTrying, cX6_modelsByTrying, 2, (some .long), gm_cX6_modelsByTrying, [], gm_KX6)
def gm_cX6_density : List (Nat × Instr × Nat) := [(0, .aload_n 0, 1), (1, .iload_n 1, 1), (2, .invokevirtual 56, 3), (5, .aload_n 0, 1), (6, .getfield 10, 3), (9, .iload_n 1, 1), (10, .invokevirtual 101, 3), (13, .invokestatic 104, 3), (16, .i2f, 1), (17, .ldc_w 264, 3), (20, .fdiv, 1), (21, .freturn, 1)]
def gm_mX6_density : pM := (RX6, yX6_density, cX6_density, 2, (some .float), gm_cX6_density, [], gm_KX6)
def gm_cX6_leastOrThrow : List (Nat × Instr × Nat) := [(0, .iload_n 1, 1), (1, .iconst (-1), 1), (2, .if_icmp .ne 14, 3), (5, .new 69, 3), (8, .dup, 1), (9, .ldc_w 265, 3), (12, .invokespecial 73, 3), (15, .athrow, 1), (16, .iload_n 1, 1), (17, .ireturn, 1)]
def gm_mX6_leastOrThrow : pM := (RX6, yX6_leastOrThrow, cX6_leastOrThrow, 2, (some .int), gm_cX6_leastOrThrow, [], gm_KX6)
def gm_cX6_checkElements : List (Nat × Instr × Nat) := [(0, .iload_n 1, 1), (1, .ifCond .lt 8, 3), (4, .iload_n 1, 1), (5, .iload_n 2, 1), (6, .if_icmp .le 14, 3), (9, .new 94, 3), (12, .dup, 1), (13, .ldc_w 267, 3), (16, .invokespecial 98, 3), (19, .athrow, 1), (20, .return_, 1)]
def gm_mX6_checkElements : pM := (RX6, yX6_checkElements, cX6_checkElements, 3, none, gm_cX6_checkElements, [], gm_KX6)
def gm_cX7_init : List (Nat × Instr × Nat) := [(0, .aload_n 0, 1), (1, .invokespecial 1, 3), (4, .aload_n 0, 1), (5, .bipush 120, 2), (7, .newarray .int, 2), (9, .putfield 7, 3), (12, .aload_n 0, 1), (13, .bipush 120, 2), (15, .newarray .int, 2), (17, .putfield 13, 3), (20, .aload_n 0, 1), (21, .bipush 120, 2), (23, .newarray .int, 2), (25, .putfield 16, 3), (28, .aload_n 0, 1), (29, .bipush 120, 2), (31, .newarray .int, 2), (33, .putfield 19, 3), (36, .aload_n 0, 1), (37, .bipush 120, 2), (39, .newarray .int, 2), (41, .putfield 22, 3), (44, .aload_n 0, 1), (45, .bipush 6, 2), (47, .newarray .int, 2), (49, .putfield 25, 3), (52, .aload_n 0, 1), (53, .bipush 6, 2), (55, .newarray .int, 2), (57, .putfield 28, 3), (60, .aload_n 0, 1), (61, .bipush 6, 2), (63, .newarray .int, 2), (65, .putfield 31, 3), (68, .aload_n 0, 1), (69, .sipush 160, 3), (72, .newarray .int, 2), (74, .putfield 34, 3), (77, .aload_n 0, 1), (78, .sipush 160, 3), (81, .newarray .int, 2), (83, .putfield 37, 3), (86, .aload_n 0, 1), (87, .bipush 8, 2), (89, .newarray .int, 2), (91, .putfield 40, 3), (94, .aload_n 0, 1), (95, .bipush 8, 2), (97, .newarray .int, 2), (99, .putfield 43, 3), (102, .return_, 1)]
def gm_mX7_init : pM := (RX7, yX7_init, cX7_init, 1, none, gm_cX7_init, [], gm_KX7)
def gm_cX7_thrown : List (Nat × Instr × Nat) := [(0, .aload_n 0, 1), (1, .getfield 46, 3), (4, .ireturn, 1)]
def gm_mX7_thrown : pM := (RX7, yX7_thrown, cX7_thrown, 1, (some .int), gm_cX7_thrown, [], gm_KX7)
def gm_cX7_fail : List (Nat × Instr × Nat) := [(0, .aload_n 0, 1), (1, .iload_n 1, 1), (2, .putfield 46, 3), (5, .iconst 0, 1), (6, .ireturn, 1)]
def gm_mX7_fail : pM := (RX7, yX7_fail, cX7_fail, 2, (some .int), gm_cX7_fail, [], gm_KX7)
def gm_cX7_isIn : List (Nat × Instr × Nat) := [(0, .iload_n 0, 1), (1, .iload_n 1, 1), (2, .if_icmp .lt 12, 3), (5, .iload_n 0, 1), (6, .iload_n 2, 1), (7, .if_icmp .gt 7, 3), (10, .iconst 1, 1), (11, .goto 4, 3), (14, .iconst 0, 1), (15, .ireturn, 1)]
def gm_mX7_isIn : pM := (RX7, yX7_isIn, cX7_isIn, 3, (some .boolean), gm_cX7_isIn, [], gm_KX7)
def gm_cX7_noTerm : List (Nat × Instr × Nat) := [(0, .aload_n 0, 1), (1, .iload_n 1, 1), (2, .iconst 0, 1), (3, .aload_n 0, 1), (4, .getfield 50, 3), (7, .iconst 1, 1), (8, .isub, 1), (9, .invokestatic 53, 3), (12, .ifCond .eq 7, 3), (15, .iconst 0, 1), (16, .goto 4, 3), (19, .iconst 1, 1), (20, .putfield 46, 3), (23, .aload_n 0, 1), (24, .getfield 46, 3), (27, .ifCond .eq 7, 3), (30, .iconst 1, 1), (31, .goto 4, 3), (34, .iconst 0, 1), (35, .ireturn, 1)]
def gm_mX7_noTerm : pM := (RX7, yX7_noTerm, cX7_noTerm, 2, (some .boolean), gm_cX7_noTerm, [], gm_KX7)
def gm_cX7_isPair : List (Nat × Instr × Nat) := [(0, .iload_n 0, 1), (1, .bipush 85, 2), (3, .if_icmp .eq 21, 3), (6, .iload_n 0, 1), (7, .bipush 73, 2), (9, .if_icmp .eq 15, 3), (12, .iload_n 0, 1), (13, .bipush 68, 2), (15, .if_icmp .eq 9, 3), (18, .iload_n 0, 1), (19, .bipush 83, 2), (21, .if_icmp .ne 7, 3), (24, .iconst 1, 1), (25, .goto 4, 3), (28, .iconst 0, 1), (29, .ireturn, 1)]
def gm_mX7_isPair : pM := (RX7, yX7_isPair, cX7_isPair, 1, (some .boolean), gm_cX7_isPair, [], gm_KX7)
def gm_cX7_letterCover : List (Nat × Instr × Nat) := [(0, .iconst 0, 1), (1, .istore_n 1, 1), (2, .iconst 0, 1), (3, .istore_n 2, 1), (4, .iload_n 2, 1), (5, .bipush 16, 2), (7, .if_icmp .ge 19, 3), (10, .iload_n 1, 1), (11, .iload_n 2, 1), (12, .iload_n 0, 1), (13, .ishr, 1), (14, .iconst 1, 1), (15, .iand, 1), (16, .iload_n 2, 1), (17, .ishl, 1), (18, .ior, 1), (19, .istore_n 1, 1), (20, .iinc 2 1, 3), (23, .goto (-19), 3), (26, .iload_n 1, 1), (27, .ireturn, 1)]
def gm_mX7_letterCover : pM := (RX7, yX7_letterCover, cX7_letterCover, 3, (some .int), gm_cX7_letterCover, [], gm_KX7)
def gm_cX7_covered : List (Nat × Instr × Nat) := [(0, .iload_n 1, 1), (1, .bipush 67, 2), (3, .if_icmp .ne 15, 3), (6, .ldc 57, 2), (8, .aload_n 0, 1), (9, .getfield 22, 3), (12, .iload_n 2, 1), (13, .iaload, 1), (14, .iconst (-1), 1), (15, .ixor, 1), (16, .iand, 1), (17, .ireturn, 1), (18, .iload_n 1, 1), (19, .bipush 85, 2), (21, .if_icmp .ne 17, 3), (24, .aload_n 0, 1), (25, .getfield 22, 3), (28, .iload_n 2, 1), (29, .iaload, 1), (30, .aload_n 0, 1), (31, .getfield 22, 3), (34, .iload_n 3, 1), (35, .iaload, 1), (36, .ior, 1), (37, .ireturn, 1), (38, .iload_n 1, 1), (39, .bipush 73, 2), (41, .if_icmp .ne 17, 3), (44, .aload_n 0, 1), (45, .getfield 22, 3), (48, .iload_n 2, 1), (49, .iaload, 1), (50, .aload_n 0, 1), (51, .getfield 22, 3), (54, .iload_n 3, 1), (55, .iaload, 1), (56, .iand, 1), (57, .ireturn, 1), (58, .iload_n 1, 1), (59, .bipush 68, 2), (61, .if_icmp .ne 19, 3), (64, .aload_n 0, 1), (65, .getfield 22, 3), (68, .iload_n 2, 1), (69, .iaload, 1), (70, .aload_n 0, 1), (71, .getfield 22, 3), (74, .iload_n 3, 1), (75, .iaload, 1), (76, .iconst (-1), 1), (77, .ixor, 1), (78, .iand, 1), (79, .ireturn, 1), (80, .iload_n 1, 1), (81, .bipush 83, 2), (83, .if_icmp .ne 17, 3), (86, .aload_n 0, 1), (87, .getfield 22, 3), (90, .iload_n 2, 1), (91, .iaload, 1), (92, .aload_n 0, 1), (93, .getfield 22, 3), (96, .iload_n 3, 1), (97, .iaload, 1), (98, .ixor, 1), (99, .ireturn, 1), (100, .iload_n 1, 1), (101, .bipush 48, 2), (103, .if_icmp .ne 7, 3), (106, .iconst 0, 1), (107, .goto 21, 3), (110, .iload_n 1, 1), (111, .bipush 49, 2), (113, .if_icmp .ne 8, 3), (116, .ldc 57, 2), (118, .goto 10, 3), (121, .iload_n 1, 1), (122, .bipush 97, 2), (124, .isub, 1), (125, .invokestatic 58, 3), (128, .ireturn, 1)]
def gm_mX7_covered : pM := (RX7, yX7_covered, cX7_covered, 4, (some .int), gm_cX7_covered, [], gm_KX7)
def gm_cX7_know : List (Nat × Instr × Nat) := [(0, .iconst 0, 1), (1, .istore 4, 2), (3, .iload 4, 2), (5, .aload_n 0, 1), (6, .getfield 50, 3), (9, .if_icmp .ge 45, 3), (12, .aload_n 0, 1), (13, .getfield 7, 3), (16, .iload 4, 2), (18, .iaload, 1), (19, .iload_n 1, 1), (20, .if_icmp .ne 28, 3), (23, .aload_n 0, 1), (24, .getfield 13, 3), (27, .iload 4, 2), (29, .iaload, 1), (30, .iload_n 2, 1), (31, .if_icmp .ne 17, 3), (34, .aload_n 0, 1), (35, .getfield 16, 3), (38, .iload 4, 2), (40, .iaload, 1), (41, .iload_n 3, 1), (42, .if_icmp .ne 6, 3), (45, .iload 4, 2), (47, .ireturn, 1), (48, .iinc 4 1, 3), (51, .goto (-48), 3), (54, .aload_n 0, 1), (55, .getfield 50, 3), (58, .bipush 120, 2), (60, .if_icmp .ne 5, 3), (63, .iconst (-1), 1), (64, .ireturn, 1), (65, .aload_n 0, 1), (66, .getfield 7, 3), (69, .aload_n 0, 1), (70, .getfield 50, 3), (73, .iload_n 1, 1), (74, .iastore, 1), (75, .aload_n 0, 1), (76, .getfield 13, 3), (79, .aload_n 0, 1), (80, .getfield 50, 3), (83, .iload_n 2, 1), (84, .iastore, 1), (85, .aload_n 0, 1), (86, .getfield 16, 3), (89, .aload_n 0, 1), (90, .getfield 50, 3), (93, .iload_n 3, 1), (94, .iastore, 1), (95, .aload_n 0, 1), (96, .getfield 19, 3), (99, .aload_n 0, 1), (100, .getfield 50, 3), (103, .iconst 1, 1), (104, .iload_n 2, 1), (105, .ifCond .ge 7, 3), (108, .iconst 0, 1), (109, .goto 9, 3), (112, .aload_n 0, 1), (113, .getfield 19, 3), (116, .iload_n 2, 1), (117, .iaload, 1), (118, .iadd, 1), (119, .iload_n 3, 1), (120, .ifCond .ge 7, 3), (123, .iconst 0, 1), (124, .goto 9, 3), (127, .aload_n 0, 1), (128, .getfield 19, 3), (131, .iload_n 3, 1), (132, .iaload, 1), (133, .iadd, 1), (134, .iastore, 1), (135, .aload_n 0, 1), (136, .getfield 22, 3), (139, .aload_n 0, 1), (140, .getfield 50, 3), (143, .aload_n 0, 1), (144, .iload_n 1, 1), (145, .iload_n 2, 1), (146, .iload_n 3, 1), (147, .invokevirtual 62, 3), (150, .iastore, 1), (151, .aload_n 0, 1), (152, .dup, 1), (153, .getfield 50, 3), (156, .dup_x1, 1), (157, .iconst 1, 1), (158, .iadd, 1), (159, .putfield 50, 3), (162, .ireturn, 1)]
def gm_mX7_know : pM := (RX7, yX7_know, cX7_know, 5, (some .int), gm_cX7_know, [], gm_KX7)
def gm_cX7_makes : List (Nat × Instr × Nat) := [(0, .iload_n 2, 1), (1, .ifCond .ge 7, 3), (4, .iconst 0, 1), (5, .goto 9, 3), (8, .aload_n 0, 1), (9, .getfield 19, 3), (12, .iload_n 2, 1), (13, .iaload, 1), (14, .iload_n 3, 1), (15, .ifCond .ge 7, 3), (18, .iconst 0, 1), (19, .goto 9, 3), (22, .aload_n 0, 1), (23, .getfield 19, 3), (26, .iload_n 3, 1), (27, .iaload, 1), (28, .iadd, 1), (29, .bipush 40, 2), (31, .if_icmp .lt 10, 3), (34, .aload_n 0, 1), (35, .iload 4, 2), (37, .invokevirtual 66, 3), (40, .ireturn, 1), (41, .aload_n 0, 1), (42, .iload_n 1, 1), (43, .iload_n 2, 1), (44, .iload_n 3, 1), (45, .invokevirtual 69, 3), (48, .istore 5, 2), (50, .aload_n 0, 1), (51, .iload 5, 2), (53, .ifCond .ge 8, 3), (56, .iload 4, 2), (58, .goto 4, 3), (61, .iconst 0, 1), (62, .putfield 46, 3), (65, .iload 5, 2), (67, .ifCond .ge 7, 3), (70, .iconst 0, 1), (71, .goto 5, 3), (74, .iload 5, 2), (76, .ireturn, 1)]
def gm_mX7_makes : pM := (RX7, yX7_makes, cX7_makes, 6, (some .int), gm_cX7_makes, [], gm_KX7)
def gm_cX7_letter : List (Nat × Instr × Nat) := [(0, .iload_n 1, 1), (1, .iconst 0, 1), (2, .iconst 3, 1), (3, .invokestatic 53, 3), (6, .ifCond .ne 9, 3), (9, .aload_n 0, 1), (10, .iconst 1, 1), (11, .invokevirtual 66, 3), (14, .ireturn, 1), (15, .aload_n 0, 1), (16, .bipush 97, 2), (18, .iload_n 1, 1), (19, .iadd, 1), (20, .iconst (-1), 1), (21, .iconst (-1), 1), (22, .iconst 2, 1), (23, .invokevirtual 72, 3), (26, .ireturn, 1)]
def gm_mX7_letter : pM := (RX7, yX7_letter, cX7_letter, 2, (some .int), gm_cX7_letter, [], gm_KX7)
def gm_cX7_empty : List (Nat × Instr × Nat) := [(0, .aload_n 0, 1), (1, .bipush 48, 2), (3, .iconst (-1), 1), (4, .iconst (-1), 1), (5, .iconst 1, 1), (6, .invokevirtual 72, 3), (9, .ireturn, 1)]
def gm_mX7_empty : pM := (RX7, yX7_empty, cX7_empty, 1, (some .int), gm_cX7_empty, [], gm_KX7)
def gm_cX7_universe : List (Nat × Instr × Nat) := [(0, .aload_n 0, 1), (1, .bipush 49, 2), (3, .iconst (-1), 1), (4, .iconst (-1), 1), (5, .iconst 1, 1), (6, .invokevirtual 72, 3), (9, .ireturn, 1)]
def gm_mX7_universe : pM := (RX7, yX7_universe, cX7_universe, 1, (some .int), gm_cX7_universe, [], gm_KX7)
def gm_cX7_complement : List (Nat × Instr × Nat) := [(0, .aload_n 0, 1), (1, .iload_n 1, 1), (2, .invokevirtual 76, 3), (5, .ifCond .eq 5, 3), (8, .iconst 0, 1), (9, .ireturn, 1), (10, .aload_n 0, 1), (11, .bipush 67, 2), (13, .iload_n 1, 1), (14, .iconst (-1), 1), (15, .iconst 2, 1), (16, .invokevirtual 72, 3), (19, .ireturn, 1)]
def gm_mX7_complement : pM := (RX7, yX7_complement, cX7_complement, 2, (some .int), gm_cX7_complement, [], gm_KX7)
def gm_cX7_pair : List (Nat × Instr × Nat) := [(0, .aload_n 0, 1), (1, .iload_n 2, 1), (2, .invokevirtual 76, 3), (5, .ifCond .ne 11, 3), (8, .aload_n 0, 1), (9, .iload_n 3, 1), (10, .invokevirtual 76, 3), (13, .ifCond .eq 5, 3), (16, .iconst 0, 1), (17, .ireturn, 1), (18, .aload_n 0, 1), (19, .iload_n 1, 1), (20, .iload_n 2, 1), (21, .iload_n 3, 1), (22, .iconst 2, 1), (23, .invokevirtual 72, 3), (26, .ireturn, 1)]
def gm_mX7_pair : pM := (RX7, yX7_pair, cX7_pair, 4, (some .int), gm_cX7_pair, [], gm_KX7)
def gm_cX7_union : List (Nat × Instr × Nat) := [(0, .aload_n 0, 1), (1, .bipush 85, 2), (3, .iload_n 1, 1), (4, .iload_n 2, 1), (5, .invokevirtual 80, 3), (8, .ireturn, 1)]
def gm_mX7_union : pM := (RX7, yX7_union, cX7_union, 3, (some .int), gm_cX7_union, [], gm_KX7)
def gm_cX7_intersection : List (Nat × Instr × Nat) := [(0, .aload_n 0, 1), (1, .bipush 73, 2), (3, .iload_n 1, 1), (4, .iload_n 2, 1), (5, .invokevirtual 80, 3), (8, .ireturn, 1)]
def gm_mX7_intersection : pM := (RX7, yX7_intersection, cX7_intersection, 3, (some .int), gm_cX7_intersection, [], gm_KX7)
def gm_cX7_difference : List (Nat × Instr × Nat) := [(0, .aload_n 0, 1), (1, .bipush 68, 2), (3, .iload_n 1, 1), (4, .iload_n 2, 1), (5, .invokevirtual 80, 3), (8, .ireturn, 1)]
def gm_mX7_difference : pM := (RX7, yX7_difference, cX7_difference, 3, (some .int), gm_cX7_difference, [], gm_KX7)
def gm_cX7_symmetric : List (Nat × Instr × Nat) := [(0, .aload_n 0, 1), (1, .bipush 83, 2), (3, .iload_n 1, 1), (4, .iload_n 2, 1), (5, .invokevirtual 80, 3), (8, .ireturn, 1)]
def gm_mX7_symmetric : pM := (RX7, yX7_symmetric, cX7_symmetric, 3, (some .int), gm_cX7_symmetric, [], gm_KX7)
def gm_cX7_terms : List (Nat × Instr × Nat) := [(0, .aload_n 0, 1), (1, .getfield 50, 3), (4, .ireturn, 1)]
def gm_mX7_terms : pM := (RX7, yX7_terms, cX7_terms, 1, (some .int), gm_cX7_terms, [], gm_KX7)
def gm_cX7_size : List (Nat × Instr × Nat) := [(0, .aload_n 0, 1), (1, .iload_n 1, 1), (2, .invokevirtual 76, 3), (5, .ifCond .eq 7, 3), (8, .iconst 0, 1), (9, .goto 9, 3), (12, .aload_n 0, 1), (13, .getfield 19, 3), (16, .iload_n 1, 1), (17, .iaload, 1), (18, .ireturn, 1)]
def gm_mX7_size : pM := (RX7, yX7_size, cX7_size, 2, (some .int), gm_cX7_size, [], gm_KX7)
def gm_cX7_write : List (Nat × Instr × Nat) := [(0, .aload_n 0, 1), (1, .getfield 34, 3), (4, .aload_n 0, 1), (5, .dup, 1), (6, .getfield 83, 3), (9, .dup_x1, 1), (10, .iconst 1, 1), (11, .iadd, 1), (12, .putfield 83, 3), (15, .aload_n 0, 1), (16, .getfield 7, 3), (19, .iload_n 1, 1), (20, .iaload, 1), (21, .iastore, 1), (22, .aload_n 0, 1), (23, .getfield 13, 3), (26, .iload_n 1, 1), (27, .iaload, 1), (28, .ifCond .lt 13, 3), (31, .aload_n 0, 1), (32, .aload_n 0, 1), (33, .getfield 13, 3), (36, .iload_n 1, 1), (37, .iaload, 1), (38, .invokevirtual 86, 3), (41, .aload_n 0, 1), (42, .getfield 16, 3), (45, .iload_n 1, 1), (46, .iaload, 1), (47, .ifCond .lt 13, 3), (50, .aload_n 0, 1), (51, .aload_n 0, 1), (52, .getfield 16, 3), (55, .iload_n 1, 1), (56, .iaload, 1), (57, .invokevirtual 86, 3), (60, .return_, 1)]
def gm_mX7_write : pM := (RX7, yX7_write, cX7_write, 2, none, gm_cX7_write, [], gm_KX7)
def gm_cX7_spell : List (Nat × Instr × Nat) := [(0, .aload_n 0, 1), (1, .iconst 0, 1), (2, .putfield 83, 3), (5, .aload_n 0, 1), (6, .iload_n 1, 1), (7, .invokevirtual 86, 3), (10, .return_, 1)]
def gm_mX7_spell : pM := (RX7, yX7_spell, cX7_spell, 2, none, gm_cX7_spell, [], gm_KX7)
def gm_cX7_symbol : List (Nat × Instr × Nat) := [(0, .aload_n 0, 1), (1, .iload_n 1, 1), (2, .invokevirtual 76, 3), (5, .ifCond .eq 6, 3), (8, .bipush 97, 2), (10, .ireturn, 1), (11, .aload_n 0, 1), (12, .iload_n 2, 1), (13, .iconst 0, 1), (14, .aload_n 0, 1), (15, .getfield 19, 3), (18, .iload_n 1, 1), (19, .iaload, 1), (20, .iconst 1, 1), (21, .isub, 1), (22, .invokestatic 53, 3), (25, .ifCond .eq 7, 3), (28, .iconst 0, 1), (29, .goto 4, 3), (32, .iconst 2, 1), (33, .putfield 46, 3), (36, .aload_n 0, 1), (37, .getfield 46, 3), (40, .ifCond .eq 6, 3), (43, .bipush 97, 2), (45, .ireturn, 1), (46, .aload_n 0, 1), (47, .iload_n 1, 1), (48, .invokevirtual 90, 3), (51, .aload_n 0, 1), (52, .getfield 34, 3), (55, .iload_n 2, 1), (56, .iaload, 1), (57, .i2c, 1), (58, .ireturn, 1)]
def gm_mX7_symbol : pM := (RX7, yX7_symbol, cX7_symbol, 3, (some .char), gm_cX7_symbol, [], gm_KX7)
def gm_cX7_regions : List (Nat × Instr × Nat) := [(0, .aload_n 0, 1), (1, .iload_n 1, 1), (2, .invokevirtual 76, 3), (5, .ifCond .eq 7, 3), (8, .iconst 0, 1), (9, .goto 12, 3), (12, .aload_n 0, 1), (13, .getfield 22, 3), (16, .iload_n 1, 1), (17, .iaload, 1), (18, .invokestatic 93, 3), (21, .ireturn, 1)]
def gm_mX7_regions : pM := (RX7, yX7_regions, cX7_regions, 2, (some .int), gm_cX7_regions, [], gm_KX7)
def gm_cX7_covers : List (Nat × Instr × Nat) := [(0, .aload_n 0, 1), (1, .iload_n 1, 1), (2, .invokevirtual 76, 3), (5, .ifCond .eq 5, 3), (8, .iconst 0, 1), (9, .ireturn, 1), (10, .aload_n 0, 1), (11, .iload_n 2, 1), (12, .iconst 0, 1), (13, .bipush 15, 2), (15, .invokestatic 53, 3), (18, .ifCond .eq 7, 3), (21, .iconst 0, 1), (22, .goto 4, 3), (25, .iconst 2, 1), (26, .putfield 46, 3), (29, .aload_n 0, 1), (30, .getfield 46, 3), (33, .ifCond .ne 21, 3), (36, .aload_n 0, 1), (37, .getfield 22, 3), (40, .iload_n 1, 1), (41, .iaload, 1), (42, .iload_n 2, 1), (43, .ishr, 1), (44, .iconst 1, 1), (45, .iand, 1), (46, .iconst 1, 1), (47, .if_icmp .ne 7, 3), (50, .iconst 1, 1), (51, .goto 4, 3), (54, .iconst 0, 1), (55, .ireturn, 1)]
def gm_mX7_covers : pM := (RX7, yX7_covers, cX7_covers, 3, (some .boolean), gm_cX7_covers, [], gm_KX7)
def gm_cX7_coversByTerm : List (Nat × Instr × Nat) := [(0, .aload_n 0, 1), (1, .iload_n 1, 1), (2, .iload_n 2, 1), (3, .invokevirtual 98, 3), (6, .ireturn, 1)]
def gm_mX7_coversByTerm : pM := (RX7, yX7_coversByTerm, cX7_coversByTerm, 3, (some .boolean), gm_cX7_coversByTerm, [], gm_KX7)
def gm_cX7_isEqual : List (Nat × Instr × Nat) := [(0, .aload_n 0, 1), (1, .iload_n 1, 1), (2, .invokevirtual 76, 3), (5, .ifCond .ne 30, 3), (8, .aload_n 0, 1), (9, .iload_n 2, 1), (10, .invokevirtual 76, 3), (13, .ifCond .ne 22, 3), (16, .aload_n 0, 1), (17, .getfield 22, 3), (20, .iload_n 1, 1), (21, .iaload, 1), (22, .aload_n 0, 1), (23, .getfield 22, 3), (26, .iload_n 2, 1), (27, .iaload, 1), (28, .if_icmp .ne 7, 3), (31, .iconst 1, 1), (32, .goto 4, 3), (35, .iconst 0, 1), (36, .ireturn, 1)]
def gm_mX7_isEqual : pM := (RX7, yX7_isEqual, cX7_isEqual, 3, (some .boolean), gm_cX7_isEqual, [], gm_KX7)
def gm_cX7_behind : List (Nat × Instr × Nat) := [(0, .iconst 1, 1), (1, .istore_n 2, 1), (2, .iload_n 1, 1), (3, .istore_n 3, 1), (4, .iload_n 2, 1), (5, .ifCond .le 44, 3), (8, .iload_n 2, 1), (9, .aload_n 0, 1), (10, .getfield 34, 3), (13, .iload_n 3, 1), (14, .iaload, 1), (15, .invokestatic 102, 3), (18, .ifCond .eq 7, 3), (21, .iconst 1, 1), (22, .goto 19, 3), (25, .aload_n 0, 1), (26, .getfield 34, 3), (29, .iload_n 3, 1), (30, .iaload, 1), (31, .bipush 67, 2), (33, .if_icmp .ne 7, 3), (36, .iconst 0, 1), (37, .goto 4, 3), (40, .iconst (-1), 1), (41, .iadd, 1), (42, .istore_n 2, 1), (43, .iinc 3 1, 3), (46, .goto (-42), 3), (49, .iload_n 3, 1), (50, .ireturn, 1)]
def gm_mX7_behind : pM := (RX7, yX7_behind, cX7_behind, 4, (some .int), gm_cX7_behind, [], gm_KX7)
def gm_cX7_isSame : List (Nat × Instr × Nat) := [(0, .aload_n 0, 1), (1, .iload_n 1, 1), (2, .invokevirtual 105, 3), (5, .iload_n 1, 1), (6, .isub, 1), (7, .istore_n 3, 1), (8, .aload_n 0, 1), (9, .iload_n 2, 1), (10, .invokevirtual 105, 3), (13, .iload_n 2, 1), (14, .isub, 1), (15, .iload_n 3, 1), (16, .if_icmp .eq 5, 3), (19, .iconst 0, 1), (20, .ireturn, 1), (21, .iconst 0, 1), (22, .istore 4, 2), (24, .iload 4, 2), (26, .iload_n 3, 1), (27, .if_icmp .ge 32, 3), (30, .aload_n 0, 1), (31, .getfield 34, 3), (34, .iload_n 1, 1), (35, .iload 4, 2), (37, .iadd, 1), (38, .iaload, 1), (39, .aload_n 0, 1), (40, .getfield 34, 3), (43, .iload_n 2, 1), (44, .iload 4, 2), (46, .iadd, 1), (47, .iaload, 1), (48, .if_icmp .eq 5, 3), (51, .iconst 0, 1), (52, .ireturn, 1), (53, .iinc 4 1, 3), (56, .goto (-32), 3), (59, .iconst 1, 1), (60, .ireturn, 1)]
def gm_mX7_isSame : pM := (RX7, yX7_isSame, cX7_isSame, 5, (some .boolean), gm_cX7_isSame, [], gm_KX7)
def gm_cX7_ruleAt : List (Nat × Instr × Nat) := [(0, .aload_n 0, 1), (1, .getfield 34, 3), (4, .iload_n 1, 1), (5, .iaload, 1), (6, .istore_n 2, 1), (7, .iload_n 1, 1), (8, .iconst 1, 1), (9, .iadd, 1), (10, .istore_n 3, 1), (11, .iload_n 2, 1), (12, .bipush 67, 2), (14, .if_icmp .ne 74, 3), (17, .aload_n 0, 1), (18, .getfield 34, 3), (21, .iload_n 3, 1), (22, .iaload, 1), (23, .istore 4, 2), (25, .iload 4, 2), (27, .bipush 67, 2), (29, .if_icmp .ne 8, 3), (32, .bipush 110, 2), (34, .goto 53, 3), (37, .iload 4, 2), (39, .bipush 48, 2), (41, .if_icmp .ne 8, 3), (44, .bipush 101, 2), (46, .goto 41, 3), (49, .iload 4, 2), (51, .bipush 49, 2), (53, .if_icmp .ne 8, 3), (56, .bipush 118, 2), (58, .goto 29, 3), (61, .iload 4, 2), (63, .bipush 85, 2), (65, .if_icmp .ne 8, 3), (68, .bipush 117, 2), (70, .goto 17, 3), (73, .iload 4, 2), (75, .bipush 73, 2), (77, .if_icmp .ne 8, 3), (80, .bipush 105, 2), (82, .goto 5, 3), (85, .bipush 32, 2), (87, .ireturn, 1), (88, .iload_n 2, 1), (89, .bipush 68, 2), (91, .if_icmp .ne 6, 3), (94, .bipush 100, 2), (96, .ireturn, 1), (97, .iload_n 2, 1), (98, .bipush 83, 2), (100, .if_icmp .ne 6, 3), (103, .bipush 115, 2), (105, .ireturn, 1), (106, .iload_n 2, 1), (107, .bipush 73, 2), (109, .if_icmp .eq 12, 3), (112, .iload_n 2, 1), (113, .bipush 85, 2), (115, .if_icmp .eq 6, 3), (118, .bipush 32, 2), (120, .ireturn, 1), (121, .aload_n 0, 1), (122, .iload_n 3, 1), (123, .invokevirtual 105, 3), (126, .istore 4, 2), (128, .aload_n 0, 1), (129, .getfield 34, 3), (132, .iload_n 3, 1), (133, .iaload, 1), (134, .bipush 48, 2), (136, .if_icmp .eq 15, 3), (139, .aload_n 0, 1), (140, .getfield 34, 3), (143, .iload 4, 2), (145, .iaload, 1), (146, .bipush 48, 2), (148, .if_icmp .ne 7, 3), (151, .iconst 1, 1), (152, .goto 4, 3), (155, .iconst 0, 1), (156, .istore 5, 2), (158, .aload_n 0, 1), (159, .getfield 34, 3), (162, .iload_n 3, 1), (163, .iaload, 1), (164, .bipush 49, 2), (166, .if_icmp .eq 15, 3), (169, .aload_n 0, 1), (170, .getfield 34, 3), (173, .iload 4, 2), (175, .iaload, 1), (176, .bipush 49, 2), (178, .if_icmp .ne 7, 3), (181, .iconst 1, 1), (182, .goto 4, 3), (185, .iconst 0, 1), (186, .istore 6, 2), (188, .iload 5, 2), (190, .ifCond .eq 17, 3), (193, .iload_n 2, 1), (194, .bipush 73, 2), (196, .if_icmp .ne 8, 3), (199, .bipush 122, 2), (201, .goto 5, 3), (204, .bipush 121, 2), (206, .ireturn, 1), (207, .iload 6, 2), (209, .ifCond .eq 17, 3), (212, .iload_n 2, 1), (213, .bipush 73, 2), (215, .if_icmp .ne 8, 3), (218, .bipush 111, 2), (220, .goto 5, 3), (223, .bipush 116, 2), (225, .ireturn, 1), (226, .aload_n 0, 1), (227, .iload_n 3, 1), (228, .iload 4, 2), (230, .invokevirtual 108, 3), (233, .ifCond .eq 6, 3), (236, .bipush 112, 2), (238, .ireturn, 1), (239, .aload_n 0, 1), (240, .getfield 34, 3), (243, .iload_n 3, 1), (244, .iaload, 1), (245, .bipush 67, 2), (247, .if_icmp .ne 15, 3), (250, .aload_n 0, 1), (251, .iload_n 3, 1), (252, .iconst 1, 1), (253, .iadd, 1), (254, .iload 4, 2), (256, .invokevirtual 108, 3), (259, .ifCond .ne 27, 3), (262, .aload_n 0, 1), (263, .getfield 34, 3), (266, .iload 4, 2), (268, .iaload, 1), (269, .bipush 67, 2), (271, .if_icmp .ne 20, 3), (274, .aload_n 0, 1), (275, .iload_n 3, 1), (276, .iload 4, 2), (278, .iconst 1, 1), (279, .iadd, 1), (280, .invokevirtual 108, 3), (283, .ifCond .eq 8, 3), (286, .bipush 99, 2), (288, .goto 5, 3), (291, .bipush 32, 2), (293, .ireturn, 1)]
def gm_mX7_ruleAt : pM := (RX7, yX7_ruleAt, cX7_ruleAt, 7, (some .int), gm_cX7_ruleAt, [], gm_KX7)
def gm_cX7_place : List (Nat × Instr × Nat) := [(0, .iconst 0, 1), (1, .istore_n 1, 1), (2, .iload_n 1, 1), (3, .aload_n 0, 1), (4, .getfield 83, 3), (7, .if_icmp .ge 21, 3), (10, .aload_n 0, 1), (11, .iload_n 1, 1), (12, .invokevirtual 111, 3), (15, .bipush 32, 2), (17, .if_icmp .eq 5, 3), (20, .iload_n 1, 1), (21, .ireturn, 1), (22, .iinc 1 1, 3), (25, .goto (-23), 3), (28, .iconst (-1), 1), (29, .ireturn, 1)]
def gm_mX7_place : pM := (RX7, yX7_place, cX7_place, 2, (some .int), gm_cX7_place, [], gm_KX7)
def gm_cX7_puts : List (Nat × Instr × Nat) := [(0, .aload_n 0, 1), (1, .getfield 37, 3), (4, .aload_n 0, 1), (5, .dup, 1), (6, .getfield 114, 3), (9, .dup_x1, 1), (10, .iconst 1, 1), (11, .iadd, 1), (12, .putfield 114, 3), (15, .iload_n 1, 1), (16, .iastore, 1), (17, .return_, 1)]
def gm_mX7_puts : pM := (RX7, yX7_puts, cX7_puts, 2, none, gm_cX7_puts, [], gm_KX7)
def gm_cX7_copies : List (Nat × Instr × Nat) := [(0, .iload_n 1, 1), (1, .istore_n 3, 1), (2, .iload_n 3, 1), (3, .iload_n 2, 1), (4, .if_icmp .ge 31, 3), (7, .aload_n 0, 1), (8, .getfield 37, 3), (11, .aload_n 0, 1), (12, .dup, 1), (13, .getfield 114, 3), (16, .dup_x1, 1), (17, .iconst 1, 1), (18, .iadd, 1), (19, .putfield 114, 3), (22, .aload_n 0, 1), (23, .getfield 34, 3), (26, .iload_n 3, 1), (27, .iaload, 1), (28, .iastore, 1), (29, .iinc 3 1, 3), (32, .goto (-30), 3), (35, .return_, 1)]
def gm_mX7_copies : pM := (RX7, yX7_copies, cX7_copies, 4, none, gm_cX7_copies, [], gm_KX7)
def gm_cX7_rewrite : List (Nat × Instr × Nat) := [(0, .aload_n 0, 1), (1, .iload_n 1, 1), (2, .invokevirtual 111, 3), (5, .istore_n 2, 1), (6, .aload_n 0, 1), (7, .getfield 34, 3), (10, .iload_n 1, 1), (11, .iaload, 1), (12, .istore_n 3, 1), (13, .iload_n 1, 1), (14, .iconst 1, 1), (15, .iadd, 1), (16, .istore 4, 2), (18, .aload_n 0, 1), (19, .iload_n 1, 1), (20, .invokevirtual 105, 3), (23, .istore 5, 2), (25, .aload_n 0, 1), (26, .iconst 0, 1), (27, .putfield 114, 3), (30, .aload_n 0, 1), (31, .iconst 0, 1), (32, .iload_n 1, 1), (33, .invokevirtual 117, 3), (36, .iload_n 2, 1), (37, .bipush 110, 2), (39, .if_icmp .ne 16, 3), (42, .aload_n 0, 1), (43, .iload 4, 2), (45, .iconst 1, 1), (46, .iadd, 1), (47, .iload 5, 2), (49, .invokevirtual 117, 3), (52, .goto 398, 3), (55, .iload_n 2, 1), (56, .bipush 101, 2), (58, .if_icmp .ne 12, 3), (61, .aload_n 0, 1), (62, .bipush 49, 2), (64, .invokevirtual 121, 3), (67, .goto 383, 3), (70, .iload_n 2, 1), (71, .bipush 118, 2), (73, .if_icmp .ne 12, 3), (76, .aload_n 0, 1), (77, .bipush 48, 2), (79, .invokevirtual 121, 3), (82, .goto 368, 3), (85, .iload_n 2, 1), (86, .bipush 117, 2), (88, .if_icmp .eq 9, 3), (91, .iload_n 2, 1), (92, .bipush 105, 2), (94, .if_icmp .ne 63, 3), (97, .aload_n 0, 1), (98, .iload 4, 2), (100, .iconst 1, 1), (101, .iadd, 1), (102, .invokevirtual 105, 3), (105, .istore 6, 2), (107, .aload_n 0, 1), (108, .iload_n 2, 1), (109, .bipush 117, 2), (111, .if_icmp .ne 8, 3), (114, .bipush 73, 2), (116, .goto 5, 3), (119, .bipush 85, 2), (121, .invokevirtual 121, 3), (124, .aload_n 0, 1), (125, .bipush 67, 2), (127, .invokevirtual 121, 3), (130, .aload_n 0, 1), (131, .iload 4, 2), (133, .iconst 1, 1), (134, .iadd, 1), (135, .iload 6, 2), (137, .invokevirtual 117, 3), (140, .aload_n 0, 1), (141, .bipush 67, 2), (143, .invokevirtual 121, 3), (146, .aload_n 0, 1), (147, .iload 6, 2), (149, .iload 5, 2), (151, .invokevirtual 117, 3), (154, .goto 296, 3), (157, .aload_n 0, 1), (158, .iload 4, 2), (160, .invokevirtual 105, 3), (163, .istore 6, 2), (165, .aload_n 0, 1), (166, .getfield 34, 3), (169, .iload 4, 2), (171, .iaload, 1), (172, .bipush 48, 2), (174, .if_icmp .eq 15, 3), (177, .aload_n 0, 1), (178, .getfield 34, 3), (181, .iload 4, 2), (183, .iaload, 1), (184, .bipush 49, 2), (186, .if_icmp .ne 7, 3), (189, .iconst 1, 1), (190, .goto 4, 3), (193, .iconst 0, 1), (194, .istore 7, 2), (196, .iload_n 2, 1), (197, .bipush 100, 2), (199, .if_icmp .ne 34, 3), (202, .aload_n 0, 1), (203, .bipush 73, 2), (205, .invokevirtual 121, 3), (208, .aload_n 0, 1), (209, .iload 4, 2), (211, .iload 6, 2), (213, .invokevirtual 117, 3), (216, .aload_n 0, 1), (217, .bipush 67, 2), (219, .invokevirtual 121, 3), (222, .aload_n 0, 1), (223, .iload 6, 2), (225, .iload 5, 2), (227, .invokevirtual 117, 3), (230, .goto 220, 3), (233, .iload_n 2, 1), (234, .bipush 115, 2), (236, .if_icmp .ne 48, 3), (239, .aload_n 0, 1), (240, .bipush 85, 2), (242, .invokevirtual 121, 3), (245, .aload_n 0, 1), (246, .bipush 68, 2), (248, .invokevirtual 121, 3), (251, .aload_n 0, 1), (252, .iload 4, 2), (254, .iload 5, 2), (256, .invokevirtual 117, 3), (259, .aload_n 0, 1), (260, .bipush 68, 2), (262, .invokevirtual 121, 3), (265, .aload_n 0, 1), (266, .iload 6, 2), (268, .iload 5, 2), (270, .invokevirtual 117, 3), (273, .aload_n 0, 1), (274, .iload 4, 2), (276, .iload 6, 2), (278, .invokevirtual 117, 3), (281, .goto 169, 3), (284, .iload_n 2, 1), (285, .bipush 122, 2), (287, .if_icmp .ne 12, 3), (290, .aload_n 0, 1), (291, .bipush 48, 2), (293, .invokevirtual 121, 3), (296, .goto 154, 3), (299, .iload_n 2, 1), (300, .bipush 116, 2), (302, .if_icmp .ne 12, 3), (305, .aload_n 0, 1), (306, .bipush 49, 2), (308, .invokevirtual 121, 3), (311, .goto 139, 3), (314, .iload_n 2, 1), (315, .bipush 99, 2), (317, .if_icmp .ne 23, 3), (320, .aload_n 0, 1), (321, .iload_n 3, 1), (322, .bipush 73, 2), (324, .if_icmp .ne 8, 3), (327, .bipush 48, 2), (329, .goto 5, 3), (332, .bipush 49, 2), (334, .invokevirtual 121, 3), (337, .goto 113, 3), (340, .iload_n 2, 1), (341, .bipush 112, 2), (343, .if_icmp .ne 14, 3), (346, .aload_n 0, 1), (347, .iload 4, 2), (349, .iload 6, 2), (351, .invokevirtual 117, 3), (354, .goto 96, 3), (357, .iload_n 2, 1), (358, .bipush 111, 2), (360, .if_icmp .ne 48, 3), (363, .aload_n 0, 1), (364, .aload_n 0, 1), (365, .getfield 34, 3), (368, .iload 4, 2), (370, .iaload, 1), (371, .bipush 49, 2), (373, .if_icmp .ne 8, 3), (376, .iload 6, 2), (378, .goto 5, 3), (381, .iload 4, 2), (383, .aload_n 0, 1), (384, .getfield 34, 3), (387, .iload 4, 2), (389, .iaload, 1), (390, .bipush 49, 2), (392, .if_icmp .ne 8, 3), (395, .iload 5, 2), (397, .goto 5, 3), (400, .iload 6, 2), (402, .invokevirtual 117, 3), (405, .goto 45, 3), (408, .aload_n 0, 1), (409, .aload_n 0, 1), (410, .getfield 34, 3), (413, .iload 4, 2), (415, .iaload, 1), (416, .bipush 48, 2), (418, .if_icmp .ne 8, 3), (421, .iload 6, 2), (423, .goto 5, 3), (426, .iload 4, 2), (428, .aload_n 0, 1), (429, .getfield 34, 3), (432, .iload 4, 2), (434, .iaload, 1), (435, .bipush 48, 2), (437, .if_icmp .ne 8, 3), (440, .iload 5, 2), (442, .goto 5, 3), (445, .iload 6, 2), (447, .invokevirtual 117, 3), (450, .aload_n 0, 1), (451, .iload 5, 2), (453, .aload_n 0, 1), (454, .getfield 83, 3), (457, .invokevirtual 117, 3), (460, .aload_n 0, 1), (461, .getfield 114, 3), (464, .bipush 40, 2), (466, .if_icmp .le 5, 3), (469, .iconst 0, 1), (470, .ireturn, 1), (471, .iconst 0, 1), (472, .istore 6, 2), (474, .iload 6, 2), (476, .aload_n 0, 1), (477, .getfield 114, 3), (480, .if_icmp .ge 23, 3), (483, .aload_n 0, 1), (484, .getfield 34, 3), (487, .iload 6, 2), (489, .aload_n 0, 1), (490, .getfield 37, 3), (493, .iload 6, 2), (495, .iaload, 1), (496, .iastore, 1), (497, .iinc 6 1, 3), (500, .goto (-26), 3), (503, .aload_n 0, 1), (504, .aload_n 0, 1), (505, .getfield 114, 3), (508, .putfield 83, 3), (511, .iconst 1, 1), (512, .ireturn, 1)]
def gm_mX7_rewrite : pM := (RX7, yX7_rewrite, cX7_rewrite, 8, (some .boolean), gm_cX7_rewrite, [], gm_KX7)
def gm_cX7_parse : List (Nat × Instr × Nat) := [(0, .aload_n 0, 1), (1, .getfield 34, 3), (4, .aload_n 0, 1), (5, .dup, 1), (6, .getfield 124, 3), (9, .dup_x1, 1), (10, .iconst 1, 1), (11, .iadd, 1), (12, .putfield 124, 3), (15, .iaload, 1), (16, .istore_n 1, 1), (17, .iload_n 1, 1), (18, .bipush 67, 2), (20, .if_icmp .eq 18, 3), (23, .iload_n 1, 1), (24, .invokestatic 102, 3), (27, .ifCond .ne 11, 3), (30, .aload_n 0, 1), (31, .iload_n 1, 1), (32, .iconst (-1), 1), (33, .iconst (-1), 1), (34, .invokevirtual 69, 3), (37, .ireturn, 1), (38, .aload_n 0, 1), (39, .invokevirtual 127, 3), (42, .istore_n 2, 1), (43, .iload_n 2, 1), (44, .ifCond .ge 5, 3), (47, .iconst (-1), 1), (48, .ireturn, 1), (49, .iload_n 1, 1), (50, .bipush 67, 2), (52, .if_icmp .ne 7, 3), (55, .iconst (-1), 1), (56, .goto 7, 3), (59, .aload_n 0, 1), (60, .invokevirtual 127, 3), (63, .istore_n 3, 1), (64, .iload_n 1, 1), (65, .bipush 67, 2), (67, .if_icmp .eq 11, 3), (70, .iload_n 3, 1), (71, .ifCond .ge 7, 3), (74, .iconst (-1), 1), (75, .goto 10, 3), (78, .aload_n 0, 1), (79, .iload_n 1, 1), (80, .iload_n 2, 1), (81, .iload_n 3, 1), (82, .invokevirtual 69, 3), (85, .ireturn, 1)]
def gm_mX7_parse : pM := (RX7, yX7_parse, cX7_parse, 4, (some .int), gm_cX7_parse, [], gm_KX7)
def gm_cX7_learns : List (Nat × Instr × Nat) := [(0, .aload_n 0, 1), (1, .getfield 50, 3), (4, .istore_n 2, 1), (5, .aload_n 0, 1), (6, .iconst 0, 1), (7, .putfield 124, 3), (10, .aload_n 0, 1), (11, .invokevirtual 127, 3), (14, .istore_n 3, 1), (15, .aload_n 0, 1), (16, .iload_n 3, 1), (17, .ifCond .ge 7, 3), (20, .iload_n 1, 1), (21, .goto 4, 3), (24, .iconst 0, 1), (25, .putfield 46, 3), (28, .iload_n 3, 1), (29, .ifCond .lt 5, 3), (32, .iload_n 3, 1), (33, .ireturn, 1), (34, .aload_n 0, 1), (35, .iload_n 2, 1), (36, .putfield 50, 3), (39, .iconst 0, 1), (40, .ireturn, 1)]
def gm_mX7_learns : pM := (RX7, yX7_learns, cX7_learns, 4, (some .int), gm_cX7_learns, [], gm_KX7)
def gm_cX7_rule : List (Nat × Instr × Nat) := [(0, .aload_n 0, 1), (1, .iload_n 1, 1), (2, .invokevirtual 76, 3), (5, .ifCond .eq 6, 3), (8, .bipush 110, 2), (10, .ireturn, 1), (11, .aload_n 0, 1), (12, .iload_n 1, 1), (13, .invokevirtual 90, 3), (16, .aload_n 0, 1), (17, .invokevirtual 131, 3), (20, .istore_n 2, 1), (21, .aload_n 0, 1), (22, .iload_n 2, 1), (23, .ifCond .ge 7, 3), (26, .iconst 2, 1), (27, .goto 4, 3), (30, .iconst 0, 1), (31, .putfield 46, 3), (34, .iload_n 2, 1), (35, .ifCond .ge 8, 3), (38, .bipush 110, 2), (40, .goto 9, 3), (43, .aload_n 0, 1), (44, .iload_n 2, 1), (45, .invokevirtual 111, 3), (48, .i2c, 1), (49, .ireturn, 1)]
def gm_mX7_rule : pM := (RX7, yX7_rule, cX7_rule, 3, (some .char), gm_cX7_rule, [], gm_KX7)
def gm_cX7_step : List (Nat × Instr × Nat) := [(0, .aload_n 0, 1), (1, .iload_n 1, 1), (2, .invokevirtual 76, 3), (5, .ifCond .eq 5, 3), (8, .iconst 0, 1), (9, .ireturn, 1), (10, .aload_n 0, 1), (11, .iload_n 1, 1), (12, .invokevirtual 90, 3), (15, .aload_n 0, 1), (16, .invokevirtual 131, 3), (19, .istore_n 2, 1), (20, .iload_n 2, 1), (21, .ifCond .ge 9, 3), (24, .aload_n 0, 1), (25, .iconst 2, 1), (26, .invokevirtual 66, 3), (29, .ireturn, 1), (30, .aload_n 0, 1), (31, .iload_n 2, 1), (32, .invokevirtual 134, 3), (35, .ifCond .ne 9, 3), (38, .aload_n 0, 1), (39, .iconst 3, 1), (40, .invokevirtual 66, 3), (43, .ireturn, 1), (44, .aload_n 0, 1), (45, .iconst 4, 1), (46, .invokevirtual 137, 3), (49, .ireturn, 1)]
def gm_mX7_step : pM := (RX7, yX7_step, cX7_step, 3, (some .int), gm_cX7_step, [], gm_KX7)
def gm_cX7_steps : List (Nat × Instr × Nat) := [(0, .aload_n 0, 1), (1, .iload_n 1, 1), (2, .invokevirtual 76, 3), (5, .ifCond .eq 5, 3), (8, .iconst 0, 1), (9, .ireturn, 1), (10, .aload_n 0, 1), (11, .iload_n 1, 1), (12, .invokevirtual 90, 3), (15, .iconst 0, 1), (16, .istore_n 2, 1), (17, .aload_n 0, 1), (18, .invokevirtual 131, 3), (21, .istore_n 3, 1), (22, .iload_n 3, 1), (23, .ifCond .lt 22, 3), (26, .aload_n 0, 1), (27, .iload_n 3, 1), (28, .invokevirtual 134, 3), (31, .ifCond .eq 14, 3), (34, .iinc 2 1, 3), (37, .aload_n 0, 1), (38, .invokevirtual 131, 3), (41, .istore_n 3, 1), (42, .goto (-20), 3), (45, .iload_n 2, 1), (46, .ireturn, 1)]
def gm_mX7_steps : pM := (RX7, yX7_steps, cX7_steps, 4, (some .int), gm_cX7_steps, [], gm_KX7)
def gm_cX7_normalForm : List (Nat × Instr × Nat) := [(0, .aload_n 0, 1), (1, .iload_n 1, 1), (2, .invokevirtual 76, 3), (5, .ifCond .eq 5, 3), (8, .iconst 0, 1), (9, .ireturn, 1), (10, .aload_n 0, 1), (11, .iload_n 1, 1), (12, .invokevirtual 90, 3), (15, .aload_n 0, 1), (16, .invokevirtual 131, 3), (19, .istore_n 2, 1), (20, .iload_n 2, 1), (21, .ifCond .lt 25, 3), (24, .aload_n 0, 1), (25, .iload_n 2, 1), (26, .invokevirtual 134, 3), (29, .ifCond .ne 9, 3), (32, .aload_n 0, 1), (33, .iconst 2, 1), (34, .invokevirtual 66, 3), (37, .ireturn, 1), (38, .aload_n 0, 1), (39, .invokevirtual 131, 3), (42, .istore_n 2, 1), (43, .goto (-23), 3), (46, .aload_n 0, 1), (47, .iconst 3, 1), (48, .invokevirtual 137, 3), (51, .ireturn, 1)]
def gm_mX7_normalForm : pM := (RX7, yX7_normalForm, cX7_normalForm, 3, (some .int), gm_cX7_normalForm, [], gm_KX7)
def gm_cX7_cube : List (Nat × Instr × Nat) := [(0, .ldc 57, 2), (2, .istore_n 1, 1), (3, .iload_n 0, 1), (4, .istore_n 2, 1), (5, .iconst 3, 1), (6, .istore_n 3, 1), (7, .iload_n 3, 1), (8, .ifCond .lt 50, 3), (11, .iload_n 2, 1), (12, .iconst 3, 1), (13, .irem, 1), (14, .istore 4, 2), (16, .iload_n 2, 1), (17, .iconst 3, 1), (18, .idiv, 1), (19, .istore_n 2, 1), (20, .iload_n 1, 1), (21, .iload 4, 2), (23, .ifCond .ne 8, 3), (26, .ldc 57, 2), (28, .goto 22, 3), (31, .iload 4, 2), (33, .iconst 1, 1), (34, .if_icmp .ne 12, 3), (37, .iload_n 3, 1), (38, .invokestatic 58, 3), (41, .iconst (-1), 1), (42, .ixor, 1), (43, .goto 7, 3), (46, .iload_n 3, 1), (47, .invokestatic 58, 3), (50, .iand, 1), (51, .istore_n 1, 1), (52, .iinc 3 (-1), 3), (55, .goto (-48), 3), (58, .iload_n 1, 1), (59, .ireturn, 1)]
def gm_mX7_cube : pM := (RX7, yX7_cube, cX7_cube, 5, (some .int), gm_cX7_cube, [], gm_KX7)
def gm_cX7_isImplicant : List (Nat × Instr × Nat) := [(0, .iload_n 0, 1), (1, .invokestatic 140, 3), (4, .iload_n 1, 1), (5, .iconst (-1), 1), (6, .ixor, 1), (7, .iand, 1), (8, .ifCond .ne 7, 3), (11, .iconst 1, 1), (12, .goto 4, 3), (15, .iconst 0, 1), (16, .ireturn, 1)]
def gm_mX7_isImplicant : pM := (RX7, yX7_isImplicant, cX7_isImplicant, 2, (some .boolean), gm_cX7_isImplicant, [], gm_KX7)
def gm_cX7_isPrime : List (Nat × Instr × Nat) := [(0, .iload_n 0, 1), (1, .iload_n 1, 1), (2, .invokestatic 143, 3), (5, .ifCond .ne 5, 3), (8, .iconst 0, 1), (9, .ireturn, 1), (10, .iload_n 0, 1), (11, .invokestatic 140, 3), (14, .istore_n 2, 1), (15, .iconst 0, 1), (16, .istore_n 3, 1), (17, .iload_n 3, 1), (18, .bipush 81, 2), (20, .if_icmp .ge 35, 3), (23, .iload_n 3, 1), (24, .iload_n 0, 1), (25, .if_icmp .eq 24, 3), (28, .iload_n 3, 1), (29, .iload_n 1, 1), (30, .invokestatic 143, 3), (33, .ifCond .eq 16, 3), (36, .iload_n 2, 1), (37, .iload_n 3, 1), (38, .invokestatic 140, 3), (41, .iconst (-1), 1), (42, .ixor, 1), (43, .iand, 1), (44, .ifCond .ne 5, 3), (47, .iconst 0, 1), (48, .ireturn, 1), (49, .iinc 3 1, 3), (52, .goto (-35), 3), (55, .iconst 1, 1), (56, .ireturn, 1)]
def gm_mX7_isPrime : pM := (RX7, yX7_isPrime, cX7_isPrime, 4, (some .boolean), gm_cX7_isPrime, [], gm_KX7)
def gm_cX7_primes : List (Nat × Instr × Nat) := [(0, .aload_n 0, 1), (1, .iload_n 1, 1), (2, .invokevirtual 76, 3), (5, .ifCond .eq 5, 3), (8, .iconst 0, 1), (9, .ireturn, 1), (10, .iconst 0, 1), (11, .istore_n 2, 1), (12, .iconst 0, 1), (13, .istore_n 3, 1), (14, .iload_n 3, 1), (15, .bipush 81, 2), (17, .if_icmp .ge 30, 3), (20, .iload_n 2, 1), (21, .iload_n 3, 1), (22, .aload_n 0, 1), (23, .getfield 22, 3), (26, .iload_n 1, 1), (27, .iaload, 1), (28, .invokestatic 146, 3), (31, .ifCond .eq 7, 3), (34, .iconst 1, 1), (35, .goto 4, 3), (38, .iconst 0, 1), (39, .iadd, 1), (40, .istore_n 2, 1), (41, .iinc 3 1, 3), (44, .goto (-30), 3), (47, .iload_n 2, 1), (48, .ireturn, 1)]
def gm_mX7_primes : pM := (RX7, yX7_primes, cX7_primes, 4, (some .int), gm_cX7_primes, [], gm_KX7)
def gm_cX7_primesByTrying : List (Nat × Instr × Nat) := [(0, .aload_n 0, 1), (1, .iload_n 1, 1), (2, .invokevirtual 149, 3), (5, .ireturn, 1)]
def gm_mX7_primesByTrying : pM := (RX7, yX7_primesByTrying, cX7_primesByTrying, 2, (some .int), gm_cX7_primesByTrying, [], gm_KX7)
def gm_cX7_prime : List (Nat × Instr × Nat) := [(0, .aload_n 0, 1), (1, .iload_n 1, 1), (2, .invokevirtual 76, 3), (5, .ifCond .eq 6, 3), (8, .bipush 45, 2), (10, .ireturn, 1), (11, .iconst 0, 1), (12, .istore 4, 2), (14, .iconst (-1), 1), (15, .istore 5, 2), (17, .iconst 0, 1), (18, .istore 6, 2), (20, .iload 6, 2), (22, .bipush 81, 2), (24, .if_icmp .ge 44, 3), (27, .iload 5, 2), (29, .ifCond .ge 39, 3), (32, .iload 6, 2), (34, .aload_n 0, 1), (35, .getfield 22, 3), (38, .iload_n 1, 1), (39, .iaload, 1), (40, .invokestatic 146, 3), (43, .ifCond .ne 6, 3), (46, .goto 16, 3), (49, .iload 4, 2), (51, .iload_n 2, 1), (52, .if_icmp .ne 7, 3), (55, .iload 6, 2), (57, .istore 5, 2), (59, .iinc 4 1, 3), (62, .iinc 6 1, 3), (65, .goto (-45), 3), (68, .aload_n 0, 1), (69, .iload 5, 2), (71, .ifCond .ge 7, 3), (74, .iconst 2, 1), (75, .goto 17, 3), (78, .iload_n 3, 1), (79, .iconst 0, 1), (80, .iconst 3, 1), (81, .invokestatic 53, 3), (84, .ifCond .ne 7, 3), (87, .iconst 3, 1), (88, .goto 4, 3), (91, .iconst 0, 1), (92, .putfield 46, 3), (95, .aload_n 0, 1), (96, .getfield 46, 3), (99, .ifCond .eq 6, 3), (102, .bipush 45, 2), (104, .ireturn, 1), (105, .iload 5, 2), (107, .istore 6, 2), (109, .iconst 3, 1), (110, .istore 7, 2), (112, .iload 7, 2), (114, .iload_n 3, 1), (115, .if_icmp .le 15, 3), (118, .iload 6, 2), (120, .iconst 3, 1), (121, .idiv, 1), (122, .istore 6, 2), (124, .iinc 7 (-1), 3), (127, .goto (-15), 3), (130, .iload 6, 2), (132, .iconst 3, 1), (133, .irem, 1), (134, .ifCond .ne 8, 3), (137, .bipush 45, 2), (139, .goto 18, 3), (142, .iload 6, 2), (144, .iconst 3, 1), (145, .irem, 1), (146, .iconst 1, 1), (147, .if_icmp .ne 8, 3), (150, .bipush 48, 2), (152, .goto 5, 3), (155, .bipush 49, 2), (157, .ireturn, 1)]
def gm_mX7_prime : pM := (RX7, yX7_prime, cX7_prime, 8, (some .char), gm_cX7_prime, [], gm_KX7)
def gm_cX7_isKind : List (Nat × Instr × Nat) := [(0, .iload_n 0, 1), (1, .bipush 115, 2), (3, .if_icmp .eq 33, 3), (6, .iload_n 0, 1), (7, .bipush 101, 2), (9, .if_icmp .eq 27, 3), (12, .iload_n 0, 1), (13, .bipush 100, 2), (15, .if_icmp .eq 21, 3), (18, .iload_n 0, 1), (19, .bipush 120, 2), (21, .if_icmp .eq 15, 3), (24, .iload_n 0, 1), (25, .bipush 110, 2), (27, .if_icmp .eq 9, 3), (30, .iload_n 0, 1), (31, .bipush 105, 2), (33, .if_icmp .ne 7, 3), (36, .iconst 1, 1), (37, .goto 4, 3), (40, .iconst 0, 1), (41, .ireturn, 1)]
def gm_mX7_isKind : pM := (RX7, yX7_isKind, cX7_isKind, 1, (some .boolean), gm_cX7_isKind, [], gm_KX7)
def gm_cX7_isDemand : List (Nat × Instr × Nat) := [(0, .iload_n 0, 1), (1, .bipush 120, 2), (3, .if_icmp .eq 15, 3), (6, .iload_n 0, 1), (7, .bipush 110, 2), (9, .if_icmp .eq 9, 3), (12, .iload_n 0, 1), (13, .bipush 105, 2), (15, .if_icmp .ne 7, 3), (18, .iconst 1, 1), (19, .goto 4, 3), (22, .iconst 0, 1), (23, .ireturn, 1)]
def gm_mX7_isDemand : pM := (RX7, yX7_isDemand, cX7_isDemand, 1, (some .boolean), gm_cX7_isDemand, [], gm_KX7)
def gm_cX7_regionsOf : List (Nat × Instr × Nat) := [(0, .iload_n 1, 1), (1, .bipush 115, 2), (3, .if_icmp .eq 9, 3), (6, .iload_n 1, 1), (7, .bipush 120, 2), (9, .if_icmp .ne 19, 3), (12, .aload_n 0, 1), (13, .getfield 22, 3), (16, .iload_n 2, 1), (17, .iaload, 1), (18, .aload_n 0, 1), (19, .getfield 22, 3), (22, .iload_n 3, 1), (23, .iaload, 1), (24, .iconst (-1), 1), (25, .ixor, 1), (26, .iand, 1), (27, .ireturn, 1), (28, .iload_n 1, 1), (29, .bipush 101, 2), (31, .if_icmp .eq 9, 3), (34, .iload_n 1, 1), (35, .bipush 110, 2), (37, .if_icmp .ne 19, 3), (40, .aload_n 0, 1), (41, .getfield 22, 3), (44, .iload_n 2, 1), (45, .iaload, 1), (46, .aload_n 0, 1), (47, .getfield 22, 3), (50, .iload_n 3, 1), (51, .iaload, 1), (52, .ixor, 1), (53, .goto 16, 3), (56, .aload_n 0, 1), (57, .getfield 22, 3), (60, .iload_n 2, 1), (61, .iaload, 1), (62, .aload_n 0, 1), (63, .getfield 22, 3), (66, .iload_n 3, 1), (67, .iaload, 1), (68, .iand, 1), (69, .ireturn, 1)]
def gm_mX7_regionsOf : pM := (RX7, yX7_regionsOf, cX7_regionsOf, 4, (some .int), gm_cX7_regionsOf, [], gm_KX7)
def gm_cX7_assumed : List (Nat × Instr × Nat) := [(0, .aload_n 0, 1), (1, .aload_n 0, 1), (2, .getfield 25, 3), (5, .iload_n 1, 1), (6, .iaload, 1), (7, .aload_n 0, 1), (8, .getfield 28, 3), (11, .iload_n 1, 1), (12, .iaload, 1), (13, .aload_n 0, 1), (14, .getfield 31, 3), (17, .iload_n 1, 1), (18, .iaload, 1), (19, .invokevirtual 152, 3), (22, .ireturn, 1)]
def gm_mX7_assumed : pM := (RX7, yX7_assumed, cX7_assumed, 2, (some .int), gm_cX7_assumed, [], gm_KX7)
def gm_cX7_goal : List (Nat × Instr × Nat) := [(0, .aload_n 0, 1), (1, .aload_n 0, 1), (2, .getfield 155, 3), (5, .aload_n 0, 1), (6, .getfield 158, 3), (9, .aload_n 0, 1), (10, .getfield 161, 3), (13, .invokevirtual 152, 3), (16, .ireturn, 1)]
def gm_mX7_goal : pM := (RX7, yX7_goal, cX7_goal, 1, (some .int), gm_cX7_goal, [], gm_KX7)
def gm_cX7_areTerms : List (Nat × Instr × Nat) := [(0, .iload_n 1, 1), (1, .iconst 0, 1), (2, .aload_n 0, 1), (3, .getfield 50, 3), (6, .iconst 1, 1), (7, .isub, 1), (8, .invokestatic 53, 3), (11, .ifCond .eq 21, 3), (14, .iload_n 2, 1), (15, .iconst 0, 1), (16, .aload_n 0, 1), (17, .getfield 50, 3), (20, .iconst 1, 1), (21, .isub, 1), (22, .invokestatic 53, 3), (25, .ifCond .eq 7, 3), (28, .iconst 1, 1), (29, .goto 4, 3), (32, .iconst 0, 1), (33, .ireturn, 1)]
def gm_mX7_areTerms : pM := (RX7, yX7_areTerms, cX7_areTerms, 3, (some .boolean), gm_cX7_areTerms, [], gm_KX7)
def gm_cX7_assume : List (Nat × Instr × Nat) := [(0, .iload_n 1, 1), (1, .invokestatic 164, 3), (4, .ifCond .ne 9, 3), (7, .aload_n 0, 1), (8, .iconst 1, 1), (9, .invokevirtual 66, 3), (12, .ireturn, 1), (13, .aload_n 0, 1), (14, .iload_n 2, 1), (15, .iload_n 3, 1), (16, .invokevirtual 167, 3), (19, .ifCond .ne 9, 3), (22, .aload_n 0, 1), (23, .iconst 2, 1), (24, .invokevirtual 66, 3), (27, .ireturn, 1), (28, .aload_n 0, 1), (29, .getfield 170, 3), (32, .bipush 6, 2), (34, .if_icmp .ne 9, 3), (37, .aload_n 0, 1), (38, .iconst 3, 1), (39, .invokevirtual 66, 3), (42, .ireturn, 1), (43, .aload_n 0, 1), (44, .iconst 0, 1), (45, .putfield 46, 3), (48, .aload_n 0, 1), (49, .getfield 25, 3), (52, .aload_n 0, 1), (53, .getfield 170, 3), (56, .iload_n 1, 1), (57, .iastore, 1), (58, .aload_n 0, 1), (59, .getfield 28, 3), (62, .aload_n 0, 1), (63, .getfield 170, 3), (66, .iload_n 2, 1), (67, .iastore, 1), (68, .aload_n 0, 1), (69, .getfield 31, 3), (72, .aload_n 0, 1), (73, .getfield 170, 3), (76, .iload_n 3, 1), (77, .iastore, 1), (78, .aload_n 0, 1), (79, .dup, 1), (80, .getfield 170, 3), (83, .dup_x1, 1), (84, .iconst 1, 1), (85, .iadd, 1), (86, .putfield 170, 3), (89, .ireturn, 1)]
def gm_mX7_assume : pM := (RX7, yX7_assume, cX7_assume, 4, (some .int), gm_cX7_assume, [], gm_KX7)
def gm_cX7_drop : List (Nat × Instr × Nat) := [(0, .aload_n 0, 1), (1, .getfield 170, 3), (4, .ifCond .ne 9, 3), (7, .aload_n 0, 1), (8, .iconst 1, 1), (9, .invokevirtual 66, 3), (12, .ireturn, 1), (13, .aload_n 0, 1), (14, .iconst 0, 1), (15, .putfield 46, 3), (18, .aload_n 0, 1), (19, .dup, 1), (20, .getfield 170, 3), (23, .iconst 1, 1), (24, .isub, 1), (25, .dup_x1, 1), (26, .putfield 170, 3), (29, .ireturn, 1)]
def gm_mX7_drop : pM := (RX7, yX7_drop, cX7_drop, 1, (some .int), gm_cX7_drop, [], gm_KX7)
def gm_cX7_assumptions : List (Nat × Instr × Nat) := [(0, .aload_n 0, 1), (1, .getfield 170, 3), (4, .ireturn, 1)]
def gm_mX7_assumptions : pM := (RX7, yX7_assumptions, cX7_assumptions, 1, (some .int), gm_cX7_assumptions, [], gm_KX7)
def gm_cX7_setGoal : List (Nat × Instr × Nat) := [(0, .aload_n 0, 1), (1, .iload_n 1, 1), (2, .invokestatic 164, 3), (5, .ifCond .ne 7, 3), (8, .iconst 1, 1), (9, .goto 17, 3), (12, .aload_n 0, 1), (13, .iload_n 2, 1), (14, .iload_n 3, 1), (15, .invokevirtual 167, 3), (18, .ifCond .ne 7, 3), (21, .iconst 2, 1), (22, .goto 4, 3), (25, .iconst 0, 1), (26, .putfield 46, 3), (29, .aload_n 0, 1), (30, .getfield 46, 3), (33, .ifCond .eq 5, 3), (36, .iconst 0, 1), (37, .ireturn, 1), (38, .aload_n 0, 1), (39, .getfield 173, 3), (42, .iconst 1, 1), (43, .if_icmp .ne 7, 3), (46, .iconst 1, 1), (47, .goto 4, 3), (50, .iconst 0, 1), (51, .istore 4, 2), (53, .aload_n 0, 1), (54, .iconst 1, 1), (55, .putfield 173, 3), (58, .aload_n 0, 1), (59, .iload_n 1, 1), (60, .putfield 155, 3), (63, .aload_n 0, 1), (64, .iload_n 2, 1), (65, .putfield 158, 3), (68, .aload_n 0, 1), (69, .iload_n 3, 1), (70, .putfield 161, 3), (73, .iload 4, 2), (75, .ireturn, 1)]
def gm_mX7_setGoal : pM := (RX7, yX7_setGoal, cX7_setGoal, 5, (some .boolean), gm_cX7_setGoal, [], gm_KX7)
def gm_cX7_allowed : List (Nat × Instr × Nat) := [(0, .ldc 57, 2), (2, .istore_n 1, 1), (3, .iconst 0, 1), (4, .istore_n 2, 1), (5, .iload_n 2, 1), (6, .aload_n 0, 1), (7, .getfield 170, 3), (10, .if_icmp .ge 31, 3), (13, .aload_n 0, 1), (14, .getfield 25, 3), (17, .iload_n 2, 1), (18, .iaload, 1), (19, .invokestatic 176, 3), (22, .ifCond .ne 13, 3), (25, .iload_n 1, 1), (26, .aload_n 0, 1), (27, .iload_n 2, 1), (28, .invokevirtual 179, 3), (31, .iconst (-1), 1), (32, .ixor, 1), (33, .iand, 1), (34, .istore_n 1, 1), (35, .iinc 2 1, 3), (38, .goto (-33), 3), (41, .iload_n 1, 1), (42, .ireturn, 1)]
def gm_mX7_allowed : pM := (RX7, yX7_allowed, cX7_allowed, 3, (some .int), gm_cX7_allowed, [], gm_KX7)
def gm_cX7_hasModel : List (Nat × Instr × Nat) := [(0, .iconst 0, 1), (1, .istore_n 2, 1), (2, .iload_n 2, 1), (3, .aload_n 0, 1), (4, .getfield 170, 3), (7, .if_icmp .ge 33, 3), (10, .aload_n 0, 1), (11, .getfield 25, 3), (14, .iload_n 2, 1), (15, .iaload, 1), (16, .invokestatic 176, 3), (19, .ifCond .eq 15, 3), (22, .aload_n 0, 1), (23, .iload_n 2, 1), (24, .invokevirtual 179, 3), (27, .iload_n 1, 1), (28, .iand, 1), (29, .ifCond .ne 5, 3), (32, .iconst 0, 1), (33, .ireturn, 1), (34, .iinc 2 1, 3), (37, .goto (-35), 3), (40, .iconst 1, 1), (41, .ireturn, 1)]
def gm_mX7_hasModel : pM := (RX7, yX7_hasModel, cX7_hasModel, 3, (some .boolean), gm_cX7_hasModel, [], gm_KX7)
def gm_cX7_isConsistent : List (Nat × Instr × Nat) := [(0, .aload_n 0, 1), (1, .aload_n 0, 1), (2, .invokevirtual 182, 3), (5, .invokevirtual 185, 3), (8, .ireturn, 1)]
def gm_mX7_isConsistent : pM := (RX7, yX7_isConsistent, cX7_isConsistent, 1, (some .boolean), gm_cX7_isConsistent, [], gm_KX7)
def gm_cX7_deniedBy : List (Nat × Instr × Nat) := [(0, .iload_n 1, 1), (1, .iconst 0, 1), (2, .bipush 15, 2), (4, .invokestatic 53, 3), (7, .ifCond .ne 9, 3), (10, .aload_n 0, 1), (11, .iconst 1, 1), (12, .invokevirtual 66, 3), (15, .ireturn, 1), (16, .aload_n 0, 1), (17, .iconst 0, 1), (18, .putfield 46, 3), (21, .iconst 0, 1), (22, .istore_n 2, 1), (23, .iload_n 2, 1), (24, .aload_n 0, 1), (25, .getfield 170, 3), (28, .if_icmp .ge 36, 3), (31, .aload_n 0, 1), (32, .getfield 25, 3), (35, .iload_n 2, 1), (36, .iaload, 1), (37, .invokestatic 176, 3), (40, .ifCond .ne 18, 3), (43, .aload_n 0, 1), (44, .iload_n 2, 1), (45, .invokevirtual 179, 3), (48, .iload_n 1, 1), (49, .ishr, 1), (50, .iconst 1, 1), (51, .iand, 1), (52, .iconst 1, 1), (53, .if_icmp .ne 5, 3), (56, .iload_n 2, 1), (57, .ireturn, 1), (58, .iinc 2 1, 3), (61, .goto (-38), 3), (64, .aload_n 0, 1), (65, .iconst 2, 1), (66, .invokevirtual 66, 3), (69, .ireturn, 1)]
def gm_mX7_deniedBy : pM := (RX7, yX7_deniedBy, cX7_deniedBy, 3, (some .int), gm_cX7_deniedBy, [], gm_KX7)
def gm_cX7_counter : List (Nat × Instr × Nat) := [(0, .aload_n 0, 1), (1, .invokevirtual 182, 3), (4, .istore_n 1, 1), (5, .aload_n 0, 1), (6, .iconst 0, 1), (7, .putfield 188, 3), (10, .iconst 0, 1), (11, .istore_n 2, 1), (12, .iload_n 2, 1), (13, .aload_n 0, 1), (14, .getfield 170, 3), (17, .if_icmp .ge 42, 3), (20, .aload_n 0, 1), (21, .getfield 25, 3), (24, .iload_n 2, 1), (25, .iaload, 1), (26, .invokestatic 176, 3), (29, .ifCond .eq 24, 3), (32, .aload_n 0, 1), (33, .getfield 43, 3), (36, .aload_n 0, 1), (37, .dup, 1), (38, .getfield 188, 3), (41, .dup_x1, 1), (42, .iconst 1, 1), (43, .iadd, 1), (44, .putfield 188, 3), (47, .aload_n 0, 1), (48, .iload_n 2, 1), (49, .invokevirtual 179, 3), (52, .iastore, 1), (53, .iinc 2 1, 3), (56, .goto (-44), 3), (59, .aload_n 0, 1), (60, .getfield 155, 3), (63, .invokestatic 176, 3), (66, .ifCond .eq 12, 3), (69, .iload_n 1, 1), (70, .aload_n 0, 1), (71, .invokevirtual 191, 3), (74, .iconst (-1), 1), (75, .ixor, 1), (76, .iand, 1), (77, .ireturn, 1), (78, .aload_n 0, 1), (79, .getfield 43, 3), (82, .aload_n 0, 1), (83, .dup, 1), (84, .getfield 188, 3), (87, .dup_x1, 1), (88, .iconst 1, 1), (89, .iadd, 1), (90, .putfield 188, 3), (93, .aload_n 0, 1), (94, .invokevirtual 191, 3), (97, .iastore, 1), (98, .iload_n 1, 1), (99, .ireturn, 1)]
def gm_mX7_counter : pM := (RX7, yX7_counter, cX7_counter, 3, (some .int), gm_cX7_counter, [], gm_KX7)
def gm_cX7_isFollowing : List (Nat × Instr × Nat) := [(0, .aload_n 0, 1), (1, .invokevirtual 194, 3), (4, .istore_n 1, 1), (5, .iconst 0, 1), (6, .istore_n 2, 1), (7, .iload_n 2, 1), (8, .aload_n 0, 1), (9, .getfield 188, 3), (12, .if_icmp .ge 22, 3), (15, .aload_n 0, 1), (16, .getfield 43, 3), (19, .iload_n 2, 1), (20, .iaload, 1), (21, .iload_n 1, 1), (22, .iand, 1), (23, .ifCond .ne 5, 3), (26, .iconst 1, 1), (27, .ireturn, 1), (28, .iinc 2 1, 3), (31, .goto (-24), 3), (34, .iconst 0, 1), (35, .ireturn, 1)]
def gm_mX7_isFollowing : pM := (RX7, yX7_isFollowing, cX7_isFollowing, 3, (some .boolean), gm_cX7_isFollowing, [], gm_KX7)
def gm_cX7_noGoal : List (Nat × Instr × Nat) := [(0, .aload_n 0, 1), (1, .aload_n 0, 1), (2, .getfield 173, 3), (5, .iconst 1, 1), (6, .if_icmp .ne 7, 3), (9, .iconst 0, 1), (10, .goto 4, 3), (13, .iconst 1, 1), (14, .putfield 46, 3), (17, .aload_n 0, 1), (18, .getfield 46, 3), (21, .ifCond .eq 7, 3), (24, .iconst 1, 1), (25, .goto 4, 3), (28, .iconst 0, 1), (29, .ireturn, 1)]
def gm_mX7_noGoal : pM := (RX7, yX7_noGoal, cX7_noGoal, 1, (some .boolean), gm_cX7_noGoal, [], gm_KX7)
def gm_cX7_follows : List (Nat × Instr × Nat) := [(0, .aload_n 0, 1), (1, .invokevirtual 197, 3), (4, .ifCond .ne 14, 3), (7, .aload_n 0, 1), (8, .invokevirtual 201, 3), (11, .ifCond .eq 7, 3), (14, .iconst 1, 1), (15, .goto 4, 3), (18, .iconst 0, 1), (19, .ireturn, 1)]
def gm_mX7_follows : pM := (RX7, yX7_follows, cX7_follows, 1, (some .boolean), gm_cX7_follows, [], gm_KX7)
def gm_cX7_why : List (Nat × Instr × Nat) := [(0, .aload_n 0, 1), (1, .invokevirtual 197, 3), (4, .ifCond .eq 6, 3), (7, .bipush 109, 2), (9, .ireturn, 1), (10, .aload_n 0, 1), (11, .aload_n 0, 1), (12, .invokevirtual 201, 3), (15, .ifCond .eq 7, 3), (18, .iconst 0, 1), (19, .goto 4, 3), (22, .iconst 2, 1), (23, .putfield 46, 3), (26, .aload_n 0, 1), (27, .getfield 46, 3), (30, .ifCond .eq 6, 3), (33, .bipush 109, 2), (35, .ireturn, 1), (36, .aload_n 0, 1), (37, .invokevirtual 204, 3), (40, .ifCond .ne 8, 3), (43, .bipush 109, 2), (45, .goto 20, 3), (48, .aload_n 0, 1), (49, .getfield 155, 3), (52, .invokestatic 176, 3), (55, .ifCond .eq 8, 3), (58, .bipush 119, 2), (60, .goto 5, 3), (63, .bipush 114, 2), (65, .ireturn, 1)]
def gm_mX7_why : pM := (RX7, yX7_why, cX7_why, 1, (some .char), gm_cX7_why, [], gm_KX7)
def gm_cX7_witness : List (Nat × Instr × Nat) := [(0, .aload_n 0, 1), (1, .invokevirtual 197, 3), (4, .ifCond .eq 5, 3), (7, .iconst 0, 1), (8, .ireturn, 1), (9, .aload_n 0, 1), (10, .getfield 155, 3), (13, .invokestatic 176, 3), (16, .ifCond .ne 9, 3), (19, .aload_n 0, 1), (20, .iconst 2, 1), (21, .invokevirtual 66, 3), (24, .ireturn, 1), (25, .aload_n 0, 1), (26, .invokevirtual 182, 3), (29, .aload_n 0, 1), (30, .invokevirtual 191, 3), (33, .iconst (-1), 1), (34, .ixor, 1), (35, .iand, 1), (36, .istore_n 1, 1), (37, .iconst 0, 1), (38, .istore_n 2, 1), (39, .iload_n 2, 1), (40, .aload_n 0, 1), (41, .getfield 170, 3), (44, .if_icmp .ge 33, 3), (47, .aload_n 0, 1), (48, .getfield 25, 3), (51, .iload_n 2, 1), (52, .iaload, 1), (53, .invokestatic 176, 3), (56, .ifCond .eq 15, 3), (59, .aload_n 0, 1), (60, .iload_n 2, 1), (61, .invokevirtual 179, 3), (64, .iload_n 1, 1), (65, .iand, 1), (66, .ifCond .ne 5, 3), (69, .iload_n 2, 1), (70, .ireturn, 1), (71, .iinc 2 1, 3), (74, .goto (-35), 3), (77, .aload_n 0, 1), (78, .iconst 3, 1), (79, .invokevirtual 66, 3), (82, .ireturn, 1)]
def gm_mX7_witness : pM := (RX7, yX7_witness, cX7_witness, 3, (some .int), gm_cX7_witness, [], gm_KX7)
def gm_cX7_choose : List (Nat × Instr × Nat) := [(0, .iload_n 2, 1), (1, .iload_n 3, 1), (2, .if_icmp .ne 38, 3), (5, .iconst 0, 1), (6, .istore 6, 2), (8, .iload 6, 2), (10, .aload_n 0, 1), (11, .getfield 188, 3), (14, .if_icmp .ge 24, 3), (17, .aload_n 0, 1), (18, .getfield 43, 3), (21, .iload 6, 2), (23, .iaload, 1), (24, .iload 4, 2), (26, .iand, 1), (27, .ifCond .ne 5, 3), (30, .iconst 0, 1), (31, .ireturn, 1), (32, .iinc 6 1, 3), (35, .goto (-27), 3), (38, .iconst 1, 1), (39, .ireturn, 1), (40, .iload_n 1, 1), (41, .istore 6, 2), (43, .iload 6, 2), (45, .bipush 16, 2), (47, .if_icmp .ge 56, 3), (50, .iload 5, 2), (52, .iload 6, 2), (54, .ishr, 1), (55, .iconst 1, 1), (56, .iand, 1), (57, .ifCond .ne 6, 3), (60, .goto 37, 3), (63, .aload_n 0, 1), (64, .getfield 40, 3), (67, .iload_n 2, 1), (68, .iload 6, 2), (70, .iastore, 1), (71, .aload_n 0, 1), (72, .iload 6, 2), (74, .iconst 1, 1), (75, .iadd, 1), (76, .iload_n 2, 1), (77, .iconst 1, 1), (78, .iadd, 1), (79, .iload_n 3, 1), (80, .iload 4, 2), (82, .iconst 1, 1), (83, .iload 6, 2), (85, .ishl, 1), (86, .ior, 1), (87, .iload 5, 2), (89, .invokevirtual 207, 3), (92, .ifCond .eq 5, 3), (95, .iconst 1, 1), (96, .ireturn, 1), (97, .iinc 6 1, 3), (100, .goto (-57), 3), (103, .iconst 0, 1), (104, .ireturn, 1)]
def gm_mX7_choose : pM := (RX7, yX7_choose, cX7_choose, 7, (some .boolean), gm_cX7_choose, [], gm_KX7)
def gm_cX7_least : List (Nat × Instr × Nat) := [(0, .aload_n 0, 1), (1, .invokevirtual 194, 3), (4, .istore_n 1, 1), (5, .iconst 0, 1), (6, .istore_n 2, 1), (7, .aload_n 0, 1), (8, .iconst 0, 1), (9, .iconst 0, 1), (10, .iload_n 2, 1), (11, .iconst 0, 1), (12, .iload_n 1, 1), (13, .invokevirtual 207, 3), (16, .ifCond .ne 9, 3), (19, .iinc 2 1, 3), (22, .goto (-15), 3), (25, .iload_n 2, 1), (26, .ireturn, 1)]
def gm_mX7_least : pM := (RX7, yX7_least, cX7_least, 3, (some .int), gm_cX7_least, [], gm_KX7)
def gm_cX7_noCounterexample : List (Nat × Instr × Nat) := [(0, .aload_n 0, 1), (1, .invokevirtual 197, 3), (4, .ifCond .eq 5, 3), (7, .iconst 1, 1), (8, .ireturn, 1), (9, .aload_n 0, 1), (10, .aload_n 0, 1), (11, .invokevirtual 201, 3), (14, .ifCond .eq 7, 3), (17, .iconst 2, 1), (18, .goto 4, 3), (21, .iconst 0, 1), (22, .putfield 46, 3), (25, .aload_n 0, 1), (26, .getfield 46, 3), (29, .ifCond .eq 7, 3), (32, .iconst 1, 1), (33, .goto 4, 3), (36, .iconst 0, 1), (37, .ireturn, 1)]
def gm_mX7_noCounterexample : pM := (RX7, yX7_noCounterexample, cX7_noCounterexample, 1, (some .boolean), gm_cX7_noCounterexample, [], gm_KX7)
def gm_cX7_elements : List (Nat × Instr × Nat) := [(0, .aload_n 0, 1), (1, .invokevirtual 211, 3), (4, .ifCond .eq 7, 3), (7, .iconst 0, 1), (8, .goto 7, 3), (11, .aload_n 0, 1), (12, .invokevirtual 214, 3), (15, .ireturn, 1)]
def gm_mX7_elements : pM := (RX7, yX7_elements, cX7_elements, 1, (some .int), gm_cX7_elements, [], gm_KX7)
def gm_cX7_elementsByTrying : List (Nat × Instr × Nat) := [(0, .aload_n 0, 1), (1, .invokevirtual 217, 3), (4, .ireturn, 1)]
def gm_mX7_elementsByTrying : pM := (RX7, yX7_elementsByTrying, cX7_elementsByTrying, 1, (some .int), gm_cX7_elementsByTrying, [], gm_KX7)
def gm_cX7_region : List (Nat × Instr × Nat) := [(0, .aload_n 0, 1), (1, .invokevirtual 211, 3), (4, .ifCond .eq 5, 3), (7, .iconst 0, 1), (8, .ireturn, 1), (9, .aload_n 0, 1), (10, .invokevirtual 214, 3), (13, .istore_n 2, 1), (14, .iload_n 1, 1), (15, .iconst 0, 1), (16, .iload_n 2, 1), (17, .iconst 1, 1), (18, .isub, 1), (19, .invokestatic 53, 3), (22, .ifCond .ne 9, 3), (25, .aload_n 0, 1), (26, .iconst 2, 1), (27, .invokevirtual 66, 3), (30, .ireturn, 1), (31, .aload_n 0, 1), (32, .getfield 40, 3), (35, .iload_n 1, 1), (36, .iaload, 1), (37, .ireturn, 1)]
def gm_mX7_region : pM := (RX7, yX7_region, cX7_region, 3, (some .int), gm_cX7_region, [], gm_KX7)
def gm_cX7_power : List (Nat × Instr × Nat) := [(0, .lconst 1, 1), (1, .lstore_n 2, 1), (2, .iconst 0, 1), (3, .istore 4, 2), (5, .iload 4, 2), (7, .iload_n 1, 1), (8, .if_icmp .ge 14, 3), (11, .lload_n 2, 1), (12, .iload_n 0, 1), (13, .i2l, 1), (14, .lmul, 1), (15, .lstore_n 2, 1), (16, .iinc 4 1, 3), (19, .goto (-14), 3), (22, .lload_n 2, 1), (23, .lreturn, 1)]
def gm_mX7_power : pM := (RX7, yX7_power, cX7_power, 5, (some .long), gm_cX7_power, [], gm_KX7)
def gm_cX7_ways : List (Nat × Instr × Nat) := [(0, .aload_n 0, 1), (1, .invokevirtual 182, 3), (4, .istore_n 2, 1), (5, .iconst 0, 1), (6, .istore_n 3, 1), (7, .iconst 0, 1), (8, .istore 4, 2), (10, .iload 4, 2), (12, .aload_n 0, 1), (13, .getfield 170, 3), (16, .if_icmp .ge 37, 3), (19, .aload_n 0, 1), (20, .getfield 25, 3), (23, .iload 4, 2), (25, .iaload, 1), (26, .invokestatic 176, 3), (29, .ifCond .eq 18, 3), (32, .aload_n 0, 1), (33, .getfield 43, 3), (36, .iload_n 3, 1), (37, .iinc 3 1, 3), (40, .aload_n 0, 1), (41, .iload 4, 2), (43, .invokevirtual 179, 3), (46, .iastore, 1), (47, .iinc 4 1, 3), (50, .goto (-40), 3), (53, .lconst 0, 1), (54, .lstore 4, 2), (56, .iconst 0, 1), (57, .istore 6, 2), (59, .iload 6, 2), (61, .iconst 1, 1), (62, .iload_n 3, 1), (63, .ishl, 1), (64, .if_icmp .ge 84, 3), (67, .iload_n 2, 1), (68, .istore 7, 2), (70, .iconst 0, 1), (71, .istore 8, 2), (73, .iload 8, 2), (75, .iload_n 3, 1), (76, .if_icmp .ge 34, 3), (79, .iload 6, 2), (81, .iload 8, 2), (83, .ishr, 1), (84, .iconst 1, 1), (85, .iand, 1), (86, .iconst 1, 1), (87, .if_icmp .ne 17, 3), (90, .iload 7, 2), (92, .aload_n 0, 1), (93, .getfield 43, 3), (96, .iload 8, 2), (98, .iaload, 1), (99, .iconst (-1), 1), (100, .ixor, 1), (101, .iand, 1), (102, .istore 7, 2), (104, .iinc 8 1, 3), (107, .goto (-34), 3), (110, .lload 4, 2), (112, .iload 6, 2), (114, .invokestatic 93, 3), (117, .iconst 2, 1), (118, .irem, 1), (119, .ifCond .ne 7, 3), (122, .lconst 1, 1), (123, .goto 6, 3), (126, .ldc2_w 220, 3), (129, .iload 7, 2), (131, .invokestatic 93, 3), (134, .iload_n 1, 1), (135, .invokestatic 222, 3), (138, .lmul, 1), (139, .ladd, 1), (140, .lstore 4, 2), (142, .iinc 6 1, 3), (145, .goto (-86), 3), (148, .lload 4, 2), (150, .lreturn, 1)]
def gm_mX7_ways : pM := (RX7, yX7_ways, cX7_ways, 9, (some .long), gm_cX7_ways, [], gm_KX7)
def gm_cX7_models : List (Nat × Instr × Nat) := [(0, .aload_n 0, 1), (1, .iload_n 1, 1), (2, .iconst 0, 1), (3, .bipush 6, 2), (5, .invokestatic 53, 3), (8, .ifCond .eq 7, 3), (11, .iconst 0, 1), (12, .goto 4, 3), (15, .iconst 1, 1), (16, .putfield 46, 3), (19, .aload_n 0, 1), (20, .getfield 46, 3), (23, .ifCond .ne 11, 3), (26, .aload_n 0, 1), (27, .iload_n 1, 1), (28, .invokevirtual 226, 3), (31, .goto 4, 3), (34, .lconst 0, 1), (35, .lreturn, 1)]
def gm_mX7_models : pM := (RX7, yX7_models, cX7_models, 2, (some .long), gm_cX7_models, [], gm_KX7)
def gm_cX7_modelsByTrying : List (Nat × Instr × Nat) := [(0, .aload_n 0, 1), (1, .iload_n 1, 1), (2, .iconst 0, 1), (3, .iconst 3, 1), (4, .invokestatic 53, 3), (7, .ifCond .eq 7, 3), (10, .iconst 0, 1), (11, .goto 4, 3), (14, .iconst 1, 1), (15, .putfield 46, 3), (18, .aload_n 0, 1), (19, .getfield 46, 3), (22, .ifCond .ne 11, 3), (25, .aload_n 0, 1), (26, .iload_n 1, 1), (27, .invokevirtual 226, 3), (30, .goto 4, 3), (33, .lconst 0, 1), (34, .lreturn, 1)]
def gm_mX7_modelsByTrying : pM := (RX7, yX7_modelsByTrying, cX7_modelsByTrying, 2, (some .long), gm_cX7_modelsByTrying, [], gm_KX7)
def gm_cX7_density : List (Nat × Instr × Nat) := [(0, .aload_n 0, 1), (1, .iload_n 1, 1), (2, .invokevirtual 76, 3), (5, .ifCond .eq 7, 3), (8, .fconst 0, 1), (9, .goto 16, 3), (12, .aload_n 0, 1), (13, .getfield 22, 3), (16, .iload_n 1, 1), (17, .iaload, 1), (18, .invokestatic 93, 3), (21, .i2f, 1), (22, .ldc 230, 2), (24, .fdiv, 1), (25, .freturn, 1)]
def gm_mX7_density : pM := (RX7, yX7_density, cX7_density, 2, (some .float), gm_cX7_density, [], gm_KX7)
def gm_cJ6_bitCount_0f7a4 : List (Nat × Instr × Nat) := [(0, .iload_n 0, 1), (1, .iload_n 0, 1), (2, .iconst 1, 1), (3, .iushr, 1), (4, .ldc_w 265, 3), (7, .iand, 1), (8, .isub, 1), (9, .istore_n 0, 1), (10, .iload_n 0, 1), (11, .ldc_w 266, 3), (14, .iand, 1), (15, .iload_n 0, 1), (16, .iconst 2, 1), (17, .iushr, 1), (18, .ldc_w 266, 3), (21, .iand, 1), (22, .iadd, 1), (23, .istore_n 0, 1), (24, .iload_n 0, 1), (25, .iload_n 0, 1), (26, .iconst 4, 1), (27, .iushr, 1), (28, .iadd, 1), (29, .ldc_w 267, 3), (32, .iand, 1), (33, .istore_n 0, 1), (34, .iload_n 0, 1), (35, .iload_n 0, 1), (36, .bipush 8, 2), (38, .iushr, 1), (39, .iadd, 1), (40, .istore_n 0, 1), (41, .iload_n 0, 1), (42, .iload_n 0, 1), (43, .bipush 16, 2), (45, .iushr, 1), (46, .iadd, 1), (47, .istore_n 0, 1), (48, .iload_n 0, 1), (49, .bipush 63, 2), (51, .iand, 1), (52, .ireturn, 1)]
def gm_mJ6_bitCount_0f7a4 : pM := (RJ6, yJ6_bitCount_0f7a4, cJ6_bitCount_0f7a4, 1, (some .int), gm_cJ6_bitCount_0f7a4, [], gm_KJ6)
def gm_cJ9_min_7cf53 : List (Nat × Instr × Nat) := [(0, .iload_n 0, 1), (1, .iload_n 1, 1), (2, .if_icmp .gt 7, 3), (5, .iload_n 0, 1), (6, .goto 4, 3), (9, .iload_n 1, 1), (10, .ireturn, 1)]
def gm_mJ9_min_7cf53 : pM := (RJ9, yJ9_min_7cf53, cJ9_min_7cf53, 2, (some .int), gm_cJ9_min_7cf53, [], gm_KJ9)
def gm_cL_letter : List (Nat × Instr × Nat) := [(0, .aload_n 2, 1), (1, .iconst 0, 1), (2, .aload_n 0, 1), (3, .iload_n 1, 1), (4, .invokevirtual 7, 3), (7, .i2l, 1), (8, .lastore, 1), (9, .goto 9, 3), (12, .astore_n 3, 1), (13, .iconst 1, 1), (14, .ireturn, 1), (15, .astore_n 3, 1), (16, .iconst 2, 1), (17, .ireturn, 1), (18, .iconst 0, 1), (19, .ireturn, 1)]
def gm_mL_letter : pM := (RL, yL_letter, cL_letter, 4, (some .int), gm_cL_letter, [(0, 9, 12, 13), (0, 9, 15, 15)], gm_KL)
def gm_cL_empty : List (Nat × Instr × Nat) := [(0, .aload_n 1, 1), (1, .iconst 0, 1), (2, .aload_n 0, 1), (3, .invokevirtual 17, 3), (6, .i2l, 1), (7, .lastore, 1), (8, .goto 6, 3), (11, .astore_n 2, 1), (12, .iconst 1, 1), (13, .ireturn, 1), (14, .iconst 0, 1), (15, .ireturn, 1)]
def gm_mL_empty : pM := (RL, yL_empty, cL_empty, 3, (some .int), gm_cL_empty, [(0, 8, 11, 15)], gm_KL)
def gm_cL_universe : List (Nat × Instr × Nat) := [(0, .aload_n 1, 1), (1, .iconst 0, 1), (2, .aload_n 0, 1), (3, .invokevirtual 21, 3), (6, .i2l, 1), (7, .lastore, 1), (8, .goto 6, 3), (11, .astore_n 2, 1), (12, .iconst 1, 1), (13, .ireturn, 1), (14, .iconst 0, 1), (15, .ireturn, 1)]
def gm_mL_universe : pM := (RL, yL_universe, cL_universe, 3, (some .int), gm_cL_universe, [(0, 8, 11, 15)], gm_KL)
def gm_cL_complement : List (Nat × Instr × Nat) := [(0, .aload_n 2, 1), (1, .iconst 0, 1), (2, .aload_n 0, 1), (3, .iload_n 1, 1), (4, .invokevirtual 24, 3), (7, .i2l, 1), (8, .lastore, 1), (9, .goto 9, 3), (12, .astore_n 3, 1), (13, .iconst 1, 1), (14, .ireturn, 1), (15, .astore_n 3, 1), (16, .iconst 2, 1), (17, .ireturn, 1), (18, .iconst 0, 1), (19, .ireturn, 1)]
def gm_mL_complement : pM := (RL, yL_complement, cL_complement, 4, (some .int), gm_cL_complement, [(0, 9, 12, 27), (0, 9, 15, 15)], gm_KL)
def gm_cL_union : List (Nat × Instr × Nat) := [(0, .aload_n 3, 1), (1, .iconst 0, 1), (2, .aload_n 0, 1), (3, .iload_n 1, 1), (4, .iload_n 2, 1), (5, .invokevirtual 29, 3), (8, .i2l, 1), (9, .lastore, 1), (10, .goto 11, 3), (13, .astore 4, 2), (15, .iconst 1, 1), (16, .ireturn, 1), (17, .astore 4, 2), (19, .iconst 2, 1), (20, .ireturn, 1), (21, .iconst 0, 1), (22, .ireturn, 1)]
def gm_mL_union : pM := (RL, yL_union, cL_union, 5, (some .int), gm_cL_union, [(0, 10, 13, 27), (0, 10, 17, 15)], gm_KL)
def gm_cL_intersection : List (Nat × Instr × Nat) := [(0, .aload_n 3, 1), (1, .iconst 0, 1), (2, .aload_n 0, 1), (3, .iload_n 1, 1), (4, .iload_n 2, 1), (5, .invokevirtual 33, 3), (8, .i2l, 1), (9, .lastore, 1), (10, .goto 11, 3), (13, .astore 4, 2), (15, .iconst 1, 1), (16, .ireturn, 1), (17, .astore 4, 2), (19, .iconst 2, 1), (20, .ireturn, 1), (21, .iconst 0, 1), (22, .ireturn, 1)]
def gm_mL_intersection : pM := (RL, yL_intersection, cL_intersection, 5, (some .int), gm_cL_intersection, [(0, 10, 13, 27), (0, 10, 17, 15)], gm_KL)
def gm_cL_difference : List (Nat × Instr × Nat) := [(0, .aload_n 3, 1), (1, .iconst 0, 1), (2, .aload_n 0, 1), (3, .iload_n 1, 1), (4, .iload_n 2, 1), (5, .invokevirtual 36, 3), (8, .i2l, 1), (9, .lastore, 1), (10, .goto 11, 3), (13, .astore 4, 2), (15, .iconst 1, 1), (16, .ireturn, 1), (17, .astore 4, 2), (19, .iconst 2, 1), (20, .ireturn, 1), (21, .iconst 0, 1), (22, .ireturn, 1)]
def gm_mL_difference : pM := (RL, yL_difference, cL_difference, 5, (some .int), gm_cL_difference, [(0, 10, 13, 27), (0, 10, 17, 15)], gm_KL)
def gm_cL_symmetric : List (Nat × Instr × Nat) := [(0, .aload_n 3, 1), (1, .iconst 0, 1), (2, .aload_n 0, 1), (3, .iload_n 1, 1), (4, .iload_n 2, 1), (5, .invokevirtual 39, 3), (8, .i2l, 1), (9, .lastore, 1), (10, .goto 11, 3), (13, .astore 4, 2), (15, .iconst 1, 1), (16, .ireturn, 1), (17, .astore 4, 2), (19, .iconst 2, 1), (20, .ireturn, 1), (21, .iconst 0, 1), (22, .ireturn, 1)]
def gm_mL_symmetric : pM := (RL, yL_symmetric, cL_symmetric, 5, (some .int), gm_cL_symmetric, [(0, 10, 13, 27), (0, 10, 17, 15)], gm_KL)
def gm_cL_size : List (Nat × Instr × Nat) := [(0, .aload_n 2, 1), (1, .iconst 0, 1), (2, .aload_n 0, 1), (3, .iload_n 1, 1), (4, .invokevirtual 42, 3), (7, .i2l, 1), (8, .lastore, 1), (9, .goto 6, 3), (12, .astore_n 3, 1), (13, .iconst 1, 1), (14, .ireturn, 1), (15, .iconst 0, 1), (16, .ireturn, 1)]
def gm_mL_size : pM := (RL, yL_size, cL_size, 4, (some .int), gm_cL_size, [(0, 9, 12, 27)], gm_KL)
def gm_cL_symbol : List (Nat × Instr × Nat) := [(0, .aload_n 3, 1), (1, .iconst 0, 1), (2, .aload_n 0, 1), (3, .iload_n 1, 1), (4, .iload_n 2, 1), (5, .invokevirtual 45, 3), (8, .i2l, 1), (9, .lastore, 1), (10, .goto 11, 3), (13, .astore 4, 2), (15, .iconst 1, 1), (16, .ireturn, 1), (17, .astore 4, 2), (19, .iconst 2, 1), (20, .ireturn, 1), (21, .iconst 0, 1), (22, .ireturn, 1)]
def gm_mL_symbol : pM := (RL, yL_symbol, cL_symbol, 5, (some .int), gm_cL_symbol, [(0, 10, 13, 27), (0, 10, 17, 49)], gm_KL)
def gm_cL_regions : List (Nat × Instr × Nat) := [(0, .aload_n 2, 1), (1, .iconst 0, 1), (2, .aload_n 0, 1), (3, .iload_n 1, 1), (4, .invokevirtual 51, 3), (7, .i2l, 1), (8, .lastore, 1), (9, .goto 6, 3), (12, .astore_n 3, 1), (13, .iconst 1, 1), (14, .ireturn, 1), (15, .iconst 0, 1), (16, .ireturn, 1)]
def gm_mL_regions : pM := (RL, yL_regions, cL_regions, 4, (some .int), gm_cL_regions, [(0, 9, 12, 27)], gm_KL)
def gm_cL_covers : List (Nat × Instr × Nat) := [(0, .aload_n 3, 1), (1, .iconst 0, 1), (2, .aload_n 0, 1), (3, .iload_n 1, 1), (4, .iload_n 2, 1), (5, .invokevirtual 54, 3), (8, .ifCond .eq 7, 3), (11, .lconst 1, 1), (12, .goto 4, 3), (15, .lconst 0, 1), (16, .lastore, 1), (17, .goto 11, 3), (20, .astore 4, 2), (22, .iconst 1, 1), (23, .ireturn, 1), (24, .astore 4, 2), (26, .iconst 2, 1), (27, .ireturn, 1), (28, .iconst 0, 1), (29, .ireturn, 1)]
def gm_mL_covers : pM := (RL, yL_covers, cL_covers, 5, (some .int), gm_cL_covers, [(0, 17, 20, 27), (0, 17, 24, 13)], gm_KL)
def gm_cL_coversByTerm : List (Nat × Instr × Nat) := [(0, .aload_n 3, 1), (1, .iconst 0, 1), (2, .aload_n 0, 1), (3, .iload_n 1, 1), (4, .iload_n 2, 1), (5, .invokevirtual 58, 3), (8, .ifCond .eq 7, 3), (11, .lconst 1, 1), (12, .goto 4, 3), (15, .lconst 0, 1), (16, .lastore, 1), (17, .goto 11, 3), (20, .astore 4, 2), (22, .iconst 1, 1), (23, .ireturn, 1), (24, .astore 4, 2), (26, .iconst 2, 1), (27, .ireturn, 1), (28, .iconst 0, 1), (29, .ireturn, 1)]
def gm_mL_coversByTerm : pM := (RL, yL_coversByTerm, cL_coversByTerm, 5, (some .int), gm_cL_coversByTerm, [(0, 17, 20, 27), (0, 17, 24, 13)], gm_KL)
def gm_cL_isEqual : List (Nat × Instr × Nat) := [(0, .aload_n 3, 1), (1, .iconst 0, 1), (2, .aload_n 0, 1), (3, .iload_n 1, 1), (4, .iload_n 2, 1), (5, .invokevirtual 61, 3), (8, .ifCond .eq 7, 3), (11, .lconst 1, 1), (12, .goto 4, 3), (15, .lconst 0, 1), (16, .lastore, 1), (17, .goto 7, 3), (20, .astore 4, 2), (22, .iconst 1, 1), (23, .ireturn, 1), (24, .iconst 0, 1), (25, .ireturn, 1)]
def gm_mL_isEqual : pM := (RL, yL_isEqual, cL_isEqual, 5, (some .int), gm_cL_isEqual, [(0, 17, 20, 27)], gm_KL)
def gm_cL_rule : List (Nat × Instr × Nat) := [(0, .aload_n 2, 1), (1, .iconst 0, 1), (2, .aload_n 0, 1), (3, .iload_n 1, 1), (4, .invokevirtual 64, 3), (7, .i2l, 1), (8, .lastore, 1), (9, .goto 9, 3), (12, .astore_n 3, 1), (13, .iconst 1, 1), (14, .ireturn, 1), (15, .astore_n 3, 1), (16, .iconst 2, 1), (17, .ireturn, 1), (18, .iconst 0, 1), (19, .ireturn, 1)]
def gm_mL_rule : pM := (RL, yL_rule, cL_rule, 4, (some .int), gm_cL_rule, [(0, 9, 12, 27), (0, 9, 15, 49)], gm_KL)
def gm_cL_step : List (Nat × Instr × Nat) := [(0, .aload_n 2, 1), (1, .iconst 0, 1), (2, .aload_n 0, 1), (3, .iload_n 1, 1), (4, .invokevirtual 68, 3), (7, .i2l, 1), (8, .lastore, 1), (9, .goto 15, 3), (12, .astore_n 3, 1), (13, .iconst 1, 1), (14, .ireturn, 1), (15, .astore_n 3, 1), (16, .iconst 2, 1), (17, .ireturn, 1), (18, .astore_n 3, 1), (19, .iconst 3, 1), (20, .ireturn, 1), (21, .astore_n 3, 1), (22, .iconst 4, 1), (23, .ireturn, 1), (24, .iconst 0, 1), (25, .ireturn, 1)]
def gm_mL_step : pM := (RL, yL_step, cL_step, 4, (some .int), gm_cL_step, [(0, 9, 12, 27), (0, 9, 15, 49), (0, 9, 18, 71), (0, 9, 21, 15)], gm_KL)
def gm_cL_steps : List (Nat × Instr × Nat) := [(0, .aload_n 2, 1), (1, .iconst 0, 1), (2, .aload_n 0, 1), (3, .iload_n 1, 1), (4, .invokevirtual 73, 3), (7, .i2l, 1), (8, .lastore, 1), (9, .goto 6, 3), (12, .astore_n 3, 1), (13, .iconst 1, 1), (14, .ireturn, 1), (15, .iconst 0, 1), (16, .ireturn, 1)]
def gm_mL_steps : pM := (RL, yL_steps, cL_steps, 4, (some .int), gm_cL_steps, [(0, 9, 12, 27)], gm_KL)
def gm_cL_normalForm : List (Nat × Instr × Nat) := [(0, .aload_n 2, 1), (1, .iconst 0, 1), (2, .aload_n 0, 1), (3, .iload_n 1, 1), (4, .invokevirtual 76, 3), (7, .i2l, 1), (8, .lastore, 1), (9, .goto 12, 3), (12, .astore_n 3, 1), (13, .iconst 1, 1), (14, .ireturn, 1), (15, .astore_n 3, 1), (16, .iconst 2, 1), (17, .ireturn, 1), (18, .astore_n 3, 1), (19, .iconst 3, 1), (20, .ireturn, 1), (21, .iconst 0, 1), (22, .ireturn, 1)]
def gm_mL_normalForm : pM := (RL, yL_normalForm, cL_normalForm, 4, (some .int), gm_cL_normalForm, [(0, 9, 12, 27), (0, 9, 15, 71), (0, 9, 18, 15)], gm_KL)
def gm_cL_primes : List (Nat × Instr × Nat) := [(0, .aload_n 2, 1), (1, .iconst 0, 1), (2, .aload_n 0, 1), (3, .iload_n 1, 1), (4, .invokevirtual 79, 3), (7, .i2l, 1), (8, .lastore, 1), (9, .goto 6, 3), (12, .astore_n 3, 1), (13, .iconst 1, 1), (14, .ireturn, 1), (15, .iconst 0, 1), (16, .ireturn, 1)]
def gm_mL_primes : pM := (RL, yL_primes, cL_primes, 4, (some .int), gm_cL_primes, [(0, 9, 12, 27)], gm_KL)
def gm_cL_primesByTrying : List (Nat × Instr × Nat) := [(0, .aload_n 2, 1), (1, .iconst 0, 1), (2, .aload_n 0, 1), (3, .iload_n 1, 1), (4, .invokevirtual 82, 3), (7, .i2l, 1), (8, .lastore, 1), (9, .goto 6, 3), (12, .astore_n 3, 1), (13, .iconst 1, 1), (14, .ireturn, 1), (15, .iconst 0, 1), (16, .ireturn, 1)]
def gm_mL_primesByTrying : pM := (RL, yL_primesByTrying, cL_primesByTrying, 4, (some .int), gm_cL_primesByTrying, [(0, 9, 12, 27)], gm_KL)
def gm_cL_prime : List (Nat × Instr × Nat) := [(0, .aload 4, 2), (2, .iconst 0, 1), (3, .aload_n 0, 1), (4, .iload_n 1, 1), (5, .iload_n 2, 1), (6, .iload_n 3, 1), (7, .invokevirtual 85, 3), (10, .i2l, 1), (11, .lastore, 1), (12, .goto 15, 3), (15, .astore 5, 2), (17, .iconst 1, 1), (18, .ireturn, 1), (19, .astore 5, 2), (21, .iconst 2, 1), (22, .ireturn, 1), (23, .astore 5, 2), (25, .iconst 3, 1), (26, .ireturn, 1), (27, .iconst 0, 1), (28, .ireturn, 1)]
def gm_mL_prime : pM := (RL, yL_prime, cL_prime, 6, (some .int), gm_cL_prime, [(0, 12, 15, 27), (0, 12, 19, 49), (0, 12, 23, 13)], gm_KL)
def gm_cL_assume : List (Nat × Instr × Nat) := [(0, .aload 4, 2), (2, .iconst 0, 1), (3, .aload_n 0, 1), (4, .iload_n 1, 1), (5, .iload_n 2, 1), (6, .iload_n 3, 1), (7, .invokevirtual 89, 3), (10, .i2l, 1), (11, .lastore, 1), (12, .goto 15, 3), (15, .astore 5, 2), (17, .iconst 1, 1), (18, .ireturn, 1), (19, .astore 5, 2), (21, .iconst 2, 1), (22, .ireturn, 1), (23, .astore 5, 2), (25, .iconst 3, 1), (26, .ireturn, 1), (27, .iconst 0, 1), (28, .ireturn, 1)]
def gm_mL_assume : pM := (RL, yL_assume, cL_assume, 6, (some .int), gm_cL_assume, [(0, 12, 15, 13), (0, 12, 19, 27), (0, 12, 23, 15)], gm_KL)
def gm_cL_drop : List (Nat × Instr × Nat) := [(0, .aload_n 1, 1), (1, .iconst 0, 1), (2, .aload_n 0, 1), (3, .invokevirtual 93, 3), (6, .i2l, 1), (7, .lastore, 1), (8, .goto 6, 3), (11, .astore_n 2, 1), (12, .iconst 1, 1), (13, .ireturn, 1), (14, .iconst 0, 1), (15, .ireturn, 1)]
def gm_mL_drop : pM := (RL, yL_drop, cL_drop, 3, (some .int), gm_cL_drop, [(0, 8, 11, 15)], gm_KL)
def gm_cL_setGoal : List (Nat × Instr × Nat) := [(0, .aload 4, 2), (2, .iconst 0, 1), (3, .aload_n 0, 1), (4, .iload_n 1, 1), (5, .iload_n 2, 1), (6, .iload_n 3, 1), (7, .invokevirtual 96, 3), (10, .ifCond .eq 7, 3), (13, .lconst 1, 1), (14, .goto 4, 3), (17, .lconst 0, 1), (18, .lastore, 1), (19, .goto 11, 3), (22, .astore 5, 2), (24, .iconst 1, 1), (25, .ireturn, 1), (26, .astore 5, 2), (28, .iconst 2, 1), (29, .ireturn, 1), (30, .iconst 0, 1), (31, .ireturn, 1)]
def gm_mL_setGoal : pM := (RL, yL_setGoal, cL_setGoal, 6, (some .int), gm_cL_setGoal, [(0, 19, 22, 13), (0, 19, 26, 27)], gm_KL)
def gm_cL_deniedBy : List (Nat × Instr × Nat) := [(0, .aload_n 2, 1), (1, .iconst 0, 1), (2, .aload_n 0, 1), (3, .iload_n 1, 1), (4, .invokevirtual 100, 3), (7, .i2l, 1), (8, .lastore, 1), (9, .goto 9, 3), (12, .astore_n 3, 1), (13, .iconst 1, 1), (14, .ireturn, 1), (15, .astore_n 3, 1), (16, .iconst 2, 1), (17, .ireturn, 1), (18, .iconst 0, 1), (19, .ireturn, 1)]
def gm_mL_deniedBy : pM := (RL, yL_deniedBy, cL_deniedBy, 4, (some .int), gm_cL_deniedBy, [(0, 9, 12, 13), (0, 9, 15, 49)], gm_KL)
def gm_cL_follows : List (Nat × Instr × Nat) := [(0, .aload_n 1, 1), (1, .iconst 0, 1), (2, .aload_n 0, 1), (3, .invokevirtual 103, 3), (6, .ifCond .eq 7, 3), (9, .lconst 1, 1), (10, .goto 4, 3), (13, .lconst 0, 1), (14, .lastore, 1), (15, .goto 6, 3), (18, .astore_n 2, 1), (19, .iconst 1, 1), (20, .ireturn, 1), (21, .iconst 0, 1), (22, .ireturn, 1)]
def gm_mL_follows : pM := (RL, yL_follows, cL_follows, 3, (some .int), gm_cL_follows, [(0, 15, 18, 15)], gm_KL)
def gm_cL_why : List (Nat × Instr × Nat) := [(0, .aload_n 1, 1), (1, .iconst 0, 1), (2, .aload_n 0, 1), (3, .invokevirtual 107, 3), (6, .i2l, 1), (7, .lastore, 1), (8, .goto 9, 3), (11, .astore_n 2, 1), (12, .iconst 1, 1), (13, .ireturn, 1), (14, .astore_n 2, 1), (15, .iconst 2, 1), (16, .ireturn, 1), (17, .iconst 0, 1), (18, .ireturn, 1)]
def gm_mL_why : pM := (RL, yL_why, cL_why, 3, (some .int), gm_cL_why, [(0, 8, 11, 15), (0, 8, 14, 49)], gm_KL)
def gm_cL_witness : List (Nat × Instr × Nat) := [(0, .aload_n 1, 1), (1, .iconst 0, 1), (2, .aload_n 0, 1), (3, .invokevirtual 111, 3), (6, .i2l, 1), (7, .lastore, 1), (8, .goto 12, 3), (11, .astore_n 2, 1), (12, .iconst 1, 1), (13, .ireturn, 1), (14, .astore_n 2, 1), (15, .iconst 2, 1), (16, .ireturn, 1), (17, .astore_n 2, 1), (18, .iconst 3, 1), (19, .ireturn, 1), (20, .iconst 0, 1), (21, .ireturn, 1)]
def gm_mL_witness : pM := (RL, yL_witness, cL_witness, 3, (some .int), gm_cL_witness, [(0, 8, 11, 15), (0, 8, 14, 71), (0, 8, 17, 49)], gm_KL)
def gm_cL_elements : List (Nat × Instr × Nat) := [(0, .aload_n 1, 1), (1, .iconst 0, 1), (2, .aload_n 0, 1), (3, .invokevirtual 114, 3), (6, .i2l, 1), (7, .lastore, 1), (8, .goto 9, 3), (11, .astore_n 2, 1), (12, .iconst 1, 1), (13, .ireturn, 1), (14, .astore_n 2, 1), (15, .iconst 2, 1), (16, .ireturn, 1), (17, .iconst 0, 1), (18, .ireturn, 1)]
def gm_mL_elements : pM := (RL, yL_elements, cL_elements, 3, (some .int), gm_cL_elements, [(0, 8, 11, 15), (0, 8, 14, 49)], gm_KL)
def gm_cL_elementsByTrying : List (Nat × Instr × Nat) := [(0, .aload_n 1, 1), (1, .iconst 0, 1), (2, .aload_n 0, 1), (3, .invokevirtual 117, 3), (6, .i2l, 1), (7, .lastore, 1), (8, .goto 9, 3), (11, .astore_n 2, 1), (12, .iconst 1, 1), (13, .ireturn, 1), (14, .astore_n 2, 1), (15, .iconst 2, 1), (16, .ireturn, 1), (17, .iconst 0, 1), (18, .ireturn, 1)]
def gm_mL_elementsByTrying : pM := (RL, yL_elementsByTrying, cL_elementsByTrying, 3, (some .int), gm_cL_elementsByTrying, [(0, 8, 11, 15), (0, 8, 14, 49)], gm_KL)
def gm_cL_region : List (Nat × Instr × Nat) := [(0, .aload_n 2, 1), (1, .iconst 0, 1), (2, .aload_n 0, 1), (3, .iload_n 1, 1), (4, .invokevirtual 120, 3), (7, .i2l, 1), (8, .lastore, 1), (9, .goto 9, 3), (12, .astore_n 3, 1), (13, .iconst 1, 1), (14, .ireturn, 1), (15, .astore_n 3, 1), (16, .iconst 2, 1), (17, .ireturn, 1), (18, .iconst 0, 1), (19, .ireturn, 1)]
def gm_mL_region : pM := (RL, yL_region, cL_region, 4, (some .int), gm_cL_region, [(0, 9, 12, 15), (0, 9, 15, 49)], gm_KL)
def gm_cL_models : List (Nat × Instr × Nat) := [(0, .aload_n 2, 1), (1, .iconst 0, 1), (2, .aload_n 0, 1), (3, .iload_n 1, 1), (4, .invokevirtual 123, 3), (7, .lastore, 1), (8, .goto 6, 3), (11, .astore_n 3, 1), (12, .iconst 1, 1), (13, .ireturn, 1), (14, .iconst 0, 1), (15, .ireturn, 1)]
def gm_mL_models : pM := (RL, yL_models, cL_models, 4, (some .int), gm_cL_models, [(0, 8, 11, 13)], gm_KL)
def gm_cL_modelsByTrying : List (Nat × Instr × Nat) := [(0, .aload_n 2, 1), (1, .iconst 0, 1), (2, .aload_n 0, 1), (3, .iload_n 1, 1), (4, .invokevirtual 127, 3), (7, .lastore, 1), (8, .goto 6, 3), (11, .astore_n 3, 1), (12, .iconst 1, 1), (13, .ireturn, 1), (14, .iconst 0, 1), (15, .ireturn, 1)]
def gm_mL_modelsByTrying : pM := (RL, yL_modelsByTrying, cL_modelsByTrying, 4, (some .int), gm_cL_modelsByTrying, [(0, 8, 11, 13)], gm_KL)
def gm_cL_density : List (Nat × Instr × Nat) := [(0, .aload_n 2, 1), (1, .iconst 0, 1), (2, .aload_n 0, 1), (3, .iload_n 1, 1), (4, .invokevirtual 130, 3), (7, .f2d, 1), (8, .dastore, 1), (9, .goto 6, 3), (12, .astore_n 3, 1), (13, .iconst 1, 1), (14, .ireturn, 1), (15, .iconst 0, 1), (16, .ireturn, 1)]
def gm_mL_density : pM := (RL, yL_density, cL_density, 4, (some .int), gm_cL_density, [(0, 9, 12, 27)], gm_KL)
def gm_tX0 : List pM := [gm_mX0_init, gm_mX0_tells, gm_mX0_digitOf, gm_mX0_weightOf, gm_mX0_regionsIn, gm_mX0_contains, gm_mX0_join, gm_mX0_isSingle, gm_mX0_joinParts, gm_mX0_countPrimes, gm_mX0_primeAt, gm_mX0_countByTrying, gm_mX0_isInLarger, gm_mX0_isInside]
def gm_tX1 : List pM := [gm_mX1_init, gm_mX1_load, gm_mX1_text, gm_mX1_canGoOn, gm_mX1_nextRule, gm_mX1_seek, gm_mX1_ruleAt, gm_mX1_ruleOfComplement, gm_mX1_ruleOfPair, gm_mX1_rewrite, gm_mX1_putRewritten, gm_mX1_putComplements, gm_mX1_putDifferences, gm_mX1_putOtherSide, gm_mX1_constantOf]
def gm_tX2 : List pM := [gm_mX2_init, gm_mX2_prepare, gm_mX2_want, gm_mX2_fewestBySets, gm_mX2_fewestFrom, gm_mX2_regionOf, gm_mX2_fewestByTrying, gm_mX2_canMeet]
def gm_tX3 : List pM := [gm_mX3_init, gm_mX3_howMany, gm_mX3_add, gm_mX3_removeLast, gm_mX3_demandsElement, gm_mX3_placesAt, gm_mX3_hasGoal, gm_mX3_goalDemands, gm_mX3_goalRegions, gm_mX3_aimAt, gm_mX3_allowed, gm_mX3_firstDenial, gm_mX3_firstUnmet, gm_mX3_haveModel, gm_mX3_firstWitness, gm_mX3_proveGoal, gm_mX3_allHold, gm_mX3_countModels, gm_mX3_isSetOfDemands, gm_mX3_placesOfSet, gm_mX3_power, gm_mX3_countModelsByTrying, gm_mX3_occupiedBy]
def gm_tX4 : List pM := [gm_mX4_init, gm_mX4_howMany, gm_mX4_isKnown, gm_mX4_sizeOf, gm_mX4_coverOf, gm_mX4_headOf, gm_mX4_leftOf, gm_mX4_rightOf, gm_mX4_symbolOf, gm_mX4_make, gm_mX4_find, gm_mX4_coverFrom, gm_mX4_makeAll, gm_mX4_makeNext, gm_mX4_reaches, gm_mX4_reachesBelow]
def gm_tX5 : List pM := [gm_mX5_init, gm_mX5_partsOf, gm_mX5_length, gm_mX5_clear, gm_mX5_rewind, gm_mX5_read, gm_mX5_at, gm_mX5_put, gm_mX5_putPart, gm_mX5_measure, gm_mX5_endOf, gm_mX5_isSame, gm_mX5_isComplement]
def gm_tX6 : List pM := [gm_mX6_init, gm_mX6_letter, gm_mX6_empty, gm_mX6_universe, gm_mX6_complement, gm_mX6_union, gm_mX6_intersection, gm_mX6_difference, gm_mX6_symmetric, gm_mX6_terms, gm_mX6_size, gm_mX6_symbol, gm_mX6_makePair, gm_mX6_madeOrThrow, gm_mX6_checkTerm, gm_mX6_checkLetter, gm_mX6_checkRegion, gm_mX6_regions, gm_mX6_covers, gm_mX6_coversByTerm, gm_mX6_isEqual, gm_mX6_isIn, gm_mX6_rule, gm_mX6_step, gm_mX6_steps, gm_mX6_normalForm, gm_mX6_primes, gm_mX6_primesByTrying, gm_mX6_prime, gm_mX6_ruleOrThrow, gm_mX6_rewriteOrThrow, gm_mX6_assume, gm_mX6_drop, gm_mX6_assumptions, gm_mX6_setGoal, gm_mX6_isConsistent, gm_mX6_deniedBy, gm_mX6_follows, gm_mX6_why, gm_mX6_witness, gm_mX6_checkStatement, gm_mX6_checkGoal, gm_mX6_isDenial, gm_mX6_isDemand, gm_mX6_placesOf, gm_mX6_elements, gm_mX6_elementsByTrying, gm_mX6_region, gm_mX6_models, gm_mX6_modelsByTrying, gm_mX6_density, gm_mX6_leastOrThrow, gm_mX6_checkElements]
def gm_tX7 : List pM := [gm_mX7_init, gm_mX7_thrown, gm_mX7_fail, gm_mX7_isIn, gm_mX7_noTerm, gm_mX7_isPair, gm_mX7_letterCover, gm_mX7_covered, gm_mX7_know, gm_mX7_makes, gm_mX7_letter, gm_mX7_empty, gm_mX7_universe, gm_mX7_complement, gm_mX7_pair, gm_mX7_union, gm_mX7_intersection, gm_mX7_difference, gm_mX7_symmetric, gm_mX7_terms, gm_mX7_size, gm_mX7_write, gm_mX7_spell, gm_mX7_symbol, gm_mX7_regions, gm_mX7_covers, gm_mX7_coversByTerm, gm_mX7_isEqual, gm_mX7_behind, gm_mX7_isSame, gm_mX7_ruleAt, gm_mX7_place, gm_mX7_puts, gm_mX7_copies, gm_mX7_rewrite, gm_mX7_parse, gm_mX7_learns, gm_mX7_rule, gm_mX7_step, gm_mX7_steps, gm_mX7_normalForm, gm_mX7_cube, gm_mX7_isImplicant, gm_mX7_isPrime, gm_mX7_primes, gm_mX7_primesByTrying, gm_mX7_prime, gm_mX7_isKind, gm_mX7_isDemand, gm_mX7_regionsOf, gm_mX7_assumed, gm_mX7_goal, gm_mX7_areTerms, gm_mX7_assume, gm_mX7_drop, gm_mX7_assumptions, gm_mX7_setGoal, gm_mX7_allowed, gm_mX7_hasModel, gm_mX7_isConsistent, gm_mX7_deniedBy, gm_mX7_counter, gm_mX7_isFollowing, gm_mX7_noGoal, gm_mX7_follows, gm_mX7_why, gm_mX7_witness, gm_mX7_choose, gm_mX7_least, gm_mX7_noCounterexample, gm_mX7_elements, gm_mX7_elementsByTrying, gm_mX7_region, gm_mX7_power, gm_mX7_ways, gm_mX7_models, gm_mX7_modelsByTrying, gm_mX7_density]
def gm_tJ : List pM := [gm_mJ6_bitCount_0f7a4, gm_mJ9_min_7cf53]
def gm_tL : List pM := [gm_mL_letter, gm_mL_empty, gm_mL_universe, gm_mL_complement, gm_mL_union, gm_mL_intersection, gm_mL_difference, gm_mL_symmetric, gm_mL_size, gm_mL_symbol, gm_mL_regions, gm_mL_covers, gm_mL_coversByTerm, gm_mL_isEqual, gm_mL_rule, gm_mL_step, gm_mL_steps, gm_mL_normalForm, gm_mL_primes, gm_mL_primesByTrying, gm_mL_prime, gm_mL_assume, gm_mL_drop, gm_mL_setGoal, gm_mL_deniedBy, gm_mL_follows, gm_mL_why, gm_mL_witness, gm_mL_elements, gm_mL_elementsByTrying, gm_mL_region, gm_mL_models, gm_mL_modelsByTrying, gm_mL_density]
def gm_ts : List (List pM) := [[], gm_tX0, gm_tX1, gm_tX2, gm_tX3, gm_tX4, gm_tX5, gm_tX6, gm_tX7, gm_tJ, gm_tL]
def gm_MT (mid : Nat) : Option pM := match gm_nth gm_ts (mid / 1000) with
  | some l => gm_nth l (mid % 1000)
  | none => none
end
section
/-! TABLES: what the claim's words say of them -/
theorem gm_asc_mem {α : Type} : ∀ {l : List (Nat × α)} {k : Nat} {a : α}, gm_asc l k = some a → (k, a) ∈ l
  | [], k, a, h => by simp [gm_asc] at h
  | (k0, a0) :: l, k, a, h => by
    simp only [gm_asc] at h
    cases hb : Nat.beq k0 k with
    | true =>
      rw [hb] at h
      simp only [cond_true, Option.some.injEq] at h
      rw [Nat.eq_of_beq_eq_true hb, h]
      exact List.mem_cons_self
    | false =>
      rw [hb] at h
      exact List.mem_cons_of_mem _ (gm_asc_mem h)
theorem gm_asc_all {α : Type} {l : List (Nat × α)} {P : Nat → α → Prop} (hl : ∀ x ∈ l, P x.1 x.2) {k : Nat} {a : α} (h : gm_asc l k = some a) : P k a := hl (k, a) (gm_asc_mem h)

theorem gm_u0 : Cond.selects RX3 yX3_firstUnmet yX3_firstUnmet ∈ gm_U := gm_U_in (List.mem_of_getElem? (l := lw_tbl) (i := 0) (by decide +kernel)) rfl
theorem gm_u1 : Cond.selects RX6 yX6_checkLetter yX6_checkLetter ∈ gm_U := gm_U_in (List.mem_of_getElem? (l := lw_tbl) (i := 1) (by decide +kernel)) rfl
theorem gm_u3 : Cond.selects RX4 yX4_find yX4_find ∈ gm_U := gm_U_in (List.mem_of_getElem? (l := lw_tbl) (i := 3) (by decide +kernel)) rfl
theorem gm_u4 : Cond.selects RX6 yX6_madeOrThrow yX6_madeOrThrow ∈ gm_U := gm_U_in (List.mem_of_getElem? (l := lw_tbl) (i := 4) (by decide +kernel)) rfl
theorem gm_u5 : Cond.selects RX6 yX6_checkTerm yX6_checkTerm ∈ gm_U := gm_U_in (List.mem_of_getElem? (l := lw_tbl) (i := 5) (by decide +kernel)) rfl
theorem gm_u6 : Cond.selects RX6 yX6_makePair yX6_makePair ∈ gm_U := gm_U_in (List.mem_of_getElem? (l := lw_tbl) (i := 6) (by decide +kernel)) rfl
theorem gm_u7 : Cond.selects RX4 yX4_leftOf yX4_leftOf ∈ gm_U := gm_U_in (List.mem_of_getElem? (l := lw_tbl) (i := 7) (by decide +kernel)) rfl
theorem gm_u8 : Cond.selects RX4 yX4_rightOf yX4_rightOf ∈ gm_U := gm_U_in (List.mem_of_getElem? (l := lw_tbl) (i := 8) (by decide +kernel)) rfl
theorem gm_u9 : Cond.selects RX4 yX4_headOf yX4_headOf ∈ gm_U := gm_U_in (List.mem_of_getElem? (l := lw_tbl) (i := 9) (by decide +kernel)) rfl
theorem gm_u10 : Cond.selects RX6 yX6_checkRegion yX6_checkRegion ∈ gm_U := gm_U_in (List.mem_of_getElem? (l := lw_tbl) (i := 10) (by decide +kernel)) rfl
theorem gm_u11 : Cond.selects RX4 yX4_reachesBelow yX4_reachesBelow ∈ gm_U := gm_U_in (List.mem_of_getElem? (l := lw_tbl) (i := 11) (by decide +kernel)) rfl
theorem gm_u12 : Cond.selects RX1 yX1_seek yX1_seek ∈ gm_U := gm_U_in (List.mem_of_getElem? (l := lw_tbl) (i := 12) (by decide +kernel)) rfl
theorem gm_u13 : Cond.selects RX1 yX1_ruleAt yX1_ruleAt ∈ gm_U := gm_U_in (List.mem_of_getElem? (l := lw_tbl) (i := 13) (by decide +kernel)) rfl
theorem gm_u14 : Cond.selects RX1 yX1_ruleOfPair yX1_ruleOfPair ∈ gm_U := gm_U_in (List.mem_of_getElem? (l := lw_tbl) (i := 14) (by decide +kernel)) rfl
theorem gm_u15 : Cond.selects RX6 yX6_ruleOrThrow yX6_ruleOrThrow ∈ gm_U := gm_U_in (List.mem_of_getElem? (l := lw_tbl) (i := 15) (by decide +kernel)) rfl
theorem gm_u16 : Cond.selects RX6 yX6_rewriteOrThrow yX6_rewriteOrThrow ∈ gm_U := gm_U_in (List.mem_of_getElem? (l := lw_tbl) (i := 16) (by decide +kernel)) rfl
theorem gm_u17 : Cond.selects RX1 yX1_putRewritten yX1_putRewritten ∈ gm_U := gm_U_in (List.mem_of_getElem? (l := lw_tbl) (i := 17) (by decide +kernel)) rfl
theorem gm_u18 : Cond.selects RX1 yX1_putComplements yX1_putComplements ∈ gm_U := gm_U_in (List.mem_of_getElem? (l := lw_tbl) (i := 18) (by decide +kernel)) rfl
theorem gm_u19 : Cond.selects RX1 yX1_putDifferences yX1_putDifferences ∈ gm_U := gm_U_in (List.mem_of_getElem? (l := lw_tbl) (i := 19) (by decide +kernel)) rfl
theorem gm_u20 : Cond.selects RX1 yX1_putOtherSide yX1_putOtherSide ∈ gm_U := gm_U_in (List.mem_of_getElem? (l := lw_tbl) (i := 20) (by decide +kernel)) rfl
theorem gm_u21 : Cond.selects RX4 yX4_makeNext yX4_makeNext ∈ gm_U := gm_U_in (List.mem_of_getElem? (l := lw_tbl) (i := 21) (by decide +kernel)) rfl
theorem gm_u22 : Cond.selects RX0 yX0_joinParts yX0_joinParts ∈ gm_U := gm_U_in (List.mem_of_getElem? (l := lw_tbl) (i := 22) (by decide +kernel)) rfl
theorem gm_u23 : Cond.selects RX0 yX0_isInLarger yX0_isInLarger ∈ gm_U := gm_U_in (List.mem_of_getElem? (l := lw_tbl) (i := 23) (by decide +kernel)) rfl
theorem gm_u24 : Cond.selects RX6 yX6_checkStatement yX6_checkStatement ∈ gm_U := gm_U_in (List.mem_of_getElem? (l := lw_tbl) (i := 24) (by decide +kernel)) rfl
theorem gm_u25 : Cond.selects RX6 yX6_placesOf yX6_placesOf ∈ gm_U := gm_U_in (List.mem_of_getElem? (l := lw_tbl) (i := 25) (by decide +kernel)) rfl
theorem gm_u26 : Cond.selects RX6 yX6_checkGoal yX6_checkGoal ∈ gm_U := gm_U_in (List.mem_of_getElem? (l := lw_tbl) (i := 26) (by decide +kernel)) rfl
theorem gm_u27 : Cond.selects RX2 yX2_want yX2_want ∈ gm_U := gm_U_in (List.mem_of_getElem? (l := lw_tbl) (i := 27) (by decide +kernel)) rfl
theorem gm_u28 : Cond.selects RX2 yX2_fewestFrom yX2_fewestFrom ∈ gm_U := gm_U_in (List.mem_of_getElem? (l := lw_tbl) (i := 28) (by decide +kernel)) rfl
theorem gm_u29 : Cond.selects RX6 yX6_leastOrThrow yX6_leastOrThrow ∈ gm_U := gm_U_in (List.mem_of_getElem? (l := lw_tbl) (i := 29) (by decide +kernel)) rfl
theorem gm_u30 : Cond.selects RX2 yX2_canMeet yX2_canMeet ∈ gm_U := gm_U_in (List.mem_of_getElem? (l := lw_tbl) (i := 30) (by decide +kernel)) rfl
theorem gm_u31 : Cond.selects RX6 yX6_checkElements yX6_checkElements ∈ gm_U := gm_U_in (List.mem_of_getElem? (l := lw_tbl) (i := 31) (by decide +kernel)) rfl
theorem gm_u32 : Cond.selects RX3 yX3_isSetOfDemands yX3_isSetOfDemands ∈ gm_U := gm_U_in (List.mem_of_getElem? (l := lw_tbl) (i := 32) (by decide +kernel)) rfl
theorem gm_u33 : Cond.selects RX3 yX3_placesOfSet yX3_placesOfSet ∈ gm_U := gm_U_in (List.mem_of_getElem? (l := lw_tbl) (i := 33) (by decide +kernel)) rfl
theorem gm_u34 : Cond.selects RX3 yX3_allHold yX3_allHold ∈ gm_U := gm_U_in (List.mem_of_getElem? (l := lw_tbl) (i := 34) (by decide +kernel)) rfl
theorem gm_u35 : Cond.selects RX7 yX7_fail yX7_fail ∈ gm_U := gm_U_in (List.mem_of_getElem? (l := lw_tbl) (i := 35) (by decide +kernel)) rfl
theorem gm_u36 : Cond.selects RX7 yX7_makes yX7_makes ∈ gm_U := gm_U_in (List.mem_of_getElem? (l := lw_tbl) (i := 36) (by decide +kernel)) rfl
theorem gm_u37 : Cond.selects RX7 yX7_know yX7_know ∈ gm_U := gm_U_in (List.mem_of_getElem? (l := lw_tbl) (i := 37) (by decide +kernel)) rfl
theorem gm_u38 : Cond.selects RX7 yX7_covered yX7_covered ∈ gm_U := gm_U_in (List.mem_of_getElem? (l := lw_tbl) (i := 38) (by decide +kernel)) rfl
theorem gm_u39 : Cond.selects RX7 yX7_noTerm yX7_noTerm ∈ gm_U := gm_U_in (List.mem_of_getElem? (l := lw_tbl) (i := 39) (by decide +kernel)) rfl
theorem gm_u40 : Cond.selects RX7 yX7_pair yX7_pair ∈ gm_U := gm_U_in (List.mem_of_getElem? (l := lw_tbl) (i := 40) (by decide +kernel)) rfl
theorem gm_u41 : Cond.selects RX7 yX7_spell yX7_spell ∈ gm_U := gm_U_in (List.mem_of_getElem? (l := lw_tbl) (i := 41) (by decide +kernel)) rfl
theorem gm_u42 : Cond.selects RX7 yX7_write yX7_write ∈ gm_U := gm_U_in (List.mem_of_getElem? (l := lw_tbl) (i := 42) (by decide +kernel)) rfl
theorem gm_u43 : Cond.selects RX7 yX7_place yX7_place ∈ gm_U := gm_U_in (List.mem_of_getElem? (l := lw_tbl) (i := 43) (by decide +kernel)) rfl
theorem gm_u44 : Cond.selects RX7 yX7_ruleAt yX7_ruleAt ∈ gm_U := gm_U_in (List.mem_of_getElem? (l := lw_tbl) (i := 44) (by decide +kernel)) rfl
theorem gm_u45 : Cond.selects RX7 yX7_behind yX7_behind ∈ gm_U := gm_U_in (List.mem_of_getElem? (l := lw_tbl) (i := 45) (by decide +kernel)) rfl
theorem gm_u46 : Cond.selects RX7 yX7_isSame yX7_isSame ∈ gm_U := gm_U_in (List.mem_of_getElem? (l := lw_tbl) (i := 46) (by decide +kernel)) rfl
theorem gm_u47 : Cond.selects RX7 yX7_rewrite yX7_rewrite ∈ gm_U := gm_U_in (List.mem_of_getElem? (l := lw_tbl) (i := 47) (by decide +kernel)) rfl
theorem gm_u48 : Cond.selects RX7 yX7_copies yX7_copies ∈ gm_U := gm_U_in (List.mem_of_getElem? (l := lw_tbl) (i := 48) (by decide +kernel)) rfl
theorem gm_u49 : Cond.selects RX7 yX7_puts yX7_puts ∈ gm_U := gm_U_in (List.mem_of_getElem? (l := lw_tbl) (i := 49) (by decide +kernel)) rfl
theorem gm_u50 : Cond.selects RX7 yX7_learns yX7_learns ∈ gm_U := gm_U_in (List.mem_of_getElem? (l := lw_tbl) (i := 50) (by decide +kernel)) rfl
theorem gm_u51 : Cond.selects RX7 yX7_parse yX7_parse ∈ gm_U := gm_U_in (List.mem_of_getElem? (l := lw_tbl) (i := 51) (by decide +kernel)) rfl
theorem gm_u52 : Cond.selects RX7 yX7_areTerms yX7_areTerms ∈ gm_U := gm_U_in (List.mem_of_getElem? (l := lw_tbl) (i := 52) (by decide +kernel)) rfl
theorem gm_u53 : Cond.selects RX7 yX7_allowed yX7_allowed ∈ gm_U := gm_U_in (List.mem_of_getElem? (l := lw_tbl) (i := 53) (by decide +kernel)) rfl
theorem gm_u54 : Cond.selects RX7 yX7_assumed yX7_assumed ∈ gm_U := gm_U_in (List.mem_of_getElem? (l := lw_tbl) (i := 54) (by decide +kernel)) rfl
theorem gm_u55 : Cond.selects RX7 yX7_regionsOf yX7_regionsOf ∈ gm_U := gm_U_in (List.mem_of_getElem? (l := lw_tbl) (i := 55) (by decide +kernel)) rfl
theorem gm_u56 : Cond.selects RX7 yX7_hasModel yX7_hasModel ∈ gm_U := gm_U_in (List.mem_of_getElem? (l := lw_tbl) (i := 56) (by decide +kernel)) rfl
theorem gm_u57 : Cond.selects RX7 yX7_noGoal yX7_noGoal ∈ gm_U := gm_U_in (List.mem_of_getElem? (l := lw_tbl) (i := 57) (by decide +kernel)) rfl
theorem gm_u58 : Cond.selects RX7 yX7_isFollowing yX7_isFollowing ∈ gm_U := gm_U_in (List.mem_of_getElem? (l := lw_tbl) (i := 58) (by decide +kernel)) rfl
theorem gm_u59 : Cond.selects RX7 yX7_counter yX7_counter ∈ gm_U := gm_U_in (List.mem_of_getElem? (l := lw_tbl) (i := 59) (by decide +kernel)) rfl
theorem gm_u60 : Cond.selects RX7 yX7_goal yX7_goal ∈ gm_U := gm_U_in (List.mem_of_getElem? (l := lw_tbl) (i := 60) (by decide +kernel)) rfl
theorem gm_u61 : Cond.selects RX7 yX7_noCounterexample yX7_noCounterexample ∈ gm_U := gm_U_in (List.mem_of_getElem? (l := lw_tbl) (i := 61) (by decide +kernel)) rfl
theorem gm_u62 : Cond.selects RX7 yX7_least yX7_least ∈ gm_U := gm_U_in (List.mem_of_getElem? (l := lw_tbl) (i := 62) (by decide +kernel)) rfl
theorem gm_u63 : Cond.selects RX7 yX7_choose yX7_choose ∈ gm_U := gm_U_in (List.mem_of_getElem? (l := lw_tbl) (i := 63) (by decide +kernel)) rfl
theorem gm_u64 : Cond.selects RX7 yX7_ways yX7_ways ∈ gm_U := gm_U_in (List.mem_of_getElem? (l := lw_tbl) (i := 64) (by decide +kernel)) rfl
theorem gm_u65 : Cond.initialized RL ∈ gm_U := gm_U_in (List.mem_of_getElem? (l := lw_tbl) (i := 65) (by decide +kernel)) rfl
theorem gm_u66 : Cond.initialized RX6 ∈ gm_U := gm_U_in (List.mem_of_getElem? (l := lw_tbl) (i := 66) (by decide +kernel)) rfl
theorem gm_u67 : Cond.initialized RX4 ∈ gm_U := gm_U_in (List.mem_of_getElem? (l := lw_tbl) (i := 67) (by decide +kernel)) rfl
theorem gm_u68 : Cond.initialized RX1 ∈ gm_U := gm_U_in (List.mem_of_getElem? (l := lw_tbl) (i := 68) (by decide +kernel)) rfl
theorem gm_u69 : Cond.initialized RX5 ∈ gm_U := gm_U_in (List.mem_of_getElem? (l := lw_tbl) (i := 69) (by decide +kernel)) rfl
theorem gm_u70 : Cond.initialized RX0 ∈ gm_U := gm_U_in (List.mem_of_getElem? (l := lw_tbl) (i := 70) (by decide +kernel)) rfl
theorem gm_u71 : Cond.initialized RX3 ∈ gm_U := gm_U_in (List.mem_of_getElem? (l := lw_tbl) (i := 71) (by decide +kernel)) rfl
theorem gm_u72 : Cond.initialized RX2 ∈ gm_U := gm_U_in (List.mem_of_getElem? (l := lw_tbl) (i := 72) (by decide +kernel)) rfl
theorem gm_u73 : Cond.initialized RX7 ∈ gm_U := gm_U_in (List.mem_of_getElem? (l := lw_tbl) (i := 73) (by decide +kernel)) rfl
theorem gm_u81 : Cond.initialized RJ6 ∈ gm_U := gm_U_in (List.mem_of_getElem? (l := lw_tbl) (i := 81) (by decide +kernel)) rfl
theorem gm_u82 : Cond.initialized RJ9 ∈ gm_U := gm_U_in (List.mem_of_getElem? (l := lw_tbl) (i := 82) (by decide +kernel)) rfl
theorem gm_u84 : Cond.classLink RL 8 RX6 ∈ gm_U := gm_U_in (List.mem_of_getElem? (l := lw_tbl) (i := 84) (by decide +kernel)) rfl
theorem gm_u85 : Cond.instantiable RX6 5 ∈ gm_U := gm_U_in (List.mem_of_getElem? (l := lw_tbl) (i := 85) (by decide +kernel)) rfl
theorem gm_u86 : Cond.methodLink RL 134 yX6_init ∈ gm_U := gm_U_in (List.mem_of_getElem? (l := lw_tbl) (i := 86) (by decide +kernel)) rfl
theorem gm_u87 : Cond.instanceMethod yX6_init ∈ gm_U := gm_U_in (List.mem_of_getElem? (l := lw_tbl) (i := 87) (by decide +kernel)) rfl
theorem gm_u88 : Cond.code yX6_init cX6_init 1 none ∈ gm_U := gm_U_in (List.mem_of_getElem? (l := lw_tbl) (i := 88) (by decide +kernel)) rfl
theorem gm_u89 : Cond.methodLink RX6 1 objectInit ∈ gm_U := gm_U_in (List.mem_of_getElem? (l := lw_tbl) (i := 89) (by decide +kernel)) rfl
theorem gm_u90 : Cond.instanceMethod objectInit ∈ gm_U := gm_U_in (List.mem_of_getElem? (l := lw_tbl) (i := 90) (by decide +kernel)) rfl
theorem gm_u91 : Cond.code objectInit ⟨#[0xb1]⟩ 1 none ∈ gm_U := gm_U_in (List.mem_of_getElem? (l := lw_tbl) (i := 91) (by decide +kernel)) rfl
theorem gm_u92 : Cond.classLink RX6 7 RX4 ∈ gm_U := gm_U_in (List.mem_of_getElem? (l := lw_tbl) (i := 92) (by decide +kernel)) rfl
theorem gm_u93 : Cond.instantiable RX4 6 ∈ gm_U := gm_U_in (List.mem_of_getElem? (l := lw_tbl) (i := 93) (by decide +kernel)) rfl
theorem gm_u95 : Cond.instanceMethod yX4_init ∈ gm_U := gm_U_in (List.mem_of_getElem? (l := lw_tbl) (i := 95) (by decide +kernel)) rfl
theorem gm_u96 : Cond.code yX4_init cX4_init 1 none ∈ gm_U := gm_U_in (List.mem_of_getElem? (l := lw_tbl) (i := 96) (by decide +kernel)) rfl
theorem gm_u97 : Cond.methodLink RX4 3 objectInit ∈ gm_U := gm_U_in (List.mem_of_getElem? (l := lw_tbl) (i := 97) (by decide +kernel)) rfl
theorem gm_u98 : Cond.fieldLink RX4 9 "Gimlet$Terms" "heads" "[C" ∈ gm_U := gm_U_in (List.mem_of_getElem? (l := lw_tbl) (i := 98) (by decide +kernel)) rfl
theorem gm_u99 : Cond.fieldLink RX4 15 "Gimlet$Terms" "lefts" "[I" ∈ gm_U := gm_U_in (List.mem_of_getElem? (l := lw_tbl) (i := 99) (by decide +kernel)) rfl
theorem gm_u100 : Cond.fieldLink RX4 19 "Gimlet$Terms" "rights" "[I" ∈ gm_U := gm_U_in (List.mem_of_getElem? (l := lw_tbl) (i := 100) (by decide +kernel)) rfl
theorem gm_u101 : Cond.fieldLink RX4 22 "Gimlet$Terms" "sizes" "[I" ∈ gm_U := gm_U_in (List.mem_of_getElem? (l := lw_tbl) (i := 101) (by decide +kernel)) rfl
theorem gm_u102 : Cond.fieldLink RX4 25 "Gimlet$Terms" "covered" "[I" ∈ gm_U := gm_U_in (List.mem_of_getElem? (l := lw_tbl) (i := 102) (by decide +kernel)) rfl
theorem gm_u103 : Cond.fieldLink RX4 28 "Gimlet$Terms" "count" "I" ∈ gm_U := gm_U_in (List.mem_of_getElem? (l := lw_tbl) (i := 103) (by decide +kernel)) rfl
theorem gm_u104 : Cond.laysFinal RX4 "Gimlet$Terms" "heads" "[C" ∈ gm_U := gm_U_in (List.mem_of_getElem? (l := lw_tbl) (i := 104) (by decide +kernel)) rfl
theorem gm_u106 : Cond.laysFinal RX4 "Gimlet$Terms" "lefts" "[I" ∈ gm_U := gm_U_in (List.mem_of_getElem? (l := lw_tbl) (i := 106) (by decide +kernel)) rfl
theorem gm_u108 : Cond.laysFinal RX4 "Gimlet$Terms" "rights" "[I" ∈ gm_U := gm_U_in (List.mem_of_getElem? (l := lw_tbl) (i := 108) (by decide +kernel)) rfl
theorem gm_u110 : Cond.laysFinal RX4 "Gimlet$Terms" "sizes" "[I" ∈ gm_U := gm_U_in (List.mem_of_getElem? (l := lw_tbl) (i := 110) (by decide +kernel)) rfl
theorem gm_u112 : Cond.laysFinal RX4 "Gimlet$Terms" "covered" "[I" ∈ gm_U := gm_U_in (List.mem_of_getElem? (l := lw_tbl) (i := 112) (by decide +kernel)) rfl
theorem gm_u114 : Cond.lays RX4 "Gimlet$Terms" "count" "I" ∈ gm_U := gm_U_in (List.mem_of_getElem? (l := lw_tbl) (i := 114) (by decide +kernel)) rfl
theorem gm_u117 : Cond.arrayClass .char ∈ gm_U := gm_U_in (List.mem_of_getElem? (l := lw_tbl) (i := 117) (by decide +kernel)) rfl
theorem gm_u118 : Cond.arrayClass .int ∈ gm_U := gm_U_in (List.mem_of_getElem? (l := lw_tbl) (i := 118) (by decide +kernel)) rfl
theorem gm_u119 : Cond.classLink RX6 16 RX1 ∈ gm_U := gm_U_in (List.mem_of_getElem? (l := lw_tbl) (i := 119) (by decide +kernel)) rfl
theorem gm_u120 : Cond.instantiable RX1 4 ∈ gm_U := gm_U_in (List.mem_of_getElem? (l := lw_tbl) (i := 120) (by decide +kernel)) rfl
theorem gm_u122 : Cond.instanceMethod yX1_init ∈ gm_U := gm_U_in (List.mem_of_getElem? (l := lw_tbl) (i := 122) (by decide +kernel)) rfl
theorem gm_u123 : Cond.code yX1_init cX1_init 1 none ∈ gm_U := gm_U_in (List.mem_of_getElem? (l := lw_tbl) (i := 123) (by decide +kernel)) rfl
theorem gm_u124 : Cond.methodLink RX1 3 objectInit ∈ gm_U := gm_U_in (List.mem_of_getElem? (l := lw_tbl) (i := 124) (by decide +kernel)) rfl
theorem gm_u125 : Cond.classLink RX1 9 RX5 ∈ gm_U := gm_U_in (List.mem_of_getElem? (l := lw_tbl) (i := 125) (by decide +kernel)) rfl
theorem gm_u126 : Cond.instantiable RX5 4 ∈ gm_U := gm_U_in (List.mem_of_getElem? (l := lw_tbl) (i := 126) (by decide +kernel)) rfl
theorem gm_u128 : Cond.instanceMethod yX5_init ∈ gm_U := gm_U_in (List.mem_of_getElem? (l := lw_tbl) (i := 128) (by decide +kernel)) rfl
theorem gm_u129 : Cond.code yX5_init cX5_init 1 none ∈ gm_U := gm_U_in (List.mem_of_getElem? (l := lw_tbl) (i := 129) (by decide +kernel)) rfl
theorem gm_u130 : Cond.methodLink RX5 3 objectInit ∈ gm_U := gm_U_in (List.mem_of_getElem? (l := lw_tbl) (i := 130) (by decide +kernel)) rfl
theorem gm_u131 : Cond.fieldLink RX5 11 "Gimlet$Text" "row" "[C" ∈ gm_U := gm_U_in (List.mem_of_getElem? (l := lw_tbl) (i := 131) (by decide +kernel)) rfl
theorem gm_u132 : Cond.fieldLink RX5 15 "Gimlet$Text" "ends" "[I" ∈ gm_U := gm_U_in (List.mem_of_getElem? (l := lw_tbl) (i := 132) (by decide +kernel)) rfl
theorem gm_u133 : Cond.fieldLink RX5 19 "Gimlet$Text" "length" "I" ∈ gm_U := gm_U_in (List.mem_of_getElem? (l := lw_tbl) (i := 133) (by decide +kernel)) rfl
theorem gm_u134 : Cond.fieldLink RX5 23 "Gimlet$Text" "cursor" "I" ∈ gm_U := gm_U_in (List.mem_of_getElem? (l := lw_tbl) (i := 134) (by decide +kernel)) rfl
theorem gm_u135 : Cond.laysFinal RX5 "Gimlet$Text" "row" "[C" ∈ gm_U := gm_U_in (List.mem_of_getElem? (l := lw_tbl) (i := 135) (by decide +kernel)) rfl
theorem gm_u137 : Cond.laysFinal RX5 "Gimlet$Text" "ends" "[I" ∈ gm_U := gm_U_in (List.mem_of_getElem? (l := lw_tbl) (i := 137) (by decide +kernel)) rfl
theorem gm_u139 : Cond.lays RX5 "Gimlet$Text" "length" "I" ∈ gm_U := gm_U_in (List.mem_of_getElem? (l := lw_tbl) (i := 139) (by decide +kernel)) rfl
theorem gm_u141 : Cond.lays RX5 "Gimlet$Text" "cursor" "I" ∈ gm_U := gm_U_in (List.mem_of_getElem? (l := lw_tbl) (i := 141) (by decide +kernel)) rfl
theorem gm_u144 : Cond.fieldLink RX1 12 "Gimlet$Rewriter" "now" "LGimlet$Text;" ∈ gm_U := gm_U_in (List.mem_of_getElem? (l := lw_tbl) (i := 144) (by decide +kernel)) rfl
theorem gm_u145 : Cond.fieldLink RX1 18 "Gimlet$Rewriter" "next" "LGimlet$Text;" ∈ gm_U := gm_U_in (List.mem_of_getElem? (l := lw_tbl) (i := 145) (by decide +kernel)) rfl
theorem gm_u146 : Cond.fieldLink RX1 21 "Gimlet$Rewriter" "place" "I" ∈ gm_U := gm_U_in (List.mem_of_getElem? (l := lw_tbl) (i := 146) (by decide +kernel)) rfl
theorem gm_u147 : Cond.fieldLink RX1 25 "Gimlet$Rewriter" "rule" "C" ∈ gm_U := gm_U_in (List.mem_of_getElem? (l := lw_tbl) (i := 147) (by decide +kernel)) rfl
theorem gm_u148 : Cond.lays RX1 "Gimlet$Rewriter" "now" "LGimlet$Text;" ∈ gm_U := gm_U_in (List.mem_of_getElem? (l := lw_tbl) (i := 148) (by decide +kernel)) rfl
theorem gm_u150 : Cond.lays RX1 "Gimlet$Rewriter" "next" "LGimlet$Text;" ∈ gm_U := gm_U_in (List.mem_of_getElem? (l := lw_tbl) (i := 150) (by decide +kernel)) rfl
theorem gm_u152 : Cond.lays RX1 "Gimlet$Rewriter" "place" "I" ∈ gm_U := gm_U_in (List.mem_of_getElem? (l := lw_tbl) (i := 152) (by decide +kernel)) rfl
theorem gm_u154 : Cond.lays RX1 "Gimlet$Rewriter" "rule" "C" ∈ gm_U := gm_U_in (List.mem_of_getElem? (l := lw_tbl) (i := 154) (by decide +kernel)) rfl
theorem gm_u157 : Cond.classLink RX6 23 RX0 ∈ gm_U := gm_U_in (List.mem_of_getElem? (l := lw_tbl) (i := 157) (by decide +kernel)) rfl
theorem gm_u158 : Cond.instantiable RX0 3 ∈ gm_U := gm_U_in (List.mem_of_getElem? (l := lw_tbl) (i := 158) (by decide +kernel)) rfl
theorem gm_u159 : Cond.methodLink RX6 25 yX0_init ∈ gm_U := gm_U_in (List.mem_of_getElem? (l := lw_tbl) (i := 159) (by decide +kernel)) rfl
theorem gm_u160 : Cond.instanceMethod yX0_init ∈ gm_U := gm_U_in (List.mem_of_getElem? (l := lw_tbl) (i := 160) (by decide +kernel)) rfl
theorem gm_u161 : Cond.code yX0_init cX0_init 2 none ∈ gm_U := gm_U_in (List.mem_of_getElem? (l := lw_tbl) (i := 161) (by decide +kernel)) rfl
theorem gm_u162 : Cond.methodLink RX0 3 objectInit ∈ gm_U := gm_U_in (List.mem_of_getElem? (l := lw_tbl) (i := 162) (by decide +kernel)) rfl
theorem gm_u163 : Cond.methodLink RX0 22 yX0_regionsIn ∈ gm_U := gm_U_in (List.mem_of_getElem? (l := lw_tbl) (i := 163) (by decide +kernel)) rfl
theorem gm_u164 : Cond.static yX0_regionsIn ∈ gm_U := gm_U_in (List.mem_of_getElem? (l := lw_tbl) (i := 164) (by decide +kernel)) rfl
theorem gm_u165 : Cond.code yX0_regionsIn cX0_regionsIn 3 (some .int) ∈ gm_U := gm_U_in (List.mem_of_getElem? (l := lw_tbl) (i := 165) (by decide +kernel)) rfl
theorem gm_u166 : Cond.methodLink RX0 30 yX0_contains ∈ gm_U := gm_U_in (List.mem_of_getElem? (l := lw_tbl) (i := 166) (by decide +kernel)) rfl
theorem gm_u167 : Cond.static yX0_contains ∈ gm_U := gm_U_in (List.mem_of_getElem? (l := lw_tbl) (i := 167) (by decide +kernel)) rfl
theorem gm_u168 : Cond.code yX0_contains cX0_contains 4 (some .boolean) ∈ gm_U := gm_U_in (List.mem_of_getElem? (l := lw_tbl) (i := 168) (by decide +kernel)) rfl
theorem gm_u169 : Cond.methodLink RX0 26 yX0_digitOf ∈ gm_U := gm_U_in (List.mem_of_getElem? (l := lw_tbl) (i := 169) (by decide +kernel)) rfl
theorem gm_u170 : Cond.static yX0_digitOf ∈ gm_U := gm_U_in (List.mem_of_getElem? (l := lw_tbl) (i := 170) (by decide +kernel)) rfl
theorem gm_u171 : Cond.code yX0_digitOf cX0_digitOf 2 (some .int) ∈ gm_U := gm_U_in (List.mem_of_getElem? (l := lw_tbl) (i := 171) (by decide +kernel)) rfl
theorem gm_u173 : Cond.static yX6_isIn ∈ gm_U := gm_U_in (List.mem_of_getElem? (l := lw_tbl) (i := 173) (by decide +kernel)) rfl
theorem gm_u174 : Cond.code yX6_isIn cX6_isIn 2 (some .boolean) ∈ gm_U := gm_U_in (List.mem_of_getElem? (l := lw_tbl) (i := 174) (by decide +kernel)) rfl
theorem gm_u175 : Cond.fieldLink RX0 11 "Gimlet$Cubes" "contained" "[I" ∈ gm_U := gm_U_in (List.mem_of_getElem? (l := lw_tbl) (i := 175) (by decide +kernel)) rfl
theorem gm_u176 : Cond.fieldLink RX0 15 "Gimlet$Cubes" "implicant" "[Z" ∈ gm_U := gm_U_in (List.mem_of_getElem? (l := lw_tbl) (i := 176) (by decide +kernel)) rfl
theorem gm_u177 : Cond.fieldLink RX0 19 "Gimlet$Cubes" "joined" "[Z" ∈ gm_U := gm_U_in (List.mem_of_getElem? (l := lw_tbl) (i := 177) (by decide +kernel)) rfl
theorem gm_u178 : Cond.laysFinal RX0 "Gimlet$Cubes" "contained" "[I" ∈ gm_U := gm_U_in (List.mem_of_getElem? (l := lw_tbl) (i := 178) (by decide +kernel)) rfl
theorem gm_u180 : Cond.laysFinal RX0 "Gimlet$Cubes" "implicant" "[Z" ∈ gm_U := gm_U_in (List.mem_of_getElem? (l := lw_tbl) (i := 180) (by decide +kernel)) rfl
theorem gm_u182 : Cond.laysFinal RX0 "Gimlet$Cubes" "joined" "[Z" ∈ gm_U := gm_U_in (List.mem_of_getElem? (l := lw_tbl) (i := 182) (by decide +kernel)) rfl
theorem gm_u185 : Cond.arrayClass .boolean ∈ gm_U := gm_U_in (List.mem_of_getElem? (l := lw_tbl) (i := 185) (by decide +kernel)) rfl
theorem gm_u186 : Cond.classLink RX6 30 RX3 ∈ gm_U := gm_U_in (List.mem_of_getElem? (l := lw_tbl) (i := 186) (by decide +kernel)) rfl
theorem gm_u187 : Cond.instantiable RX3 6 ∈ gm_U := gm_U_in (List.mem_of_getElem? (l := lw_tbl) (i := 187) (by decide +kernel)) rfl
theorem gm_u189 : Cond.instanceMethod yX3_init ∈ gm_U := gm_U_in (List.mem_of_getElem? (l := lw_tbl) (i := 189) (by decide +kernel)) rfl
theorem gm_u190 : Cond.code yX3_init cX3_init 1 none ∈ gm_U := gm_U_in (List.mem_of_getElem? (l := lw_tbl) (i := 190) (by decide +kernel)) rfl
theorem gm_u191 : Cond.methodLink RX3 3 objectInit ∈ gm_U := gm_U_in (List.mem_of_getElem? (l := lw_tbl) (i := 191) (by decide +kernel)) rfl
theorem gm_u192 : Cond.fieldLink RX3 9 "Gimlet$Statements" "demanding" "[Z" ∈ gm_U := gm_U_in (List.mem_of_getElem? (l := lw_tbl) (i := 192) (by decide +kernel)) rfl
theorem gm_u193 : Cond.fieldLink RX3 15 "Gimlet$Statements" "places" "[I" ∈ gm_U := gm_U_in (List.mem_of_getElem? (l := lw_tbl) (i := 193) (by decide +kernel)) rfl
theorem gm_u194 : Cond.fieldLink RX3 19 "Gimlet$Statements" "count" "I" ∈ gm_U := gm_U_in (List.mem_of_getElem? (l := lw_tbl) (i := 194) (by decide +kernel)) rfl
theorem gm_u195 : Cond.fieldLink RX3 23 "Gimlet$Statements" "goalSet" "Z" ∈ gm_U := gm_U_in (List.mem_of_getElem? (l := lw_tbl) (i := 195) (by decide +kernel)) rfl
theorem gm_u196 : Cond.fieldLink RX3 27 "Gimlet$Statements" "goalDemanding" "Z" ∈ gm_U := gm_U_in (List.mem_of_getElem? (l := lw_tbl) (i := 196) (by decide +kernel)) rfl
theorem gm_u197 : Cond.fieldLink RX3 30 "Gimlet$Statements" "goalPlaces" "I" ∈ gm_U := gm_U_in (List.mem_of_getElem? (l := lw_tbl) (i := 197) (by decide +kernel)) rfl
theorem gm_u198 : Cond.laysFinal RX3 "Gimlet$Statements" "demanding" "[Z" ∈ gm_U := gm_U_in (List.mem_of_getElem? (l := lw_tbl) (i := 198) (by decide +kernel)) rfl
theorem gm_u200 : Cond.laysFinal RX3 "Gimlet$Statements" "places" "[I" ∈ gm_U := gm_U_in (List.mem_of_getElem? (l := lw_tbl) (i := 200) (by decide +kernel)) rfl
theorem gm_u202 : Cond.lays RX3 "Gimlet$Statements" "count" "I" ∈ gm_U := gm_U_in (List.mem_of_getElem? (l := lw_tbl) (i := 202) (by decide +kernel)) rfl
theorem gm_u204 : Cond.lays RX3 "Gimlet$Statements" "goalSet" "Z" ∈ gm_U := gm_U_in (List.mem_of_getElem? (l := lw_tbl) (i := 204) (by decide +kernel)) rfl
theorem gm_u206 : Cond.lays RX3 "Gimlet$Statements" "goalDemanding" "Z" ∈ gm_U := gm_U_in (List.mem_of_getElem? (l := lw_tbl) (i := 206) (by decide +kernel)) rfl
theorem gm_u208 : Cond.lays RX3 "Gimlet$Statements" "goalPlaces" "I" ∈ gm_U := gm_U_in (List.mem_of_getElem? (l := lw_tbl) (i := 208) (by decide +kernel)) rfl
theorem gm_u211 : Cond.classLink RX6 37 RX2 ∈ gm_U := gm_U_in (List.mem_of_getElem? (l := lw_tbl) (i := 211) (by decide +kernel)) rfl
theorem gm_u212 : Cond.instantiable RX2 3 ∈ gm_U := gm_U_in (List.mem_of_getElem? (l := lw_tbl) (i := 212) (by decide +kernel)) rfl
theorem gm_u214 : Cond.instanceMethod yX2_init ∈ gm_U := gm_U_in (List.mem_of_getElem? (l := lw_tbl) (i := 214) (by decide +kernel)) rfl
theorem gm_u215 : Cond.code yX2_init cX2_init 1 none ∈ gm_U := gm_U_in (List.mem_of_getElem? (l := lw_tbl) (i := 215) (by decide +kernel)) rfl
theorem gm_u216 : Cond.methodLink RX2 5 objectInit ∈ gm_U := gm_U_in (List.mem_of_getElem? (l := lw_tbl) (i := 216) (by decide +kernel)) rfl
theorem gm_u217 : Cond.fieldLink RX2 11 "Gimlet$Search" "meets" "[I" ∈ gm_U := gm_U_in (List.mem_of_getElem? (l := lw_tbl) (i := 217) (by decide +kernel)) rfl
theorem gm_u218 : Cond.fieldLink RX2 15 "Gimlet$Search" "fewest" "[I" ∈ gm_U := gm_U_in (List.mem_of_getElem? (l := lw_tbl) (i := 218) (by decide +kernel)) rfl
theorem gm_u219 : Cond.fieldLink RX2 18 "Gimlet$Search" "wanted" "I" ∈ gm_U := gm_U_in (List.mem_of_getElem? (l := lw_tbl) (i := 219) (by decide +kernel)) rfl
theorem gm_u220 : Cond.laysFinal RX2 "Gimlet$Search" "meets" "[I" ∈ gm_U := gm_U_in (List.mem_of_getElem? (l := lw_tbl) (i := 220) (by decide +kernel)) rfl
theorem gm_u222 : Cond.laysFinal RX2 "Gimlet$Search" "fewest" "[I" ∈ gm_U := gm_U_in (List.mem_of_getElem? (l := lw_tbl) (i := 222) (by decide +kernel)) rfl
theorem gm_u224 : Cond.lays RX2 "Gimlet$Search" "wanted" "I" ∈ gm_U := gm_U_in (List.mem_of_getElem? (l := lw_tbl) (i := 224) (by decide +kernel)) rfl
theorem gm_u227 : Cond.fieldLink RX6 10 "Gimlet" "known" "LGimlet$Terms;" ∈ gm_U := gm_U_in (List.mem_of_getElem? (l := lw_tbl) (i := 227) (by decide +kernel)) rfl
theorem gm_u228 : Cond.fieldLink RX6 19 "Gimlet" "rewriter" "LGimlet$Rewriter;" ∈ gm_U := gm_U_in (List.mem_of_getElem? (l := lw_tbl) (i := 228) (by decide +kernel)) rfl
theorem gm_u229 : Cond.fieldLink RX6 26 "Gimlet" "cubes" "LGimlet$Cubes;" ∈ gm_U := gm_U_in (List.mem_of_getElem? (l := lw_tbl) (i := 229) (by decide +kernel)) rfl
theorem gm_u230 : Cond.fieldLink RX6 33 "Gimlet" "stated" "LGimlet$Statements;" ∈ gm_U := gm_U_in (List.mem_of_getElem? (l := lw_tbl) (i := 230) (by decide +kernel)) rfl
theorem gm_u231 : Cond.fieldLink RX6 40 "Gimlet" "search" "LGimlet$Search;" ∈ gm_U := gm_U_in (List.mem_of_getElem? (l := lw_tbl) (i := 231) (by decide +kernel)) rfl
theorem gm_u232 : Cond.laysFinal RX6 "Gimlet" "known" "LGimlet$Terms;" ∈ gm_U := gm_U_in (List.mem_of_getElem? (l := lw_tbl) (i := 232) (by decide +kernel)) rfl
theorem gm_u234 : Cond.laysFinal RX6 "Gimlet" "rewriter" "LGimlet$Rewriter;" ∈ gm_U := gm_U_in (List.mem_of_getElem? (l := lw_tbl) (i := 234) (by decide +kernel)) rfl
theorem gm_u236 : Cond.laysFinal RX6 "Gimlet" "cubes" "LGimlet$Cubes;" ∈ gm_U := gm_U_in (List.mem_of_getElem? (l := lw_tbl) (i := 236) (by decide +kernel)) rfl
theorem gm_u238 : Cond.laysFinal RX6 "Gimlet" "stated" "LGimlet$Statements;" ∈ gm_U := gm_U_in (List.mem_of_getElem? (l := lw_tbl) (i := 238) (by decide +kernel)) rfl
theorem gm_u240 : Cond.laysFinal RX6 "Gimlet" "search" "LGimlet$Search;" ∈ gm_U := gm_U_in (List.mem_of_getElem? (l := lw_tbl) (i := 240) (by decide +kernel)) rfl
theorem gm_u243 : Cond.methodLink RL 170 yX6_terms ∈ gm_U := gm_U_in (List.mem_of_getElem? (l := lw_tbl) (i := 243) (by decide +kernel)) rfl
theorem gm_u244 : Cond.instanceMethod yX6_terms ∈ gm_U := gm_U_in (List.mem_of_getElem? (l := lw_tbl) (i := 244) (by decide +kernel)) rfl
theorem gm_u245 : Cond.selects RX6 yX6_terms yX6_terms ∈ gm_U := gm_U_in (List.mem_of_getElem? (l := lw_tbl) (i := 245) (by decide +kernel)) rfl
theorem gm_u246 : Cond.code yX6_terms cX6_terms 1 (some .int) ∈ gm_U := gm_U_in (List.mem_of_getElem? (l := lw_tbl) (i := 246) (by decide +kernel)) rfl
theorem gm_u247 : Cond.methodLink RX6 62 yX4_howMany ∈ gm_U := gm_U_in (List.mem_of_getElem? (l := lw_tbl) (i := 247) (by decide +kernel)) rfl
theorem gm_u248 : Cond.instanceMethod yX4_howMany ∈ gm_U := gm_U_in (List.mem_of_getElem? (l := lw_tbl) (i := 248) (by decide +kernel)) rfl
theorem gm_u249 : Cond.selects RX4 yX4_howMany yX4_howMany ∈ gm_U := gm_U_in (List.mem_of_getElem? (l := lw_tbl) (i := 249) (by decide +kernel)) rfl
theorem gm_u250 : Cond.code yX4_howMany cX4_howMany 1 (some .int) ∈ gm_U := gm_U_in (List.mem_of_getElem? (l := lw_tbl) (i := 250) (by decide +kernel)) rfl
theorem gm_u251 : Cond.methodLink RL 221 yX6_assumptions ∈ gm_U := gm_U_in (List.mem_of_getElem? (l := lw_tbl) (i := 251) (by decide +kernel)) rfl
theorem gm_u252 : Cond.instanceMethod yX6_assumptions ∈ gm_U := gm_U_in (List.mem_of_getElem? (l := lw_tbl) (i := 252) (by decide +kernel)) rfl
theorem gm_u253 : Cond.selects RX6 yX6_assumptions yX6_assumptions ∈ gm_U := gm_U_in (List.mem_of_getElem? (l := lw_tbl) (i := 253) (by decide +kernel)) rfl
theorem gm_u254 : Cond.code yX6_assumptions cX6_assumptions 1 (some .int) ∈ gm_U := gm_U_in (List.mem_of_getElem? (l := lw_tbl) (i := 254) (by decide +kernel)) rfl
theorem gm_u255 : Cond.methodLink RX6 177 yX3_howMany ∈ gm_U := gm_U_in (List.mem_of_getElem? (l := lw_tbl) (i := 255) (by decide +kernel)) rfl
theorem gm_u256 : Cond.instanceMethod yX3_howMany ∈ gm_U := gm_U_in (List.mem_of_getElem? (l := lw_tbl) (i := 256) (by decide +kernel)) rfl
theorem gm_u257 : Cond.selects RX3 yX3_howMany yX3_howMany ∈ gm_U := gm_U_in (List.mem_of_getElem? (l := lw_tbl) (i := 257) (by decide +kernel)) rfl
theorem gm_u258 : Cond.code yX3_howMany cX3_howMany 1 (some .int) ∈ gm_U := gm_U_in (List.mem_of_getElem? (l := lw_tbl) (i := 258) (by decide +kernel)) rfl
theorem gm_u259 : Cond.methodLink RL 228 yX6_isConsistent ∈ gm_U := gm_U_in (List.mem_of_getElem? (l := lw_tbl) (i := 259) (by decide +kernel)) rfl
theorem gm_u260 : Cond.instanceMethod yX6_isConsistent ∈ gm_U := gm_U_in (List.mem_of_getElem? (l := lw_tbl) (i := 260) (by decide +kernel)) rfl
theorem gm_u261 : Cond.selects RX6 yX6_isConsistent yX6_isConsistent ∈ gm_U := gm_U_in (List.mem_of_getElem? (l := lw_tbl) (i := 261) (by decide +kernel)) rfl
theorem gm_u262 : Cond.code yX6_isConsistent cX6_isConsistent 1 (some .boolean) ∈ gm_U := gm_U_in (List.mem_of_getElem? (l := lw_tbl) (i := 262) (by decide +kernel)) rfl
theorem gm_u263 : Cond.methodLink RX6 202 yX3_haveModel ∈ gm_U := gm_U_in (List.mem_of_getElem? (l := lw_tbl) (i := 263) (by decide +kernel)) rfl
theorem gm_u264 : Cond.instanceMethod yX3_haveModel ∈ gm_U := gm_U_in (List.mem_of_getElem? (l := lw_tbl) (i := 264) (by decide +kernel)) rfl
theorem gm_u265 : Cond.selects RX3 yX3_haveModel yX3_haveModel ∈ gm_U := gm_U_in (List.mem_of_getElem? (l := lw_tbl) (i := 265) (by decide +kernel)) rfl
theorem gm_u266 : Cond.code yX3_haveModel cX3_haveModel 1 (some .boolean) ∈ gm_U := gm_U_in (List.mem_of_getElem? (l := lw_tbl) (i := 266) (by decide +kernel)) rfl
theorem gm_u267 : Cond.methodLink RX3 46 yX3_allowed ∈ gm_U := gm_U_in (List.mem_of_getElem? (l := lw_tbl) (i := 267) (by decide +kernel)) rfl
theorem gm_u268 : Cond.instanceMethod yX3_allowed ∈ gm_U := gm_U_in (List.mem_of_getElem? (l := lw_tbl) (i := 268) (by decide +kernel)) rfl
theorem gm_u269 : Cond.selects RX3 yX3_allowed yX3_allowed ∈ gm_U := gm_U_in (List.mem_of_getElem? (l := lw_tbl) (i := 269) (by decide +kernel)) rfl
theorem gm_u270 : Cond.code yX3_allowed cX3_allowed 3 (some .int) ∈ gm_U := gm_U_in (List.mem_of_getElem? (l := lw_tbl) (i := 270) (by decide +kernel)) rfl
theorem gm_u271 : Cond.constant RX3 33 (65535) ∈ gm_U := gm_U_in (List.mem_of_getElem? (l := lw_tbl) (i := 271) (by decide +kernel)) rfl
theorem gm_u272 : Cond.methodLink RX3 34 yX3_demandsElement ∈ gm_U := gm_U_in (List.mem_of_getElem? (l := lw_tbl) (i := 272) (by decide +kernel)) rfl
theorem gm_u273 : Cond.instanceMethod yX3_demandsElement ∈ gm_U := gm_U_in (List.mem_of_getElem? (l := lw_tbl) (i := 273) (by decide +kernel)) rfl
theorem gm_u274 : Cond.selects RX3 yX3_demandsElement yX3_demandsElement ∈ gm_U := gm_U_in (List.mem_of_getElem? (l := lw_tbl) (i := 274) (by decide +kernel)) rfl
theorem gm_u275 : Cond.code yX3_demandsElement cX3_demandsElement 2 (some .boolean) ∈ gm_U := gm_U_in (List.mem_of_getElem? (l := lw_tbl) (i := 275) (by decide +kernel)) rfl
theorem gm_u276 : Cond.methodLink RX3 38 yX3_placesAt ∈ gm_U := gm_U_in (List.mem_of_getElem? (l := lw_tbl) (i := 276) (by decide +kernel)) rfl
theorem gm_u277 : Cond.instanceMethod yX3_placesAt ∈ gm_U := gm_U_in (List.mem_of_getElem? (l := lw_tbl) (i := 277) (by decide +kernel)) rfl
theorem gm_u278 : Cond.selects RX3 yX3_placesAt yX3_placesAt ∈ gm_U := gm_U_in (List.mem_of_getElem? (l := lw_tbl) (i := 278) (by decide +kernel)) rfl
theorem gm_u279 : Cond.code yX3_placesAt cX3_placesAt 2 (some .int) ∈ gm_U := gm_U_in (List.mem_of_getElem? (l := lw_tbl) (i := 279) (by decide +kernel)) rfl
theorem gm_u280 : Cond.methodLink RX3 50 yX3_firstUnmet ∈ gm_U := gm_U_in (List.mem_of_getElem? (l := lw_tbl) (i := 280) (by decide +kernel)) rfl
theorem gm_u282 : Cond.instanceMethod yX3_firstUnmet ∈ gm_U := gm_U_in (List.mem_of_getElem? (l := lw_tbl) (i := 282) (by decide +kernel)) rfl
theorem gm_u283 : Cond.code yX3_firstUnmet cX3_firstUnmet 3 (some .int) ∈ gm_U := gm_U_in (List.mem_of_getElem? (l := lw_tbl) (i := 283) (by decide +kernel)) rfl
theorem gm_u284 : Cond.methodLink RL 138 yL_letter ∈ gm_U := gm_U_in (List.mem_of_getElem? (l := lw_tbl) (i := 284) (by decide +kernel)) rfl
theorem gm_u285 : Cond.static yL_letter ∈ gm_U := gm_U_in (List.mem_of_getElem? (l := lw_tbl) (i := 285) (by decide +kernel)) rfl
theorem gm_u286 : Cond.codeWith yL_letter cL_letter 4 (some .int) [(0, 9, 12, 13), (0, 9, 15, 15)] ∈ gm_U := gm_U_in (List.mem_of_getElem? (l := lw_tbl) (i := 286) (by decide +kernel)) rfl
theorem gm_u287 : Cond.classLink RL 13 "java/lang/IllegalArgumentException" ∈ gm_U := gm_U_in (List.mem_of_getElem? (l := lw_tbl) (i := 287) (by decide +kernel)) rfl
theorem gm_u288 : Cond.classLink RL 15 "java/lang/IllegalStateException" ∈ gm_U := gm_U_in (List.mem_of_getElem? (l := lw_tbl) (i := 288) (by decide +kernel)) rfl
theorem gm_u289 : Cond.methodLink RL 7 yX6_letter ∈ gm_U := gm_U_in (List.mem_of_getElem? (l := lw_tbl) (i := 289) (by decide +kernel)) rfl
theorem gm_u290 : Cond.instanceMethod yX6_letter ∈ gm_U := gm_U_in (List.mem_of_getElem? (l := lw_tbl) (i := 290) (by decide +kernel)) rfl
theorem gm_u291 : Cond.selects RX6 yX6_letter yX6_letter ∈ gm_U := gm_U_in (List.mem_of_getElem? (l := lw_tbl) (i := 291) (by decide +kernel)) rfl
theorem gm_u292 : Cond.code yX6_letter cX6_letter 2 (some .int) ∈ gm_U := gm_U_in (List.mem_of_getElem? (l := lw_tbl) (i := 292) (by decide +kernel)) rfl
theorem gm_u293 : Cond.methodLink RX6 44 yX6_checkLetter ∈ gm_U := gm_U_in (List.mem_of_getElem? (l := lw_tbl) (i := 293) (by decide +kernel)) rfl
theorem gm_u295 : Cond.instanceMethod yX6_checkLetter ∈ gm_U := gm_U_in (List.mem_of_getElem? (l := lw_tbl) (i := 295) (by decide +kernel)) rfl
theorem gm_u296 : Cond.code yX6_checkLetter cX6_checkLetter 2 none ∈ gm_U := gm_U_in (List.mem_of_getElem? (l := lw_tbl) (i := 296) (by decide +kernel)) rfl
theorem gm_u297 : Cond.classLink RX6 94 "java/lang/IllegalArgumentException" ∈ gm_U := gm_U_in (List.mem_of_getElem? (l := lw_tbl) (i := 297) (by decide +kernel)) rfl
theorem gm_u367 : Cond.methodLink RX6 48 yX4_make ∈ gm_U := gm_U_in (List.mem_of_getElem? (l := lw_tbl) (i := 367) (by decide +kernel)) rfl
theorem gm_u368 : Cond.instanceMethod yX4_make ∈ gm_U := gm_U_in (List.mem_of_getElem? (l := lw_tbl) (i := 368) (by decide +kernel)) rfl
theorem gm_u369 : Cond.selects RX4 yX4_make yX4_make ∈ gm_U := gm_U_in (List.mem_of_getElem? (l := lw_tbl) (i := 369) (by decide +kernel)) rfl
theorem gm_u370 : Cond.code yX4_make cX4_make 7 (some .int) ∈ gm_U := gm_U_in (List.mem_of_getElem? (l := lw_tbl) (i := 370) (by decide +kernel)) rfl
theorem gm_u371 : Cond.methodLink RX4 50 yX4_find ∈ gm_U := gm_U_in (List.mem_of_getElem? (l := lw_tbl) (i := 371) (by decide +kernel)) rfl
theorem gm_u373 : Cond.instanceMethod yX4_find ∈ gm_U := gm_U_in (List.mem_of_getElem? (l := lw_tbl) (i := 373) (by decide +kernel)) rfl
theorem gm_u374 : Cond.code yX4_find cX4_find 5 (some .int) ∈ gm_U := gm_U_in (List.mem_of_getElem? (l := lw_tbl) (i := 374) (by decide +kernel)) rfl
theorem gm_u375 : Cond.methodLink RX4 40 yX4_sizeOf ∈ gm_U := gm_U_in (List.mem_of_getElem? (l := lw_tbl) (i := 375) (by decide +kernel)) rfl
theorem gm_u376 : Cond.instanceMethod yX4_sizeOf ∈ gm_U := gm_U_in (List.mem_of_getElem? (l := lw_tbl) (i := 376) (by decide +kernel)) rfl
theorem gm_u377 : Cond.selects RX4 yX4_sizeOf yX4_sizeOf ∈ gm_U := gm_U_in (List.mem_of_getElem? (l := lw_tbl) (i := 377) (by decide +kernel)) rfl
theorem gm_u378 : Cond.code yX4_sizeOf cX4_sizeOf 2 (some .int) ∈ gm_U := gm_U_in (List.mem_of_getElem? (l := lw_tbl) (i := 378) (by decide +kernel)) rfl
theorem gm_u379 : Cond.methodLink RX4 32 yX4_isKnown ∈ gm_U := gm_U_in (List.mem_of_getElem? (l := lw_tbl) (i := 379) (by decide +kernel)) rfl
theorem gm_u380 : Cond.instanceMethod yX4_isKnown ∈ gm_U := gm_U_in (List.mem_of_getElem? (l := lw_tbl) (i := 380) (by decide +kernel)) rfl
theorem gm_u381 : Cond.selects RX4 yX4_isKnown yX4_isKnown ∈ gm_U := gm_U_in (List.mem_of_getElem? (l := lw_tbl) (i := 381) (by decide +kernel)) rfl
theorem gm_u382 : Cond.code yX4_isKnown cX4_isKnown 2 (some .boolean) ∈ gm_U := gm_U_in (List.mem_of_getElem? (l := lw_tbl) (i := 382) (by decide +kernel)) rfl
theorem gm_u383 : Cond.methodLink RX4 54 yX4_coverOf ∈ gm_U := gm_U_in (List.mem_of_getElem? (l := lw_tbl) (i := 383) (by decide +kernel)) rfl
theorem gm_u384 : Cond.instanceMethod yX4_coverOf ∈ gm_U := gm_U_in (List.mem_of_getElem? (l := lw_tbl) (i := 384) (by decide +kernel)) rfl
theorem gm_u385 : Cond.selects RX4 yX4_coverOf yX4_coverOf ∈ gm_U := gm_U_in (List.mem_of_getElem? (l := lw_tbl) (i := 385) (by decide +kernel)) rfl
theorem gm_u386 : Cond.code yX4_coverOf cX4_coverOf 2 (some .int) ∈ gm_U := gm_U_in (List.mem_of_getElem? (l := lw_tbl) (i := 386) (by decide +kernel)) rfl
theorem gm_u387 : Cond.methodLink RX4 57 yX4_coverFrom ∈ gm_U := gm_U_in (List.mem_of_getElem? (l := lw_tbl) (i := 387) (by decide +kernel)) rfl
theorem gm_u388 : Cond.static yX4_coverFrom ∈ gm_U := gm_U_in (List.mem_of_getElem? (l := lw_tbl) (i := 388) (by decide +kernel)) rfl
theorem gm_u389 : Cond.code yX4_coverFrom cX4_coverFrom 3 (some .int) ∈ gm_U := gm_U_in (List.mem_of_getElem? (l := lw_tbl) (i := 389) (by decide +kernel)) rfl
theorem gm_u390 : Cond.constant RX4 60 (43690) ∈ gm_U := gm_U_in (List.mem_of_getElem? (l := lw_tbl) (i := 390) (by decide +kernel)) rfl
theorem gm_u391 : Cond.constant RX4 61 (52428) ∈ gm_U := gm_U_in (List.mem_of_getElem? (l := lw_tbl) (i := 391) (by decide +kernel)) rfl
theorem gm_u392 : Cond.constant RX4 62 (61680) ∈ gm_U := gm_U_in (List.mem_of_getElem? (l := lw_tbl) (i := 392) (by decide +kernel)) rfl
theorem gm_u393 : Cond.constant RX4 63 (65280) ∈ gm_U := gm_U_in (List.mem_of_getElem? (l := lw_tbl) (i := 393) (by decide +kernel)) rfl
theorem gm_u394 : Cond.constant RX4 64 (65535) ∈ gm_U := gm_U_in (List.mem_of_getElem? (l := lw_tbl) (i := 394) (by decide +kernel)) rfl
theorem gm_u395 : Cond.methodLink RX6 52 yX6_madeOrThrow ∈ gm_U := gm_U_in (List.mem_of_getElem? (l := lw_tbl) (i := 395) (by decide +kernel)) rfl
theorem gm_u397 : Cond.instanceMethod yX6_madeOrThrow ∈ gm_U := gm_U_in (List.mem_of_getElem? (l := lw_tbl) (i := 397) (by decide +kernel)) rfl
theorem gm_u398 : Cond.code yX6_madeOrThrow cX6_madeOrThrow 2 (some .int) ∈ gm_U := gm_U_in (List.mem_of_getElem? (l := lw_tbl) (i := 398) (by decide +kernel)) rfl
theorem gm_u399 : Cond.classLink RX6 80 "java/lang/IllegalStateException" ∈ gm_U := gm_U_in (List.mem_of_getElem? (l := lw_tbl) (i := 399) (by decide +kernel)) rfl
theorem gm_u415 : Cond.methodLink RL 147 yL_empty ∈ gm_U := gm_U_in (List.mem_of_getElem? (l := lw_tbl) (i := 415) (by decide +kernel)) rfl
theorem gm_u416 : Cond.static yL_empty ∈ gm_U := gm_U_in (List.mem_of_getElem? (l := lw_tbl) (i := 416) (by decide +kernel)) rfl
theorem gm_u417 : Cond.codeWith yL_empty cL_empty 3 (some .int) [(0, 8, 11, 15)] ∈ gm_U := gm_U_in (List.mem_of_getElem? (l := lw_tbl) (i := 417) (by decide +kernel)) rfl
theorem gm_u418 : Cond.methodLink RL 17 yX6_empty ∈ gm_U := gm_U_in (List.mem_of_getElem? (l := lw_tbl) (i := 418) (by decide +kernel)) rfl
theorem gm_u419 : Cond.instanceMethod yX6_empty ∈ gm_U := gm_U_in (List.mem_of_getElem? (l := lw_tbl) (i := 419) (by decide +kernel)) rfl
theorem gm_u420 : Cond.selects RX6 yX6_empty yX6_empty ∈ gm_U := gm_U_in (List.mem_of_getElem? (l := lw_tbl) (i := 420) (by decide +kernel)) rfl
theorem gm_u421 : Cond.code yX6_empty cX6_empty 1 (some .int) ∈ gm_U := gm_U_in (List.mem_of_getElem? (l := lw_tbl) (i := 421) (by decide +kernel)) rfl
theorem gm_u422 : Cond.methodLink RL 151 yL_universe ∈ gm_U := gm_U_in (List.mem_of_getElem? (l := lw_tbl) (i := 422) (by decide +kernel)) rfl
theorem gm_u423 : Cond.static yL_universe ∈ gm_U := gm_U_in (List.mem_of_getElem? (l := lw_tbl) (i := 423) (by decide +kernel)) rfl
theorem gm_u424 : Cond.codeWith yL_universe cL_universe 3 (some .int) [(0, 8, 11, 15)] ∈ gm_U := gm_U_in (List.mem_of_getElem? (l := lw_tbl) (i := 424) (by decide +kernel)) rfl
theorem gm_u425 : Cond.methodLink RL 21 yX6_universe ∈ gm_U := gm_U_in (List.mem_of_getElem? (l := lw_tbl) (i := 425) (by decide +kernel)) rfl
theorem gm_u426 : Cond.instanceMethod yX6_universe ∈ gm_U := gm_U_in (List.mem_of_getElem? (l := lw_tbl) (i := 426) (by decide +kernel)) rfl
theorem gm_u427 : Cond.selects RX6 yX6_universe yX6_universe ∈ gm_U := gm_U_in (List.mem_of_getElem? (l := lw_tbl) (i := 427) (by decide +kernel)) rfl
theorem gm_u428 : Cond.code yX6_universe cX6_universe 1 (some .int) ∈ gm_U := gm_U_in (List.mem_of_getElem? (l := lw_tbl) (i := 428) (by decide +kernel)) rfl
theorem gm_u429 : Cond.methodLink RL 154 yL_complement ∈ gm_U := gm_U_in (List.mem_of_getElem? (l := lw_tbl) (i := 429) (by decide +kernel)) rfl
theorem gm_u430 : Cond.static yL_complement ∈ gm_U := gm_U_in (List.mem_of_getElem? (l := lw_tbl) (i := 430) (by decide +kernel)) rfl
theorem gm_u431 : Cond.codeWith yL_complement cL_complement 4 (some .int) [(0, 9, 12, 27), (0, 9, 15, 15)] ∈ gm_U := gm_U_in (List.mem_of_getElem? (l := lw_tbl) (i := 431) (by decide +kernel)) rfl
theorem gm_u432 : Cond.classLink RL 27 "java/lang/IndexOutOfBoundsException" ∈ gm_U := gm_U_in (List.mem_of_getElem? (l := lw_tbl) (i := 432) (by decide +kernel)) rfl
theorem gm_u433 : Cond.methodLink RL 24 yX6_complement ∈ gm_U := gm_U_in (List.mem_of_getElem? (l := lw_tbl) (i := 433) (by decide +kernel)) rfl
theorem gm_u434 : Cond.instanceMethod yX6_complement ∈ gm_U := gm_U_in (List.mem_of_getElem? (l := lw_tbl) (i := 434) (by decide +kernel)) rfl
theorem gm_u435 : Cond.selects RX6 yX6_complement yX6_complement ∈ gm_U := gm_U_in (List.mem_of_getElem? (l := lw_tbl) (i := 435) (by decide +kernel)) rfl
theorem gm_u436 : Cond.code yX6_complement cX6_complement 2 (some .int) ∈ gm_U := gm_U_in (List.mem_of_getElem? (l := lw_tbl) (i := 436) (by decide +kernel)) rfl
theorem gm_u437 : Cond.methodLink RX6 56 yX6_checkTerm ∈ gm_U := gm_U_in (List.mem_of_getElem? (l := lw_tbl) (i := 437) (by decide +kernel)) rfl
theorem gm_u439 : Cond.instanceMethod yX6_checkTerm ∈ gm_U := gm_U_in (List.mem_of_getElem? (l := lw_tbl) (i := 439) (by decide +kernel)) rfl
theorem gm_u440 : Cond.code yX6_checkTerm cX6_checkTerm 2 none ∈ gm_U := gm_U_in (List.mem_of_getElem? (l := lw_tbl) (i := 440) (by decide +kernel)) rfl
theorem gm_u441 : Cond.methodLink RX6 85 yX4_isKnown ∈ gm_U := gm_U_in (List.mem_of_getElem? (l := lw_tbl) (i := 441) (by decide +kernel)) rfl
theorem gm_u442 : Cond.classLink RX6 89 "java/lang/IndexOutOfBoundsException" ∈ gm_U := gm_U_in (List.mem_of_getElem? (l := lw_tbl) (i := 442) (by decide +kernel)) rfl
theorem gm_u458 : Cond.methodLink RL 157 yL_union ∈ gm_U := gm_U_in (List.mem_of_getElem? (l := lw_tbl) (i := 458) (by decide +kernel)) rfl
theorem gm_u459 : Cond.static yL_union ∈ gm_U := gm_U_in (List.mem_of_getElem? (l := lw_tbl) (i := 459) (by decide +kernel)) rfl
theorem gm_u460 : Cond.codeWith yL_union cL_union 5 (some .int) [(0, 10, 13, 27), (0, 10, 17, 15)] ∈ gm_U := gm_U_in (List.mem_of_getElem? (l := lw_tbl) (i := 460) (by decide +kernel)) rfl
theorem gm_u461 : Cond.methodLink RL 29 yX6_union ∈ gm_U := gm_U_in (List.mem_of_getElem? (l := lw_tbl) (i := 461) (by decide +kernel)) rfl
theorem gm_u462 : Cond.instanceMethod yX6_union ∈ gm_U := gm_U_in (List.mem_of_getElem? (l := lw_tbl) (i := 462) (by decide +kernel)) rfl
theorem gm_u463 : Cond.selects RX6 yX6_union yX6_union ∈ gm_U := gm_U_in (List.mem_of_getElem? (l := lw_tbl) (i := 463) (by decide +kernel)) rfl
theorem gm_u464 : Cond.code yX6_union cX6_union 3 (some .int) ∈ gm_U := gm_U_in (List.mem_of_getElem? (l := lw_tbl) (i := 464) (by decide +kernel)) rfl
theorem gm_u465 : Cond.methodLink RX6 59 yX6_makePair ∈ gm_U := gm_U_in (List.mem_of_getElem? (l := lw_tbl) (i := 465) (by decide +kernel)) rfl
theorem gm_u467 : Cond.instanceMethod yX6_makePair ∈ gm_U := gm_U_in (List.mem_of_getElem? (l := lw_tbl) (i := 467) (by decide +kernel)) rfl
theorem gm_u468 : Cond.code yX6_makePair cX6_makePair 4 (some .int) ∈ gm_U := gm_U_in (List.mem_of_getElem? (l := lw_tbl) (i := 468) (by decide +kernel)) rfl
theorem gm_u469 : Cond.methodLink RL 161 yL_intersection ∈ gm_U := gm_U_in (List.mem_of_getElem? (l := lw_tbl) (i := 469) (by decide +kernel)) rfl
theorem gm_u470 : Cond.static yL_intersection ∈ gm_U := gm_U_in (List.mem_of_getElem? (l := lw_tbl) (i := 470) (by decide +kernel)) rfl
theorem gm_u471 : Cond.codeWith yL_intersection cL_intersection 5 (some .int) [(0, 10, 13, 27), (0, 10, 17, 15)] ∈ gm_U := gm_U_in (List.mem_of_getElem? (l := lw_tbl) (i := 471) (by decide +kernel)) rfl
theorem gm_u472 : Cond.methodLink RL 33 yX6_intersection ∈ gm_U := gm_U_in (List.mem_of_getElem? (l := lw_tbl) (i := 472) (by decide +kernel)) rfl
theorem gm_u473 : Cond.instanceMethod yX6_intersection ∈ gm_U := gm_U_in (List.mem_of_getElem? (l := lw_tbl) (i := 473) (by decide +kernel)) rfl
theorem gm_u474 : Cond.selects RX6 yX6_intersection yX6_intersection ∈ gm_U := gm_U_in (List.mem_of_getElem? (l := lw_tbl) (i := 474) (by decide +kernel)) rfl
theorem gm_u475 : Cond.code yX6_intersection cX6_intersection 3 (some .int) ∈ gm_U := gm_U_in (List.mem_of_getElem? (l := lw_tbl) (i := 475) (by decide +kernel)) rfl
theorem gm_u476 : Cond.methodLink RL 164 yL_difference ∈ gm_U := gm_U_in (List.mem_of_getElem? (l := lw_tbl) (i := 476) (by decide +kernel)) rfl
theorem gm_u477 : Cond.static yL_difference ∈ gm_U := gm_U_in (List.mem_of_getElem? (l := lw_tbl) (i := 477) (by decide +kernel)) rfl
theorem gm_u478 : Cond.codeWith yL_difference cL_difference 5 (some .int) [(0, 10, 13, 27), (0, 10, 17, 15)] ∈ gm_U := gm_U_in (List.mem_of_getElem? (l := lw_tbl) (i := 478) (by decide +kernel)) rfl
theorem gm_u479 : Cond.methodLink RL 36 yX6_difference ∈ gm_U := gm_U_in (List.mem_of_getElem? (l := lw_tbl) (i := 479) (by decide +kernel)) rfl
theorem gm_u480 : Cond.instanceMethod yX6_difference ∈ gm_U := gm_U_in (List.mem_of_getElem? (l := lw_tbl) (i := 480) (by decide +kernel)) rfl
theorem gm_u481 : Cond.selects RX6 yX6_difference yX6_difference ∈ gm_U := gm_U_in (List.mem_of_getElem? (l := lw_tbl) (i := 481) (by decide +kernel)) rfl
theorem gm_u482 : Cond.code yX6_difference cX6_difference 3 (some .int) ∈ gm_U := gm_U_in (List.mem_of_getElem? (l := lw_tbl) (i := 482) (by decide +kernel)) rfl
theorem gm_u483 : Cond.methodLink RL 167 yL_symmetric ∈ gm_U := gm_U_in (List.mem_of_getElem? (l := lw_tbl) (i := 483) (by decide +kernel)) rfl
theorem gm_u484 : Cond.static yL_symmetric ∈ gm_U := gm_U_in (List.mem_of_getElem? (l := lw_tbl) (i := 484) (by decide +kernel)) rfl
theorem gm_u485 : Cond.codeWith yL_symmetric cL_symmetric 5 (some .int) [(0, 10, 13, 27), (0, 10, 17, 15)] ∈ gm_U := gm_U_in (List.mem_of_getElem? (l := lw_tbl) (i := 485) (by decide +kernel)) rfl
theorem gm_u486 : Cond.methodLink RL 39 yX6_symmetric ∈ gm_U := gm_U_in (List.mem_of_getElem? (l := lw_tbl) (i := 486) (by decide +kernel)) rfl
theorem gm_u487 : Cond.instanceMethod yX6_symmetric ∈ gm_U := gm_U_in (List.mem_of_getElem? (l := lw_tbl) (i := 487) (by decide +kernel)) rfl
theorem gm_u488 : Cond.selects RX6 yX6_symmetric yX6_symmetric ∈ gm_U := gm_U_in (List.mem_of_getElem? (l := lw_tbl) (i := 488) (by decide +kernel)) rfl
theorem gm_u489 : Cond.code yX6_symmetric cX6_symmetric 3 (some .int) ∈ gm_U := gm_U_in (List.mem_of_getElem? (l := lw_tbl) (i := 489) (by decide +kernel)) rfl
theorem gm_u490 : Cond.methodLink RL 174 yL_size ∈ gm_U := gm_U_in (List.mem_of_getElem? (l := lw_tbl) (i := 490) (by decide +kernel)) rfl
theorem gm_u491 : Cond.static yL_size ∈ gm_U := gm_U_in (List.mem_of_getElem? (l := lw_tbl) (i := 491) (by decide +kernel)) rfl
theorem gm_u492 : Cond.codeWith yL_size cL_size 4 (some .int) [(0, 9, 12, 27)] ∈ gm_U := gm_U_in (List.mem_of_getElem? (l := lw_tbl) (i := 492) (by decide +kernel)) rfl
theorem gm_u493 : Cond.methodLink RL 42 yX6_size ∈ gm_U := gm_U_in (List.mem_of_getElem? (l := lw_tbl) (i := 493) (by decide +kernel)) rfl
theorem gm_u494 : Cond.instanceMethod yX6_size ∈ gm_U := gm_U_in (List.mem_of_getElem? (l := lw_tbl) (i := 494) (by decide +kernel)) rfl
theorem gm_u495 : Cond.selects RX6 yX6_size yX6_size ∈ gm_U := gm_U_in (List.mem_of_getElem? (l := lw_tbl) (i := 495) (by decide +kernel)) rfl
theorem gm_u496 : Cond.code yX6_size cX6_size 2 (some .int) ∈ gm_U := gm_U_in (List.mem_of_getElem? (l := lw_tbl) (i := 496) (by decide +kernel)) rfl
theorem gm_u497 : Cond.methodLink RX6 66 yX4_sizeOf ∈ gm_U := gm_U_in (List.mem_of_getElem? (l := lw_tbl) (i := 497) (by decide +kernel)) rfl
theorem gm_u498 : Cond.methodLink RL 177 yL_symbol ∈ gm_U := gm_U_in (List.mem_of_getElem? (l := lw_tbl) (i := 498) (by decide +kernel)) rfl
theorem gm_u499 : Cond.static yL_symbol ∈ gm_U := gm_U_in (List.mem_of_getElem? (l := lw_tbl) (i := 499) (by decide +kernel)) rfl
theorem gm_u500 : Cond.codeWith yL_symbol cL_symbol 5 (some .int) [(0, 10, 13, 27), (0, 10, 17, 49)] ∈ gm_U := gm_U_in (List.mem_of_getElem? (l := lw_tbl) (i := 500) (by decide +kernel)) rfl
theorem gm_u501 : Cond.classLink RL 49 "java/util/NoSuchElementException" ∈ gm_U := gm_U_in (List.mem_of_getElem? (l := lw_tbl) (i := 501) (by decide +kernel)) rfl
theorem gm_u502 : Cond.methodLink RL 45 yX6_symbol ∈ gm_U := gm_U_in (List.mem_of_getElem? (l := lw_tbl) (i := 502) (by decide +kernel)) rfl
theorem gm_u503 : Cond.instanceMethod yX6_symbol ∈ gm_U := gm_U_in (List.mem_of_getElem? (l := lw_tbl) (i := 503) (by decide +kernel)) rfl
theorem gm_u504 : Cond.selects RX6 yX6_symbol yX6_symbol ∈ gm_U := gm_U_in (List.mem_of_getElem? (l := lw_tbl) (i := 504) (by decide +kernel)) rfl
theorem gm_u505 : Cond.code yX6_symbol cX6_symbol 3 (some .char) ∈ gm_U := gm_U_in (List.mem_of_getElem? (l := lw_tbl) (i := 505) (by decide +kernel)) rfl
theorem gm_u506 : Cond.classLink RX6 69 "java/util/NoSuchElementException" ∈ gm_U := gm_U_in (List.mem_of_getElem? (l := lw_tbl) (i := 506) (by decide +kernel)) rfl
theorem gm_u522 : Cond.methodLink RX6 76 yX4_symbolOf ∈ gm_U := gm_U_in (List.mem_of_getElem? (l := lw_tbl) (i := 522) (by decide +kernel)) rfl
theorem gm_u523 : Cond.instanceMethod yX4_symbolOf ∈ gm_U := gm_U_in (List.mem_of_getElem? (l := lw_tbl) (i := 523) (by decide +kernel)) rfl
theorem gm_u524 : Cond.selects RX4 yX4_symbolOf yX4_symbolOf ∈ gm_U := gm_U_in (List.mem_of_getElem? (l := lw_tbl) (i := 524) (by decide +kernel)) rfl
theorem gm_u525 : Cond.code yX4_symbolOf cX4_symbolOf 9 (some .char) ∈ gm_U := gm_U_in (List.mem_of_getElem? (l := lw_tbl) (i := 525) (by decide +kernel)) rfl
theorem gm_u526 : Cond.methodLink RX4 36 yX4_leftOf ∈ gm_U := gm_U_in (List.mem_of_getElem? (l := lw_tbl) (i := 526) (by decide +kernel)) rfl
theorem gm_u528 : Cond.instanceMethod yX4_leftOf ∈ gm_U := gm_U_in (List.mem_of_getElem? (l := lw_tbl) (i := 528) (by decide +kernel)) rfl
theorem gm_u529 : Cond.code yX4_leftOf cX4_leftOf 2 (some .int) ∈ gm_U := gm_U_in (List.mem_of_getElem? (l := lw_tbl) (i := 529) (by decide +kernel)) rfl
theorem gm_u530 : Cond.methodLink RX4 43 yX4_rightOf ∈ gm_U := gm_U_in (List.mem_of_getElem? (l := lw_tbl) (i := 530) (by decide +kernel)) rfl
theorem gm_u532 : Cond.instanceMethod yX4_rightOf ∈ gm_U := gm_U_in (List.mem_of_getElem? (l := lw_tbl) (i := 532) (by decide +kernel)) rfl
theorem gm_u533 : Cond.code yX4_rightOf cX4_rightOf 2 (some .int) ∈ gm_U := gm_U_in (List.mem_of_getElem? (l := lw_tbl) (i := 533) (by decide +kernel)) rfl
theorem gm_u534 : Cond.methodLink RX4 46 yX4_headOf ∈ gm_U := gm_U_in (List.mem_of_getElem? (l := lw_tbl) (i := 534) (by decide +kernel)) rfl
theorem gm_u536 : Cond.instanceMethod yX4_headOf ∈ gm_U := gm_U_in (List.mem_of_getElem? (l := lw_tbl) (i := 536) (by decide +kernel)) rfl
theorem gm_u537 : Cond.code yX4_headOf cX4_headOf 2 (some .char) ∈ gm_U := gm_U_in (List.mem_of_getElem? (l := lw_tbl) (i := 537) (by decide +kernel)) rfl
theorem gm_u538 : Cond.methodLink RL 180 yL_regions ∈ gm_U := gm_U_in (List.mem_of_getElem? (l := lw_tbl) (i := 538) (by decide +kernel)) rfl
theorem gm_u539 : Cond.static yL_regions ∈ gm_U := gm_U_in (List.mem_of_getElem? (l := lw_tbl) (i := 539) (by decide +kernel)) rfl
theorem gm_u540 : Cond.codeWith yL_regions cL_regions 4 (some .int) [(0, 9, 12, 27)] ∈ gm_U := gm_U_in (List.mem_of_getElem? (l := lw_tbl) (i := 540) (by decide +kernel)) rfl
theorem gm_u541 : Cond.methodLink RL 51 yX6_regions ∈ gm_U := gm_U_in (List.mem_of_getElem? (l := lw_tbl) (i := 541) (by decide +kernel)) rfl
theorem gm_u542 : Cond.instanceMethod yX6_regions ∈ gm_U := gm_U_in (List.mem_of_getElem? (l := lw_tbl) (i := 542) (by decide +kernel)) rfl
theorem gm_u543 : Cond.selects RX6 yX6_regions yX6_regions ∈ gm_U := gm_U_in (List.mem_of_getElem? (l := lw_tbl) (i := 543) (by decide +kernel)) rfl
theorem gm_u544 : Cond.code yX6_regions cX6_regions 2 (some .int) ∈ gm_U := gm_U_in (List.mem_of_getElem? (l := lw_tbl) (i := 544) (by decide +kernel)) rfl
theorem gm_u545 : Cond.methodLink RX6 101 yX4_coverOf ∈ gm_U := gm_U_in (List.mem_of_getElem? (l := lw_tbl) (i := 545) (by decide +kernel)) rfl
theorem gm_u546 : Cond.methodLink RX6 104 yJ6_bitCount_0f7a4 ∈ gm_U := gm_U_in (List.mem_of_getElem? (l := lw_tbl) (i := 546) (by decide +kernel)) rfl
theorem gm_u547 : Cond.static yJ6_bitCount_0f7a4 ∈ gm_U := gm_U_in (List.mem_of_getElem? (l := lw_tbl) (i := 547) (by decide +kernel)) rfl
theorem gm_u548 : Cond.code yJ6_bitCount_0f7a4 cJ6_bitCount_0f7a4 1 (some .int) ∈ gm_U := gm_U_in (List.mem_of_getElem? (l := lw_tbl) (i := 548) (by decide +kernel)) rfl
theorem gm_u549 : Cond.constant RJ6 265 (1431655765) ∈ gm_U := gm_U_in (List.mem_of_getElem? (l := lw_tbl) (i := 549) (by decide +kernel)) rfl
theorem gm_u550 : Cond.constant RJ6 266 (858993459) ∈ gm_U := gm_U_in (List.mem_of_getElem? (l := lw_tbl) (i := 550) (by decide +kernel)) rfl
theorem gm_u551 : Cond.constant RJ6 267 (252645135) ∈ gm_U := gm_U_in (List.mem_of_getElem? (l := lw_tbl) (i := 551) (by decide +kernel)) rfl
theorem gm_u552 : Cond.methodLink RL 183 yL_covers ∈ gm_U := gm_U_in (List.mem_of_getElem? (l := lw_tbl) (i := 552) (by decide +kernel)) rfl
theorem gm_u553 : Cond.static yL_covers ∈ gm_U := gm_U_in (List.mem_of_getElem? (l := lw_tbl) (i := 553) (by decide +kernel)) rfl
theorem gm_u554 : Cond.codeWith yL_covers cL_covers 5 (some .int) [(0, 17, 20, 27), (0, 17, 24, 13)] ∈ gm_U := gm_U_in (List.mem_of_getElem? (l := lw_tbl) (i := 554) (by decide +kernel)) rfl
theorem gm_u555 : Cond.methodLink RL 54 yX6_covers ∈ gm_U := gm_U_in (List.mem_of_getElem? (l := lw_tbl) (i := 555) (by decide +kernel)) rfl
theorem gm_u556 : Cond.instanceMethod yX6_covers ∈ gm_U := gm_U_in (List.mem_of_getElem? (l := lw_tbl) (i := 556) (by decide +kernel)) rfl
theorem gm_u557 : Cond.selects RX6 yX6_covers yX6_covers ∈ gm_U := gm_U_in (List.mem_of_getElem? (l := lw_tbl) (i := 557) (by decide +kernel)) rfl
theorem gm_u558 : Cond.code yX6_covers cX6_covers 3 (some .boolean) ∈ gm_U := gm_U_in (List.mem_of_getElem? (l := lw_tbl) (i := 558) (by decide +kernel)) rfl
theorem gm_u559 : Cond.methodLink RX6 109 yX6_checkRegion ∈ gm_U := gm_U_in (List.mem_of_getElem? (l := lw_tbl) (i := 559) (by decide +kernel)) rfl
theorem gm_u561 : Cond.instanceMethod yX6_checkRegion ∈ gm_U := gm_U_in (List.mem_of_getElem? (l := lw_tbl) (i := 561) (by decide +kernel)) rfl
theorem gm_u562 : Cond.code yX6_checkRegion cX6_checkRegion 2 none ∈ gm_U := gm_U_in (List.mem_of_getElem? (l := lw_tbl) (i := 562) (by decide +kernel)) rfl
theorem gm_u564 : Cond.methodLink RX6 112 yX6_isIn ∈ gm_U := gm_U_in (List.mem_of_getElem? (l := lw_tbl) (i := 564) (by decide +kernel)) rfl
theorem gm_u565 : Cond.methodLink RL 186 yL_coversByTerm ∈ gm_U := gm_U_in (List.mem_of_getElem? (l := lw_tbl) (i := 565) (by decide +kernel)) rfl
theorem gm_u566 : Cond.static yL_coversByTerm ∈ gm_U := gm_U_in (List.mem_of_getElem? (l := lw_tbl) (i := 566) (by decide +kernel)) rfl
theorem gm_u567 : Cond.codeWith yL_coversByTerm cL_coversByTerm 5 (some .int) [(0, 17, 20, 27), (0, 17, 24, 13)] ∈ gm_U := gm_U_in (List.mem_of_getElem? (l := lw_tbl) (i := 567) (by decide +kernel)) rfl
theorem gm_u568 : Cond.methodLink RL 58 yX6_coversByTerm ∈ gm_U := gm_U_in (List.mem_of_getElem? (l := lw_tbl) (i := 568) (by decide +kernel)) rfl
theorem gm_u569 : Cond.instanceMethod yX6_coversByTerm ∈ gm_U := gm_U_in (List.mem_of_getElem? (l := lw_tbl) (i := 569) (by decide +kernel)) rfl
theorem gm_u570 : Cond.selects RX6 yX6_coversByTerm yX6_coversByTerm ∈ gm_U := gm_U_in (List.mem_of_getElem? (l := lw_tbl) (i := 570) (by decide +kernel)) rfl
theorem gm_u571 : Cond.code yX6_coversByTerm cX6_coversByTerm 3 (some .boolean) ∈ gm_U := gm_U_in (List.mem_of_getElem? (l := lw_tbl) (i := 571) (by decide +kernel)) rfl
theorem gm_u572 : Cond.methodLink RX6 116 yX4_reaches ∈ gm_U := gm_U_in (List.mem_of_getElem? (l := lw_tbl) (i := 572) (by decide +kernel)) rfl
theorem gm_u573 : Cond.instanceMethod yX4_reaches ∈ gm_U := gm_U_in (List.mem_of_getElem? (l := lw_tbl) (i := 573) (by decide +kernel)) rfl
theorem gm_u574 : Cond.selects RX4 yX4_reaches yX4_reaches ∈ gm_U := gm_U_in (List.mem_of_getElem? (l := lw_tbl) (i := 574) (by decide +kernel)) rfl
theorem gm_u575 : Cond.code yX4_reaches cX4_reaches 3 (some .boolean) ∈ gm_U := gm_U_in (List.mem_of_getElem? (l := lw_tbl) (i := 575) (by decide +kernel)) rfl
theorem gm_u576 : Cond.methodLink RX4 85 yX4_reachesBelow ∈ gm_U := gm_U_in (List.mem_of_getElem? (l := lw_tbl) (i := 576) (by decide +kernel)) rfl
theorem gm_u578 : Cond.instanceMethod yX4_reachesBelow ∈ gm_U := gm_U_in (List.mem_of_getElem? (l := lw_tbl) (i := 578) (by decide +kernel)) rfl
theorem gm_u579 : Cond.code yX4_reachesBelow cX4_reachesBelow 7 (some .boolean) ∈ gm_U := gm_U_in (List.mem_of_getElem? (l := lw_tbl) (i := 579) (by decide +kernel)) rfl
theorem gm_u581 : Cond.methodLink RL 189 yL_isEqual ∈ gm_U := gm_U_in (List.mem_of_getElem? (l := lw_tbl) (i := 581) (by decide +kernel)) rfl
theorem gm_u582 : Cond.static yL_isEqual ∈ gm_U := gm_U_in (List.mem_of_getElem? (l := lw_tbl) (i := 582) (by decide +kernel)) rfl
theorem gm_u583 : Cond.codeWith yL_isEqual cL_isEqual 5 (some .int) [(0, 17, 20, 27)] ∈ gm_U := gm_U_in (List.mem_of_getElem? (l := lw_tbl) (i := 583) (by decide +kernel)) rfl
theorem gm_u584 : Cond.methodLink RL 61 yX6_isEqual ∈ gm_U := gm_U_in (List.mem_of_getElem? (l := lw_tbl) (i := 584) (by decide +kernel)) rfl
theorem gm_u585 : Cond.instanceMethod yX6_isEqual ∈ gm_U := gm_U_in (List.mem_of_getElem? (l := lw_tbl) (i := 585) (by decide +kernel)) rfl
theorem gm_u586 : Cond.selects RX6 yX6_isEqual yX6_isEqual ∈ gm_U := gm_U_in (List.mem_of_getElem? (l := lw_tbl) (i := 586) (by decide +kernel)) rfl
theorem gm_u587 : Cond.code yX6_isEqual cX6_isEqual 3 (some .boolean) ∈ gm_U := gm_U_in (List.mem_of_getElem? (l := lw_tbl) (i := 587) (by decide +kernel)) rfl
theorem gm_u588 : Cond.methodLink RL 192 yL_rule ∈ gm_U := gm_U_in (List.mem_of_getElem? (l := lw_tbl) (i := 588) (by decide +kernel)) rfl
theorem gm_u589 : Cond.static yL_rule ∈ gm_U := gm_U_in (List.mem_of_getElem? (l := lw_tbl) (i := 589) (by decide +kernel)) rfl
theorem gm_u590 : Cond.codeWith yL_rule cL_rule 4 (some .int) [(0, 9, 12, 27), (0, 9, 15, 49)] ∈ gm_U := gm_U_in (List.mem_of_getElem? (l := lw_tbl) (i := 590) (by decide +kernel)) rfl
theorem gm_u591 : Cond.methodLink RL 64 yX6_rule ∈ gm_U := gm_U_in (List.mem_of_getElem? (l := lw_tbl) (i := 591) (by decide +kernel)) rfl
theorem gm_u592 : Cond.instanceMethod yX6_rule ∈ gm_U := gm_U_in (List.mem_of_getElem? (l := lw_tbl) (i := 592) (by decide +kernel)) rfl
theorem gm_u593 : Cond.selects RX6 yX6_rule yX6_rule ∈ gm_U := gm_U_in (List.mem_of_getElem? (l := lw_tbl) (i := 593) (by decide +kernel)) rfl
theorem gm_u594 : Cond.code yX6_rule cX6_rule 2 (some .char) ∈ gm_U := gm_U_in (List.mem_of_getElem? (l := lw_tbl) (i := 594) (by decide +kernel)) rfl
theorem gm_u595 : Cond.methodLink RX6 119 yX1_load ∈ gm_U := gm_U_in (List.mem_of_getElem? (l := lw_tbl) (i := 595) (by decide +kernel)) rfl
theorem gm_u596 : Cond.instanceMethod yX1_load ∈ gm_U := gm_U_in (List.mem_of_getElem? (l := lw_tbl) (i := 596) (by decide +kernel)) rfl
theorem gm_u597 : Cond.selects RX1 yX1_load yX1_load ∈ gm_U := gm_U_in (List.mem_of_getElem? (l := lw_tbl) (i := 597) (by decide +kernel)) rfl
theorem gm_u598 : Cond.code yX1_load cX1_load 5 none ∈ gm_U := gm_U_in (List.mem_of_getElem? (l := lw_tbl) (i := 598) (by decide +kernel)) rfl
theorem gm_u599 : Cond.methodLink RX1 29 yX5_clear ∈ gm_U := gm_U_in (List.mem_of_getElem? (l := lw_tbl) (i := 599) (by decide +kernel)) rfl
theorem gm_u600 : Cond.instanceMethod yX5_clear ∈ gm_U := gm_U_in (List.mem_of_getElem? (l := lw_tbl) (i := 600) (by decide +kernel)) rfl
theorem gm_u601 : Cond.selects RX5 yX5_clear yX5_clear ∈ gm_U := gm_U_in (List.mem_of_getElem? (l := lw_tbl) (i := 601) (by decide +kernel)) rfl
theorem gm_u602 : Cond.code yX5_clear cX5_clear 1 none ∈ gm_U := gm_U_in (List.mem_of_getElem? (l := lw_tbl) (i := 602) (by decide +kernel)) rfl
theorem gm_u603 : Cond.methodLink RX1 32 yX4_sizeOf ∈ gm_U := gm_U_in (List.mem_of_getElem? (l := lw_tbl) (i := 603) (by decide +kernel)) rfl
theorem gm_u604 : Cond.methodLink RX1 38 yX4_symbolOf ∈ gm_U := gm_U_in (List.mem_of_getElem? (l := lw_tbl) (i := 604) (by decide +kernel)) rfl
theorem gm_u605 : Cond.methodLink RX1 42 yX5_put ∈ gm_U := gm_U_in (List.mem_of_getElem? (l := lw_tbl) (i := 605) (by decide +kernel)) rfl
theorem gm_u606 : Cond.instanceMethod yX5_put ∈ gm_U := gm_U_in (List.mem_of_getElem? (l := lw_tbl) (i := 606) (by decide +kernel)) rfl
theorem gm_u607 : Cond.selects RX5 yX5_put yX5_put ∈ gm_U := gm_U_in (List.mem_of_getElem? (l := lw_tbl) (i := 607) (by decide +kernel)) rfl
theorem gm_u608 : Cond.code yX5_put cX5_put 2 none ∈ gm_U := gm_U_in (List.mem_of_getElem? (l := lw_tbl) (i := 608) (by decide +kernel)) rfl
theorem gm_u609 : Cond.methodLink RX1 46 yX1_seek ∈ gm_U := gm_U_in (List.mem_of_getElem? (l := lw_tbl) (i := 609) (by decide +kernel)) rfl
theorem gm_u611 : Cond.instanceMethod yX1_seek ∈ gm_U := gm_U_in (List.mem_of_getElem? (l := lw_tbl) (i := 611) (by decide +kernel)) rfl
theorem gm_u612 : Cond.code yX1_seek cX1_seek 2 none ∈ gm_U := gm_U_in (List.mem_of_getElem? (l := lw_tbl) (i := 612) (by decide +kernel)) rfl
theorem gm_u613 : Cond.methodLink RX1 49 yX5_measure ∈ gm_U := gm_U_in (List.mem_of_getElem? (l := lw_tbl) (i := 613) (by decide +kernel)) rfl
theorem gm_u614 : Cond.instanceMethod yX5_measure ∈ gm_U := gm_U_in (List.mem_of_getElem? (l := lw_tbl) (i := 614) (by decide +kernel)) rfl
theorem gm_u615 : Cond.selects RX5 yX5_measure yX5_measure ∈ gm_U := gm_U_in (List.mem_of_getElem? (l := lw_tbl) (i := 615) (by decide +kernel)) rfl
theorem gm_u616 : Cond.code yX5_measure cX5_measure 5 none ∈ gm_U := gm_U_in (List.mem_of_getElem? (l := lw_tbl) (i := 616) (by decide +kernel)) rfl
theorem gm_u617 : Cond.methodLink RX5 34 yJ9_min_7cf53 ∈ gm_U := gm_U_in (List.mem_of_getElem? (l := lw_tbl) (i := 617) (by decide +kernel)) rfl
theorem gm_u618 : Cond.static yJ9_min_7cf53 ∈ gm_U := gm_U_in (List.mem_of_getElem? (l := lw_tbl) (i := 618) (by decide +kernel)) rfl
theorem gm_u619 : Cond.code yJ9_min_7cf53 cJ9_min_7cf53 2 (some .int) ∈ gm_U := gm_U_in (List.mem_of_getElem? (l := lw_tbl) (i := 619) (by decide +kernel)) rfl
theorem gm_u620 : Cond.methodLink RX5 40 yX5_partsOf ∈ gm_U := gm_U_in (List.mem_of_getElem? (l := lw_tbl) (i := 620) (by decide +kernel)) rfl
theorem gm_u621 : Cond.static yX5_partsOf ∈ gm_U := gm_U_in (List.mem_of_getElem? (l := lw_tbl) (i := 621) (by decide +kernel)) rfl
theorem gm_u622 : Cond.code yX5_partsOf cX5_partsOf 1 (some .int) ∈ gm_U := gm_U_in (List.mem_of_getElem? (l := lw_tbl) (i := 622) (by decide +kernel)) rfl
theorem gm_u623 : Cond.methodLink RX5 44 yX5_endOf ∈ gm_U := gm_U_in (List.mem_of_getElem? (l := lw_tbl) (i := 623) (by decide +kernel)) rfl
theorem gm_u624 : Cond.instanceMethod yX5_endOf ∈ gm_U := gm_U_in (List.mem_of_getElem? (l := lw_tbl) (i := 624) (by decide +kernel)) rfl
theorem gm_u625 : Cond.selects RX5 yX5_endOf yX5_endOf ∈ gm_U := gm_U_in (List.mem_of_getElem? (l := lw_tbl) (i := 625) (by decide +kernel)) rfl
theorem gm_u626 : Cond.code yX5_endOf cX5_endOf 2 (some .int) ∈ gm_U := gm_U_in (List.mem_of_getElem? (l := lw_tbl) (i := 626) (by decide +kernel)) rfl
theorem gm_u627 : Cond.methodLink RX1 52 yX5_length ∈ gm_U := gm_U_in (List.mem_of_getElem? (l := lw_tbl) (i := 627) (by decide +kernel)) rfl
theorem gm_u628 : Cond.instanceMethod yX5_length ∈ gm_U := gm_U_in (List.mem_of_getElem? (l := lw_tbl) (i := 628) (by decide +kernel)) rfl
theorem gm_u629 : Cond.selects RX5 yX5_length yX5_length ∈ gm_U := gm_U_in (List.mem_of_getElem? (l := lw_tbl) (i := 629) (by decide +kernel)) rfl
theorem gm_u630 : Cond.code yX5_length cX5_length 1 (some .int) ∈ gm_U := gm_U_in (List.mem_of_getElem? (l := lw_tbl) (i := 630) (by decide +kernel)) rfl
theorem gm_u631 : Cond.methodLink RX1 56 yX1_ruleAt ∈ gm_U := gm_U_in (List.mem_of_getElem? (l := lw_tbl) (i := 631) (by decide +kernel)) rfl
theorem gm_u633 : Cond.instanceMethod yX1_ruleAt ∈ gm_U := gm_U_in (List.mem_of_getElem? (l := lw_tbl) (i := 633) (by decide +kernel)) rfl
theorem gm_u634 : Cond.code yX1_ruleAt cX1_ruleAt 2 (some .char) ∈ gm_U := gm_U_in (List.mem_of_getElem? (l := lw_tbl) (i := 634) (by decide +kernel)) rfl
theorem gm_u635 : Cond.methodLink RX1 60 yX5_at ∈ gm_U := gm_U_in (List.mem_of_getElem? (l := lw_tbl) (i := 635) (by decide +kernel)) rfl
theorem gm_u636 : Cond.instanceMethod yX5_at ∈ gm_U := gm_U_in (List.mem_of_getElem? (l := lw_tbl) (i := 636) (by decide +kernel)) rfl
theorem gm_u637 : Cond.selects RX5 yX5_at yX5_at ∈ gm_U := gm_U_in (List.mem_of_getElem? (l := lw_tbl) (i := 637) (by decide +kernel)) rfl
theorem gm_u638 : Cond.code yX5_at cX5_at 2 (some .char) ∈ gm_U := gm_U_in (List.mem_of_getElem? (l := lw_tbl) (i := 638) (by decide +kernel)) rfl
theorem gm_u639 : Cond.methodLink RX1 63 yX1_ruleOfComplement ∈ gm_U := gm_U_in (List.mem_of_getElem? (l := lw_tbl) (i := 639) (by decide +kernel)) rfl
theorem gm_u640 : Cond.static yX1_ruleOfComplement ∈ gm_U := gm_U_in (List.mem_of_getElem? (l := lw_tbl) (i := 640) (by decide +kernel)) rfl
theorem gm_u641 : Cond.code yX1_ruleOfComplement cX1_ruleOfComplement 1 (some .char) ∈ gm_U := gm_U_in (List.mem_of_getElem? (l := lw_tbl) (i := 641) (by decide +kernel)) rfl
theorem gm_u642 : Cond.methodLink RX1 67 yX1_ruleOfPair ∈ gm_U := gm_U_in (List.mem_of_getElem? (l := lw_tbl) (i := 642) (by decide +kernel)) rfl
theorem gm_u644 : Cond.instanceMethod yX1_ruleOfPair ∈ gm_U := gm_U_in (List.mem_of_getElem? (l := lw_tbl) (i := 644) (by decide +kernel)) rfl
theorem gm_u645 : Cond.code yX1_ruleOfPair cX1_ruleOfPair 5 (some .char) ∈ gm_U := gm_U_in (List.mem_of_getElem? (l := lw_tbl) (i := 645) (by decide +kernel)) rfl
theorem gm_u646 : Cond.methodLink RX1 71 yX5_endOf ∈ gm_U := gm_U_in (List.mem_of_getElem? (l := lw_tbl) (i := 646) (by decide +kernel)) rfl
theorem gm_u647 : Cond.methodLink RX1 74 yX5_isSame ∈ gm_U := gm_U_in (List.mem_of_getElem? (l := lw_tbl) (i := 647) (by decide +kernel)) rfl
theorem gm_u648 : Cond.instanceMethod yX5_isSame ∈ gm_U := gm_U_in (List.mem_of_getElem? (l := lw_tbl) (i := 648) (by decide +kernel)) rfl
theorem gm_u649 : Cond.selects RX5 yX5_isSame yX5_isSame ∈ gm_U := gm_U_in (List.mem_of_getElem? (l := lw_tbl) (i := 649) (by decide +kernel)) rfl
theorem gm_u650 : Cond.code yX5_isSame cX5_isSame 5 (some .boolean) ∈ gm_U := gm_U_in (List.mem_of_getElem? (l := lw_tbl) (i := 650) (by decide +kernel)) rfl
theorem gm_u651 : Cond.methodLink RX5 26 yX5_at ∈ gm_U := gm_U_in (List.mem_of_getElem? (l := lw_tbl) (i := 651) (by decide +kernel)) rfl
theorem gm_u652 : Cond.methodLink RX1 78 yX5_isComplement ∈ gm_U := gm_U_in (List.mem_of_getElem? (l := lw_tbl) (i := 652) (by decide +kernel)) rfl
theorem gm_u653 : Cond.instanceMethod yX5_isComplement ∈ gm_U := gm_U_in (List.mem_of_getElem? (l := lw_tbl) (i := 653) (by decide +kernel)) rfl
theorem gm_u654 : Cond.selects RX5 yX5_isComplement yX5_isComplement ∈ gm_U := gm_U_in (List.mem_of_getElem? (l := lw_tbl) (i := 654) (by decide +kernel)) rfl
theorem gm_u655 : Cond.code yX5_isComplement cX5_isComplement 3 (some .boolean) ∈ gm_U := gm_U_in (List.mem_of_getElem? (l := lw_tbl) (i := 655) (by decide +kernel)) rfl
theorem gm_u656 : Cond.methodLink RX5 48 yX5_isSame ∈ gm_U := gm_U_in (List.mem_of_getElem? (l := lw_tbl) (i := 656) (by decide +kernel)) rfl
theorem gm_u657 : Cond.methodLink RX6 123 yX6_ruleOrThrow ∈ gm_U := gm_U_in (List.mem_of_getElem? (l := lw_tbl) (i := 657) (by decide +kernel)) rfl
theorem gm_u659 : Cond.instanceMethod yX6_ruleOrThrow ∈ gm_U := gm_U_in (List.mem_of_getElem? (l := lw_tbl) (i := 659) (by decide +kernel)) rfl
theorem gm_u660 : Cond.code yX6_ruleOrThrow cX6_ruleOrThrow 1 (some .char) ∈ gm_U := gm_U_in (List.mem_of_getElem? (l := lw_tbl) (i := 660) (by decide +kernel)) rfl
theorem gm_u661 : Cond.methodLink RX6 139 yX1_canGoOn ∈ gm_U := gm_U_in (List.mem_of_getElem? (l := lw_tbl) (i := 661) (by decide +kernel)) rfl
theorem gm_u662 : Cond.instanceMethod yX1_canGoOn ∈ gm_U := gm_U_in (List.mem_of_getElem? (l := lw_tbl) (i := 662) (by decide +kernel)) rfl
theorem gm_u663 : Cond.selects RX1 yX1_canGoOn yX1_canGoOn ∈ gm_U := gm_U_in (List.mem_of_getElem? (l := lw_tbl) (i := 663) (by decide +kernel)) rfl
theorem gm_u664 : Cond.code yX1_canGoOn cX1_canGoOn 1 (some .boolean) ∈ gm_U := gm_U_in (List.mem_of_getElem? (l := lw_tbl) (i := 664) (by decide +kernel)) rfl
theorem gm_u666 : Cond.methodLink RX6 165 yX1_nextRule ∈ gm_U := gm_U_in (List.mem_of_getElem? (l := lw_tbl) (i := 666) (by decide +kernel)) rfl
theorem gm_u667 : Cond.instanceMethod yX1_nextRule ∈ gm_U := gm_U_in (List.mem_of_getElem? (l := lw_tbl) (i := 667) (by decide +kernel)) rfl
theorem gm_u668 : Cond.selects RX1 yX1_nextRule yX1_nextRule ∈ gm_U := gm_U_in (List.mem_of_getElem? (l := lw_tbl) (i := 668) (by decide +kernel)) rfl
theorem gm_u669 : Cond.code yX1_nextRule cX1_nextRule 1 (some .char) ∈ gm_U := gm_U_in (List.mem_of_getElem? (l := lw_tbl) (i := 669) (by decide +kernel)) rfl
theorem gm_u670 : Cond.methodLink RL 195 yL_step ∈ gm_U := gm_U_in (List.mem_of_getElem? (l := lw_tbl) (i := 670) (by decide +kernel)) rfl
theorem gm_u671 : Cond.static yL_step ∈ gm_U := gm_U_in (List.mem_of_getElem? (l := lw_tbl) (i := 671) (by decide +kernel)) rfl
theorem gm_u672 : Cond.codeWith yL_step cL_step 4 (some .int) [(0, 9, 12, 27), (0, 9, 15, 49), (0, 9, 18, 71), (0, 9, 21, 15)] ∈ gm_U := gm_U_in (List.mem_of_getElem? (l := lw_tbl) (i := 672) (by decide +kernel)) rfl
theorem gm_u673 : Cond.classLink RL 71 "java/lang/UnsupportedOperationException" ∈ gm_U := gm_U_in (List.mem_of_getElem? (l := lw_tbl) (i := 673) (by decide +kernel)) rfl
theorem gm_u674 : Cond.methodLink RL 68 yX6_step ∈ gm_U := gm_U_in (List.mem_of_getElem? (l := lw_tbl) (i := 674) (by decide +kernel)) rfl
theorem gm_u675 : Cond.instanceMethod yX6_step ∈ gm_U := gm_U_in (List.mem_of_getElem? (l := lw_tbl) (i := 675) (by decide +kernel)) rfl
theorem gm_u676 : Cond.selects RX6 yX6_step yX6_step ∈ gm_U := gm_U_in (List.mem_of_getElem? (l := lw_tbl) (i := 676) (by decide +kernel)) rfl
theorem gm_u677 : Cond.code yX6_step cX6_step 2 (some .int) ∈ gm_U := gm_U_in (List.mem_of_getElem? (l := lw_tbl) (i := 677) (by decide +kernel)) rfl
theorem gm_u678 : Cond.methodLink RX6 127 yX6_rewriteOrThrow ∈ gm_U := gm_U_in (List.mem_of_getElem? (l := lw_tbl) (i := 678) (by decide +kernel)) rfl
theorem gm_u680 : Cond.instanceMethod yX6_rewriteOrThrow ∈ gm_U := gm_U_in (List.mem_of_getElem? (l := lw_tbl) (i := 680) (by decide +kernel)) rfl
theorem gm_u681 : Cond.code yX6_rewriteOrThrow cX6_rewriteOrThrow 1 none ∈ gm_U := gm_U_in (List.mem_of_getElem? (l := lw_tbl) (i := 681) (by decide +kernel)) rfl
theorem gm_u682 : Cond.methodLink RX6 143 yX1_rewrite ∈ gm_U := gm_U_in (List.mem_of_getElem? (l := lw_tbl) (i := 682) (by decide +kernel)) rfl
theorem gm_u683 : Cond.instanceMethod yX1_rewrite ∈ gm_U := gm_U_in (List.mem_of_getElem? (l := lw_tbl) (i := 683) (by decide +kernel)) rfl
theorem gm_u684 : Cond.selects RX1 yX1_rewrite yX1_rewrite ∈ gm_U := gm_U_in (List.mem_of_getElem? (l := lw_tbl) (i := 684) (by decide +kernel)) rfl
theorem gm_u685 : Cond.code yX1_rewrite cX1_rewrite 3 (some .boolean) ∈ gm_U := gm_U_in (List.mem_of_getElem? (l := lw_tbl) (i := 685) (by decide +kernel)) rfl
theorem gm_u686 : Cond.methodLink RX1 81 yX5_putPart ∈ gm_U := gm_U_in (List.mem_of_getElem? (l := lw_tbl) (i := 686) (by decide +kernel)) rfl
theorem gm_u687 : Cond.instanceMethod yX5_putPart ∈ gm_U := gm_U_in (List.mem_of_getElem? (l := lw_tbl) (i := 687) (by decide +kernel)) rfl
theorem gm_u688 : Cond.selects RX5 yX5_putPart yX5_putPart ∈ gm_U := gm_U_in (List.mem_of_getElem? (l := lw_tbl) (i := 688) (by decide +kernel)) rfl
theorem gm_u689 : Cond.code yX5_putPart cX5_putPart 5 none ∈ gm_U := gm_U_in (List.mem_of_getElem? (l := lw_tbl) (i := 689) (by decide +kernel)) rfl
theorem gm_u690 : Cond.methodLink RX5 30 yX5_put ∈ gm_U := gm_U_in (List.mem_of_getElem? (l := lw_tbl) (i := 690) (by decide +kernel)) rfl
theorem gm_u691 : Cond.methodLink RX1 85 yX1_putRewritten ∈ gm_U := gm_U_in (List.mem_of_getElem? (l := lw_tbl) (i := 691) (by decide +kernel)) rfl
theorem gm_u693 : Cond.instanceMethod yX1_putRewritten ∈ gm_U := gm_U_in (List.mem_of_getElem? (l := lw_tbl) (i := 693) (by decide +kernel)) rfl
theorem gm_u694 : Cond.code yX1_putRewritten cX1_putRewritten 4 none ∈ gm_U := gm_U_in (List.mem_of_getElem? (l := lw_tbl) (i := 694) (by decide +kernel)) rfl
theorem gm_u695 : Cond.methodLink RX1 89 yX1_putComplements ∈ gm_U := gm_U_in (List.mem_of_getElem? (l := lw_tbl) (i := 695) (by decide +kernel)) rfl
theorem gm_u697 : Cond.instanceMethod yX1_putComplements ∈ gm_U := gm_U_in (List.mem_of_getElem? (l := lw_tbl) (i := 697) (by decide +kernel)) rfl
theorem gm_u698 : Cond.code yX1_putComplements cX1_putComplements 5 none ∈ gm_U := gm_U_in (List.mem_of_getElem? (l := lw_tbl) (i := 698) (by decide +kernel)) rfl
theorem gm_u699 : Cond.methodLink RX1 93 yX1_putDifferences ∈ gm_U := gm_U_in (List.mem_of_getElem? (l := lw_tbl) (i := 699) (by decide +kernel)) rfl
theorem gm_u701 : Cond.instanceMethod yX1_putDifferences ∈ gm_U := gm_U_in (List.mem_of_getElem? (l := lw_tbl) (i := 701) (by decide +kernel)) rfl
theorem gm_u702 : Cond.code yX1_putDifferences cX1_putDifferences 4 none ∈ gm_U := gm_U_in (List.mem_of_getElem? (l := lw_tbl) (i := 702) (by decide +kernel)) rfl
theorem gm_u703 : Cond.methodLink RX1 97 yX1_putOtherSide ∈ gm_U := gm_U_in (List.mem_of_getElem? (l := lw_tbl) (i := 703) (by decide +kernel)) rfl
theorem gm_u705 : Cond.instanceMethod yX1_putOtherSide ∈ gm_U := gm_U_in (List.mem_of_getElem? (l := lw_tbl) (i := 705) (by decide +kernel)) rfl
theorem gm_u706 : Cond.code yX1_putOtherSide cX1_putOtherSide 5 none ∈ gm_U := gm_U_in (List.mem_of_getElem? (l := lw_tbl) (i := 706) (by decide +kernel)) rfl
theorem gm_u707 : Cond.methodLink RX1 101 yX1_constantOf ∈ gm_U := gm_U_in (List.mem_of_getElem? (l := lw_tbl) (i := 707) (by decide +kernel)) rfl
theorem gm_u708 : Cond.static yX1_constantOf ∈ gm_U := gm_U_in (List.mem_of_getElem? (l := lw_tbl) (i := 708) (by decide +kernel)) rfl
theorem gm_u709 : Cond.code yX1_constantOf cX1_constantOf 2 (some .char) ∈ gm_U := gm_U_in (List.mem_of_getElem? (l := lw_tbl) (i := 709) (by decide +kernel)) rfl
theorem gm_u710 : Cond.classLink RX6 168 "java/lang/UnsupportedOperationException" ∈ gm_U := gm_U_in (List.mem_of_getElem? (l := lw_tbl) (i := 710) (by decide +kernel)) rfl
theorem gm_u726 : Cond.methodLink RX6 130 yX1_text ∈ gm_U := gm_U_in (List.mem_of_getElem? (l := lw_tbl) (i := 726) (by decide +kernel)) rfl
theorem gm_u727 : Cond.instanceMethod yX1_text ∈ gm_U := gm_U_in (List.mem_of_getElem? (l := lw_tbl) (i := 727) (by decide +kernel)) rfl
theorem gm_u728 : Cond.selects RX1 yX1_text yX1_text ∈ gm_U := gm_U_in (List.mem_of_getElem? (l := lw_tbl) (i := 728) (by decide +kernel)) rfl
theorem gm_u729 : Cond.code yX1_text cX1_text 1 (some (.object "Gimlet$Text")) ∈ gm_U := gm_U_in (List.mem_of_getElem? (l := lw_tbl) (i := 729) (by decide +kernel)) rfl
theorem gm_u730 : Cond.methodLink RX6 134 yX4_makeAll ∈ gm_U := gm_U_in (List.mem_of_getElem? (l := lw_tbl) (i := 730) (by decide +kernel)) rfl
theorem gm_u731 : Cond.instanceMethod yX4_makeAll ∈ gm_U := gm_U_in (List.mem_of_getElem? (l := lw_tbl) (i := 731) (by decide +kernel)) rfl
theorem gm_u732 : Cond.selects RX4 yX4_makeAll yX4_makeAll ∈ gm_U := gm_U_in (List.mem_of_getElem? (l := lw_tbl) (i := 732) (by decide +kernel)) rfl
theorem gm_u733 : Cond.code yX4_makeAll cX4_makeAll 4 (some .int) ∈ gm_U := gm_U_in (List.mem_of_getElem? (l := lw_tbl) (i := 733) (by decide +kernel)) rfl
theorem gm_u734 : Cond.methodLink RX4 65 yX5_rewind ∈ gm_U := gm_U_in (List.mem_of_getElem? (l := lw_tbl) (i := 734) (by decide +kernel)) rfl
theorem gm_u735 : Cond.instanceMethod yX5_rewind ∈ gm_U := gm_U_in (List.mem_of_getElem? (l := lw_tbl) (i := 735) (by decide +kernel)) rfl
theorem gm_u736 : Cond.selects RX5 yX5_rewind yX5_rewind ∈ gm_U := gm_U_in (List.mem_of_getElem? (l := lw_tbl) (i := 736) (by decide +kernel)) rfl
theorem gm_u737 : Cond.code yX5_rewind cX5_rewind 1 none ∈ gm_U := gm_U_in (List.mem_of_getElem? (l := lw_tbl) (i := 737) (by decide +kernel)) rfl
theorem gm_u738 : Cond.methodLink RX4 70 yX4_makeNext ∈ gm_U := gm_U_in (List.mem_of_getElem? (l := lw_tbl) (i := 738) (by decide +kernel)) rfl
theorem gm_u740 : Cond.instanceMethod yX4_makeNext ∈ gm_U := gm_U_in (List.mem_of_getElem? (l := lw_tbl) (i := 740) (by decide +kernel)) rfl
theorem gm_u741 : Cond.code yX4_makeNext cX4_makeNext 7 (some .int) ∈ gm_U := gm_U_in (List.mem_of_getElem? (l := lw_tbl) (i := 741) (by decide +kernel)) rfl
theorem gm_u742 : Cond.methodLink RX4 74 yX5_read ∈ gm_U := gm_U_in (List.mem_of_getElem? (l := lw_tbl) (i := 742) (by decide +kernel)) rfl
theorem gm_u743 : Cond.instanceMethod yX5_read ∈ gm_U := gm_U_in (List.mem_of_getElem? (l := lw_tbl) (i := 743) (by decide +kernel)) rfl
theorem gm_u744 : Cond.selects RX5 yX5_read yX5_read ∈ gm_U := gm_U_in (List.mem_of_getElem? (l := lw_tbl) (i := 744) (by decide +kernel)) rfl
theorem gm_u745 : Cond.code yX5_read cX5_read 2 (some .char) ∈ gm_U := gm_U_in (List.mem_of_getElem? (l := lw_tbl) (i := 745) (by decide +kernel)) rfl
theorem gm_u746 : Cond.methodLink RX4 78 yX5_partsOf ∈ gm_U := gm_U_in (List.mem_of_getElem? (l := lw_tbl) (i := 746) (by decide +kernel)) rfl
theorem gm_u747 : Cond.methodLink RX4 82 yX4_make ∈ gm_U := gm_U_in (List.mem_of_getElem? (l := lw_tbl) (i := 747) (by decide +kernel)) rfl
theorem gm_u748 : Cond.methodLink RL 198 yL_steps ∈ gm_U := gm_U_in (List.mem_of_getElem? (l := lw_tbl) (i := 748) (by decide +kernel)) rfl
theorem gm_u749 : Cond.static yL_steps ∈ gm_U := gm_U_in (List.mem_of_getElem? (l := lw_tbl) (i := 749) (by decide +kernel)) rfl
theorem gm_u750 : Cond.codeWith yL_steps cL_steps 4 (some .int) [(0, 9, 12, 27)] ∈ gm_U := gm_U_in (List.mem_of_getElem? (l := lw_tbl) (i := 750) (by decide +kernel)) rfl
theorem gm_u751 : Cond.methodLink RL 73 yX6_steps ∈ gm_U := gm_U_in (List.mem_of_getElem? (l := lw_tbl) (i := 751) (by decide +kernel)) rfl
theorem gm_u752 : Cond.instanceMethod yX6_steps ∈ gm_U := gm_U_in (List.mem_of_getElem? (l := lw_tbl) (i := 752) (by decide +kernel)) rfl
theorem gm_u753 : Cond.selects RX6 yX6_steps yX6_steps ∈ gm_U := gm_U_in (List.mem_of_getElem? (l := lw_tbl) (i := 753) (by decide +kernel)) rfl
theorem gm_u754 : Cond.code yX6_steps cX6_steps 3 (some .int) ∈ gm_U := gm_U_in (List.mem_of_getElem? (l := lw_tbl) (i := 754) (by decide +kernel)) rfl
theorem gm_u755 : Cond.constant RX6 138 (1000000) ∈ gm_U := gm_U_in (List.mem_of_getElem? (l := lw_tbl) (i := 755) (by decide +kernel)) rfl
theorem gm_u756 : Cond.methodLink RL 201 yL_normalForm ∈ gm_U := gm_U_in (List.mem_of_getElem? (l := lw_tbl) (i := 756) (by decide +kernel)) rfl
theorem gm_u757 : Cond.static yL_normalForm ∈ gm_U := gm_U_in (List.mem_of_getElem? (l := lw_tbl) (i := 757) (by decide +kernel)) rfl
theorem gm_u758 : Cond.codeWith yL_normalForm cL_normalForm 4 (some .int) [(0, 9, 12, 27), (0, 9, 15, 71), (0, 9, 18, 15)] ∈ gm_U := gm_U_in (List.mem_of_getElem? (l := lw_tbl) (i := 758) (by decide +kernel)) rfl
theorem gm_u759 : Cond.methodLink RL 76 yX6_normalForm ∈ gm_U := gm_U_in (List.mem_of_getElem? (l := lw_tbl) (i := 759) (by decide +kernel)) rfl
theorem gm_u760 : Cond.instanceMethod yX6_normalForm ∈ gm_U := gm_U_in (List.mem_of_getElem? (l := lw_tbl) (i := 760) (by decide +kernel)) rfl
theorem gm_u761 : Cond.selects RX6 yX6_normalForm yX6_normalForm ∈ gm_U := gm_U_in (List.mem_of_getElem? (l := lw_tbl) (i := 761) (by decide +kernel)) rfl
theorem gm_u762 : Cond.code yX6_normalForm cX6_normalForm 3 (some .int) ∈ gm_U := gm_U_in (List.mem_of_getElem? (l := lw_tbl) (i := 762) (by decide +kernel)) rfl
theorem gm_u763 : Cond.methodLink RL 204 yL_primes ∈ gm_U := gm_U_in (List.mem_of_getElem? (l := lw_tbl) (i := 763) (by decide +kernel)) rfl
theorem gm_u764 : Cond.static yL_primes ∈ gm_U := gm_U_in (List.mem_of_getElem? (l := lw_tbl) (i := 764) (by decide +kernel)) rfl
theorem gm_u765 : Cond.codeWith yL_primes cL_primes 4 (some .int) [(0, 9, 12, 27)] ∈ gm_U := gm_U_in (List.mem_of_getElem? (l := lw_tbl) (i := 765) (by decide +kernel)) rfl
theorem gm_u766 : Cond.methodLink RL 79 yX6_primes ∈ gm_U := gm_U_in (List.mem_of_getElem? (l := lw_tbl) (i := 766) (by decide +kernel)) rfl
theorem gm_u767 : Cond.instanceMethod yX6_primes ∈ gm_U := gm_U_in (List.mem_of_getElem? (l := lw_tbl) (i := 767) (by decide +kernel)) rfl
theorem gm_u768 : Cond.selects RX6 yX6_primes yX6_primes ∈ gm_U := gm_U_in (List.mem_of_getElem? (l := lw_tbl) (i := 768) (by decide +kernel)) rfl
theorem gm_u769 : Cond.code yX6_primes cX6_primes 2 (some .int) ∈ gm_U := gm_U_in (List.mem_of_getElem? (l := lw_tbl) (i := 769) (by decide +kernel)) rfl
theorem gm_u770 : Cond.methodLink RX6 146 yX0_join ∈ gm_U := gm_U_in (List.mem_of_getElem? (l := lw_tbl) (i := 770) (by decide +kernel)) rfl
theorem gm_u771 : Cond.instanceMethod yX0_join ∈ gm_U := gm_U_in (List.mem_of_getElem? (l := lw_tbl) (i := 771) (by decide +kernel)) rfl
theorem gm_u772 : Cond.selects RX0 yX0_join yX0_join ∈ gm_U := gm_U_in (List.mem_of_getElem? (l := lw_tbl) (i := 772) (by decide +kernel)) rfl
theorem gm_u773 : Cond.code yX0_join cX0_join 4 none ∈ gm_U := gm_U_in (List.mem_of_getElem? (l := lw_tbl) (i := 773) (by decide +kernel)) rfl
theorem gm_u774 : Cond.methodLink RX0 37 yX0_isSingle ∈ gm_U := gm_U_in (List.mem_of_getElem? (l := lw_tbl) (i := 774) (by decide +kernel)) rfl
theorem gm_u775 : Cond.static yX0_isSingle ∈ gm_U := gm_U_in (List.mem_of_getElem? (l := lw_tbl) (i := 775) (by decide +kernel)) rfl
theorem gm_u776 : Cond.code yX0_isSingle cX0_isSingle 2 (some .boolean) ∈ gm_U := gm_U_in (List.mem_of_getElem? (l := lw_tbl) (i := 776) (by decide +kernel)) rfl
theorem gm_u777 : Cond.methodLink RX0 41 yX0_joinParts ∈ gm_U := gm_U_in (List.mem_of_getElem? (l := lw_tbl) (i := 777) (by decide +kernel)) rfl
theorem gm_u779 : Cond.instanceMethod yX0_joinParts ∈ gm_U := gm_U_in (List.mem_of_getElem? (l := lw_tbl) (i := 779) (by decide +kernel)) rfl
theorem gm_u780 : Cond.code yX0_joinParts cX0_joinParts 5 none ∈ gm_U := gm_U_in (List.mem_of_getElem? (l := lw_tbl) (i := 780) (by decide +kernel)) rfl
theorem gm_u781 : Cond.methodLink RX0 45 yX0_weightOf ∈ gm_U := gm_U_in (List.mem_of_getElem? (l := lw_tbl) (i := 781) (by decide +kernel)) rfl
theorem gm_u782 : Cond.static yX0_weightOf ∈ gm_U := gm_U_in (List.mem_of_getElem? (l := lw_tbl) (i := 782) (by decide +kernel)) rfl
theorem gm_u783 : Cond.code yX0_weightOf cX0_weightOf 1 (some .int) ∈ gm_U := gm_U_in (List.mem_of_getElem? (l := lw_tbl) (i := 783) (by decide +kernel)) rfl
theorem gm_u784 : Cond.methodLink RX6 149 yX0_countPrimes ∈ gm_U := gm_U_in (List.mem_of_getElem? (l := lw_tbl) (i := 784) (by decide +kernel)) rfl
theorem gm_u785 : Cond.instanceMethod yX0_countPrimes ∈ gm_U := gm_U_in (List.mem_of_getElem? (l := lw_tbl) (i := 785) (by decide +kernel)) rfl
theorem gm_u786 : Cond.selects RX0 yX0_countPrimes yX0_countPrimes ∈ gm_U := gm_U_in (List.mem_of_getElem? (l := lw_tbl) (i := 786) (by decide +kernel)) rfl
theorem gm_u787 : Cond.code yX0_countPrimes cX0_countPrimes 3 (some .int) ∈ gm_U := gm_U_in (List.mem_of_getElem? (l := lw_tbl) (i := 787) (by decide +kernel)) rfl
theorem gm_u788 : Cond.methodLink RL 207 yL_primesByTrying ∈ gm_U := gm_U_in (List.mem_of_getElem? (l := lw_tbl) (i := 788) (by decide +kernel)) rfl
theorem gm_u789 : Cond.static yL_primesByTrying ∈ gm_U := gm_U_in (List.mem_of_getElem? (l := lw_tbl) (i := 789) (by decide +kernel)) rfl
theorem gm_u790 : Cond.codeWith yL_primesByTrying cL_primesByTrying 4 (some .int) [(0, 9, 12, 27)] ∈ gm_U := gm_U_in (List.mem_of_getElem? (l := lw_tbl) (i := 790) (by decide +kernel)) rfl
theorem gm_u791 : Cond.methodLink RL 82 yX6_primesByTrying ∈ gm_U := gm_U_in (List.mem_of_getElem? (l := lw_tbl) (i := 791) (by decide +kernel)) rfl
theorem gm_u792 : Cond.instanceMethod yX6_primesByTrying ∈ gm_U := gm_U_in (List.mem_of_getElem? (l := lw_tbl) (i := 792) (by decide +kernel)) rfl
theorem gm_u793 : Cond.selects RX6 yX6_primesByTrying yX6_primesByTrying ∈ gm_U := gm_U_in (List.mem_of_getElem? (l := lw_tbl) (i := 793) (by decide +kernel)) rfl
theorem gm_u794 : Cond.code yX6_primesByTrying cX6_primesByTrying 2 (some .int) ∈ gm_U := gm_U_in (List.mem_of_getElem? (l := lw_tbl) (i := 794) (by decide +kernel)) rfl
theorem gm_u795 : Cond.methodLink RX6 152 yX0_countByTrying ∈ gm_U := gm_U_in (List.mem_of_getElem? (l := lw_tbl) (i := 795) (by decide +kernel)) rfl
theorem gm_u796 : Cond.instanceMethod yX0_countByTrying ∈ gm_U := gm_U_in (List.mem_of_getElem? (l := lw_tbl) (i := 796) (by decide +kernel)) rfl
theorem gm_u797 : Cond.selects RX0 yX0_countByTrying yX0_countByTrying ∈ gm_U := gm_U_in (List.mem_of_getElem? (l := lw_tbl) (i := 797) (by decide +kernel)) rfl
theorem gm_u798 : Cond.code yX0_countByTrying cX0_countByTrying 4 (some .int) ∈ gm_U := gm_U_in (List.mem_of_getElem? (l := lw_tbl) (i := 798) (by decide +kernel)) rfl
theorem gm_u799 : Cond.methodLink RX0 48 yX0_isInside ∈ gm_U := gm_U_in (List.mem_of_getElem? (l := lw_tbl) (i := 799) (by decide +kernel)) rfl
theorem gm_u800 : Cond.static yX0_isInside ∈ gm_U := gm_U_in (List.mem_of_getElem? (l := lw_tbl) (i := 800) (by decide +kernel)) rfl
theorem gm_u801 : Cond.code yX0_isInside cX0_isInside 2 (some .boolean) ∈ gm_U := gm_U_in (List.mem_of_getElem? (l := lw_tbl) (i := 801) (by decide +kernel)) rfl
theorem gm_u802 : Cond.methodLink RX0 51 yX0_isInLarger ∈ gm_U := gm_U_in (List.mem_of_getElem? (l := lw_tbl) (i := 802) (by decide +kernel)) rfl
theorem gm_u804 : Cond.instanceMethod yX0_isInLarger ∈ gm_U := gm_U_in (List.mem_of_getElem? (l := lw_tbl) (i := 804) (by decide +kernel)) rfl
theorem gm_u805 : Cond.code yX0_isInLarger cX0_isInLarger 4 (some .boolean) ∈ gm_U := gm_U_in (List.mem_of_getElem? (l := lw_tbl) (i := 805) (by decide +kernel)) rfl
theorem gm_u806 : Cond.methodLink RL 210 yL_prime ∈ gm_U := gm_U_in (List.mem_of_getElem? (l := lw_tbl) (i := 806) (by decide +kernel)) rfl
theorem gm_u807 : Cond.static yL_prime ∈ gm_U := gm_U_in (List.mem_of_getElem? (l := lw_tbl) (i := 807) (by decide +kernel)) rfl
theorem gm_u808 : Cond.codeWith yL_prime cL_prime 6 (some .int) [(0, 12, 15, 27), (0, 12, 19, 49), (0, 12, 23, 13)] ∈ gm_U := gm_U_in (List.mem_of_getElem? (l := lw_tbl) (i := 808) (by decide +kernel)) rfl
theorem gm_u809 : Cond.methodLink RL 85 yX6_prime ∈ gm_U := gm_U_in (List.mem_of_getElem? (l := lw_tbl) (i := 809) (by decide +kernel)) rfl
theorem gm_u810 : Cond.instanceMethod yX6_prime ∈ gm_U := gm_U_in (List.mem_of_getElem? (l := lw_tbl) (i := 810) (by decide +kernel)) rfl
theorem gm_u811 : Cond.selects RX6 yX6_prime yX6_prime ∈ gm_U := gm_U_in (List.mem_of_getElem? (l := lw_tbl) (i := 811) (by decide +kernel)) rfl
theorem gm_u812 : Cond.code yX6_prime cX6_prime 5 (some .char) ∈ gm_U := gm_U_in (List.mem_of_getElem? (l := lw_tbl) (i := 812) (by decide +kernel)) rfl
theorem gm_u813 : Cond.methodLink RX6 155 yX0_primeAt ∈ gm_U := gm_U_in (List.mem_of_getElem? (l := lw_tbl) (i := 813) (by decide +kernel)) rfl
theorem gm_u814 : Cond.instanceMethod yX0_primeAt ∈ gm_U := gm_U_in (List.mem_of_getElem? (l := lw_tbl) (i := 814) (by decide +kernel)) rfl
theorem gm_u815 : Cond.selects RX0 yX0_primeAt yX0_primeAt ∈ gm_U := gm_U_in (List.mem_of_getElem? (l := lw_tbl) (i := 815) (by decide +kernel)) rfl
theorem gm_u816 : Cond.code yX0_primeAt cX0_primeAt 4 (some .int) ∈ gm_U := gm_U_in (List.mem_of_getElem? (l := lw_tbl) (i := 816) (by decide +kernel)) rfl
theorem gm_u818 : Cond.methodLink RX6 160 yX0_tells ∈ gm_U := gm_U_in (List.mem_of_getElem? (l := lw_tbl) (i := 818) (by decide +kernel)) rfl
theorem gm_u819 : Cond.static yX0_tells ∈ gm_U := gm_U_in (List.mem_of_getElem? (l := lw_tbl) (i := 819) (by decide +kernel)) rfl
theorem gm_u820 : Cond.code yX0_tells cX0_tells 3 (some .char) ∈ gm_U := gm_U_in (List.mem_of_getElem? (l := lw_tbl) (i := 820) (by decide +kernel)) rfl
theorem gm_u821 : Cond.methodLink RL 214 yL_assume ∈ gm_U := gm_U_in (List.mem_of_getElem? (l := lw_tbl) (i := 821) (by decide +kernel)) rfl
theorem gm_u822 : Cond.static yL_assume ∈ gm_U := gm_U_in (List.mem_of_getElem? (l := lw_tbl) (i := 822) (by decide +kernel)) rfl
theorem gm_u823 : Cond.codeWith yL_assume cL_assume 6 (some .int) [(0, 12, 15, 13), (0, 12, 19, 27), (0, 12, 23, 15)] ∈ gm_U := gm_U_in (List.mem_of_getElem? (l := lw_tbl) (i := 823) (by decide +kernel)) rfl
theorem gm_u824 : Cond.methodLink RL 89 yX6_assume ∈ gm_U := gm_U_in (List.mem_of_getElem? (l := lw_tbl) (i := 824) (by decide +kernel)) rfl
theorem gm_u825 : Cond.instanceMethod yX6_assume ∈ gm_U := gm_U_in (List.mem_of_getElem? (l := lw_tbl) (i := 825) (by decide +kernel)) rfl
theorem gm_u826 : Cond.selects RX6 yX6_assume yX6_assume ∈ gm_U := gm_U_in (List.mem_of_getElem? (l := lw_tbl) (i := 826) (by decide +kernel)) rfl
theorem gm_u827 : Cond.code yX6_assume cX6_assume 4 (some .int) ∈ gm_U := gm_U_in (List.mem_of_getElem? (l := lw_tbl) (i := 827) (by decide +kernel)) rfl
theorem gm_u828 : Cond.methodLink RX6 173 yX6_checkStatement ∈ gm_U := gm_U_in (List.mem_of_getElem? (l := lw_tbl) (i := 828) (by decide +kernel)) rfl
theorem gm_u830 : Cond.instanceMethod yX6_checkStatement ∈ gm_U := gm_U_in (List.mem_of_getElem? (l := lw_tbl) (i := 830) (by decide +kernel)) rfl
theorem gm_u831 : Cond.code yX6_checkStatement cX6_checkStatement 4 none ∈ gm_U := gm_U_in (List.mem_of_getElem? (l := lw_tbl) (i := 831) (by decide +kernel)) rfl
theorem gm_u832 : Cond.methodLink RX6 228 yX6_isDenial ∈ gm_U := gm_U_in (List.mem_of_getElem? (l := lw_tbl) (i := 832) (by decide +kernel)) rfl
theorem gm_u833 : Cond.static yX6_isDenial ∈ gm_U := gm_U_in (List.mem_of_getElem? (l := lw_tbl) (i := 833) (by decide +kernel)) rfl
theorem gm_u834 : Cond.code yX6_isDenial cX6_isDenial 1 (some .boolean) ∈ gm_U := gm_U_in (List.mem_of_getElem? (l := lw_tbl) (i := 834) (by decide +kernel)) rfl
theorem gm_u835 : Cond.methodLink RX6 180 yX6_isDemand ∈ gm_U := gm_U_in (List.mem_of_getElem? (l := lw_tbl) (i := 835) (by decide +kernel)) rfl
theorem gm_u836 : Cond.static yX6_isDemand ∈ gm_U := gm_U_in (List.mem_of_getElem? (l := lw_tbl) (i := 836) (by decide +kernel)) rfl
theorem gm_u837 : Cond.code yX6_isDemand cX6_isDemand 1 (some .boolean) ∈ gm_U := gm_U_in (List.mem_of_getElem? (l := lw_tbl) (i := 837) (by decide +kernel)) rfl
theorem gm_u840 : Cond.methodLink RX6 184 yX6_placesOf ∈ gm_U := gm_U_in (List.mem_of_getElem? (l := lw_tbl) (i := 840) (by decide +kernel)) rfl
theorem gm_u842 : Cond.instanceMethod yX6_placesOf ∈ gm_U := gm_U_in (List.mem_of_getElem? (l := lw_tbl) (i := 842) (by decide +kernel)) rfl
theorem gm_u843 : Cond.code yX6_placesOf cX6_placesOf 6 (some .int) ∈ gm_U := gm_U_in (List.mem_of_getElem? (l := lw_tbl) (i := 843) (by decide +kernel)) rfl
theorem gm_u844 : Cond.methodLink RX6 187 yX3_add ∈ gm_U := gm_U_in (List.mem_of_getElem? (l := lw_tbl) (i := 844) (by decide +kernel)) rfl
theorem gm_u845 : Cond.instanceMethod yX3_add ∈ gm_U := gm_U_in (List.mem_of_getElem? (l := lw_tbl) (i := 845) (by decide +kernel)) rfl
theorem gm_u846 : Cond.selects RX3 yX3_add yX3_add ∈ gm_U := gm_U_in (List.mem_of_getElem? (l := lw_tbl) (i := 846) (by decide +kernel)) rfl
theorem gm_u847 : Cond.code yX3_add cX3_add 3 none ∈ gm_U := gm_U_in (List.mem_of_getElem? (l := lw_tbl) (i := 847) (by decide +kernel)) rfl
theorem gm_u848 : Cond.methodLink RL 218 yL_drop ∈ gm_U := gm_U_in (List.mem_of_getElem? (l := lw_tbl) (i := 848) (by decide +kernel)) rfl
theorem gm_u849 : Cond.static yL_drop ∈ gm_U := gm_U_in (List.mem_of_getElem? (l := lw_tbl) (i := 849) (by decide +kernel)) rfl
theorem gm_u850 : Cond.codeWith yL_drop cL_drop 3 (some .int) [(0, 8, 11, 15)] ∈ gm_U := gm_U_in (List.mem_of_getElem? (l := lw_tbl) (i := 850) (by decide +kernel)) rfl
theorem gm_u851 : Cond.methodLink RL 93 yX6_drop ∈ gm_U := gm_U_in (List.mem_of_getElem? (l := lw_tbl) (i := 851) (by decide +kernel)) rfl
theorem gm_u852 : Cond.instanceMethod yX6_drop ∈ gm_U := gm_U_in (List.mem_of_getElem? (l := lw_tbl) (i := 852) (by decide +kernel)) rfl
theorem gm_u853 : Cond.selects RX6 yX6_drop yX6_drop ∈ gm_U := gm_U_in (List.mem_of_getElem? (l := lw_tbl) (i := 853) (by decide +kernel)) rfl
theorem gm_u854 : Cond.code yX6_drop cX6_drop 1 (some .int) ∈ gm_U := gm_U_in (List.mem_of_getElem? (l := lw_tbl) (i := 854) (by decide +kernel)) rfl
theorem gm_u856 : Cond.methodLink RX6 193 yX3_removeLast ∈ gm_U := gm_U_in (List.mem_of_getElem? (l := lw_tbl) (i := 856) (by decide +kernel)) rfl
theorem gm_u857 : Cond.instanceMethod yX3_removeLast ∈ gm_U := gm_U_in (List.mem_of_getElem? (l := lw_tbl) (i := 857) (by decide +kernel)) rfl
theorem gm_u858 : Cond.selects RX3 yX3_removeLast yX3_removeLast ∈ gm_U := gm_U_in (List.mem_of_getElem? (l := lw_tbl) (i := 858) (by decide +kernel)) rfl
theorem gm_u859 : Cond.code yX3_removeLast cX3_removeLast 1 none ∈ gm_U := gm_U_in (List.mem_of_getElem? (l := lw_tbl) (i := 859) (by decide +kernel)) rfl
theorem gm_u860 : Cond.methodLink RL 225 yL_setGoal ∈ gm_U := gm_U_in (List.mem_of_getElem? (l := lw_tbl) (i := 860) (by decide +kernel)) rfl
theorem gm_u861 : Cond.static yL_setGoal ∈ gm_U := gm_U_in (List.mem_of_getElem? (l := lw_tbl) (i := 861) (by decide +kernel)) rfl
theorem gm_u862 : Cond.codeWith yL_setGoal cL_setGoal 6 (some .int) [(0, 19, 22, 13), (0, 19, 26, 27)] ∈ gm_U := gm_U_in (List.mem_of_getElem? (l := lw_tbl) (i := 862) (by decide +kernel)) rfl
theorem gm_u863 : Cond.methodLink RL 96 yX6_setGoal ∈ gm_U := gm_U_in (List.mem_of_getElem? (l := lw_tbl) (i := 863) (by decide +kernel)) rfl
theorem gm_u864 : Cond.instanceMethod yX6_setGoal ∈ gm_U := gm_U_in (List.mem_of_getElem? (l := lw_tbl) (i := 864) (by decide +kernel)) rfl
theorem gm_u865 : Cond.selects RX6 yX6_setGoal yX6_setGoal ∈ gm_U := gm_U_in (List.mem_of_getElem? (l := lw_tbl) (i := 865) (by decide +kernel)) rfl
theorem gm_u866 : Cond.code yX6_setGoal cX6_setGoal 5 (some .boolean) ∈ gm_U := gm_U_in (List.mem_of_getElem? (l := lw_tbl) (i := 866) (by decide +kernel)) rfl
theorem gm_u867 : Cond.methodLink RX6 196 yX3_hasGoal ∈ gm_U := gm_U_in (List.mem_of_getElem? (l := lw_tbl) (i := 867) (by decide +kernel)) rfl
theorem gm_u868 : Cond.instanceMethod yX3_hasGoal ∈ gm_U := gm_U_in (List.mem_of_getElem? (l := lw_tbl) (i := 868) (by decide +kernel)) rfl
theorem gm_u869 : Cond.selects RX3 yX3_hasGoal yX3_hasGoal ∈ gm_U := gm_U_in (List.mem_of_getElem? (l := lw_tbl) (i := 869) (by decide +kernel)) rfl
theorem gm_u870 : Cond.code yX3_hasGoal cX3_hasGoal 1 (some .boolean) ∈ gm_U := gm_U_in (List.mem_of_getElem? (l := lw_tbl) (i := 870) (by decide +kernel)) rfl
theorem gm_u871 : Cond.methodLink RX6 199 yX3_aimAt ∈ gm_U := gm_U_in (List.mem_of_getElem? (l := lw_tbl) (i := 871) (by decide +kernel)) rfl
theorem gm_u872 : Cond.instanceMethod yX3_aimAt ∈ gm_U := gm_U_in (List.mem_of_getElem? (l := lw_tbl) (i := 872) (by decide +kernel)) rfl
theorem gm_u873 : Cond.selects RX3 yX3_aimAt yX3_aimAt ∈ gm_U := gm_U_in (List.mem_of_getElem? (l := lw_tbl) (i := 873) (by decide +kernel)) rfl
theorem gm_u874 : Cond.code yX3_aimAt cX3_aimAt 3 none ∈ gm_U := gm_U_in (List.mem_of_getElem? (l := lw_tbl) (i := 874) (by decide +kernel)) rfl
theorem gm_u875 : Cond.methodLink RL 232 yL_deniedBy ∈ gm_U := gm_U_in (List.mem_of_getElem? (l := lw_tbl) (i := 875) (by decide +kernel)) rfl
theorem gm_u876 : Cond.static yL_deniedBy ∈ gm_U := gm_U_in (List.mem_of_getElem? (l := lw_tbl) (i := 876) (by decide +kernel)) rfl
theorem gm_u877 : Cond.codeWith yL_deniedBy cL_deniedBy 4 (some .int) [(0, 9, 12, 13), (0, 9, 15, 49)] ∈ gm_U := gm_U_in (List.mem_of_getElem? (l := lw_tbl) (i := 877) (by decide +kernel)) rfl
theorem gm_u878 : Cond.methodLink RL 100 yX6_deniedBy ∈ gm_U := gm_U_in (List.mem_of_getElem? (l := lw_tbl) (i := 878) (by decide +kernel)) rfl
theorem gm_u879 : Cond.instanceMethod yX6_deniedBy ∈ gm_U := gm_U_in (List.mem_of_getElem? (l := lw_tbl) (i := 879) (by decide +kernel)) rfl
theorem gm_u880 : Cond.selects RX6 yX6_deniedBy yX6_deniedBy ∈ gm_U := gm_U_in (List.mem_of_getElem? (l := lw_tbl) (i := 880) (by decide +kernel)) rfl
theorem gm_u881 : Cond.code yX6_deniedBy cX6_deniedBy 3 (some .int) ∈ gm_U := gm_U_in (List.mem_of_getElem? (l := lw_tbl) (i := 881) (by decide +kernel)) rfl
theorem gm_u882 : Cond.methodLink RX6 205 yX3_firstDenial ∈ gm_U := gm_U_in (List.mem_of_getElem? (l := lw_tbl) (i := 882) (by decide +kernel)) rfl
theorem gm_u883 : Cond.instanceMethod yX3_firstDenial ∈ gm_U := gm_U_in (List.mem_of_getElem? (l := lw_tbl) (i := 883) (by decide +kernel)) rfl
theorem gm_u884 : Cond.selects RX3 yX3_firstDenial yX3_firstDenial ∈ gm_U := gm_U_in (List.mem_of_getElem? (l := lw_tbl) (i := 884) (by decide +kernel)) rfl
theorem gm_u885 : Cond.code yX3_firstDenial cX3_firstDenial 3 (some .int) ∈ gm_U := gm_U_in (List.mem_of_getElem? (l := lw_tbl) (i := 885) (by decide +kernel)) rfl
theorem gm_u888 : Cond.methodLink RL 235 yL_follows ∈ gm_U := gm_U_in (List.mem_of_getElem? (l := lw_tbl) (i := 888) (by decide +kernel)) rfl
theorem gm_u889 : Cond.static yL_follows ∈ gm_U := gm_U_in (List.mem_of_getElem? (l := lw_tbl) (i := 889) (by decide +kernel)) rfl
theorem gm_u890 : Cond.codeWith yL_follows cL_follows 3 (some .int) [(0, 15, 18, 15)] ∈ gm_U := gm_U_in (List.mem_of_getElem? (l := lw_tbl) (i := 890) (by decide +kernel)) rfl
theorem gm_u891 : Cond.methodLink RL 103 yX6_follows ∈ gm_U := gm_U_in (List.mem_of_getElem? (l := lw_tbl) (i := 891) (by decide +kernel)) rfl
theorem gm_u892 : Cond.instanceMethod yX6_follows ∈ gm_U := gm_U_in (List.mem_of_getElem? (l := lw_tbl) (i := 892) (by decide +kernel)) rfl
theorem gm_u893 : Cond.selects RX6 yX6_follows yX6_follows ∈ gm_U := gm_U_in (List.mem_of_getElem? (l := lw_tbl) (i := 893) (by decide +kernel)) rfl
theorem gm_u894 : Cond.code yX6_follows cX6_follows 1 (some .boolean) ∈ gm_U := gm_U_in (List.mem_of_getElem? (l := lw_tbl) (i := 894) (by decide +kernel)) rfl
theorem gm_u895 : Cond.methodLink RX6 210 yX6_checkGoal ∈ gm_U := gm_U_in (List.mem_of_getElem? (l := lw_tbl) (i := 895) (by decide +kernel)) rfl
theorem gm_u897 : Cond.instanceMethod yX6_checkGoal ∈ gm_U := gm_U_in (List.mem_of_getElem? (l := lw_tbl) (i := 897) (by decide +kernel)) rfl
theorem gm_u898 : Cond.code yX6_checkGoal cX6_checkGoal 1 none ∈ gm_U := gm_U_in (List.mem_of_getElem? (l := lw_tbl) (i := 898) (by decide +kernel)) rfl
theorem gm_u900 : Cond.methodLink RX6 213 yX3_proveGoal ∈ gm_U := gm_U_in (List.mem_of_getElem? (l := lw_tbl) (i := 900) (by decide +kernel)) rfl
theorem gm_u901 : Cond.instanceMethod yX3_proveGoal ∈ gm_U := gm_U_in (List.mem_of_getElem? (l := lw_tbl) (i := 901) (by decide +kernel)) rfl
theorem gm_u902 : Cond.selects RX3 yX3_proveGoal yX3_proveGoal ∈ gm_U := gm_U_in (List.mem_of_getElem? (l := lw_tbl) (i := 902) (by decide +kernel)) rfl
theorem gm_u903 : Cond.code yX3_proveGoal cX3_proveGoal 1 (some .boolean) ∈ gm_U := gm_U_in (List.mem_of_getElem? (l := lw_tbl) (i := 903) (by decide +kernel)) rfl
theorem gm_u904 : Cond.methodLink RX3 53 yX3_firstWitness ∈ gm_U := gm_U_in (List.mem_of_getElem? (l := lw_tbl) (i := 904) (by decide +kernel)) rfl
theorem gm_u905 : Cond.instanceMethod yX3_firstWitness ∈ gm_U := gm_U_in (List.mem_of_getElem? (l := lw_tbl) (i := 905) (by decide +kernel)) rfl
theorem gm_u906 : Cond.selects RX3 yX3_firstWitness yX3_firstWitness ∈ gm_U := gm_U_in (List.mem_of_getElem? (l := lw_tbl) (i := 906) (by decide +kernel)) rfl
theorem gm_u907 : Cond.code yX3_firstWitness cX3_firstWitness 1 (some .int) ∈ gm_U := gm_U_in (List.mem_of_getElem? (l := lw_tbl) (i := 907) (by decide +kernel)) rfl
theorem gm_u908 : Cond.methodLink RX3 56 yX3_haveModel ∈ gm_U := gm_U_in (List.mem_of_getElem? (l := lw_tbl) (i := 908) (by decide +kernel)) rfl
theorem gm_u909 : Cond.methodLink RL 238 yL_why ∈ gm_U := gm_U_in (List.mem_of_getElem? (l := lw_tbl) (i := 909) (by decide +kernel)) rfl
theorem gm_u910 : Cond.static yL_why ∈ gm_U := gm_U_in (List.mem_of_getElem? (l := lw_tbl) (i := 910) (by decide +kernel)) rfl
theorem gm_u911 : Cond.codeWith yL_why cL_why 3 (some .int) [(0, 8, 11, 15), (0, 8, 14, 49)] ∈ gm_U := gm_U_in (List.mem_of_getElem? (l := lw_tbl) (i := 911) (by decide +kernel)) rfl
theorem gm_u912 : Cond.methodLink RL 107 yX6_why ∈ gm_U := gm_U_in (List.mem_of_getElem? (l := lw_tbl) (i := 912) (by decide +kernel)) rfl
theorem gm_u913 : Cond.instanceMethod yX6_why ∈ gm_U := gm_U_in (List.mem_of_getElem? (l := lw_tbl) (i := 913) (by decide +kernel)) rfl
theorem gm_u914 : Cond.selects RX6 yX6_why yX6_why ∈ gm_U := gm_U_in (List.mem_of_getElem? (l := lw_tbl) (i := 914) (by decide +kernel)) rfl
theorem gm_u915 : Cond.code yX6_why cX6_why 1 (some .char) ∈ gm_U := gm_U_in (List.mem_of_getElem? (l := lw_tbl) (i := 915) (by decide +kernel)) rfl
theorem gm_u917 : Cond.methodLink RX6 218 yX3_goalDemands ∈ gm_U := gm_U_in (List.mem_of_getElem? (l := lw_tbl) (i := 917) (by decide +kernel)) rfl
theorem gm_u918 : Cond.instanceMethod yX3_goalDemands ∈ gm_U := gm_U_in (List.mem_of_getElem? (l := lw_tbl) (i := 918) (by decide +kernel)) rfl
theorem gm_u919 : Cond.selects RX3 yX3_goalDemands yX3_goalDemands ∈ gm_U := gm_U_in (List.mem_of_getElem? (l := lw_tbl) (i := 919) (by decide +kernel)) rfl
theorem gm_u920 : Cond.code yX3_goalDemands cX3_goalDemands 1 (some .boolean) ∈ gm_U := gm_U_in (List.mem_of_getElem? (l := lw_tbl) (i := 920) (by decide +kernel)) rfl
theorem gm_u921 : Cond.methodLink RL 241 yL_witness ∈ gm_U := gm_U_in (List.mem_of_getElem? (l := lw_tbl) (i := 921) (by decide +kernel)) rfl
theorem gm_u922 : Cond.static yL_witness ∈ gm_U := gm_U_in (List.mem_of_getElem? (l := lw_tbl) (i := 922) (by decide +kernel)) rfl
theorem gm_u923 : Cond.codeWith yL_witness cL_witness 3 (some .int) [(0, 8, 11, 15), (0, 8, 14, 71), (0, 8, 17, 49)] ∈ gm_U := gm_U_in (List.mem_of_getElem? (l := lw_tbl) (i := 923) (by decide +kernel)) rfl
theorem gm_u924 : Cond.methodLink RL 111 yX6_witness ∈ gm_U := gm_U_in (List.mem_of_getElem? (l := lw_tbl) (i := 924) (by decide +kernel)) rfl
theorem gm_u925 : Cond.instanceMethod yX6_witness ∈ gm_U := gm_U_in (List.mem_of_getElem? (l := lw_tbl) (i := 925) (by decide +kernel)) rfl
theorem gm_u926 : Cond.selects RX6 yX6_witness yX6_witness ∈ gm_U := gm_U_in (List.mem_of_getElem? (l := lw_tbl) (i := 926) (by decide +kernel)) rfl
theorem gm_u927 : Cond.code yX6_witness cX6_witness 2 (some .int) ∈ gm_U := gm_U_in (List.mem_of_getElem? (l := lw_tbl) (i := 927) (by decide +kernel)) rfl
theorem gm_u929 : Cond.methodLink RX6 223 yX3_firstWitness ∈ gm_U := gm_U_in (List.mem_of_getElem? (l := lw_tbl) (i := 929) (by decide +kernel)) rfl
theorem gm_u931 : Cond.methodLink RL 244 yL_elements ∈ gm_U := gm_U_in (List.mem_of_getElem? (l := lw_tbl) (i := 931) (by decide +kernel)) rfl
theorem gm_u932 : Cond.static yL_elements ∈ gm_U := gm_U_in (List.mem_of_getElem? (l := lw_tbl) (i := 932) (by decide +kernel)) rfl
theorem gm_u933 : Cond.codeWith yL_elements cL_elements 3 (some .int) [(0, 8, 11, 15), (0, 8, 14, 49)] ∈ gm_U := gm_U_in (List.mem_of_getElem? (l := lw_tbl) (i := 933) (by decide +kernel)) rfl
theorem gm_u934 : Cond.methodLink RL 114 yX6_elements ∈ gm_U := gm_U_in (List.mem_of_getElem? (l := lw_tbl) (i := 934) (by decide +kernel)) rfl
theorem gm_u935 : Cond.instanceMethod yX6_elements ∈ gm_U := gm_U_in (List.mem_of_getElem? (l := lw_tbl) (i := 935) (by decide +kernel)) rfl
theorem gm_u936 : Cond.selects RX6 yX6_elements yX6_elements ∈ gm_U := gm_U_in (List.mem_of_getElem? (l := lw_tbl) (i := 936) (by decide +kernel)) rfl
theorem gm_u937 : Cond.code yX6_elements cX6_elements 1 (some .int) ∈ gm_U := gm_U_in (List.mem_of_getElem? (l := lw_tbl) (i := 937) (by decide +kernel)) rfl
theorem gm_u938 : Cond.methodLink RX6 235 yX2_prepare ∈ gm_U := gm_U_in (List.mem_of_getElem? (l := lw_tbl) (i := 938) (by decide +kernel)) rfl
theorem gm_u939 : Cond.instanceMethod yX2_prepare ∈ gm_U := gm_U_in (List.mem_of_getElem? (l := lw_tbl) (i := 939) (by decide +kernel)) rfl
theorem gm_u940 : Cond.selects RX2 yX2_prepare yX2_prepare ∈ gm_U := gm_U_in (List.mem_of_getElem? (l := lw_tbl) (i := 940) (by decide +kernel)) rfl
theorem gm_u941 : Cond.code yX2_prepare cX2_prepare 4 none ∈ gm_U := gm_U_in (List.mem_of_getElem? (l := lw_tbl) (i := 941) (by decide +kernel)) rfl
theorem gm_u942 : Cond.methodLink RX2 22 yX3_allowed ∈ gm_U := gm_U_in (List.mem_of_getElem? (l := lw_tbl) (i := 942) (by decide +kernel)) rfl
theorem gm_u943 : Cond.methodLink RX2 28 yX3_goalDemands ∈ gm_U := gm_U_in (List.mem_of_getElem? (l := lw_tbl) (i := 943) (by decide +kernel)) rfl
theorem gm_u944 : Cond.methodLink RX2 32 yX3_goalRegions ∈ gm_U := gm_U_in (List.mem_of_getElem? (l := lw_tbl) (i := 944) (by decide +kernel)) rfl
theorem gm_u945 : Cond.instanceMethod yX3_goalRegions ∈ gm_U := gm_U_in (List.mem_of_getElem? (l := lw_tbl) (i := 945) (by decide +kernel)) rfl
theorem gm_u946 : Cond.selects RX3 yX3_goalRegions yX3_goalRegions ∈ gm_U := gm_U_in (List.mem_of_getElem? (l := lw_tbl) (i := 946) (by decide +kernel)) rfl
theorem gm_u947 : Cond.code yX3_goalRegions cX3_goalRegions 1 (some .int) ∈ gm_U := gm_U_in (List.mem_of_getElem? (l := lw_tbl) (i := 947) (by decide +kernel)) rfl
theorem gm_u948 : Cond.methodLink RX2 35 yX2_want ∈ gm_U := gm_U_in (List.mem_of_getElem? (l := lw_tbl) (i := 948) (by decide +kernel)) rfl
theorem gm_u950 : Cond.instanceMethod yX2_want ∈ gm_U := gm_U_in (List.mem_of_getElem? (l := lw_tbl) (i := 950) (by decide +kernel)) rfl
theorem gm_u951 : Cond.code yX2_want cX2_want 4 none ∈ gm_U := gm_U_in (List.mem_of_getElem? (l := lw_tbl) (i := 951) (by decide +kernel)) rfl
theorem gm_u953 : Cond.methodLink RX2 39 yX3_howMany ∈ gm_U := gm_U_in (List.mem_of_getElem? (l := lw_tbl) (i := 953) (by decide +kernel)) rfl
theorem gm_u954 : Cond.methodLink RX2 42 yX3_demandsElement ∈ gm_U := gm_U_in (List.mem_of_getElem? (l := lw_tbl) (i := 954) (by decide +kernel)) rfl
theorem gm_u955 : Cond.methodLink RX2 46 yX3_placesAt ∈ gm_U := gm_U_in (List.mem_of_getElem? (l := lw_tbl) (i := 955) (by decide +kernel)) rfl
theorem gm_u956 : Cond.methodLink RX6 239 yX2_fewestBySets ∈ gm_U := gm_U_in (List.mem_of_getElem? (l := lw_tbl) (i := 956) (by decide +kernel)) rfl
theorem gm_u957 : Cond.instanceMethod yX2_fewestBySets ∈ gm_U := gm_U_in (List.mem_of_getElem? (l := lw_tbl) (i := 957) (by decide +kernel)) rfl
theorem gm_u958 : Cond.selects RX2 yX2_fewestBySets yX2_fewestBySets ∈ gm_U := gm_U_in (List.mem_of_getElem? (l := lw_tbl) (i := 958) (by decide +kernel)) rfl
theorem gm_u959 : Cond.code yX2_fewestBySets cX2_fewestBySets 6 (some .int) ∈ gm_U := gm_U_in (List.mem_of_getElem? (l := lw_tbl) (i := 959) (by decide +kernel)) rfl
theorem gm_u960 : Cond.methodLink RX2 54 yX2_fewestFrom ∈ gm_U := gm_U_in (List.mem_of_getElem? (l := lw_tbl) (i := 960) (by decide +kernel)) rfl
theorem gm_u962 : Cond.instanceMethod yX2_fewestFrom ∈ gm_U := gm_U_in (List.mem_of_getElem? (l := lw_tbl) (i := 962) (by decide +kernel)) rfl
theorem gm_u963 : Cond.code yX2_fewestFrom cX2_fewestFrom 3 (some .int) ∈ gm_U := gm_U_in (List.mem_of_getElem? (l := lw_tbl) (i := 963) (by decide +kernel)) rfl
theorem gm_u964 : Cond.methodLink RX2 58 yJ9_min_7cf53 ∈ gm_U := gm_U_in (List.mem_of_getElem? (l := lw_tbl) (i := 964) (by decide +kernel)) rfl
theorem gm_u965 : Cond.methodLink RX6 242 yX6_leastOrThrow ∈ gm_U := gm_U_in (List.mem_of_getElem? (l := lw_tbl) (i := 965) (by decide +kernel)) rfl
theorem gm_u967 : Cond.instanceMethod yX6_leastOrThrow ∈ gm_U := gm_U_in (List.mem_of_getElem? (l := lw_tbl) (i := 967) (by decide +kernel)) rfl
theorem gm_u968 : Cond.code yX6_leastOrThrow cX6_leastOrThrow 2 (some .int) ∈ gm_U := gm_U_in (List.mem_of_getElem? (l := lw_tbl) (i := 968) (by decide +kernel)) rfl
theorem gm_u970 : Cond.methodLink RL 247 yL_elementsByTrying ∈ gm_U := gm_U_in (List.mem_of_getElem? (l := lw_tbl) (i := 970) (by decide +kernel)) rfl
theorem gm_u971 : Cond.static yL_elementsByTrying ∈ gm_U := gm_U_in (List.mem_of_getElem? (l := lw_tbl) (i := 971) (by decide +kernel)) rfl
theorem gm_u972 : Cond.codeWith yL_elementsByTrying cL_elementsByTrying 3 (some .int) [(0, 8, 11, 15), (0, 8, 14, 49)] ∈ gm_U := gm_U_in (List.mem_of_getElem? (l := lw_tbl) (i := 972) (by decide +kernel)) rfl
theorem gm_u973 : Cond.methodLink RL 117 yX6_elementsByTrying ∈ gm_U := gm_U_in (List.mem_of_getElem? (l := lw_tbl) (i := 973) (by decide +kernel)) rfl
theorem gm_u974 : Cond.instanceMethod yX6_elementsByTrying ∈ gm_U := gm_U_in (List.mem_of_getElem? (l := lw_tbl) (i := 974) (by decide +kernel)) rfl
theorem gm_u975 : Cond.selects RX6 yX6_elementsByTrying yX6_elementsByTrying ∈ gm_U := gm_U_in (List.mem_of_getElem? (l := lw_tbl) (i := 975) (by decide +kernel)) rfl
theorem gm_u976 : Cond.code yX6_elementsByTrying cX6_elementsByTrying 1 (some .int) ∈ gm_U := gm_U_in (List.mem_of_getElem? (l := lw_tbl) (i := 976) (by decide +kernel)) rfl
theorem gm_u977 : Cond.methodLink RX6 245 yX2_fewestByTrying ∈ gm_U := gm_U_in (List.mem_of_getElem? (l := lw_tbl) (i := 977) (by decide +kernel)) rfl
theorem gm_u978 : Cond.instanceMethod yX2_fewestByTrying ∈ gm_U := gm_U_in (List.mem_of_getElem? (l := lw_tbl) (i := 978) (by decide +kernel)) rfl
theorem gm_u979 : Cond.selects RX2 yX2_fewestByTrying yX2_fewestByTrying ∈ gm_U := gm_U_in (List.mem_of_getElem? (l := lw_tbl) (i := 979) (by decide +kernel)) rfl
theorem gm_u980 : Cond.code yX2_fewestByTrying cX2_fewestByTrying 2 (some .int) ∈ gm_U := gm_U_in (List.mem_of_getElem? (l := lw_tbl) (i := 980) (by decide +kernel)) rfl
theorem gm_u981 : Cond.methodLink RX2 63 yX2_canMeet ∈ gm_U := gm_U_in (List.mem_of_getElem? (l := lw_tbl) (i := 981) (by decide +kernel)) rfl
theorem gm_u983 : Cond.instanceMethod yX2_canMeet ∈ gm_U := gm_U_in (List.mem_of_getElem? (l := lw_tbl) (i := 983) (by decide +kernel)) rfl
theorem gm_u984 : Cond.code yX2_canMeet cX2_canMeet 5 (some .boolean) ∈ gm_U := gm_U_in (List.mem_of_getElem? (l := lw_tbl) (i := 984) (by decide +kernel)) rfl
theorem gm_u985 : Cond.methodLink RL 250 yL_region ∈ gm_U := gm_U_in (List.mem_of_getElem? (l := lw_tbl) (i := 985) (by decide +kernel)) rfl
theorem gm_u986 : Cond.static yL_region ∈ gm_U := gm_U_in (List.mem_of_getElem? (l := lw_tbl) (i := 986) (by decide +kernel)) rfl
theorem gm_u987 : Cond.codeWith yL_region cL_region 4 (some .int) [(0, 9, 12, 15), (0, 9, 15, 49)] ∈ gm_U := gm_U_in (List.mem_of_getElem? (l := lw_tbl) (i := 987) (by decide +kernel)) rfl
theorem gm_u988 : Cond.methodLink RL 120 yX6_region ∈ gm_U := gm_U_in (List.mem_of_getElem? (l := lw_tbl) (i := 988) (by decide +kernel)) rfl
theorem gm_u989 : Cond.instanceMethod yX6_region ∈ gm_U := gm_U_in (List.mem_of_getElem? (l := lw_tbl) (i := 989) (by decide +kernel)) rfl
theorem gm_u990 : Cond.selects RX6 yX6_region yX6_region ∈ gm_U := gm_U_in (List.mem_of_getElem? (l := lw_tbl) (i := 990) (by decide +kernel)) rfl
theorem gm_u991 : Cond.code yX6_region cX6_region 3 (some .int) ∈ gm_U := gm_U_in (List.mem_of_getElem? (l := lw_tbl) (i := 991) (by decide +kernel)) rfl
theorem gm_u992 : Cond.methodLink RX6 248 yX2_regionOf ∈ gm_U := gm_U_in (List.mem_of_getElem? (l := lw_tbl) (i := 992) (by decide +kernel)) rfl
theorem gm_u993 : Cond.instanceMethod yX2_regionOf ∈ gm_U := gm_U_in (List.mem_of_getElem? (l := lw_tbl) (i := 993) (by decide +kernel)) rfl
theorem gm_u994 : Cond.selects RX2 yX2_regionOf yX2_regionOf ∈ gm_U := gm_U_in (List.mem_of_getElem? (l := lw_tbl) (i := 994) (by decide +kernel)) rfl
theorem gm_u995 : Cond.code yX2_regionOf cX2_regionOf 6 (some .int) ∈ gm_U := gm_U_in (List.mem_of_getElem? (l := lw_tbl) (i := 995) (by decide +kernel)) rfl
theorem gm_u997 : Cond.methodLink RL 253 yL_models ∈ gm_U := gm_U_in (List.mem_of_getElem? (l := lw_tbl) (i := 997) (by decide +kernel)) rfl
theorem gm_u998 : Cond.static yL_models ∈ gm_U := gm_U_in (List.mem_of_getElem? (l := lw_tbl) (i := 998) (by decide +kernel)) rfl
theorem gm_u999 : Cond.codeWith yL_models cL_models 4 (some .int) [(0, 8, 11, 13)] ∈ gm_U := gm_U_in (List.mem_of_getElem? (l := lw_tbl) (i := 999) (by decide +kernel)) rfl
theorem gm_u1000 : Cond.methodLink RL 123 yX6_models ∈ gm_U := gm_U_in (List.mem_of_getElem? (l := lw_tbl) (i := 1000) (by decide +kernel)) rfl
theorem gm_u1001 : Cond.instanceMethod yX6_models ∈ gm_U := gm_U_in (List.mem_of_getElem? (l := lw_tbl) (i := 1001) (by decide +kernel)) rfl
theorem gm_u1002 : Cond.selects RX6 yX6_models yX6_models ∈ gm_U := gm_U_in (List.mem_of_getElem? (l := lw_tbl) (i := 1002) (by decide +kernel)) rfl
theorem gm_u1003 : Cond.code yX6_models cX6_models 2 (some .long) ∈ gm_U := gm_U_in (List.mem_of_getElem? (l := lw_tbl) (i := 1003) (by decide +kernel)) rfl
theorem gm_u1004 : Cond.methodLink RX6 253 yX6_checkElements ∈ gm_U := gm_U_in (List.mem_of_getElem? (l := lw_tbl) (i := 1004) (by decide +kernel)) rfl
theorem gm_u1006 : Cond.instanceMethod yX6_checkElements ∈ gm_U := gm_U_in (List.mem_of_getElem? (l := lw_tbl) (i := 1006) (by decide +kernel)) rfl
theorem gm_u1007 : Cond.code yX6_checkElements cX6_checkElements 3 none ∈ gm_U := gm_U_in (List.mem_of_getElem? (l := lw_tbl) (i := 1007) (by decide +kernel)) rfl
theorem gm_u1009 : Cond.methodLink RX6 257 yX3_countModels ∈ gm_U := gm_U_in (List.mem_of_getElem? (l := lw_tbl) (i := 1009) (by decide +kernel)) rfl
theorem gm_u1010 : Cond.instanceMethod yX3_countModels ∈ gm_U := gm_U_in (List.mem_of_getElem? (l := lw_tbl) (i := 1010) (by decide +kernel)) rfl
theorem gm_u1011 : Cond.selects RX3 yX3_countModels yX3_countModels ∈ gm_U := gm_U_in (List.mem_of_getElem? (l := lw_tbl) (i := 1011) (by decide +kernel)) rfl
theorem gm_u1012 : Cond.code yX3_countModels cX3_countModels 8 (some .long) ∈ gm_U := gm_U_in (List.mem_of_getElem? (l := lw_tbl) (i := 1012) (by decide +kernel)) rfl
theorem gm_u1013 : Cond.methodLink RX3 60 yX3_isSetOfDemands ∈ gm_U := gm_U_in (List.mem_of_getElem? (l := lw_tbl) (i := 1013) (by decide +kernel)) rfl
theorem gm_u1015 : Cond.instanceMethod yX3_isSetOfDemands ∈ gm_U := gm_U_in (List.mem_of_getElem? (l := lw_tbl) (i := 1015) (by decide +kernel)) rfl
theorem gm_u1016 : Cond.code yX3_isSetOfDemands cX3_isSetOfDemands 3 (some .boolean) ∈ gm_U := gm_U_in (List.mem_of_getElem? (l := lw_tbl) (i := 1016) (by decide +kernel)) rfl
theorem gm_u1017 : Cond.methodLink RX3 63 yX3_placesOfSet ∈ gm_U := gm_U_in (List.mem_of_getElem? (l := lw_tbl) (i := 1017) (by decide +kernel)) rfl
theorem gm_u1019 : Cond.instanceMethod yX3_placesOfSet ∈ gm_U := gm_U_in (List.mem_of_getElem? (l := lw_tbl) (i := 1019) (by decide +kernel)) rfl
theorem gm_u1020 : Cond.code yX3_placesOfSet cX3_placesOfSet 4 (some .int) ∈ gm_U := gm_U_in (List.mem_of_getElem? (l := lw_tbl) (i := 1020) (by decide +kernel)) rfl
theorem gm_u1021 : Cond.methodLink RX3 66 yJ6_bitCount_0f7a4 ∈ gm_U := gm_U_in (List.mem_of_getElem? (l := lw_tbl) (i := 1021) (by decide +kernel)) rfl
theorem gm_u1022 : Cond.methodLink RX3 71 yX3_power ∈ gm_U := gm_U_in (List.mem_of_getElem? (l := lw_tbl) (i := 1022) (by decide +kernel)) rfl
theorem gm_u1023 : Cond.static yX3_power ∈ gm_U := gm_U_in (List.mem_of_getElem? (l := lw_tbl) (i := 1023) (by decide +kernel)) rfl
theorem gm_u1024 : Cond.code yX3_power cX3_power 5 (some .long) ∈ gm_U := gm_U_in (List.mem_of_getElem? (l := lw_tbl) (i := 1024) (by decide +kernel)) rfl
theorem gm_u1025 : Cond.methodLink RL 256 yL_modelsByTrying ∈ gm_U := gm_U_in (List.mem_of_getElem? (l := lw_tbl) (i := 1025) (by decide +kernel)) rfl
theorem gm_u1026 : Cond.static yL_modelsByTrying ∈ gm_U := gm_U_in (List.mem_of_getElem? (l := lw_tbl) (i := 1026) (by decide +kernel)) rfl
theorem gm_u1027 : Cond.codeWith yL_modelsByTrying cL_modelsByTrying 4 (some .int) [(0, 8, 11, 13)] ∈ gm_U := gm_U_in (List.mem_of_getElem? (l := lw_tbl) (i := 1027) (by decide +kernel)) rfl
theorem gm_u1028 : Cond.methodLink RL 127 yX6_modelsByTrying ∈ gm_U := gm_U_in (List.mem_of_getElem? (l := lw_tbl) (i := 1028) (by decide +kernel)) rfl
theorem gm_u1029 : Cond.instanceMethod yX6_modelsByTrying ∈ gm_U := gm_U_in (List.mem_of_getElem? (l := lw_tbl) (i := 1029) (by decide +kernel)) rfl
theorem gm_u1030 : Cond.selects RX6 yX6_modelsByTrying yX6_modelsByTrying ∈ gm_U := gm_U_in (List.mem_of_getElem? (l := lw_tbl) (i := 1030) (by decide +kernel)) rfl
theorem gm_u1031 : Cond.code yX6_modelsByTrying cX6_modelsByTrying 2 (some .long) ∈ gm_U := gm_U_in (List.mem_of_getElem? (l := lw_tbl) (i := 1031) (by decide +kernel)) rfl
theorem gm_u1032 : Cond.methodLink RX6 261 yX3_countModelsByTrying ∈ gm_U := gm_U_in (List.mem_of_getElem? (l := lw_tbl) (i := 1032) (by decide +kernel)) rfl
theorem gm_u1033 : Cond.instanceMethod yX3_countModelsByTrying ∈ gm_U := gm_U_in (List.mem_of_getElem? (l := lw_tbl) (i := 1033) (by decide +kernel)) rfl
theorem gm_u1034 : Cond.selects RX3 yX3_countModelsByTrying yX3_countModelsByTrying ∈ gm_U := gm_U_in (List.mem_of_getElem? (l := lw_tbl) (i := 1034) (by decide +kernel)) rfl
theorem gm_u1035 : Cond.code yX3_countModelsByTrying cX3_countModelsByTrying 7 (some .long) ∈ gm_U := gm_U_in (List.mem_of_getElem? (l := lw_tbl) (i := 1035) (by decide +kernel)) rfl
theorem gm_u1036 : Cond.methodLink RX3 75 yX3_occupiedBy ∈ gm_U := gm_U_in (List.mem_of_getElem? (l := lw_tbl) (i := 1036) (by decide +kernel)) rfl
theorem gm_u1037 : Cond.static yX3_occupiedBy ∈ gm_U := gm_U_in (List.mem_of_getElem? (l := lw_tbl) (i := 1037) (by decide +kernel)) rfl
theorem gm_u1038 : Cond.code yX3_occupiedBy cX3_occupiedBy 4 (some .int) ∈ gm_U := gm_U_in (List.mem_of_getElem? (l := lw_tbl) (i := 1038) (by decide +kernel)) rfl
theorem gm_u1039 : Cond.methodLink RX3 79 yX3_allHold ∈ gm_U := gm_U_in (List.mem_of_getElem? (l := lw_tbl) (i := 1039) (by decide +kernel)) rfl
theorem gm_u1041 : Cond.instanceMethod yX3_allHold ∈ gm_U := gm_U_in (List.mem_of_getElem? (l := lw_tbl) (i := 1041) (by decide +kernel)) rfl
theorem gm_u1042 : Cond.code yX3_allHold cX3_allHold 3 (some .boolean) ∈ gm_U := gm_U_in (List.mem_of_getElem? (l := lw_tbl) (i := 1042) (by decide +kernel)) rfl
theorem gm_u1043 : Cond.methodLink RL 259 yL_density ∈ gm_U := gm_U_in (List.mem_of_getElem? (l := lw_tbl) (i := 1043) (by decide +kernel)) rfl
theorem gm_u1044 : Cond.static yL_density ∈ gm_U := gm_U_in (List.mem_of_getElem? (l := lw_tbl) (i := 1044) (by decide +kernel)) rfl
theorem gm_u1045 : Cond.codeWith yL_density cL_density 4 (some .int) [(0, 9, 12, 27)] ∈ gm_U := gm_U_in (List.mem_of_getElem? (l := lw_tbl) (i := 1045) (by decide +kernel)) rfl
theorem gm_u1046 : Cond.methodLink RL 130 yX6_density ∈ gm_U := gm_U_in (List.mem_of_getElem? (l := lw_tbl) (i := 1046) (by decide +kernel)) rfl
theorem gm_u1047 : Cond.instanceMethod yX6_density ∈ gm_U := gm_U_in (List.mem_of_getElem? (l := lw_tbl) (i := 1047) (by decide +kernel)) rfl
theorem gm_u1048 : Cond.selects RX6 yX6_density yX6_density ∈ gm_U := gm_U_in (List.mem_of_getElem? (l := lw_tbl) (i := 1048) (by decide +kernel)) rfl
theorem gm_u1049 : Cond.code yX6_density cX6_density 2 (some .float) ∈ gm_U := gm_U_in (List.mem_of_getElem? (l := lw_tbl) (i := 1049) (by decide +kernel)) rfl
theorem gm_u1050 : Cond.constantFloat RX6 264 (1098907648) ∈ gm_U := gm_U_in (List.mem_of_getElem? (l := lw_tbl) (i := 1050) (by decide +kernel)) rfl
theorem gm_u1051 : Cond.classLink RL 135 RX7 ∈ gm_U := gm_U_in (List.mem_of_getElem? (l := lw_tbl) (i := 1051) (by decide +kernel)) rfl
theorem gm_u1052 : Cond.instantiable RX7 23 ∈ gm_U := gm_U_in (List.mem_of_getElem? (l := lw_tbl) (i := 1052) (by decide +kernel)) rfl
theorem gm_u1053 : Cond.methodLink RL 137 yX7_init ∈ gm_U := gm_U_in (List.mem_of_getElem? (l := lw_tbl) (i := 1053) (by decide +kernel)) rfl
theorem gm_u1054 : Cond.instanceMethod yX7_init ∈ gm_U := gm_U_in (List.mem_of_getElem? (l := lw_tbl) (i := 1054) (by decide +kernel)) rfl
theorem gm_u1055 : Cond.code yX7_init cX7_init 1 none ∈ gm_U := gm_U_in (List.mem_of_getElem? (l := lw_tbl) (i := 1055) (by decide +kernel)) rfl
theorem gm_u1056 : Cond.methodLink RX7 1 objectInit ∈ gm_U := gm_U_in (List.mem_of_getElem? (l := lw_tbl) (i := 1056) (by decide +kernel)) rfl
theorem gm_u1057 : Cond.fieldLink RX7 46 "GimletModel" "thrown" "I" ∈ gm_U := gm_U_in (List.mem_of_getElem? (l := lw_tbl) (i := 1057) (by decide +kernel)) rfl
theorem gm_u1058 : Cond.fieldLink RX7 50 "GimletModel" "terms" "I" ∈ gm_U := gm_U_in (List.mem_of_getElem? (l := lw_tbl) (i := 1058) (by decide +kernel)) rfl
theorem gm_u1059 : Cond.fieldLink RX7 170 "GimletModel" "many" "I" ∈ gm_U := gm_U_in (List.mem_of_getElem? (l := lw_tbl) (i := 1059) (by decide +kernel)) rfl
theorem gm_u1060 : Cond.fieldLink RX7 173 "GimletModel" "hasGoal" "I" ∈ gm_U := gm_U_in (List.mem_of_getElem? (l := lw_tbl) (i := 1060) (by decide +kernel)) rfl
theorem gm_u1061 : Cond.fieldLink RX7 83 "GimletModel" "length" "I" ∈ gm_U := gm_U_in (List.mem_of_getElem? (l := lw_tbl) (i := 1061) (by decide +kernel)) rfl
theorem gm_u1062 : Cond.fieldLink RX7 124 "GimletModel" "read" "I" ∈ gm_U := gm_U_in (List.mem_of_getElem? (l := lw_tbl) (i := 1062) (by decide +kernel)) rfl
theorem gm_u1063 : Cond.fieldLink RX7 188 "GimletModel" "bits" "I" ∈ gm_U := gm_U_in (List.mem_of_getElem? (l := lw_tbl) (i := 1063) (by decide +kernel)) rfl
theorem gm_u1064 : Cond.fieldLink RX7 7 "GimletModel" "kind" "[I" ∈ gm_U := gm_U_in (List.mem_of_getElem? (l := lw_tbl) (i := 1064) (by decide +kernel)) rfl
theorem gm_u1065 : Cond.fieldLink RX7 13 "GimletModel" "left" "[I" ∈ gm_U := gm_U_in (List.mem_of_getElem? (l := lw_tbl) (i := 1065) (by decide +kernel)) rfl
theorem gm_u1066 : Cond.fieldLink RX7 16 "GimletModel" "right" "[I" ∈ gm_U := gm_U_in (List.mem_of_getElem? (l := lw_tbl) (i := 1066) (by decide +kernel)) rfl
theorem gm_u1067 : Cond.fieldLink RX7 19 "GimletModel" "sizes" "[I" ∈ gm_U := gm_U_in (List.mem_of_getElem? (l := lw_tbl) (i := 1067) (by decide +kernel)) rfl
theorem gm_u1068 : Cond.fieldLink RX7 22 "GimletModel" "cover" "[I" ∈ gm_U := gm_U_in (List.mem_of_getElem? (l := lw_tbl) (i := 1068) (by decide +kernel)) rfl
theorem gm_u1069 : Cond.fieldLink RX7 25 "GimletModel" "assumedKind" "[I" ∈ gm_U := gm_U_in (List.mem_of_getElem? (l := lw_tbl) (i := 1069) (by decide +kernel)) rfl
theorem gm_u1070 : Cond.fieldLink RX7 28 "GimletModel" "assumedLeft" "[I" ∈ gm_U := gm_U_in (List.mem_of_getElem? (l := lw_tbl) (i := 1070) (by decide +kernel)) rfl
theorem gm_u1071 : Cond.fieldLink RX7 31 "GimletModel" "assumedRight" "[I" ∈ gm_U := gm_U_in (List.mem_of_getElem? (l := lw_tbl) (i := 1071) (by decide +kernel)) rfl
theorem gm_u1072 : Cond.fieldLink RX7 155 "GimletModel" "goalKind" "I" ∈ gm_U := gm_U_in (List.mem_of_getElem? (l := lw_tbl) (i := 1072) (by decide +kernel)) rfl
theorem gm_u1073 : Cond.fieldLink RX7 158 "GimletModel" "goalLeft" "I" ∈ gm_U := gm_U_in (List.mem_of_getElem? (l := lw_tbl) (i := 1073) (by decide +kernel)) rfl
theorem gm_u1074 : Cond.fieldLink RX7 161 "GimletModel" "goalRight" "I" ∈ gm_U := gm_U_in (List.mem_of_getElem? (l := lw_tbl) (i := 1074) (by decide +kernel)) rfl
theorem gm_u1075 : Cond.fieldLink RX7 34 "GimletModel" "text" "[I" ∈ gm_U := gm_U_in (List.mem_of_getElem? (l := lw_tbl) (i := 1075) (by decide +kernel)) rfl
theorem gm_u1076 : Cond.fieldLink RX7 37 "GimletModel" "next" "[I" ∈ gm_U := gm_U_in (List.mem_of_getElem? (l := lw_tbl) (i := 1076) (by decide +kernel)) rfl
theorem gm_u1077 : Cond.fieldLink RX7 40 "GimletModel" "chosen" "[I" ∈ gm_U := gm_U_in (List.mem_of_getElem? (l := lw_tbl) (i := 1077) (by decide +kernel)) rfl
theorem gm_u1078 : Cond.fieldLink RX7 43 "GimletModel" "demands" "[I" ∈ gm_U := gm_U_in (List.mem_of_getElem? (l := lw_tbl) (i := 1078) (by decide +kernel)) rfl
theorem gm_u1079 : Cond.fieldLink RX7 114 "GimletModel" "put" "I" ∈ gm_U := gm_U_in (List.mem_of_getElem? (l := lw_tbl) (i := 1079) (by decide +kernel)) rfl
theorem gm_u1080 : Cond.lays RX7 "GimletModel" "thrown" "I" ∈ gm_U := gm_U_in (List.mem_of_getElem? (l := lw_tbl) (i := 1080) (by decide +kernel)) rfl
theorem gm_u1082 : Cond.lays RX7 "GimletModel" "terms" "I" ∈ gm_U := gm_U_in (List.mem_of_getElem? (l := lw_tbl) (i := 1082) (by decide +kernel)) rfl
theorem gm_u1084 : Cond.lays RX7 "GimletModel" "many" "I" ∈ gm_U := gm_U_in (List.mem_of_getElem? (l := lw_tbl) (i := 1084) (by decide +kernel)) rfl
theorem gm_u1086 : Cond.lays RX7 "GimletModel" "hasGoal" "I" ∈ gm_U := gm_U_in (List.mem_of_getElem? (l := lw_tbl) (i := 1086) (by decide +kernel)) rfl
theorem gm_u1088 : Cond.lays RX7 "GimletModel" "length" "I" ∈ gm_U := gm_U_in (List.mem_of_getElem? (l := lw_tbl) (i := 1088) (by decide +kernel)) rfl
theorem gm_u1090 : Cond.lays RX7 "GimletModel" "read" "I" ∈ gm_U := gm_U_in (List.mem_of_getElem? (l := lw_tbl) (i := 1090) (by decide +kernel)) rfl
theorem gm_u1092 : Cond.lays RX7 "GimletModel" "bits" "I" ∈ gm_U := gm_U_in (List.mem_of_getElem? (l := lw_tbl) (i := 1092) (by decide +kernel)) rfl
theorem gm_u1094 : Cond.laysFinal RX7 "GimletModel" "kind" "[I" ∈ gm_U := gm_U_in (List.mem_of_getElem? (l := lw_tbl) (i := 1094) (by decide +kernel)) rfl
theorem gm_u1096 : Cond.laysFinal RX7 "GimletModel" "left" "[I" ∈ gm_U := gm_U_in (List.mem_of_getElem? (l := lw_tbl) (i := 1096) (by decide +kernel)) rfl
theorem gm_u1098 : Cond.laysFinal RX7 "GimletModel" "right" "[I" ∈ gm_U := gm_U_in (List.mem_of_getElem? (l := lw_tbl) (i := 1098) (by decide +kernel)) rfl
theorem gm_u1100 : Cond.laysFinal RX7 "GimletModel" "sizes" "[I" ∈ gm_U := gm_U_in (List.mem_of_getElem? (l := lw_tbl) (i := 1100) (by decide +kernel)) rfl
theorem gm_u1102 : Cond.laysFinal RX7 "GimletModel" "cover" "[I" ∈ gm_U := gm_U_in (List.mem_of_getElem? (l := lw_tbl) (i := 1102) (by decide +kernel)) rfl
theorem gm_u1104 : Cond.laysFinal RX7 "GimletModel" "assumedKind" "[I" ∈ gm_U := gm_U_in (List.mem_of_getElem? (l := lw_tbl) (i := 1104) (by decide +kernel)) rfl
theorem gm_u1106 : Cond.laysFinal RX7 "GimletModel" "assumedLeft" "[I" ∈ gm_U := gm_U_in (List.mem_of_getElem? (l := lw_tbl) (i := 1106) (by decide +kernel)) rfl
theorem gm_u1108 : Cond.laysFinal RX7 "GimletModel" "assumedRight" "[I" ∈ gm_U := gm_U_in (List.mem_of_getElem? (l := lw_tbl) (i := 1108) (by decide +kernel)) rfl
theorem gm_u1110 : Cond.lays RX7 "GimletModel" "goalKind" "I" ∈ gm_U := gm_U_in (List.mem_of_getElem? (l := lw_tbl) (i := 1110) (by decide +kernel)) rfl
theorem gm_u1112 : Cond.lays RX7 "GimletModel" "goalLeft" "I" ∈ gm_U := gm_U_in (List.mem_of_getElem? (l := lw_tbl) (i := 1112) (by decide +kernel)) rfl
theorem gm_u1114 : Cond.lays RX7 "GimletModel" "goalRight" "I" ∈ gm_U := gm_U_in (List.mem_of_getElem? (l := lw_tbl) (i := 1114) (by decide +kernel)) rfl
theorem gm_u1116 : Cond.laysFinal RX7 "GimletModel" "text" "[I" ∈ gm_U := gm_U_in (List.mem_of_getElem? (l := lw_tbl) (i := 1116) (by decide +kernel)) rfl
theorem gm_u1118 : Cond.laysFinal RX7 "GimletModel" "next" "[I" ∈ gm_U := gm_U_in (List.mem_of_getElem? (l := lw_tbl) (i := 1118) (by decide +kernel)) rfl
theorem gm_u1120 : Cond.laysFinal RX7 "GimletModel" "chosen" "[I" ∈ gm_U := gm_U_in (List.mem_of_getElem? (l := lw_tbl) (i := 1120) (by decide +kernel)) rfl
theorem gm_u1122 : Cond.laysFinal RX7 "GimletModel" "demands" "[I" ∈ gm_U := gm_U_in (List.mem_of_getElem? (l := lw_tbl) (i := 1122) (by decide +kernel)) rfl
theorem gm_u1124 : Cond.lays RX7 "GimletModel" "put" "I" ∈ gm_U := gm_U_in (List.mem_of_getElem? (l := lw_tbl) (i := 1124) (by decide +kernel)) rfl
theorem gm_u1127 : Cond.methodLink RL 144 yX7_thrown ∈ gm_U := gm_U_in (List.mem_of_getElem? (l := lw_tbl) (i := 1127) (by decide +kernel)) rfl
theorem gm_u1128 : Cond.instanceMethod yX7_thrown ∈ gm_U := gm_U_in (List.mem_of_getElem? (l := lw_tbl) (i := 1128) (by decide +kernel)) rfl
theorem gm_u1129 : Cond.selects RX7 yX7_thrown yX7_thrown ∈ gm_U := gm_U_in (List.mem_of_getElem? (l := lw_tbl) (i := 1129) (by decide +kernel)) rfl
theorem gm_u1130 : Cond.code yX7_thrown cX7_thrown 1 (some .int) ∈ gm_U := gm_U_in (List.mem_of_getElem? (l := lw_tbl) (i := 1130) (by decide +kernel)) rfl
theorem gm_u1131 : Cond.methodLink RL 143 yX7_letter ∈ gm_U := gm_U_in (List.mem_of_getElem? (l := lw_tbl) (i := 1131) (by decide +kernel)) rfl
theorem gm_u1132 : Cond.instanceMethod yX7_letter ∈ gm_U := gm_U_in (List.mem_of_getElem? (l := lw_tbl) (i := 1132) (by decide +kernel)) rfl
theorem gm_u1133 : Cond.selects RX7 yX7_letter yX7_letter ∈ gm_U := gm_U_in (List.mem_of_getElem? (l := lw_tbl) (i := 1133) (by decide +kernel)) rfl
theorem gm_u1134 : Cond.code yX7_letter cX7_letter 2 (some .int) ∈ gm_U := gm_U_in (List.mem_of_getElem? (l := lw_tbl) (i := 1134) (by decide +kernel)) rfl
theorem gm_u1135 : Cond.methodLink RX7 53 yX7_isIn ∈ gm_U := gm_U_in (List.mem_of_getElem? (l := lw_tbl) (i := 1135) (by decide +kernel)) rfl
theorem gm_u1136 : Cond.static yX7_isIn ∈ gm_U := gm_U_in (List.mem_of_getElem? (l := lw_tbl) (i := 1136) (by decide +kernel)) rfl
theorem gm_u1137 : Cond.code yX7_isIn cX7_isIn 3 (some .boolean) ∈ gm_U := gm_U_in (List.mem_of_getElem? (l := lw_tbl) (i := 1137) (by decide +kernel)) rfl
theorem gm_u1138 : Cond.methodLink RX7 66 yX7_fail ∈ gm_U := gm_U_in (List.mem_of_getElem? (l := lw_tbl) (i := 1138) (by decide +kernel)) rfl
theorem gm_u1140 : Cond.instanceMethod yX7_fail ∈ gm_U := gm_U_in (List.mem_of_getElem? (l := lw_tbl) (i := 1140) (by decide +kernel)) rfl
theorem gm_u1141 : Cond.code yX7_fail cX7_fail 2 (some .int) ∈ gm_U := gm_U_in (List.mem_of_getElem? (l := lw_tbl) (i := 1141) (by decide +kernel)) rfl
theorem gm_u1142 : Cond.methodLink RX7 72 yX7_makes ∈ gm_U := gm_U_in (List.mem_of_getElem? (l := lw_tbl) (i := 1142) (by decide +kernel)) rfl
theorem gm_u1144 : Cond.instanceMethod yX7_makes ∈ gm_U := gm_U_in (List.mem_of_getElem? (l := lw_tbl) (i := 1144) (by decide +kernel)) rfl
theorem gm_u1145 : Cond.code yX7_makes cX7_makes 6 (some .int) ∈ gm_U := gm_U_in (List.mem_of_getElem? (l := lw_tbl) (i := 1145) (by decide +kernel)) rfl
theorem gm_u1146 : Cond.methodLink RX7 69 yX7_know ∈ gm_U := gm_U_in (List.mem_of_getElem? (l := lw_tbl) (i := 1146) (by decide +kernel)) rfl
theorem gm_u1148 : Cond.instanceMethod yX7_know ∈ gm_U := gm_U_in (List.mem_of_getElem? (l := lw_tbl) (i := 1148) (by decide +kernel)) rfl
theorem gm_u1149 : Cond.code yX7_know cX7_know 5 (some .int) ∈ gm_U := gm_U_in (List.mem_of_getElem? (l := lw_tbl) (i := 1149) (by decide +kernel)) rfl
theorem gm_u1150 : Cond.methodLink RX7 62 yX7_covered ∈ gm_U := gm_U_in (List.mem_of_getElem? (l := lw_tbl) (i := 1150) (by decide +kernel)) rfl
theorem gm_u1152 : Cond.instanceMethod yX7_covered ∈ gm_U := gm_U_in (List.mem_of_getElem? (l := lw_tbl) (i := 1152) (by decide +kernel)) rfl
theorem gm_u1153 : Cond.code yX7_covered cX7_covered 4 (some .int) ∈ gm_U := gm_U_in (List.mem_of_getElem? (l := lw_tbl) (i := 1153) (by decide +kernel)) rfl
theorem gm_u1154 : Cond.constant RX7 57 (65535) ∈ gm_U := gm_U_in (List.mem_of_getElem? (l := lw_tbl) (i := 1154) (by decide +kernel)) rfl
theorem gm_u1155 : Cond.methodLink RX7 58 yX7_letterCover ∈ gm_U := gm_U_in (List.mem_of_getElem? (l := lw_tbl) (i := 1155) (by decide +kernel)) rfl
theorem gm_u1156 : Cond.static yX7_letterCover ∈ gm_U := gm_U_in (List.mem_of_getElem? (l := lw_tbl) (i := 1156) (by decide +kernel)) rfl
theorem gm_u1157 : Cond.code yX7_letterCover cX7_letterCover 3 (some .int) ∈ gm_U := gm_U_in (List.mem_of_getElem? (l := lw_tbl) (i := 1157) (by decide +kernel)) rfl
theorem gm_u1158 : Cond.methodLink RL 150 yX7_empty ∈ gm_U := gm_U_in (List.mem_of_getElem? (l := lw_tbl) (i := 1158) (by decide +kernel)) rfl
theorem gm_u1159 : Cond.instanceMethod yX7_empty ∈ gm_U := gm_U_in (List.mem_of_getElem? (l := lw_tbl) (i := 1159) (by decide +kernel)) rfl
theorem gm_u1160 : Cond.selects RX7 yX7_empty yX7_empty ∈ gm_U := gm_U_in (List.mem_of_getElem? (l := lw_tbl) (i := 1160) (by decide +kernel)) rfl
theorem gm_u1161 : Cond.code yX7_empty cX7_empty 1 (some .int) ∈ gm_U := gm_U_in (List.mem_of_getElem? (l := lw_tbl) (i := 1161) (by decide +kernel)) rfl
theorem gm_u1162 : Cond.methodLink RL 153 yX7_universe ∈ gm_U := gm_U_in (List.mem_of_getElem? (l := lw_tbl) (i := 1162) (by decide +kernel)) rfl
theorem gm_u1163 : Cond.instanceMethod yX7_universe ∈ gm_U := gm_U_in (List.mem_of_getElem? (l := lw_tbl) (i := 1163) (by decide +kernel)) rfl
theorem gm_u1164 : Cond.selects RX7 yX7_universe yX7_universe ∈ gm_U := gm_U_in (List.mem_of_getElem? (l := lw_tbl) (i := 1164) (by decide +kernel)) rfl
theorem gm_u1165 : Cond.code yX7_universe cX7_universe 1 (some .int) ∈ gm_U := gm_U_in (List.mem_of_getElem? (l := lw_tbl) (i := 1165) (by decide +kernel)) rfl
theorem gm_u1166 : Cond.methodLink RL 156 yX7_complement ∈ gm_U := gm_U_in (List.mem_of_getElem? (l := lw_tbl) (i := 1166) (by decide +kernel)) rfl
theorem gm_u1167 : Cond.instanceMethod yX7_complement ∈ gm_U := gm_U_in (List.mem_of_getElem? (l := lw_tbl) (i := 1167) (by decide +kernel)) rfl
theorem gm_u1168 : Cond.selects RX7 yX7_complement yX7_complement ∈ gm_U := gm_U_in (List.mem_of_getElem? (l := lw_tbl) (i := 1168) (by decide +kernel)) rfl
theorem gm_u1169 : Cond.code yX7_complement cX7_complement 2 (some .int) ∈ gm_U := gm_U_in (List.mem_of_getElem? (l := lw_tbl) (i := 1169) (by decide +kernel)) rfl
theorem gm_u1170 : Cond.methodLink RX7 76 yX7_noTerm ∈ gm_U := gm_U_in (List.mem_of_getElem? (l := lw_tbl) (i := 1170) (by decide +kernel)) rfl
theorem gm_u1172 : Cond.instanceMethod yX7_noTerm ∈ gm_U := gm_U_in (List.mem_of_getElem? (l := lw_tbl) (i := 1172) (by decide +kernel)) rfl
theorem gm_u1173 : Cond.code yX7_noTerm cX7_noTerm 2 (some .boolean) ∈ gm_U := gm_U_in (List.mem_of_getElem? (l := lw_tbl) (i := 1173) (by decide +kernel)) rfl
theorem gm_u1174 : Cond.methodLink RL 160 yX7_union ∈ gm_U := gm_U_in (List.mem_of_getElem? (l := lw_tbl) (i := 1174) (by decide +kernel)) rfl
theorem gm_u1175 : Cond.instanceMethod yX7_union ∈ gm_U := gm_U_in (List.mem_of_getElem? (l := lw_tbl) (i := 1175) (by decide +kernel)) rfl
theorem gm_u1176 : Cond.selects RX7 yX7_union yX7_union ∈ gm_U := gm_U_in (List.mem_of_getElem? (l := lw_tbl) (i := 1176) (by decide +kernel)) rfl
theorem gm_u1177 : Cond.code yX7_union cX7_union 3 (some .int) ∈ gm_U := gm_U_in (List.mem_of_getElem? (l := lw_tbl) (i := 1177) (by decide +kernel)) rfl
theorem gm_u1178 : Cond.methodLink RX7 80 yX7_pair ∈ gm_U := gm_U_in (List.mem_of_getElem? (l := lw_tbl) (i := 1178) (by decide +kernel)) rfl
theorem gm_u1180 : Cond.instanceMethod yX7_pair ∈ gm_U := gm_U_in (List.mem_of_getElem? (l := lw_tbl) (i := 1180) (by decide +kernel)) rfl
theorem gm_u1181 : Cond.code yX7_pair cX7_pair 4 (some .int) ∈ gm_U := gm_U_in (List.mem_of_getElem? (l := lw_tbl) (i := 1181) (by decide +kernel)) rfl
theorem gm_u1182 : Cond.methodLink RL 163 yX7_intersection ∈ gm_U := gm_U_in (List.mem_of_getElem? (l := lw_tbl) (i := 1182) (by decide +kernel)) rfl
theorem gm_u1183 : Cond.instanceMethod yX7_intersection ∈ gm_U := gm_U_in (List.mem_of_getElem? (l := lw_tbl) (i := 1183) (by decide +kernel)) rfl
theorem gm_u1184 : Cond.selects RX7 yX7_intersection yX7_intersection ∈ gm_U := gm_U_in (List.mem_of_getElem? (l := lw_tbl) (i := 1184) (by decide +kernel)) rfl
theorem gm_u1185 : Cond.code yX7_intersection cX7_intersection 3 (some .int) ∈ gm_U := gm_U_in (List.mem_of_getElem? (l := lw_tbl) (i := 1185) (by decide +kernel)) rfl
theorem gm_u1186 : Cond.methodLink RL 166 yX7_difference ∈ gm_U := gm_U_in (List.mem_of_getElem? (l := lw_tbl) (i := 1186) (by decide +kernel)) rfl
theorem gm_u1187 : Cond.instanceMethod yX7_difference ∈ gm_U := gm_U_in (List.mem_of_getElem? (l := lw_tbl) (i := 1187) (by decide +kernel)) rfl
theorem gm_u1188 : Cond.selects RX7 yX7_difference yX7_difference ∈ gm_U := gm_U_in (List.mem_of_getElem? (l := lw_tbl) (i := 1188) (by decide +kernel)) rfl
theorem gm_u1189 : Cond.code yX7_difference cX7_difference 3 (some .int) ∈ gm_U := gm_U_in (List.mem_of_getElem? (l := lw_tbl) (i := 1189) (by decide +kernel)) rfl
theorem gm_u1190 : Cond.methodLink RL 169 yX7_symmetric ∈ gm_U := gm_U_in (List.mem_of_getElem? (l := lw_tbl) (i := 1190) (by decide +kernel)) rfl
theorem gm_u1191 : Cond.instanceMethod yX7_symmetric ∈ gm_U := gm_U_in (List.mem_of_getElem? (l := lw_tbl) (i := 1191) (by decide +kernel)) rfl
theorem gm_u1192 : Cond.selects RX7 yX7_symmetric yX7_symmetric ∈ gm_U := gm_U_in (List.mem_of_getElem? (l := lw_tbl) (i := 1192) (by decide +kernel)) rfl
theorem gm_u1193 : Cond.code yX7_symmetric cX7_symmetric 3 (some .int) ∈ gm_U := gm_U_in (List.mem_of_getElem? (l := lw_tbl) (i := 1193) (by decide +kernel)) rfl
theorem gm_u1194 : Cond.methodLink RL 173 yX7_terms ∈ gm_U := gm_U_in (List.mem_of_getElem? (l := lw_tbl) (i := 1194) (by decide +kernel)) rfl
theorem gm_u1195 : Cond.instanceMethod yX7_terms ∈ gm_U := gm_U_in (List.mem_of_getElem? (l := lw_tbl) (i := 1195) (by decide +kernel)) rfl
theorem gm_u1196 : Cond.selects RX7 yX7_terms yX7_terms ∈ gm_U := gm_U_in (List.mem_of_getElem? (l := lw_tbl) (i := 1196) (by decide +kernel)) rfl
theorem gm_u1197 : Cond.code yX7_terms cX7_terms 1 (some .int) ∈ gm_U := gm_U_in (List.mem_of_getElem? (l := lw_tbl) (i := 1197) (by decide +kernel)) rfl
theorem gm_u1198 : Cond.methodLink RL 176 yX7_size ∈ gm_U := gm_U_in (List.mem_of_getElem? (l := lw_tbl) (i := 1198) (by decide +kernel)) rfl
theorem gm_u1199 : Cond.instanceMethod yX7_size ∈ gm_U := gm_U_in (List.mem_of_getElem? (l := lw_tbl) (i := 1199) (by decide +kernel)) rfl
theorem gm_u1200 : Cond.selects RX7 yX7_size yX7_size ∈ gm_U := gm_U_in (List.mem_of_getElem? (l := lw_tbl) (i := 1200) (by decide +kernel)) rfl
theorem gm_u1201 : Cond.code yX7_size cX7_size 2 (some .int) ∈ gm_U := gm_U_in (List.mem_of_getElem? (l := lw_tbl) (i := 1201) (by decide +kernel)) rfl
theorem gm_u1202 : Cond.methodLink RL 179 yX7_symbol ∈ gm_U := gm_U_in (List.mem_of_getElem? (l := lw_tbl) (i := 1202) (by decide +kernel)) rfl
theorem gm_u1203 : Cond.instanceMethod yX7_symbol ∈ gm_U := gm_U_in (List.mem_of_getElem? (l := lw_tbl) (i := 1203) (by decide +kernel)) rfl
theorem gm_u1204 : Cond.selects RX7 yX7_symbol yX7_symbol ∈ gm_U := gm_U_in (List.mem_of_getElem? (l := lw_tbl) (i := 1204) (by decide +kernel)) rfl
theorem gm_u1205 : Cond.code yX7_symbol cX7_symbol 3 (some .char) ∈ gm_U := gm_U_in (List.mem_of_getElem? (l := lw_tbl) (i := 1205) (by decide +kernel)) rfl
theorem gm_u1206 : Cond.methodLink RX7 90 yX7_spell ∈ gm_U := gm_U_in (List.mem_of_getElem? (l := lw_tbl) (i := 1206) (by decide +kernel)) rfl
theorem gm_u1208 : Cond.instanceMethod yX7_spell ∈ gm_U := gm_U_in (List.mem_of_getElem? (l := lw_tbl) (i := 1208) (by decide +kernel)) rfl
theorem gm_u1209 : Cond.code yX7_spell cX7_spell 2 none ∈ gm_U := gm_U_in (List.mem_of_getElem? (l := lw_tbl) (i := 1209) (by decide +kernel)) rfl
theorem gm_u1210 : Cond.methodLink RX7 86 yX7_write ∈ gm_U := gm_U_in (List.mem_of_getElem? (l := lw_tbl) (i := 1210) (by decide +kernel)) rfl
theorem gm_u1212 : Cond.instanceMethod yX7_write ∈ gm_U := gm_U_in (List.mem_of_getElem? (l := lw_tbl) (i := 1212) (by decide +kernel)) rfl
theorem gm_u1213 : Cond.code yX7_write cX7_write 2 none ∈ gm_U := gm_U_in (List.mem_of_getElem? (l := lw_tbl) (i := 1213) (by decide +kernel)) rfl
theorem gm_u1214 : Cond.methodLink RL 182 yX7_regions ∈ gm_U := gm_U_in (List.mem_of_getElem? (l := lw_tbl) (i := 1214) (by decide +kernel)) rfl
theorem gm_u1215 : Cond.instanceMethod yX7_regions ∈ gm_U := gm_U_in (List.mem_of_getElem? (l := lw_tbl) (i := 1215) (by decide +kernel)) rfl
theorem gm_u1216 : Cond.selects RX7 yX7_regions yX7_regions ∈ gm_U := gm_U_in (List.mem_of_getElem? (l := lw_tbl) (i := 1216) (by decide +kernel)) rfl
theorem gm_u1217 : Cond.code yX7_regions cX7_regions 2 (some .int) ∈ gm_U := gm_U_in (List.mem_of_getElem? (l := lw_tbl) (i := 1217) (by decide +kernel)) rfl
theorem gm_u1218 : Cond.methodLink RX7 93 yJ6_bitCount_0f7a4 ∈ gm_U := gm_U_in (List.mem_of_getElem? (l := lw_tbl) (i := 1218) (by decide +kernel)) rfl
theorem gm_u1219 : Cond.methodLink RL 185 yX7_covers ∈ gm_U := gm_U_in (List.mem_of_getElem? (l := lw_tbl) (i := 1219) (by decide +kernel)) rfl
theorem gm_u1220 : Cond.instanceMethod yX7_covers ∈ gm_U := gm_U_in (List.mem_of_getElem? (l := lw_tbl) (i := 1220) (by decide +kernel)) rfl
theorem gm_u1221 : Cond.selects RX7 yX7_covers yX7_covers ∈ gm_U := gm_U_in (List.mem_of_getElem? (l := lw_tbl) (i := 1221) (by decide +kernel)) rfl
theorem gm_u1222 : Cond.code yX7_covers cX7_covers 3 (some .boolean) ∈ gm_U := gm_U_in (List.mem_of_getElem? (l := lw_tbl) (i := 1222) (by decide +kernel)) rfl
theorem gm_u1223 : Cond.methodLink RL 188 yX7_coversByTerm ∈ gm_U := gm_U_in (List.mem_of_getElem? (l := lw_tbl) (i := 1223) (by decide +kernel)) rfl
theorem gm_u1224 : Cond.instanceMethod yX7_coversByTerm ∈ gm_U := gm_U_in (List.mem_of_getElem? (l := lw_tbl) (i := 1224) (by decide +kernel)) rfl
theorem gm_u1225 : Cond.selects RX7 yX7_coversByTerm yX7_coversByTerm ∈ gm_U := gm_U_in (List.mem_of_getElem? (l := lw_tbl) (i := 1225) (by decide +kernel)) rfl
theorem gm_u1226 : Cond.code yX7_coversByTerm cX7_coversByTerm 3 (some .boolean) ∈ gm_U := gm_U_in (List.mem_of_getElem? (l := lw_tbl) (i := 1226) (by decide +kernel)) rfl
theorem gm_u1227 : Cond.methodLink RX7 98 yX7_covers ∈ gm_U := gm_U_in (List.mem_of_getElem? (l := lw_tbl) (i := 1227) (by decide +kernel)) rfl
theorem gm_u1228 : Cond.methodLink RL 191 yX7_isEqual ∈ gm_U := gm_U_in (List.mem_of_getElem? (l := lw_tbl) (i := 1228) (by decide +kernel)) rfl
theorem gm_u1229 : Cond.instanceMethod yX7_isEqual ∈ gm_U := gm_U_in (List.mem_of_getElem? (l := lw_tbl) (i := 1229) (by decide +kernel)) rfl
theorem gm_u1230 : Cond.selects RX7 yX7_isEqual yX7_isEqual ∈ gm_U := gm_U_in (List.mem_of_getElem? (l := lw_tbl) (i := 1230) (by decide +kernel)) rfl
theorem gm_u1231 : Cond.code yX7_isEqual cX7_isEqual 3 (some .boolean) ∈ gm_U := gm_U_in (List.mem_of_getElem? (l := lw_tbl) (i := 1231) (by decide +kernel)) rfl
theorem gm_u1232 : Cond.methodLink RL 194 yX7_rule ∈ gm_U := gm_U_in (List.mem_of_getElem? (l := lw_tbl) (i := 1232) (by decide +kernel)) rfl
theorem gm_u1233 : Cond.instanceMethod yX7_rule ∈ gm_U := gm_U_in (List.mem_of_getElem? (l := lw_tbl) (i := 1233) (by decide +kernel)) rfl
theorem gm_u1234 : Cond.selects RX7 yX7_rule yX7_rule ∈ gm_U := gm_U_in (List.mem_of_getElem? (l := lw_tbl) (i := 1234) (by decide +kernel)) rfl
theorem gm_u1235 : Cond.code yX7_rule cX7_rule 3 (some .char) ∈ gm_U := gm_U_in (List.mem_of_getElem? (l := lw_tbl) (i := 1235) (by decide +kernel)) rfl
theorem gm_u1236 : Cond.methodLink RX7 131 yX7_place ∈ gm_U := gm_U_in (List.mem_of_getElem? (l := lw_tbl) (i := 1236) (by decide +kernel)) rfl
theorem gm_u1238 : Cond.instanceMethod yX7_place ∈ gm_U := gm_U_in (List.mem_of_getElem? (l := lw_tbl) (i := 1238) (by decide +kernel)) rfl
theorem gm_u1239 : Cond.code yX7_place cX7_place 2 (some .int) ∈ gm_U := gm_U_in (List.mem_of_getElem? (l := lw_tbl) (i := 1239) (by decide +kernel)) rfl
theorem gm_u1240 : Cond.methodLink RX7 111 yX7_ruleAt ∈ gm_U := gm_U_in (List.mem_of_getElem? (l := lw_tbl) (i := 1240) (by decide +kernel)) rfl
theorem gm_u1242 : Cond.instanceMethod yX7_ruleAt ∈ gm_U := gm_U_in (List.mem_of_getElem? (l := lw_tbl) (i := 1242) (by decide +kernel)) rfl
theorem gm_u1243 : Cond.code yX7_ruleAt cX7_ruleAt 7 (some .int) ∈ gm_U := gm_U_in (List.mem_of_getElem? (l := lw_tbl) (i := 1243) (by decide +kernel)) rfl
theorem gm_u1244 : Cond.methodLink RX7 105 yX7_behind ∈ gm_U := gm_U_in (List.mem_of_getElem? (l := lw_tbl) (i := 1244) (by decide +kernel)) rfl
theorem gm_u1246 : Cond.instanceMethod yX7_behind ∈ gm_U := gm_U_in (List.mem_of_getElem? (l := lw_tbl) (i := 1246) (by decide +kernel)) rfl
theorem gm_u1247 : Cond.code yX7_behind cX7_behind 4 (some .int) ∈ gm_U := gm_U_in (List.mem_of_getElem? (l := lw_tbl) (i := 1247) (by decide +kernel)) rfl
theorem gm_u1248 : Cond.methodLink RX7 102 yX7_isPair ∈ gm_U := gm_U_in (List.mem_of_getElem? (l := lw_tbl) (i := 1248) (by decide +kernel)) rfl
theorem gm_u1249 : Cond.static yX7_isPair ∈ gm_U := gm_U_in (List.mem_of_getElem? (l := lw_tbl) (i := 1249) (by decide +kernel)) rfl
theorem gm_u1250 : Cond.code yX7_isPair cX7_isPair 1 (some .boolean) ∈ gm_U := gm_U_in (List.mem_of_getElem? (l := lw_tbl) (i := 1250) (by decide +kernel)) rfl
theorem gm_u1251 : Cond.methodLink RX7 108 yX7_isSame ∈ gm_U := gm_U_in (List.mem_of_getElem? (l := lw_tbl) (i := 1251) (by decide +kernel)) rfl
theorem gm_u1253 : Cond.instanceMethod yX7_isSame ∈ gm_U := gm_U_in (List.mem_of_getElem? (l := lw_tbl) (i := 1253) (by decide +kernel)) rfl
theorem gm_u1254 : Cond.code yX7_isSame cX7_isSame 5 (some .boolean) ∈ gm_U := gm_U_in (List.mem_of_getElem? (l := lw_tbl) (i := 1254) (by decide +kernel)) rfl
theorem gm_u1255 : Cond.methodLink RL 197 yX7_step ∈ gm_U := gm_U_in (List.mem_of_getElem? (l := lw_tbl) (i := 1255) (by decide +kernel)) rfl
theorem gm_u1256 : Cond.instanceMethod yX7_step ∈ gm_U := gm_U_in (List.mem_of_getElem? (l := lw_tbl) (i := 1256) (by decide +kernel)) rfl
theorem gm_u1257 : Cond.selects RX7 yX7_step yX7_step ∈ gm_U := gm_U_in (List.mem_of_getElem? (l := lw_tbl) (i := 1257) (by decide +kernel)) rfl
theorem gm_u1258 : Cond.code yX7_step cX7_step 3 (some .int) ∈ gm_U := gm_U_in (List.mem_of_getElem? (l := lw_tbl) (i := 1258) (by decide +kernel)) rfl
theorem gm_u1259 : Cond.methodLink RX7 134 yX7_rewrite ∈ gm_U := gm_U_in (List.mem_of_getElem? (l := lw_tbl) (i := 1259) (by decide +kernel)) rfl
theorem gm_u1261 : Cond.instanceMethod yX7_rewrite ∈ gm_U := gm_U_in (List.mem_of_getElem? (l := lw_tbl) (i := 1261) (by decide +kernel)) rfl
theorem gm_u1262 : Cond.code yX7_rewrite cX7_rewrite 8 (some .boolean) ∈ gm_U := gm_U_in (List.mem_of_getElem? (l := lw_tbl) (i := 1262) (by decide +kernel)) rfl
theorem gm_u1263 : Cond.methodLink RX7 117 yX7_copies ∈ gm_U := gm_U_in (List.mem_of_getElem? (l := lw_tbl) (i := 1263) (by decide +kernel)) rfl
theorem gm_u1265 : Cond.instanceMethod yX7_copies ∈ gm_U := gm_U_in (List.mem_of_getElem? (l := lw_tbl) (i := 1265) (by decide +kernel)) rfl
theorem gm_u1266 : Cond.code yX7_copies cX7_copies 4 none ∈ gm_U := gm_U_in (List.mem_of_getElem? (l := lw_tbl) (i := 1266) (by decide +kernel)) rfl
theorem gm_u1267 : Cond.methodLink RX7 121 yX7_puts ∈ gm_U := gm_U_in (List.mem_of_getElem? (l := lw_tbl) (i := 1267) (by decide +kernel)) rfl
theorem gm_u1269 : Cond.instanceMethod yX7_puts ∈ gm_U := gm_U_in (List.mem_of_getElem? (l := lw_tbl) (i := 1269) (by decide +kernel)) rfl
theorem gm_u1270 : Cond.code yX7_puts cX7_puts 2 none ∈ gm_U := gm_U_in (List.mem_of_getElem? (l := lw_tbl) (i := 1270) (by decide +kernel)) rfl
theorem gm_u1271 : Cond.methodLink RX7 137 yX7_learns ∈ gm_U := gm_U_in (List.mem_of_getElem? (l := lw_tbl) (i := 1271) (by decide +kernel)) rfl
theorem gm_u1273 : Cond.instanceMethod yX7_learns ∈ gm_U := gm_U_in (List.mem_of_getElem? (l := lw_tbl) (i := 1273) (by decide +kernel)) rfl
theorem gm_u1274 : Cond.code yX7_learns cX7_learns 4 (some .int) ∈ gm_U := gm_U_in (List.mem_of_getElem? (l := lw_tbl) (i := 1274) (by decide +kernel)) rfl
theorem gm_u1275 : Cond.methodLink RX7 127 yX7_parse ∈ gm_U := gm_U_in (List.mem_of_getElem? (l := lw_tbl) (i := 1275) (by decide +kernel)) rfl
theorem gm_u1277 : Cond.instanceMethod yX7_parse ∈ gm_U := gm_U_in (List.mem_of_getElem? (l := lw_tbl) (i := 1277) (by decide +kernel)) rfl
theorem gm_u1278 : Cond.code yX7_parse cX7_parse 4 (some .int) ∈ gm_U := gm_U_in (List.mem_of_getElem? (l := lw_tbl) (i := 1278) (by decide +kernel)) rfl
theorem gm_u1279 : Cond.methodLink RL 200 yX7_steps ∈ gm_U := gm_U_in (List.mem_of_getElem? (l := lw_tbl) (i := 1279) (by decide +kernel)) rfl
theorem gm_u1280 : Cond.instanceMethod yX7_steps ∈ gm_U := gm_U_in (List.mem_of_getElem? (l := lw_tbl) (i := 1280) (by decide +kernel)) rfl
theorem gm_u1281 : Cond.selects RX7 yX7_steps yX7_steps ∈ gm_U := gm_U_in (List.mem_of_getElem? (l := lw_tbl) (i := 1281) (by decide +kernel)) rfl
theorem gm_u1282 : Cond.code yX7_steps cX7_steps 4 (some .int) ∈ gm_U := gm_U_in (List.mem_of_getElem? (l := lw_tbl) (i := 1282) (by decide +kernel)) rfl
theorem gm_u1283 : Cond.methodLink RL 203 yX7_normalForm ∈ gm_U := gm_U_in (List.mem_of_getElem? (l := lw_tbl) (i := 1283) (by decide +kernel)) rfl
theorem gm_u1284 : Cond.instanceMethod yX7_normalForm ∈ gm_U := gm_U_in (List.mem_of_getElem? (l := lw_tbl) (i := 1284) (by decide +kernel)) rfl
theorem gm_u1285 : Cond.selects RX7 yX7_normalForm yX7_normalForm ∈ gm_U := gm_U_in (List.mem_of_getElem? (l := lw_tbl) (i := 1285) (by decide +kernel)) rfl
theorem gm_u1286 : Cond.code yX7_normalForm cX7_normalForm 3 (some .int) ∈ gm_U := gm_U_in (List.mem_of_getElem? (l := lw_tbl) (i := 1286) (by decide +kernel)) rfl
theorem gm_u1287 : Cond.methodLink RL 206 yX7_primes ∈ gm_U := gm_U_in (List.mem_of_getElem? (l := lw_tbl) (i := 1287) (by decide +kernel)) rfl
theorem gm_u1288 : Cond.instanceMethod yX7_primes ∈ gm_U := gm_U_in (List.mem_of_getElem? (l := lw_tbl) (i := 1288) (by decide +kernel)) rfl
theorem gm_u1289 : Cond.selects RX7 yX7_primes yX7_primes ∈ gm_U := gm_U_in (List.mem_of_getElem? (l := lw_tbl) (i := 1289) (by decide +kernel)) rfl
theorem gm_u1290 : Cond.code yX7_primes cX7_primes 4 (some .int) ∈ gm_U := gm_U_in (List.mem_of_getElem? (l := lw_tbl) (i := 1290) (by decide +kernel)) rfl
theorem gm_u1291 : Cond.methodLink RX7 146 yX7_isPrime ∈ gm_U := gm_U_in (List.mem_of_getElem? (l := lw_tbl) (i := 1291) (by decide +kernel)) rfl
theorem gm_u1292 : Cond.static yX7_isPrime ∈ gm_U := gm_U_in (List.mem_of_getElem? (l := lw_tbl) (i := 1292) (by decide +kernel)) rfl
theorem gm_u1293 : Cond.code yX7_isPrime cX7_isPrime 4 (some .boolean) ∈ gm_U := gm_U_in (List.mem_of_getElem? (l := lw_tbl) (i := 1293) (by decide +kernel)) rfl
theorem gm_u1294 : Cond.methodLink RX7 143 yX7_isImplicant ∈ gm_U := gm_U_in (List.mem_of_getElem? (l := lw_tbl) (i := 1294) (by decide +kernel)) rfl
theorem gm_u1295 : Cond.static yX7_isImplicant ∈ gm_U := gm_U_in (List.mem_of_getElem? (l := lw_tbl) (i := 1295) (by decide +kernel)) rfl
theorem gm_u1296 : Cond.code yX7_isImplicant cX7_isImplicant 2 (some .boolean) ∈ gm_U := gm_U_in (List.mem_of_getElem? (l := lw_tbl) (i := 1296) (by decide +kernel)) rfl
theorem gm_u1297 : Cond.methodLink RX7 140 yX7_cube ∈ gm_U := gm_U_in (List.mem_of_getElem? (l := lw_tbl) (i := 1297) (by decide +kernel)) rfl
theorem gm_u1298 : Cond.static yX7_cube ∈ gm_U := gm_U_in (List.mem_of_getElem? (l := lw_tbl) (i := 1298) (by decide +kernel)) rfl
theorem gm_u1299 : Cond.code yX7_cube cX7_cube 5 (some .int) ∈ gm_U := gm_U_in (List.mem_of_getElem? (l := lw_tbl) (i := 1299) (by decide +kernel)) rfl
theorem gm_u1300 : Cond.methodLink RL 209 yX7_primesByTrying ∈ gm_U := gm_U_in (List.mem_of_getElem? (l := lw_tbl) (i := 1300) (by decide +kernel)) rfl
theorem gm_u1301 : Cond.instanceMethod yX7_primesByTrying ∈ gm_U := gm_U_in (List.mem_of_getElem? (l := lw_tbl) (i := 1301) (by decide +kernel)) rfl
theorem gm_u1302 : Cond.selects RX7 yX7_primesByTrying yX7_primesByTrying ∈ gm_U := gm_U_in (List.mem_of_getElem? (l := lw_tbl) (i := 1302) (by decide +kernel)) rfl
theorem gm_u1303 : Cond.code yX7_primesByTrying cX7_primesByTrying 2 (some .int) ∈ gm_U := gm_U_in (List.mem_of_getElem? (l := lw_tbl) (i := 1303) (by decide +kernel)) rfl
theorem gm_u1304 : Cond.methodLink RX7 149 yX7_primes ∈ gm_U := gm_U_in (List.mem_of_getElem? (l := lw_tbl) (i := 1304) (by decide +kernel)) rfl
theorem gm_u1305 : Cond.methodLink RL 213 yX7_prime ∈ gm_U := gm_U_in (List.mem_of_getElem? (l := lw_tbl) (i := 1305) (by decide +kernel)) rfl
theorem gm_u1306 : Cond.instanceMethod yX7_prime ∈ gm_U := gm_U_in (List.mem_of_getElem? (l := lw_tbl) (i := 1306) (by decide +kernel)) rfl
theorem gm_u1307 : Cond.selects RX7 yX7_prime yX7_prime ∈ gm_U := gm_U_in (List.mem_of_getElem? (l := lw_tbl) (i := 1307) (by decide +kernel)) rfl
theorem gm_u1308 : Cond.code yX7_prime cX7_prime 8 (some .char) ∈ gm_U := gm_U_in (List.mem_of_getElem? (l := lw_tbl) (i := 1308) (by decide +kernel)) rfl
theorem gm_u1309 : Cond.methodLink RL 217 yX7_assume ∈ gm_U := gm_U_in (List.mem_of_getElem? (l := lw_tbl) (i := 1309) (by decide +kernel)) rfl
theorem gm_u1310 : Cond.instanceMethod yX7_assume ∈ gm_U := gm_U_in (List.mem_of_getElem? (l := lw_tbl) (i := 1310) (by decide +kernel)) rfl
theorem gm_u1311 : Cond.selects RX7 yX7_assume yX7_assume ∈ gm_U := gm_U_in (List.mem_of_getElem? (l := lw_tbl) (i := 1311) (by decide +kernel)) rfl
theorem gm_u1312 : Cond.code yX7_assume cX7_assume 4 (some .int) ∈ gm_U := gm_U_in (List.mem_of_getElem? (l := lw_tbl) (i := 1312) (by decide +kernel)) rfl
theorem gm_u1313 : Cond.methodLink RX7 164 yX7_isKind ∈ gm_U := gm_U_in (List.mem_of_getElem? (l := lw_tbl) (i := 1313) (by decide +kernel)) rfl
theorem gm_u1314 : Cond.static yX7_isKind ∈ gm_U := gm_U_in (List.mem_of_getElem? (l := lw_tbl) (i := 1314) (by decide +kernel)) rfl
theorem gm_u1315 : Cond.code yX7_isKind cX7_isKind 1 (some .boolean) ∈ gm_U := gm_U_in (List.mem_of_getElem? (l := lw_tbl) (i := 1315) (by decide +kernel)) rfl
theorem gm_u1316 : Cond.methodLink RX7 167 yX7_areTerms ∈ gm_U := gm_U_in (List.mem_of_getElem? (l := lw_tbl) (i := 1316) (by decide +kernel)) rfl
theorem gm_u1318 : Cond.instanceMethod yX7_areTerms ∈ gm_U := gm_U_in (List.mem_of_getElem? (l := lw_tbl) (i := 1318) (by decide +kernel)) rfl
theorem gm_u1319 : Cond.code yX7_areTerms cX7_areTerms 3 (some .boolean) ∈ gm_U := gm_U_in (List.mem_of_getElem? (l := lw_tbl) (i := 1319) (by decide +kernel)) rfl
theorem gm_u1320 : Cond.methodLink RL 220 yX7_drop ∈ gm_U := gm_U_in (List.mem_of_getElem? (l := lw_tbl) (i := 1320) (by decide +kernel)) rfl
theorem gm_u1321 : Cond.instanceMethod yX7_drop ∈ gm_U := gm_U_in (List.mem_of_getElem? (l := lw_tbl) (i := 1321) (by decide +kernel)) rfl
theorem gm_u1322 : Cond.selects RX7 yX7_drop yX7_drop ∈ gm_U := gm_U_in (List.mem_of_getElem? (l := lw_tbl) (i := 1322) (by decide +kernel)) rfl
theorem gm_u1323 : Cond.code yX7_drop cX7_drop 1 (some .int) ∈ gm_U := gm_U_in (List.mem_of_getElem? (l := lw_tbl) (i := 1323) (by decide +kernel)) rfl
theorem gm_u1324 : Cond.methodLink RL 224 yX7_assumptions ∈ gm_U := gm_U_in (List.mem_of_getElem? (l := lw_tbl) (i := 1324) (by decide +kernel)) rfl
theorem gm_u1325 : Cond.instanceMethod yX7_assumptions ∈ gm_U := gm_U_in (List.mem_of_getElem? (l := lw_tbl) (i := 1325) (by decide +kernel)) rfl
theorem gm_u1326 : Cond.selects RX7 yX7_assumptions yX7_assumptions ∈ gm_U := gm_U_in (List.mem_of_getElem? (l := lw_tbl) (i := 1326) (by decide +kernel)) rfl
theorem gm_u1327 : Cond.code yX7_assumptions cX7_assumptions 1 (some .int) ∈ gm_U := gm_U_in (List.mem_of_getElem? (l := lw_tbl) (i := 1327) (by decide +kernel)) rfl
theorem gm_u1328 : Cond.methodLink RL 227 yX7_setGoal ∈ gm_U := gm_U_in (List.mem_of_getElem? (l := lw_tbl) (i := 1328) (by decide +kernel)) rfl
theorem gm_u1329 : Cond.instanceMethod yX7_setGoal ∈ gm_U := gm_U_in (List.mem_of_getElem? (l := lw_tbl) (i := 1329) (by decide +kernel)) rfl
theorem gm_u1330 : Cond.selects RX7 yX7_setGoal yX7_setGoal ∈ gm_U := gm_U_in (List.mem_of_getElem? (l := lw_tbl) (i := 1330) (by decide +kernel)) rfl
theorem gm_u1331 : Cond.code yX7_setGoal cX7_setGoal 5 (some .boolean) ∈ gm_U := gm_U_in (List.mem_of_getElem? (l := lw_tbl) (i := 1331) (by decide +kernel)) rfl
theorem gm_u1332 : Cond.methodLink RL 231 yX7_isConsistent ∈ gm_U := gm_U_in (List.mem_of_getElem? (l := lw_tbl) (i := 1332) (by decide +kernel)) rfl
theorem gm_u1333 : Cond.instanceMethod yX7_isConsistent ∈ gm_U := gm_U_in (List.mem_of_getElem? (l := lw_tbl) (i := 1333) (by decide +kernel)) rfl
theorem gm_u1334 : Cond.selects RX7 yX7_isConsistent yX7_isConsistent ∈ gm_U := gm_U_in (List.mem_of_getElem? (l := lw_tbl) (i := 1334) (by decide +kernel)) rfl
theorem gm_u1335 : Cond.code yX7_isConsistent cX7_isConsistent 1 (some .boolean) ∈ gm_U := gm_U_in (List.mem_of_getElem? (l := lw_tbl) (i := 1335) (by decide +kernel)) rfl
theorem gm_u1336 : Cond.methodLink RX7 182 yX7_allowed ∈ gm_U := gm_U_in (List.mem_of_getElem? (l := lw_tbl) (i := 1336) (by decide +kernel)) rfl
theorem gm_u1338 : Cond.instanceMethod yX7_allowed ∈ gm_U := gm_U_in (List.mem_of_getElem? (l := lw_tbl) (i := 1338) (by decide +kernel)) rfl
theorem gm_u1339 : Cond.code yX7_allowed cX7_allowed 3 (some .int) ∈ gm_U := gm_U_in (List.mem_of_getElem? (l := lw_tbl) (i := 1339) (by decide +kernel)) rfl
theorem gm_u1340 : Cond.methodLink RX7 176 yX7_isDemand ∈ gm_U := gm_U_in (List.mem_of_getElem? (l := lw_tbl) (i := 1340) (by decide +kernel)) rfl
theorem gm_u1341 : Cond.static yX7_isDemand ∈ gm_U := gm_U_in (List.mem_of_getElem? (l := lw_tbl) (i := 1341) (by decide +kernel)) rfl
theorem gm_u1342 : Cond.code yX7_isDemand cX7_isDemand 1 (some .boolean) ∈ gm_U := gm_U_in (List.mem_of_getElem? (l := lw_tbl) (i := 1342) (by decide +kernel)) rfl
theorem gm_u1343 : Cond.methodLink RX7 179 yX7_assumed ∈ gm_U := gm_U_in (List.mem_of_getElem? (l := lw_tbl) (i := 1343) (by decide +kernel)) rfl
theorem gm_u1345 : Cond.instanceMethod yX7_assumed ∈ gm_U := gm_U_in (List.mem_of_getElem? (l := lw_tbl) (i := 1345) (by decide +kernel)) rfl
theorem gm_u1346 : Cond.code yX7_assumed cX7_assumed 2 (some .int) ∈ gm_U := gm_U_in (List.mem_of_getElem? (l := lw_tbl) (i := 1346) (by decide +kernel)) rfl
theorem gm_u1347 : Cond.methodLink RX7 152 yX7_regionsOf ∈ gm_U := gm_U_in (List.mem_of_getElem? (l := lw_tbl) (i := 1347) (by decide +kernel)) rfl
theorem gm_u1349 : Cond.instanceMethod yX7_regionsOf ∈ gm_U := gm_U_in (List.mem_of_getElem? (l := lw_tbl) (i := 1349) (by decide +kernel)) rfl
theorem gm_u1350 : Cond.code yX7_regionsOf cX7_regionsOf 4 (some .int) ∈ gm_U := gm_U_in (List.mem_of_getElem? (l := lw_tbl) (i := 1350) (by decide +kernel)) rfl
theorem gm_u1351 : Cond.methodLink RX7 185 yX7_hasModel ∈ gm_U := gm_U_in (List.mem_of_getElem? (l := lw_tbl) (i := 1351) (by decide +kernel)) rfl
theorem gm_u1353 : Cond.instanceMethod yX7_hasModel ∈ gm_U := gm_U_in (List.mem_of_getElem? (l := lw_tbl) (i := 1353) (by decide +kernel)) rfl
theorem gm_u1354 : Cond.code yX7_hasModel cX7_hasModel 3 (some .boolean) ∈ gm_U := gm_U_in (List.mem_of_getElem? (l := lw_tbl) (i := 1354) (by decide +kernel)) rfl
theorem gm_u1355 : Cond.methodLink RL 234 yX7_deniedBy ∈ gm_U := gm_U_in (List.mem_of_getElem? (l := lw_tbl) (i := 1355) (by decide +kernel)) rfl
theorem gm_u1356 : Cond.instanceMethod yX7_deniedBy ∈ gm_U := gm_U_in (List.mem_of_getElem? (l := lw_tbl) (i := 1356) (by decide +kernel)) rfl
theorem gm_u1357 : Cond.selects RX7 yX7_deniedBy yX7_deniedBy ∈ gm_U := gm_U_in (List.mem_of_getElem? (l := lw_tbl) (i := 1357) (by decide +kernel)) rfl
theorem gm_u1358 : Cond.code yX7_deniedBy cX7_deniedBy 3 (some .int) ∈ gm_U := gm_U_in (List.mem_of_getElem? (l := lw_tbl) (i := 1358) (by decide +kernel)) rfl
theorem gm_u1359 : Cond.methodLink RL 237 yX7_follows ∈ gm_U := gm_U_in (List.mem_of_getElem? (l := lw_tbl) (i := 1359) (by decide +kernel)) rfl
theorem gm_u1360 : Cond.instanceMethod yX7_follows ∈ gm_U := gm_U_in (List.mem_of_getElem? (l := lw_tbl) (i := 1360) (by decide +kernel)) rfl
theorem gm_u1361 : Cond.selects RX7 yX7_follows yX7_follows ∈ gm_U := gm_U_in (List.mem_of_getElem? (l := lw_tbl) (i := 1361) (by decide +kernel)) rfl
theorem gm_u1362 : Cond.code yX7_follows cX7_follows 1 (some .boolean) ∈ gm_U := gm_U_in (List.mem_of_getElem? (l := lw_tbl) (i := 1362) (by decide +kernel)) rfl
theorem gm_u1363 : Cond.methodLink RX7 197 yX7_noGoal ∈ gm_U := gm_U_in (List.mem_of_getElem? (l := lw_tbl) (i := 1363) (by decide +kernel)) rfl
theorem gm_u1365 : Cond.instanceMethod yX7_noGoal ∈ gm_U := gm_U_in (List.mem_of_getElem? (l := lw_tbl) (i := 1365) (by decide +kernel)) rfl
theorem gm_u1366 : Cond.code yX7_noGoal cX7_noGoal 1 (some .boolean) ∈ gm_U := gm_U_in (List.mem_of_getElem? (l := lw_tbl) (i := 1366) (by decide +kernel)) rfl
theorem gm_u1367 : Cond.methodLink RX7 201 yX7_isFollowing ∈ gm_U := gm_U_in (List.mem_of_getElem? (l := lw_tbl) (i := 1367) (by decide +kernel)) rfl
theorem gm_u1369 : Cond.instanceMethod yX7_isFollowing ∈ gm_U := gm_U_in (List.mem_of_getElem? (l := lw_tbl) (i := 1369) (by decide +kernel)) rfl
theorem gm_u1370 : Cond.code yX7_isFollowing cX7_isFollowing 3 (some .boolean) ∈ gm_U := gm_U_in (List.mem_of_getElem? (l := lw_tbl) (i := 1370) (by decide +kernel)) rfl
theorem gm_u1371 : Cond.methodLink RX7 194 yX7_counter ∈ gm_U := gm_U_in (List.mem_of_getElem? (l := lw_tbl) (i := 1371) (by decide +kernel)) rfl
theorem gm_u1373 : Cond.instanceMethod yX7_counter ∈ gm_U := gm_U_in (List.mem_of_getElem? (l := lw_tbl) (i := 1373) (by decide +kernel)) rfl
theorem gm_u1374 : Cond.code yX7_counter cX7_counter 3 (some .int) ∈ gm_U := gm_U_in (List.mem_of_getElem? (l := lw_tbl) (i := 1374) (by decide +kernel)) rfl
theorem gm_u1375 : Cond.methodLink RX7 191 yX7_goal ∈ gm_U := gm_U_in (List.mem_of_getElem? (l := lw_tbl) (i := 1375) (by decide +kernel)) rfl
theorem gm_u1377 : Cond.instanceMethod yX7_goal ∈ gm_U := gm_U_in (List.mem_of_getElem? (l := lw_tbl) (i := 1377) (by decide +kernel)) rfl
theorem gm_u1378 : Cond.code yX7_goal cX7_goal 1 (some .int) ∈ gm_U := gm_U_in (List.mem_of_getElem? (l := lw_tbl) (i := 1378) (by decide +kernel)) rfl
theorem gm_u1379 : Cond.methodLink RL 240 yX7_why ∈ gm_U := gm_U_in (List.mem_of_getElem? (l := lw_tbl) (i := 1379) (by decide +kernel)) rfl
theorem gm_u1380 : Cond.instanceMethod yX7_why ∈ gm_U := gm_U_in (List.mem_of_getElem? (l := lw_tbl) (i := 1380) (by decide +kernel)) rfl
theorem gm_u1381 : Cond.selects RX7 yX7_why yX7_why ∈ gm_U := gm_U_in (List.mem_of_getElem? (l := lw_tbl) (i := 1381) (by decide +kernel)) rfl
theorem gm_u1382 : Cond.code yX7_why cX7_why 1 (some .char) ∈ gm_U := gm_U_in (List.mem_of_getElem? (l := lw_tbl) (i := 1382) (by decide +kernel)) rfl
theorem gm_u1383 : Cond.methodLink RX7 204 yX7_isConsistent ∈ gm_U := gm_U_in (List.mem_of_getElem? (l := lw_tbl) (i := 1383) (by decide +kernel)) rfl
theorem gm_u1384 : Cond.methodLink RL 243 yX7_witness ∈ gm_U := gm_U_in (List.mem_of_getElem? (l := lw_tbl) (i := 1384) (by decide +kernel)) rfl
theorem gm_u1385 : Cond.instanceMethod yX7_witness ∈ gm_U := gm_U_in (List.mem_of_getElem? (l := lw_tbl) (i := 1385) (by decide +kernel)) rfl
theorem gm_u1386 : Cond.selects RX7 yX7_witness yX7_witness ∈ gm_U := gm_U_in (List.mem_of_getElem? (l := lw_tbl) (i := 1386) (by decide +kernel)) rfl
theorem gm_u1387 : Cond.code yX7_witness cX7_witness 3 (some .int) ∈ gm_U := gm_U_in (List.mem_of_getElem? (l := lw_tbl) (i := 1387) (by decide +kernel)) rfl
theorem gm_u1388 : Cond.methodLink RL 246 yX7_elements ∈ gm_U := gm_U_in (List.mem_of_getElem? (l := lw_tbl) (i := 1388) (by decide +kernel)) rfl
theorem gm_u1389 : Cond.instanceMethod yX7_elements ∈ gm_U := gm_U_in (List.mem_of_getElem? (l := lw_tbl) (i := 1389) (by decide +kernel)) rfl
theorem gm_u1390 : Cond.selects RX7 yX7_elements yX7_elements ∈ gm_U := gm_U_in (List.mem_of_getElem? (l := lw_tbl) (i := 1390) (by decide +kernel)) rfl
theorem gm_u1391 : Cond.code yX7_elements cX7_elements 1 (some .int) ∈ gm_U := gm_U_in (List.mem_of_getElem? (l := lw_tbl) (i := 1391) (by decide +kernel)) rfl
theorem gm_u1392 : Cond.methodLink RX7 211 yX7_noCounterexample ∈ gm_U := gm_U_in (List.mem_of_getElem? (l := lw_tbl) (i := 1392) (by decide +kernel)) rfl
theorem gm_u1394 : Cond.instanceMethod yX7_noCounterexample ∈ gm_U := gm_U_in (List.mem_of_getElem? (l := lw_tbl) (i := 1394) (by decide +kernel)) rfl
theorem gm_u1395 : Cond.code yX7_noCounterexample cX7_noCounterexample 1 (some .boolean) ∈ gm_U := gm_U_in (List.mem_of_getElem? (l := lw_tbl) (i := 1395) (by decide +kernel)) rfl
theorem gm_u1396 : Cond.methodLink RX7 214 yX7_least ∈ gm_U := gm_U_in (List.mem_of_getElem? (l := lw_tbl) (i := 1396) (by decide +kernel)) rfl
theorem gm_u1398 : Cond.instanceMethod yX7_least ∈ gm_U := gm_U_in (List.mem_of_getElem? (l := lw_tbl) (i := 1398) (by decide +kernel)) rfl
theorem gm_u1399 : Cond.code yX7_least cX7_least 3 (some .int) ∈ gm_U := gm_U_in (List.mem_of_getElem? (l := lw_tbl) (i := 1399) (by decide +kernel)) rfl
theorem gm_u1400 : Cond.methodLink RX7 207 yX7_choose ∈ gm_U := gm_U_in (List.mem_of_getElem? (l := lw_tbl) (i := 1400) (by decide +kernel)) rfl
theorem gm_u1402 : Cond.instanceMethod yX7_choose ∈ gm_U := gm_U_in (List.mem_of_getElem? (l := lw_tbl) (i := 1402) (by decide +kernel)) rfl
theorem gm_u1403 : Cond.code yX7_choose cX7_choose 7 (some .boolean) ∈ gm_U := gm_U_in (List.mem_of_getElem? (l := lw_tbl) (i := 1403) (by decide +kernel)) rfl
theorem gm_u1404 : Cond.methodLink RL 249 yX7_elementsByTrying ∈ gm_U := gm_U_in (List.mem_of_getElem? (l := lw_tbl) (i := 1404) (by decide +kernel)) rfl
theorem gm_u1405 : Cond.instanceMethod yX7_elementsByTrying ∈ gm_U := gm_U_in (List.mem_of_getElem? (l := lw_tbl) (i := 1405) (by decide +kernel)) rfl
theorem gm_u1406 : Cond.selects RX7 yX7_elementsByTrying yX7_elementsByTrying ∈ gm_U := gm_U_in (List.mem_of_getElem? (l := lw_tbl) (i := 1406) (by decide +kernel)) rfl
theorem gm_u1407 : Cond.code yX7_elementsByTrying cX7_elementsByTrying 1 (some .int) ∈ gm_U := gm_U_in (List.mem_of_getElem? (l := lw_tbl) (i := 1407) (by decide +kernel)) rfl
theorem gm_u1408 : Cond.methodLink RX7 217 yX7_elements ∈ gm_U := gm_U_in (List.mem_of_getElem? (l := lw_tbl) (i := 1408) (by decide +kernel)) rfl
theorem gm_u1409 : Cond.methodLink RL 252 yX7_region ∈ gm_U := gm_U_in (List.mem_of_getElem? (l := lw_tbl) (i := 1409) (by decide +kernel)) rfl
theorem gm_u1410 : Cond.instanceMethod yX7_region ∈ gm_U := gm_U_in (List.mem_of_getElem? (l := lw_tbl) (i := 1410) (by decide +kernel)) rfl
theorem gm_u1411 : Cond.selects RX7 yX7_region yX7_region ∈ gm_U := gm_U_in (List.mem_of_getElem? (l := lw_tbl) (i := 1411) (by decide +kernel)) rfl
theorem gm_u1412 : Cond.code yX7_region cX7_region 3 (some .int) ∈ gm_U := gm_U_in (List.mem_of_getElem? (l := lw_tbl) (i := 1412) (by decide +kernel)) rfl
theorem gm_u1413 : Cond.methodLink RL 255 yX7_models ∈ gm_U := gm_U_in (List.mem_of_getElem? (l := lw_tbl) (i := 1413) (by decide +kernel)) rfl
theorem gm_u1414 : Cond.instanceMethod yX7_models ∈ gm_U := gm_U_in (List.mem_of_getElem? (l := lw_tbl) (i := 1414) (by decide +kernel)) rfl
theorem gm_u1415 : Cond.selects RX7 yX7_models yX7_models ∈ gm_U := gm_U_in (List.mem_of_getElem? (l := lw_tbl) (i := 1415) (by decide +kernel)) rfl
theorem gm_u1416 : Cond.code yX7_models cX7_models 2 (some .long) ∈ gm_U := gm_U_in (List.mem_of_getElem? (l := lw_tbl) (i := 1416) (by decide +kernel)) rfl
theorem gm_u1417 : Cond.methodLink RX7 226 yX7_ways ∈ gm_U := gm_U_in (List.mem_of_getElem? (l := lw_tbl) (i := 1417) (by decide +kernel)) rfl
theorem gm_u1419 : Cond.instanceMethod yX7_ways ∈ gm_U := gm_U_in (List.mem_of_getElem? (l := lw_tbl) (i := 1419) (by decide +kernel)) rfl
theorem gm_u1420 : Cond.code yX7_ways cX7_ways 9 (some .long) ∈ gm_U := gm_U_in (List.mem_of_getElem? (l := lw_tbl) (i := 1420) (by decide +kernel)) rfl
theorem gm_u1421 : Cond.constantLong RX7 220 (-1) ∈ gm_U := gm_U_in (List.mem_of_getElem? (l := lw_tbl) (i := 1421) (by decide +kernel)) rfl
theorem gm_u1422 : Cond.methodLink RX7 222 yX7_power ∈ gm_U := gm_U_in (List.mem_of_getElem? (l := lw_tbl) (i := 1422) (by decide +kernel)) rfl
theorem gm_u1423 : Cond.static yX7_power ∈ gm_U := gm_U_in (List.mem_of_getElem? (l := lw_tbl) (i := 1423) (by decide +kernel)) rfl
theorem gm_u1424 : Cond.code yX7_power cX7_power 5 (some .long) ∈ gm_U := gm_U_in (List.mem_of_getElem? (l := lw_tbl) (i := 1424) (by decide +kernel)) rfl
theorem gm_u1425 : Cond.methodLink RL 258 yX7_modelsByTrying ∈ gm_U := gm_U_in (List.mem_of_getElem? (l := lw_tbl) (i := 1425) (by decide +kernel)) rfl
theorem gm_u1426 : Cond.instanceMethod yX7_modelsByTrying ∈ gm_U := gm_U_in (List.mem_of_getElem? (l := lw_tbl) (i := 1426) (by decide +kernel)) rfl
theorem gm_u1427 : Cond.selects RX7 yX7_modelsByTrying yX7_modelsByTrying ∈ gm_U := gm_U_in (List.mem_of_getElem? (l := lw_tbl) (i := 1427) (by decide +kernel)) rfl
theorem gm_u1428 : Cond.code yX7_modelsByTrying cX7_modelsByTrying 2 (some .long) ∈ gm_U := gm_U_in (List.mem_of_getElem? (l := lw_tbl) (i := 1428) (by decide +kernel)) rfl
theorem gm_u1429 : Cond.methodLink RL 262 yX7_density ∈ gm_U := gm_U_in (List.mem_of_getElem? (l := lw_tbl) (i := 1429) (by decide +kernel)) rfl
theorem gm_u1430 : Cond.instanceMethod yX7_density ∈ gm_U := gm_U_in (List.mem_of_getElem? (l := lw_tbl) (i := 1430) (by decide +kernel)) rfl
theorem gm_u1431 : Cond.selects RX7 yX7_density yX7_density ∈ gm_U := gm_U_in (List.mem_of_getElem? (l := lw_tbl) (i := 1431) (by decide +kernel)) rfl
theorem gm_u1432 : Cond.code yX7_density cX7_density 2 (some .float) ∈ gm_U := gm_U_in (List.mem_of_getElem? (l := lw_tbl) (i := 1432) (by decide +kernel)) rfl
theorem gm_u1433 : Cond.constantFloat RX7 230 (1098907648) ∈ gm_U := gm_U_in (List.mem_of_getElem? (l := lw_tbl) (i := 1433) (by decide +kernel)) rfl
theorem gm_u1434 : Cond.arrayClass .long ∈ gm_U := gm_U_in (List.mem_of_getElem? (l := lw_tbl) (i := 1434) (by decide +kernel)) rfl
theorem gm_u1435 : Cond.arrayClass .double ∈ gm_U := gm_U_in (List.mem_of_getElem? (l := lw_tbl) (i := 1435) (by decide +kernel)) rfl
end
