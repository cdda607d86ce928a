section
-- ===== PART A: goes FIRST, ahead of the names: the tables' words, and 'selects' of the private methods out of them =====
/-- a private method of a class that the tables say can be made, by its rows of tables_1 -/
def lw_okq (q : MethodName × Nat) : Prop := (q.1.cls ≠ "java/lang/invoke/MethodHandle" ∧ q.1.cls ≠ "java/lang/invoke/VarHandle") ∧ Cond.instantiable q.1.cls q.2 ∈ tables_1 ∧ Cond.privateMethod q.1 ∈ tables_1 ∧ Cond.instanceMethod q.1 ∈ tables_1
theorem lw_p0 : lw_okq (⟨"Gimlet$Statements", "firstUnmet", "(I)I"⟩, 6) := ⟨⟨by decide +kernel, by decide +kernel⟩, List.mem_of_getElem? (i := 122) (by decide +kernel), List.mem_of_getElem? (i := 216) (by decide +kernel), List.mem_of_getElem? (i := 217) (by decide +kernel)⟩
theorem lw_p1 : lw_okq (⟨"Gimlet", "checkLetter", "(I)V"⟩, 5) := ⟨⟨by decide +kernel, by decide +kernel⟩, List.mem_of_getElem? (i := 20) (by decide +kernel), List.mem_of_getElem? (i := 229) (by decide +kernel), List.mem_of_getElem? (i := 230) (by decide +kernel)⟩
theorem lw_p2 : lw_okq (⟨"java/lang/Throwable", "fillInStackTrace", "(I)Ljava/lang/Throwable;"⟩, 6) := ⟨⟨by decide +kernel, by decide +kernel⟩, List.mem_of_getElem? (i := 273) (by decide +kernel), List.mem_of_getElem? (i := 271) (by decide +kernel), List.mem_of_getElem? (i := 272) (by decide +kernel)⟩
theorem lw_p3 : lw_okq (⟨"Gimlet$Terms", "find", "(CII)I"⟩, 6) := ⟨⟨by decide +kernel, by decide +kernel⟩, List.mem_of_getElem? (i := 28) (by decide +kernel), List.mem_of_getElem? (i := 307) (by decide +kernel), List.mem_of_getElem? (i := 308) (by decide +kernel)⟩
theorem lw_p4 : lw_okq (⟨"Gimlet", "madeOrThrow", "(I)I"⟩, 5) := ⟨⟨by decide +kernel, by decide +kernel⟩, List.mem_of_getElem? (i := 20) (by decide +kernel), List.mem_of_getElem? (i := 331) (by decide +kernel), List.mem_of_getElem? (i := 332) (by decide +kernel)⟩
theorem lw_p5 : lw_okq (⟨"Gimlet", "checkTerm", "(I)V"⟩, 5) := ⟨⟨by decide +kernel, by decide +kernel⟩, List.mem_of_getElem? (i := 20) (by decide +kernel), List.mem_of_getElem? (i := 373) (by decide +kernel), List.mem_of_getElem? (i := 374) (by decide +kernel)⟩
theorem lw_p6 : lw_okq (⟨"Gimlet", "makePair", "(CII)I"⟩, 5) := ⟨⟨by decide +kernel, by decide +kernel⟩, List.mem_of_getElem? (i := 20) (by decide +kernel), List.mem_of_getElem? (i := 401) (by decide +kernel), List.mem_of_getElem? (i := 402) (by decide +kernel)⟩
theorem lw_p7 : lw_okq (⟨"Gimlet$Terms", "leftOf", "(I)I"⟩, 6) := ⟨⟨by decide +kernel, by decide +kernel⟩, List.mem_of_getElem? (i := 28) (by decide +kernel), List.mem_of_getElem? (i := 462) (by decide +kernel), List.mem_of_getElem? (i := 463) (by decide +kernel)⟩
theorem lw_p8 : lw_okq (⟨"Gimlet$Terms", "rightOf", "(I)I"⟩, 6) := ⟨⟨by decide +kernel, by decide +kernel⟩, List.mem_of_getElem? (i := 28) (by decide +kernel), List.mem_of_getElem? (i := 466) (by decide +kernel), List.mem_of_getElem? (i := 467) (by decide +kernel)⟩
theorem lw_p9 : lw_okq (⟨"Gimlet$Terms", "headOf", "(I)C"⟩, 6) := ⟨⟨by decide +kernel, by decide +kernel⟩, List.mem_of_getElem? (i := 28) (by decide +kernel), List.mem_of_getElem? (i := 470) (by decide +kernel), List.mem_of_getElem? (i := 471) (by decide +kernel)⟩
theorem lw_p10 : lw_okq (⟨"Gimlet", "checkRegion", "(I)V"⟩, 5) := ⟨⟨by decide +kernel, by decide +kernel⟩, List.mem_of_getElem? (i := 20) (by decide +kernel), List.mem_of_getElem? (i := 495) (by decide +kernel), List.mem_of_getElem? (i := 496) (by decide +kernel)⟩
theorem lw_p11 : lw_okq (⟨"Gimlet$Terms", "reachesBelow", "(III)Z"⟩, 6) := ⟨⟨by decide +kernel, by decide +kernel⟩, List.mem_of_getElem? (i := 28) (by decide +kernel), List.mem_of_getElem? (i := 512) (by decide +kernel), List.mem_of_getElem? (i := 513) (by decide +kernel)⟩
theorem lw_p12 : lw_okq (⟨"Gimlet$Rewriter", "seek", "()V"⟩, 4) := ⟨⟨by decide +kernel, by decide +kernel⟩, List.mem_of_getElem? (i := 55) (by decide +kernel), List.mem_of_getElem? (i := 545) (by decide +kernel), List.mem_of_getElem? (i := 546) (by decide +kernel)⟩
theorem lw_p13 : lw_okq (⟨"Gimlet$Rewriter", "ruleAt", "(I)C"⟩, 4) := ⟨⟨by decide +kernel, by decide +kernel⟩, List.mem_of_getElem? (i := 55) (by decide +kernel), List.mem_of_getElem? (i := 567) (by decide +kernel), List.mem_of_getElem? (i := 568) (by decide +kernel)⟩
theorem lw_p14 : lw_okq (⟨"Gimlet$Rewriter", "ruleOfPair", "(ICC)C"⟩, 4) := ⟨⟨by decide +kernel, by decide +kernel⟩, List.mem_of_getElem? (i := 55) (by decide +kernel), List.mem_of_getElem? (i := 578) (by decide +kernel), List.mem_of_getElem? (i := 579) (by decide +kernel)⟩
theorem lw_p15 : lw_okq (⟨"Gimlet", "ruleOrThrow", "()C"⟩, 5) := ⟨⟨by decide +kernel, by decide +kernel⟩, List.mem_of_getElem? (i := 20) (by decide +kernel), List.mem_of_getElem? (i := 593) (by decide +kernel), List.mem_of_getElem? (i := 594) (by decide +kernel)⟩
def lw_privs_1 : List (MethodName × Nat) := [(⟨"Gimlet$Statements", "firstUnmet", "(I)I"⟩, 6), (⟨"Gimlet", "checkLetter", "(I)V"⟩, 5), (⟨"java/lang/Throwable", "fillInStackTrace", "(I)Ljava/lang/Throwable;"⟩, 6), (⟨"Gimlet$Terms", "find", "(CII)I"⟩, 6), (⟨"Gimlet", "madeOrThrow", "(I)I"⟩, 5), (⟨"Gimlet", "checkTerm", "(I)V"⟩, 5), (⟨"Gimlet", "makePair", "(CII)I"⟩, 5), (⟨"Gimlet$Terms", "leftOf", "(I)I"⟩, 6), (⟨"Gimlet$Terms", "rightOf", "(I)I"⟩, 6), (⟨"Gimlet$Terms", "headOf", "(I)C"⟩, 6), (⟨"Gimlet", "checkRegion", "(I)V"⟩, 5), (⟨"Gimlet$Terms", "reachesBelow", "(III)Z"⟩, 6), (⟨"Gimlet$Rewriter", "seek", "()V"⟩, 4), (⟨"Gimlet$Rewriter", "ruleAt", "(I)C"⟩, 4), (⟨"Gimlet$Rewriter", "ruleOfPair", "(ICC)C"⟩, 4), (⟨"Gimlet", "ruleOrThrow", "()C"⟩, 5)]
theorem lw_r1 : ∀ q ∈ lw_privs_1, lw_okq q := List.forall_mem_cons.mpr ⟨lw_p0, List.forall_mem_cons.mpr ⟨lw_p1, List.forall_mem_cons.mpr ⟨lw_p2, List.forall_mem_cons.mpr ⟨lw_p3, List.forall_mem_cons.mpr ⟨lw_p4, List.forall_mem_cons.mpr ⟨lw_p5, List.forall_mem_cons.mpr ⟨lw_p6, List.forall_mem_cons.mpr ⟨lw_p7, List.forall_mem_cons.mpr ⟨lw_p8, List.forall_mem_cons.mpr ⟨lw_p9, List.forall_mem_cons.mpr ⟨lw_p10, List.forall_mem_cons.mpr ⟨lw_p11, List.forall_mem_cons.mpr ⟨lw_p12, List.forall_mem_cons.mpr ⟨lw_p13, List.forall_mem_cons.mpr ⟨lw_p14, List.forall_mem_cons.mpr ⟨lw_p15, fun _ h => absurd h List.not_mem_nil⟩⟩⟩⟩⟩⟩⟩⟩⟩⟩⟩⟩⟩⟩⟩⟩
theorem lw_p16 : lw_okq (⟨"Gimlet", "rewriteOrThrow", "()V"⟩, 5) := ⟨⟨by decide +kernel, by decide +kernel⟩, List.mem_of_getElem? (i := 20) (by decide +kernel), List.mem_of_getElem? (i := 614) (by decide +kernel), List.mem_of_getElem? (i := 615) (by decide +kernel)⟩
theorem lw_p17 : lw_okq (⟨"Gimlet$Rewriter", "putRewritten", "(I)V"⟩, 4) := ⟨⟨by decide +kernel, by decide +kernel⟩, List.mem_of_getElem? (i := 55) (by decide +kernel), List.mem_of_getElem? (i := 627) (by decide +kernel), List.mem_of_getElem? (i := 628) (by decide +kernel)⟩
theorem lw_p18 : lw_okq (⟨"Gimlet$Rewriter", "putComplements", "(CII)V"⟩, 4) := ⟨⟨by decide +kernel, by decide +kernel⟩, List.mem_of_getElem? (i := 55) (by decide +kernel), List.mem_of_getElem? (i := 631) (by decide +kernel), List.mem_of_getElem? (i := 632) (by decide +kernel)⟩
theorem lw_p19 : lw_okq (⟨"Gimlet$Rewriter", "putDifferences", "(III)V"⟩, 4) := ⟨⟨by decide +kernel, by decide +kernel⟩, List.mem_of_getElem? (i := 55) (by decide +kernel), List.mem_of_getElem? (i := 635) (by decide +kernel), List.mem_of_getElem? (i := 636) (by decide +kernel)⟩
theorem lw_p20 : lw_okq (⟨"Gimlet$Rewriter", "putOtherSide", "(CIII)V"⟩, 4) := ⟨⟨by decide +kernel, by decide +kernel⟩, List.mem_of_getElem? (i := 55) (by decide +kernel), List.mem_of_getElem? (i := 639) (by decide +kernel), List.mem_of_getElem? (i := 640) (by decide +kernel)⟩
theorem lw_p21 : lw_okq (⟨"Gimlet$Terms", "makeNext", "(LGimlet$Text;I)I"⟩, 6) := ⟨⟨by decide +kernel, by decide +kernel⟩, List.mem_of_getElem? (i := 28) (by decide +kernel), List.mem_of_getElem? (i := 674) (by decide +kernel), List.mem_of_getElem? (i := 675) (by decide +kernel)⟩
theorem lw_p22 : lw_okq (⟨"Gimlet$Cubes", "joinParts", "(II)V"⟩, 3) := ⟨⟨by decide +kernel, by decide +kernel⟩, List.mem_of_getElem? (i := 93) (by decide +kernel), List.mem_of_getElem? (i := 713) (by decide +kernel), List.mem_of_getElem? (i := 714) (by decide +kernel)⟩
theorem lw_p23 : lw_okq (⟨"Gimlet$Cubes", "isInLarger", "(II)Z"⟩, 3) := ⟨⟨by decide +kernel, by decide +kernel⟩, List.mem_of_getElem? (i := 93) (by decide +kernel), List.mem_of_getElem? (i := 738) (by decide +kernel), List.mem_of_getElem? (i := 739) (by decide +kernel)⟩
theorem lw_p24 : lw_okq (⟨"Gimlet", "checkStatement", "(CII)V"⟩, 5) := ⟨⟨by decide +kernel, by decide +kernel⟩, List.mem_of_getElem? (i := 20) (by decide +kernel), List.mem_of_getElem? (i := 764) (by decide +kernel), List.mem_of_getElem? (i := 765) (by decide +kernel)⟩
theorem lw_p25 : lw_okq (⟨"Gimlet", "placesOf", "(CII)I"⟩, 5) := ⟨⟨by decide +kernel, by decide +kernel⟩, List.mem_of_getElem? (i := 20) (by decide +kernel), List.mem_of_getElem? (i := 776) (by decide +kernel), List.mem_of_getElem? (i := 777) (by decide +kernel)⟩
theorem lw_p26 : lw_okq (⟨"Gimlet", "checkGoal", "()V"⟩, 5) := ⟨⟨by decide +kernel, by decide +kernel⟩, List.mem_of_getElem? (i := 20) (by decide +kernel), List.mem_of_getElem? (i := 831) (by decide +kernel), List.mem_of_getElem? (i := 832) (by decide +kernel)⟩
theorem lw_p27 : lw_okq (⟨"Gimlet$Search", "want", "(II)V"⟩, 3) := ⟨⟨by decide +kernel, by decide +kernel⟩, List.mem_of_getElem? (i := 147) (by decide +kernel), List.mem_of_getElem? (i := 884) (by decide +kernel), List.mem_of_getElem? (i := 885) (by decide +kernel)⟩
theorem lw_p28 : lw_okq (⟨"Gimlet$Search", "fewestFrom", "(II)I"⟩, 3) := ⟨⟨by decide +kernel, by decide +kernel⟩, List.mem_of_getElem? (i := 147) (by decide +kernel), List.mem_of_getElem? (i := 896) (by decide +kernel), List.mem_of_getElem? (i := 897) (by decide +kernel)⟩
theorem lw_p29 : lw_okq (⟨"Gimlet", "leastOrThrow", "(I)I"⟩, 5) := ⟨⟨by decide +kernel, by decide +kernel⟩, List.mem_of_getElem? (i := 20) (by decide +kernel), List.mem_of_getElem? (i := 901) (by decide +kernel), List.mem_of_getElem? (i := 902) (by decide +kernel)⟩
theorem lw_p30 : lw_okq (⟨"Gimlet$Search", "canMeet", "(II)Z"⟩, 3) := ⟨⟨by decide +kernel, by decide +kernel⟩, List.mem_of_getElem? (i := 147) (by decide +kernel), List.mem_of_getElem? (i := 917) (by decide +kernel), List.mem_of_getElem? (i := 918) (by decide +kernel)⟩
theorem lw_p31 : lw_okq (⟨"Gimlet", "checkElements", "(II)V"⟩, 5) := ⟨⟨by decide +kernel, by decide +kernel⟩, List.mem_of_getElem? (i := 20) (by decide +kernel), List.mem_of_getElem? (i := 940) (by decide +kernel), List.mem_of_getElem? (i := 941) (by decide +kernel)⟩
def lw_privs_2 : List (MethodName × Nat) := [(⟨"Gimlet", "rewriteOrThrow", "()V"⟩, 5), (⟨"Gimlet$Rewriter", "putRewritten", "(I)V"⟩, 4), (⟨"Gimlet$Rewriter", "putComplements", "(CII)V"⟩, 4), (⟨"Gimlet$Rewriter", "putDifferences", "(III)V"⟩, 4), (⟨"Gimlet$Rewriter", "putOtherSide", "(CIII)V"⟩, 4), (⟨"Gimlet$Terms", "makeNext", "(LGimlet$Text;I)I"⟩, 6), (⟨"Gimlet$Cubes", "joinParts", "(II)V"⟩, 3), (⟨"Gimlet$Cubes", "isInLarger", "(II)Z"⟩, 3), (⟨"Gimlet", "checkStatement", "(CII)V"⟩, 5), (⟨"Gimlet", "placesOf", "(CII)I"⟩, 5), (⟨"Gimlet", "checkGoal", "()V"⟩, 5), (⟨"Gimlet$Search", "want", "(II)V"⟩, 3), (⟨"Gimlet$Search", "fewestFrom", "(II)I"⟩, 3), (⟨"Gimlet", "leastOrThrow", "(I)I"⟩, 5), (⟨"Gimlet$Search", "canMeet", "(II)Z"⟩, 3), (⟨"Gimlet", "checkElements", "(II)V"⟩, 5)]
theorem lw_r2 : ∀ q ∈ lw_privs_2, lw_okq q := List.forall_mem_cons.mpr ⟨lw_p16, List.forall_mem_cons.mpr ⟨lw_p17, List.forall_mem_cons.mpr ⟨lw_p18, List.forall_mem_cons.mpr ⟨lw_p19, List.forall_mem_cons.mpr ⟨lw_p20, List.forall_mem_cons.mpr ⟨lw_p21, List.forall_mem_cons.mpr ⟨lw_p22, List.forall_mem_cons.mpr ⟨lw_p23, List.forall_mem_cons.mpr ⟨lw_p24, List.forall_mem_cons.mpr ⟨lw_p25, List.forall_mem_cons.mpr ⟨lw_p26, List.forall_mem_cons.mpr ⟨lw_p27, List.forall_mem_cons.mpr ⟨lw_p28, List.forall_mem_cons.mpr ⟨lw_p29, List.forall_mem_cons.mpr ⟨lw_p30, List.forall_mem_cons.mpr ⟨lw_p31, fun _ h => absurd h List.not_mem_nil⟩⟩⟩⟩⟩⟩⟩⟩⟩⟩⟩⟩⟩⟩⟩⟩
theorem lw_p32 : lw_okq (⟨"Gimlet$Statements", "isSetOfDemands", "(I)Z"⟩, 6) := ⟨⟨by decide +kernel, by decide +kernel⟩, List.mem_of_getElem? (i := 122) (by decide +kernel), List.mem_of_getElem? (i := 949) (by decide +kernel), List.mem_of_getElem? (i := 950) (by decide +kernel)⟩
theorem lw_p33 : lw_okq (⟨"Gimlet$Statements", "placesOfSet", "(I)I"⟩, 6) := ⟨⟨by decide +kernel, by decide +kernel⟩, List.mem_of_getElem? (i := 122) (by decide +kernel), List.mem_of_getElem? (i := 953) (by decide +kernel), List.mem_of_getElem? (i := 954) (by decide +kernel)⟩
theorem lw_p34 : lw_okq (⟨"Gimlet$Statements", "allHold", "(I)Z"⟩, 6) := ⟨⟨by decide +kernel, by decide +kernel⟩, List.mem_of_getElem? (i := 122) (by decide +kernel), List.mem_of_getElem? (i := 976) (by decide +kernel), List.mem_of_getElem? (i := 977) (by decide +kernel)⟩
theorem lw_p35 : lw_okq (⟨"GimletModel", "fail", "(I)I"⟩, 23) := ⟨⟨by decide +kernel, by decide +kernel⟩, List.mem_of_getElem? (i := 988) (by decide +kernel), List.mem_of_getElem? (i := 1075) (by decide +kernel), List.mem_of_getElem? (i := 1076) (by decide +kernel)⟩
theorem lw_p36 : lw_okq (⟨"GimletModel", "makes", "(IIII)I"⟩, 23) := ⟨⟨by decide +kernel, by decide +kernel⟩, List.mem_of_getElem? (i := 988) (by decide +kernel), List.mem_of_getElem? (i := 1079) (by decide +kernel), List.mem_of_getElem? (i := 1080) (by decide +kernel)⟩
theorem lw_p37 : lw_okq (⟨"GimletModel", "know", "(III)I"⟩, 23) := ⟨⟨by decide +kernel, by decide +kernel⟩, List.mem_of_getElem? (i := 988) (by decide +kernel), List.mem_of_getElem? (i := 1083) (by decide +kernel), List.mem_of_getElem? (i := 1084) (by decide +kernel)⟩
theorem lw_p38 : lw_okq (⟨"GimletModel", "covered", "(III)I"⟩, 23) := ⟨⟨by decide +kernel, by decide +kernel⟩, List.mem_of_getElem? (i := 988) (by decide +kernel), List.mem_of_getElem? (i := 1087) (by decide +kernel), List.mem_of_getElem? (i := 1088) (by decide +kernel)⟩
theorem lw_p39 : lw_okq (⟨"GimletModel", "noTerm", "(I)Z"⟩, 23) := ⟨⟨by decide +kernel, by decide +kernel⟩, List.mem_of_getElem? (i := 988) (by decide +kernel), List.mem_of_getElem? (i := 1107) (by decide +kernel), List.mem_of_getElem? (i := 1108) (by decide +kernel)⟩
theorem lw_p40 : lw_okq (⟨"GimletModel", "pair", "(III)I"⟩, 23) := ⟨⟨by decide +kernel, by decide +kernel⟩, List.mem_of_getElem? (i := 988) (by decide +kernel), List.mem_of_getElem? (i := 1115) (by decide +kernel), List.mem_of_getElem? (i := 1116) (by decide +kernel)⟩
theorem lw_p41 : lw_okq (⟨"GimletModel", "spell", "(I)V"⟩, 23) := ⟨⟨by decide +kernel, by decide +kernel⟩, List.mem_of_getElem? (i := 988) (by decide +kernel), List.mem_of_getElem? (i := 1143) (by decide +kernel), List.mem_of_getElem? (i := 1144) (by decide +kernel)⟩
theorem lw_p42 : lw_okq (⟨"GimletModel", "write", "(I)V"⟩, 23) := ⟨⟨by decide +kernel, by decide +kernel⟩, List.mem_of_getElem? (i := 988) (by decide +kernel), List.mem_of_getElem? (i := 1147) (by decide +kernel), List.mem_of_getElem? (i := 1148) (by decide +kernel)⟩
theorem lw_p43 : lw_okq (⟨"GimletModel", "place", "()I"⟩, 23) := ⟨⟨by decide +kernel, by decide +kernel⟩, List.mem_of_getElem? (i := 988) (by decide +kernel), List.mem_of_getElem? (i := 1173) (by decide +kernel), List.mem_of_getElem? (i := 1174) (by decide +kernel)⟩
theorem lw_p44 : lw_okq (⟨"GimletModel", "ruleAt", "(I)I"⟩, 23) := ⟨⟨by decide +kernel, by decide +kernel⟩, List.mem_of_getElem? (i := 988) (by decide +kernel), List.mem_of_getElem? (i := 1177) (by decide +kernel), List.mem_of_getElem? (i := 1178) (by decide +kernel)⟩
theorem lw_p45 : lw_okq (⟨"GimletModel", "behind", "(I)I"⟩, 23) := ⟨⟨by decide +kernel, by decide +kernel⟩, List.mem_of_getElem? (i := 988) (by decide +kernel), List.mem_of_getElem? (i := 1181) (by decide +kernel), List.mem_of_getElem? (i := 1182) (by decide +kernel)⟩
theorem lw_p46 : lw_okq (⟨"GimletModel", "isSame", "(II)Z"⟩, 23) := ⟨⟨by decide +kernel, by decide +kernel⟩, List.mem_of_getElem? (i := 988) (by decide +kernel), List.mem_of_getElem? (i := 1188) (by decide +kernel), List.mem_of_getElem? (i := 1189) (by decide +kernel)⟩
theorem lw_p47 : lw_okq (⟨"GimletModel", "rewrite", "(I)Z"⟩, 23) := ⟨⟨by decide +kernel, by decide +kernel⟩, List.mem_of_getElem? (i := 988) (by decide +kernel), List.mem_of_getElem? (i := 1196) (by decide +kernel), List.mem_of_getElem? (i := 1197) (by decide +kernel)⟩
def lw_privs_3 : List (MethodName × Nat) := [(⟨"Gimlet$Statements", "isSetOfDemands", "(I)Z"⟩, 6), (⟨"Gimlet$Statements", "placesOfSet", "(I)I"⟩, 6), (⟨"Gimlet$Statements", "allHold", "(I)Z"⟩, 6), (⟨"GimletModel", "fail", "(I)I"⟩, 23), (⟨"GimletModel", "makes", "(IIII)I"⟩, 23), (⟨"GimletModel", "know", "(III)I"⟩, 23), (⟨"GimletModel", "covered", "(III)I"⟩, 23), (⟨"GimletModel", "noTerm", "(I)Z"⟩, 23), (⟨"GimletModel", "pair", "(III)I"⟩, 23), (⟨"GimletModel", "spell", "(I)V"⟩, 23), (⟨"GimletModel", "write", "(I)V"⟩, 23), (⟨"GimletModel", "place", "()I"⟩, 23), (⟨"GimletModel", "ruleAt", "(I)I"⟩, 23), (⟨"GimletModel", "behind", "(I)I"⟩, 23), (⟨"GimletModel", "isSame", "(II)Z"⟩, 23), (⟨"GimletModel", "rewrite", "(I)Z"⟩, 23)]
theorem lw_r3 : ∀ q ∈ lw_privs_3, lw_okq q := List.forall_mem_cons.mpr ⟨lw_p32, List.forall_mem_cons.mpr ⟨lw_p33, List.forall_mem_cons.mpr ⟨lw_p34, List.forall_mem_cons.mpr ⟨lw_p35, List.forall_mem_cons.mpr ⟨lw_p36, List.forall_mem_cons.mpr ⟨lw_p37, List.forall_mem_cons.mpr ⟨lw_p38, List.forall_mem_cons.mpr ⟨lw_p39, List.forall_mem_cons.mpr ⟨lw_p40, List.forall_mem_cons.mpr ⟨lw_p41, List.forall_mem_cons.mpr ⟨lw_p42, List.forall_mem_cons.mpr ⟨lw_p43, List.forall_mem_cons.mpr ⟨lw_p44, List.forall_mem_cons.mpr ⟨lw_p45, List.forall_mem_cons.mpr ⟨lw_p46, List.forall_mem_cons.mpr ⟨lw_p47, fun _ h => absurd h List.not_mem_nil⟩⟩⟩⟩⟩⟩⟩⟩⟩⟩⟩⟩⟩⟩⟩⟩
theorem lw_p48 : lw_okq (⟨"GimletModel", "copies", "(II)V"⟩, 23) := ⟨⟨by decide +kernel, by decide +kernel⟩, List.mem_of_getElem? (i := 988) (by decide +kernel), List.mem_of_getElem? (i := 1200) (by decide +kernel), List.mem_of_getElem? (i := 1201) (by decide +kernel)⟩
theorem lw_p49 : lw_okq (⟨"GimletModel", "puts", "(I)V"⟩, 23) := ⟨⟨by decide +kernel, by decide +kernel⟩, List.mem_of_getElem? (i := 988) (by decide +kernel), List.mem_of_getElem? (i := 1204) (by decide +kernel), List.mem_of_getElem? (i := 1205) (by decide +kernel)⟩
theorem lw_p50 : lw_okq (⟨"GimletModel", "learns", "(I)I"⟩, 23) := ⟨⟨by decide +kernel, by decide +kernel⟩, List.mem_of_getElem? (i := 988) (by decide +kernel), List.mem_of_getElem? (i := 1208) (by decide +kernel), List.mem_of_getElem? (i := 1209) (by decide +kernel)⟩
theorem lw_p51 : lw_okq (⟨"GimletModel", "parse", "()I"⟩, 23) := ⟨⟨by decide +kernel, by decide +kernel⟩, List.mem_of_getElem? (i := 988) (by decide +kernel), List.mem_of_getElem? (i := 1212) (by decide +kernel), List.mem_of_getElem? (i := 1213) (by decide +kernel)⟩
theorem lw_p52 : lw_okq (⟨"GimletModel", "areTerms", "(II)Z"⟩, 23) := ⟨⟨by decide +kernel, by decide +kernel⟩, List.mem_of_getElem? (i := 988) (by decide +kernel), List.mem_of_getElem? (i := 1253) (by decide +kernel), List.mem_of_getElem? (i := 1254) (by decide +kernel)⟩
theorem lw_p53 : lw_okq (⟨"GimletModel", "allowed", "()I"⟩, 23) := ⟨⟨by decide +kernel, by decide +kernel⟩, List.mem_of_getElem? (i := 988) (by decide +kernel), List.mem_of_getElem? (i := 1273) (by decide +kernel), List.mem_of_getElem? (i := 1274) (by decide +kernel)⟩
theorem lw_p54 : lw_okq (⟨"GimletModel", "assumed", "(I)I"⟩, 23) := ⟨⟨by decide +kernel, by decide +kernel⟩, List.mem_of_getElem? (i := 988) (by decide +kernel), List.mem_of_getElem? (i := 1280) (by decide +kernel), List.mem_of_getElem? (i := 1281) (by decide +kernel)⟩
theorem lw_p55 : lw_okq (⟨"GimletModel", "regionsOf", "(III)I"⟩, 23) := ⟨⟨by decide +kernel, by decide +kernel⟩, List.mem_of_getElem? (i := 988) (by decide +kernel), List.mem_of_getElem? (i := 1284) (by decide +kernel), List.mem_of_getElem? (i := 1285) (by decide +kernel)⟩
theorem lw_p56 : lw_okq (⟨"GimletModel", "hasModel", "(I)Z"⟩, 23) := ⟨⟨by decide +kernel, by decide +kernel⟩, List.mem_of_getElem? (i := 988) (by decide +kernel), List.mem_of_getElem? (i := 1288) (by decide +kernel), List.mem_of_getElem? (i := 1289) (by decide +kernel)⟩
theorem lw_p57 : lw_okq (⟨"GimletModel", "noGoal", "()Z"⟩, 23) := ⟨⟨by decide +kernel, by decide +kernel⟩, List.mem_of_getElem? (i := 988) (by decide +kernel), List.mem_of_getElem? (i := 1300) (by decide +kernel), List.mem_of_getElem? (i := 1301) (by decide +kernel)⟩
theorem lw_p58 : lw_okq (⟨"GimletModel", "isFollowing", "()Z"⟩, 23) := ⟨⟨by decide +kernel, by decide +kernel⟩, List.mem_of_getElem? (i := 988) (by decide +kernel), List.mem_of_getElem? (i := 1304) (by decide +kernel), List.mem_of_getElem? (i := 1305) (by decide +kernel)⟩
theorem lw_p59 : lw_okq (⟨"GimletModel", "counter", "()I"⟩, 23) := ⟨⟨by decide +kernel, by decide +kernel⟩, List.mem_of_getElem? (i := 988) (by decide +kernel), List.mem_of_getElem? (i := 1308) (by decide +kernel), List.mem_of_getElem? (i := 1309) (by decide +kernel)⟩
theorem lw_p60 : lw_okq (⟨"GimletModel", "goal", "()I"⟩, 23) := ⟨⟨by decide +kernel, by decide +kernel⟩, List.mem_of_getElem? (i := 988) (by decide +kernel), List.mem_of_getElem? (i := 1312) (by decide +kernel), List.mem_of_getElem? (i := 1313) (by decide +kernel)⟩
theorem lw_p61 : lw_okq (⟨"GimletModel", "noCounterexample", "()Z"⟩, 23) := ⟨⟨by decide +kernel, by decide +kernel⟩, List.mem_of_getElem? (i := 988) (by decide +kernel), List.mem_of_getElem? (i := 1329) (by decide +kernel), List.mem_of_getElem? (i := 1330) (by decide +kernel)⟩
theorem lw_p62 : lw_okq (⟨"GimletModel", "least", "()I"⟩, 23) := ⟨⟨by decide +kernel, by decide +kernel⟩, List.mem_of_getElem? (i := 988) (by decide +kernel), List.mem_of_getElem? (i := 1333) (by decide +kernel), List.mem_of_getElem? (i := 1334) (by decide +kernel)⟩
theorem lw_p63 : lw_okq (⟨"GimletModel", "choose", "(IIIII)Z"⟩, 23) := ⟨⟨by decide +kernel, by decide +kernel⟩, List.mem_of_getElem? (i := 988) (by decide +kernel), List.mem_of_getElem? (i := 1337) (by decide +kernel), List.mem_of_getElem? (i := 1338) (by decide +kernel)⟩
def lw_privs_4 : List (MethodName × Nat) := [(⟨"GimletModel", "copies", "(II)V"⟩, 23), (⟨"GimletModel", "puts", "(I)V"⟩, 23), (⟨"GimletModel", "learns", "(I)I"⟩, 23), (⟨"GimletModel", "parse", "()I"⟩, 23), (⟨"GimletModel", "areTerms", "(II)Z"⟩, 23), (⟨"GimletModel", "allowed", "()I"⟩, 23), (⟨"GimletModel", "assumed", "(I)I"⟩, 23), (⟨"GimletModel", "regionsOf", "(III)I"⟩, 23), (⟨"GimletModel", "hasModel", "(I)Z"⟩, 23), (⟨"GimletModel", "noGoal", "()Z"⟩, 23), (⟨"GimletModel", "isFollowing", "()Z"⟩, 23), (⟨"GimletModel", "counter", "()I"⟩, 23), (⟨"GimletModel", "goal", "()I"⟩, 23), (⟨"GimletModel", "noCounterexample", "()Z"⟩, 23), (⟨"GimletModel", "least", "()I"⟩, 23), (⟨"GimletModel", "choose", "(IIIII)Z"⟩, 23)]
theorem lw_r4 : ∀ q ∈ lw_privs_4, lw_okq q := List.forall_mem_cons.mpr ⟨lw_p48, List.forall_mem_cons.mpr ⟨lw_p49, List.forall_mem_cons.mpr ⟨lw_p50, List.forall_mem_cons.mpr ⟨lw_p51, List.forall_mem_cons.mpr ⟨lw_p52, List.forall_mem_cons.mpr ⟨lw_p53, List.forall_mem_cons.mpr ⟨lw_p54, List.forall_mem_cons.mpr ⟨lw_p55, List.forall_mem_cons.mpr ⟨lw_p56, List.forall_mem_cons.mpr ⟨lw_p57, List.forall_mem_cons.mpr ⟨lw_p58, List.forall_mem_cons.mpr ⟨lw_p59, List.forall_mem_cons.mpr ⟨lw_p60, List.forall_mem_cons.mpr ⟨lw_p61, List.forall_mem_cons.mpr ⟨lw_p62, List.forall_mem_cons.mpr ⟨lw_p63, fun _ h => absurd h List.not_mem_nil⟩⟩⟩⟩⟩⟩⟩⟩⟩⟩⟩⟩⟩⟩⟩⟩
theorem lw_p64 : lw_okq (⟨"GimletModel", "ways", "(I)J"⟩, 23) := ⟨⟨by decide +kernel, by decide +kernel⟩, List.mem_of_getElem? (i := 988) (by decide +kernel), List.mem_of_getElem? (i := 1354) (by decide +kernel), List.mem_of_getElem? (i := 1355) (by decide +kernel)⟩
def lw_privs_5 : List (MethodName × Nat) := [(⟨"GimletModel", "ways", "(I)J"⟩, 23)]
theorem lw_r5 : ∀ q ∈ lw_privs_5, lw_okq q := List.forall_mem_cons.mpr ⟨lw_p64, fun _ h => absurd h List.not_mem_nil⟩
def lw_privs : List (MethodName × Nat) := lw_privs_1 ++ (lw_privs_2 ++ (lw_privs_3 ++ (lw_privs_4 ++ (lw_privs_5))))
def lw_tbl : List Cond := k2_sels lw_privs ++ tables_1
theorem lw_privs_ok : ∀ q ∈ lw_privs, lw_okq q := by
  show ∀ q ∈ lw_privs_1 ++ (lw_privs_2 ++ (lw_privs_3 ++ (lw_privs_4 ++ (lw_privs_5)))), lw_okq q
  exact List.forall_mem_append.mpr ⟨lw_r1, List.forall_mem_append.mpr ⟨lw_r2, List.forall_mem_append.mpr ⟨lw_r3, List.forall_mem_append.mpr ⟨lw_r4, lw_r5⟩⟩⟩⟩
/-- the streams that the claim lets the run draw from -/
abbrev lw_cs : List Choice := [Jvm.Choice.named "NaN.bits"]
theorem lw_bits : nanBits ∈ lw_cs := by first | decide | exact List.mem_cons_self | simp [lw_cs, nanBits]
-- ===== end of PART A; then your names; then what follows =====
/-! ===== BEGIN words of one list among another's, by their places ===== -/
theorem goodIn_r {big : List Cond} (ws : List Cond) (ps : List Nat) (hp : ws = ps.filterMap (fun i => big[i]?)) (h : ws.all goodWord = true) : GoodIn big ws := by
  intro w hw
  have h1 := List.all_eq_true.mp h w hw
  rw [hp] at hw
  obtain ⟨i, -, hi⟩ := List.mem_filterMap.mp hw
  have hm : w ∈ big := by first | exact List.mem_of_getElem? hi | exact List.getElem?_mem hi
  exact ⟨hm, good_of_word h1⟩
theorem goodIn_app {big a b : List Cond} (ha : GoodIn big a) (hb : GoodIn big b) : GoodIn big (a ++ b) := fun w h => (List.mem_append.mp h).elim (ha w) (hb w)
theorem goodIn_ca {big a b : List Cond} {c : Cond} (ha : GoodIn big (c :: a)) (hb : GoodIn big b) : GoodIn big (c :: (a ++ b)) := fun w h => (List.mem_cons.mp h).elim (fun e => ha w (List.mem_cons.mpr (Or.inl e))) (fun h => (List.mem_append.mp h).elim (fun h => ha w (List.mem_cons.mpr (Or.inr h))) (hb w))
theorem goodIn_sub {big ws : List Cond} (hm : ∀ w ∈ ws, w ∈ big) (h : ws.all goodWord = true) : GoodIn big ws := fun w hw => ⟨hm w hw, good_of_word (List.all_eq_true.mp h w hw)⟩
/-! ===== END ===== -/

/-! ===== BEGIN exceptions that leave a method, and their catching by the caller (launches without stack traces) ===== -/
section VXA
/-! The laws vx_back, vx_callV, vx_callS, vx_callSW, vx_throw0, vx_throwS follow proofs of the library, with one case more: JvmDerived/Free/Laws.lean (Back.of_free), Shelf42/LK1.lean (callV, callS), Shelf/KitTraced.lean (throwNew0V, throwNewS). -/
/-- where a method has thrown q: the class by its name, the cell, what was written, the world -/
def vx_T (XC : String → State → State → Prop) (st : State) (q : Addr) (t : State) (mc ms : Nat) (free : Addr → Prop) : Prop :=
  ∃ (E : String) (ce : Cell) (L : List Loc), XC E st t ∧ t.heap[q]? = some ce ∧ ce.vm = .none ∧ st.vm.findClass E = some ce.cls ∧ st.WarmedH t.vm ∧ st.sameButNew ({ t with vm := st.vm } : State) L mc ms ∧ ∀ z ∈ L, free z.base
def vx_Q (Qc : Array Value → State → Outcome → State → Prop) (XC : String → State → State → Prop) (mc ms : Nat) (free : Addr → Prop) : Array Value → State → Outcome → State → Prop := fun a st o t =>
  (Qc a st o t ∧ ∃ L, FrameEnd st o t L mc ms ∧ ∀ q ∈ L, free q.base) ∨ ∃ q, o = .threw q ∧ vx_T XC st q t mc ms free
/-- a callee that returns or throws -/
def vx_Met (l : Launch) (y : MethodName) (ws : List Cond) (rm : Room) (Pc : Array Value → State → Prop) (Qc : Array Value → State → Outcome → State → Prop) (XC : String → State → State → Prop) (mc ms : Nat) (free : Addr → Prop) : Prop :=
  MetFree l y (headSpec ws rm) Pc (fun _ _ _ _ _ => True) (vx_Q Qc XC mc ms free)
def vx_Post (XC : String → State → State → Prop) (mc ms : Nat) (free : Addr → Prop) : Pt → Array Value → Addr → Pt → Prop := fun A a q B =>
  ∃ (g : JFrame) (mk : MethodId) (t : State) (L : List Loc) (E : String) (ce : Cell), B.U.heap = t.heap ∧ B.U.vm = t.vm ∧ XC E (A.U.calling g mk a) t ∧ t.heap[q]? = some ce ∧ ce.vm = .none ∧ A.U.vm.findClass E = some ce.cls ∧ B.locs = A.locs ++ L ∧ (∀ z ∈ L, free z.base) ∧ B.cells = A.cells + mc ∧ B.slots = A.slots + ms
def vx_Back (l : Launch) (R : Room) (p : Program) (e : Env) (below : List Frame) (s : State) (sargs : Array Value) (y : MethodName) (len W9 : Nat)
    (Pre : Pt → Array Value → Prop) (Post : Pt → Array Value → Option Value → Pt → Prop) (PostX : Pt → Array Value → Addr → Pt → Prop) : Prop :=
  ∀ (m : MethodId) (meth : Method) (c : Code) (A : Pt) (g : JFrame) (ig : Instr) (mk : MethodId) (a : Array Value),
    Stand p l e R s m sargs below meth c A.U A.locs A.cells A.slots → g.method = m → g.locals.size = c.maxLocals → decode c.code g.pc = .ok (ig, len) →
    2 * g.monitorRoom + (g.stack.map fun v => v.category).sum ≤ W9 → A.U.methodNamed? y = some mk → Pre A a →
    (∃ (v : Option Value) (B : Pt), Stand p l e R s m sargs below meth c B.U B.locs B.cells B.slots ∧ Post A a v B ∧
      Steps p.tables e below (doInvoke e (A.U.setTop g) [] mk a).1 (B.U.setTop { g with pc := g.pc + len, stack := v.toList ++ g.stack })) ∨
    (∃ (q : Addr) (B : Pt), Stand p l e R s m sargs below meth c B.U B.locs B.cells B.slots ∧ PostX A a q B ∧
      Steps p.tables e below (doInvoke e (A.U.setTop g) [] mk a).1 ((B.U.setTop g).pushFrame (.throwing q)))
section Payer
variable {l : Launch} {R : Room} {p : Program} {e : Env} {below : List Frame} {s : State} {sargs : Array Value} {y : MethodName} {len W9 : Nat}
theorem vx_back {ws : List Cond} {rm : Room} {Pc : Array Value → State → Prop} {Qc : Array Value → State → Outcome → State → Prop} {XC : String → State → State → Prop} {mc ms : Nat} {free : Addr → Prop} {bytes : ByteArray} {maxL : Nat} {ret : Option FieldType}
    (hM : vx_Met l y ws rm Pc Qc XC mc ms free) (hblind : FrameBlind Pc) (hrc : rm.cells = mc) (hrs : rm.slots = ms)
    (hframes : rm.frames + 1 ≤ R.frames) (hlocals : W9 + (maxL + 11) + rm.locals ≤ R.locals)
    (hws : ∀ w ∈ ws, ∀ a' U, s.WarmedH U.vm → w.before a' U = true) (hcode : Cond.code y bytes maxL ret ∈ ws) (hinit : ∀ a' U, s.WarmedH U.vm → (Cond.initialized y.cls).before a' U = true) :
    vx_Back l R p e below s sargs y len W9 (PreOf R mc ms Pc) (PostOf Qc mc ms free) (vx_Post XC mc ms free) := by
  intro m meth c A g ig mk a X hg hsize hdg hW hn hp
  have h1 : (headSpec ws rm).pre.before a A.U = true := atoms_intro fun w hw => hws w hw _ _ X.warmed
  have h2 : (Cond.code y bytes maxL ret).before a A.U = true := hws _ hcode _ _ X.warmed
  have h3 : (Cond.initialized y.cls).before a A.U = true := hinit _ _ X.warmed
  have h4 : A.cells + (headSpec ws rm).room.cells ≤ R.cells := by rw [show (headSpec ws rm).room.cells = mc from hrc]; exact hp.1
  have h5 : A.slots + (headSpec ws rm).room.slots ≤ R.slots := by rw [show (headSpec ws rm).room.slots = ms from hrs]; exact hp.2.1
  have hPc : Pc a (A.U.calling g mk a) := hblind _ _ _ _ hp.2.2
  obtain ⟨U, Ls, c0, s0⟩ := A
  dsimp only [Pt.U, Pt.locs, Pt.cells, Pt.slots] at h1 h2 h3 h4 h5 X hn hPc ⊢
  obtain ⟨methY, cY, hmY, hcY, -, hlY, -, -, -, -⟩ := Cond.code_spec hn h2
  obtain ⟨kY, hkY, -⟩ := className_of_methodNamed hn
  have hinitY : kY.init = .initialized := Cond.initialized_spec (findClass_of_methodNamed hn) hkY h3
  have h : At U g.method c below := by rw [hg]; exact X.here
  have hlocals9 : W9 + (maxL + 11) + (headSpec ws rm).room.locals ≤ R.locals := hlocals
  have happ : (headSpec ws rm).appliesLoose y e.platform (U.calling g mk a) = true :=
    Spec.appliesLoose_calling (g := g) h hdg hn hkY hinitY
      (X.room_calling (g := g) (R' := (headSpec ws rm).room) hsize hmY hcY hframes (by rw [hlY]; omega) h4 h5) h1
  obtain ⟨mid, hmid⟩ := h.above
  have hfr : (U.setTop g).frames = (.java g :: mid) ++ below := by rw [State.frames_setTop' g h.top, hmid]; rfl
  obtain ⟨o, s₂, hsteps, -, hend, hq⟩ := Steps.callFree hM p X.admits X.cas X.clock (acts := []) hfr happ hPc trivial
  have hq' : vx_Q Qc XC mc ms free a (U.calling g mk a) o s₂ := hq
  rw [State.frames_setTop' g h.top] at hend
  obtain ⟨g₀, hg0⟩ := Option.isSome_iff_exists.mp h.top
  obtain ⟨r, hr⟩ := State.topJava?_eq_some.mp hg0
  have hr' : (({ U with heap := s₂.heap, slotsUsed := s₂.slotsUsed } : State).setVm s₂.vm).frames = .java g₀ :: r := hr
  rcases hq' with ⟨hqc, L, hfe, hL⟩ | ⟨q, rfl, E, ce, L, hx, hce, hcv, hcl, hW₂, hsm, hL⟩
  · obtain ⟨⟨v, rfl⟩, hW₂, e2, q2, q3, q4, q5, q6⟩ := id hfe
    have e3 : s₂ = ({ (U.calling g mk a).setFrames s₂.frames with heap := s₂.heap, slotsUsed := s₂.slotsUsed } : State).setVm s₂.vm := by
      have : s₂ = ({ s₂ with vm := (U.calling g mk a).vm } : State).setVm s₂.vm := rfl
      rw [e2] at this
      exact this
    obtain ⟨c₂, i₂, len₂, hc₂, hd₂, hf₂⟩ := hend
    have hW' : U.WarmedH s₂.vm := hW₂
    have hcc : c₂ = c := by
      have h1 : s₂.code? g.method = U.code? g.method := by
        rw [State.code?_eq, State.code?_eq, hW'.alike.method?]
      exact Option.some.inj (hc₂.symm.trans (h1.trans h.code))
    subst hcc
    have hlen : len₂ = len := by rw [hdg] at hd₂; cases hd₂; rfl
    subst hlen
    have hs₂ : s₂ = (({ U with heap := s₂.heap, slotsUsed := s₂.slotsUsed } : State).setVm s₂.vm).setTop { g with pc := g.pc + len₂, stack := v.toList ++ g.stack } := by
      refine e3.trans ?_
      rw [hf₂, State.calling_eq h.top, State.setFrames_setFrames, State.setTop_of_frames _ hr', hr]
      rfl
    have hsame : U.sameButNew ({ U with heap := s₂.heap, slotsUsed := s₂.slotsUsed } : State) L mc ms := by
      refine ⟨?_, q2, q3, q4, q5, q6⟩
      obtain ⟨t, ht, -⟩ := State.frames_cons hr
      show ({ U with heap := s₂.heap, slotsUsed := s₂.slotsUsed } : State) = { U.setFrames U.frames with heap := s₂.heap, slotsUsed := s₂.slotsUsed }
      rw [State.setFrames_self ht]
    subst hg
    refine Or.inl ⟨v, ⟨(({ U with heap := s₂.heap, slotsUsed := s₂.slotsUsed } : State).setVm s₂.vm), Ls ++ L, c0 + mc, s0 + ms⟩,
      ⟨X.admits, X.cas, X.clock, X.frames, X.room, X.hears, X.method, X.code, (X.here.setHeapUsed s₂.heap s₂.slotsUsed).setVm hW'.alike, X.tail, State.WarmedH.trans X.warmed hW', X.limits, X.bytes, X.same.trans (hsame.setVm s.vm)⟩,
      ⟨g, mk, s₂, L, rfl, rfl, hqc, rfl, hL, rfl, rfl⟩, ?_⟩
    show Steps p.tables e below _ ((({ U with heap := s₂.heap, slotsUsed := s₂.slotsUsed } : State).setVm s₂.vm).setTop { g with pc := g.pc + len₂, stack := v.toList ++ g.stack })
    rw [← hs₂]
    exact hsteps
  · obtain ⟨e2, q2, q3, q4, q5, q6⟩ := id hsm
    have e3 : s₂ = ({ (U.calling g mk a).setFrames s₂.frames with heap := s₂.heap, slotsUsed := s₂.slotsUsed } : State).setVm s₂.vm := by
      have : s₂ = ({ s₂ with vm := (U.calling g mk a).vm } : State).setVm s₂.vm := rfl
      rw [e2] at this
      exact this
    have hf₂ : s₂.frames = .throwing q :: .java g :: U.frames.tail := hend
    have hW' : U.WarmedH s₂.vm := hW₂
    have hs₂ : s₂ = ((({ U with heap := s₂.heap, slotsUsed := s₂.slotsUsed } : State).setVm s₂.vm).setTop g).pushFrame (.throwing q) := by
      refine e3.trans ?_
      rw [hf₂, State.calling_eq h.top, State.setFrames_setFrames, State.pushFrame, State.frames_setTop _ hr', State.setTop_of_frames _ hr', State.setFrames_setFrames, hr]
      rfl
    have hsame : U.sameButNew ({ U with heap := s₂.heap, slotsUsed := s₂.slotsUsed } : State) L mc ms := by
      refine ⟨?_, q2, q3, q4, q5, q6⟩
      obtain ⟨t, ht, -⟩ := State.frames_cons hr
      show ({ U with heap := s₂.heap, slotsUsed := s₂.slotsUsed } : State) = { U.setFrames U.frames with heap := s₂.heap, slotsUsed := s₂.slotsUsed }
      rw [State.setFrames_self ht]
    subst hg
    refine Or.inr ⟨q, ⟨(({ U with heap := s₂.heap, slotsUsed := s₂.slotsUsed } : State).setVm s₂.vm), Ls ++ L, c0 + mc, s0 + ms⟩,
      ⟨X.admits, X.cas, X.clock, X.frames, X.room, X.hears, X.method, X.code, (X.here.setHeapUsed s₂.heap s₂.slotsUsed).setVm hW'.alike, X.tail, State.WarmedH.trans X.warmed hW', X.limits, X.bytes, X.same.trans (hsame.setVm s.vm)⟩,
      ⟨g, mk, s₂, L, E, ce, rfl, rfl, hx, hce, hcv, hcl, rfl, hL, rfl, rfl⟩, ?_⟩
    show Steps p.tables e below _ (((({ U with heap := s₂.heap, slotsUsed := s₂.slotsUsed } : State).setVm s₂.vm).setTop g).pushFrame (.throwing q))
    rw [← hs₂]
    exact hsteps
end Payer
section Calls
variable {p : Program} {l : Launch} {e : Env} {R : Room} {s : State} {m : MethodId} {args : Array Value} {below : List Frame} {meth : Method} {c : Code} {T : State} {locs : List Loc} {cells slots : Nat}
theorem vx_callV (X : Stand p l e R s m args below meth c T locs cells slots) (hexec : p.tables.exec = Jvm.exec) {own C : String} {index : Nat} {y : MethodName} {bytes : ByteArray} {maxL : Nat} {ret : Option FieldType}
    (hown : s.vm.findClass own = some m.cls) (hlink : (Cond.methodLink own index y).before args s = true) (hinst : (Cond.instanceMethod y).before args s = true) (hsel : (Cond.selects C y y).before args s = true)
    (hcode : (Cond.code y bytes maxL ret).before args s = true) (hy : y.cls ≠ "java/lang/invoke/MethodHandle" ∧ y.cls ≠ "java/lang/invoke/VarHandle")
    {W9 : Nat} {Pre : Pt → Array Value → Prop} {Post : Pt → Array Value → Option Value → Pt → Prop} {PostX : Pt → Array Value → Addr → Pt → Prop} (hK : vx_Back l R p e below s args y 3 W9 Pre Post PostX)
    {b : Addr} {cellB : Cell} (hcell : T.heap[b]? = some cellB) (hobj : cellB.vm.isStatics = false) (hcls : s.vm.findClass C = some cellB.cls)
    {g : JFrame} (hg : g.method = m) (hsize : g.locals.size = c.maxLocals) {argsL rest : List Value} (hlen : ∀ sig, parseMethodDescriptor y.desc = some sig → argsL.length = sig.parameters.length)
    (hstack : g.stack = argsL.reverse ++ .ref b :: rest) (hW : 2 * g.monitorRoom + (rest.map fun v => v.category).sum ≤ W9) (hdg : decode c.code g.pc = .ok (.invokevirtual index, 3))
    (hpre : ∀ vm₁, s.WarmedH vm₁ → Pre ⟨T.setVm vm₁, locs, cells, slots⟩ (Value.ref b :: argsL).toArray) :
    (∃ (v : Option Value) (vm₁ : Vm) (B : Pt), s.WarmedH vm₁ ∧ Stand p l e R s m args below meth c B.U B.locs B.cells B.slots ∧ Post ⟨T.setVm vm₁, locs, cells, slots⟩ (Value.ref b :: argsL).toArray v B ∧
      ∀ target, Steps p.tables e below (B.U.setTop { g with pc := g.pc + 3, stack := v.toList ++ rest }) target → Steps p.tables e below (T.setTop g) target) ∨
    (∃ (q : Addr) (vm₁ : Vm) (B : Pt), s.WarmedH vm₁ ∧ Stand p l e R s m args below meth c B.U B.locs B.cells B.slots ∧ PostX ⟨T.setVm vm₁, locs, cells, slots⟩ (Value.ref b :: argsL).toArray q B ∧
      Steps p.tables e below (T.setTop g) ((B.U.setTop { g with stack := rest }).pushFrame (.throwing q))) := by
  obtain ⟨mk, methM, hnamed, hmethM, hstM, habM⟩ := Cond.instanceMethod_spec hinst
  obtain ⟨methM', cM, hmethM', -, -, -, -, -, -, hsigM⟩ := Cond.code_spec hnamed hcode
  cases hmethM.symm.trans hmethM'
  obtain ⟨c2, r2, m2, q1, q2, q3, q4, kP, hkP, hkPi⟩ := Cond.selects_spec hsel
  cases hcls.symm.trans q1
  cases (State.methodFound?_of_named hnamed hy).symm.trans q2
  cases hnamed.symm.trans q3
  have hselP : selectMethod e.platform s.vm cellB.cls mk = .method mk := by rw [Launch.admits_selectMethod X.admits]; exact q4
  obtain ⟨vm₁, X₁, hstep₁⟩ := X.invokevirtual hexec hown hlink hnamed hmethM hstM hkP hkPi hy (a := b) (cell := cellB) hcell
    (fun z h => by rw [h] at hobj; cases hobj) hselP hmethM habM hkP hkPi (g := g) hg (argsL := argsL) (rest := rest) (hlen _ hsigM) hstack hdg
  rcases hK m meth c ⟨T.setVm vm₁, locs, cells, slots⟩ { g with stack := rest } (.invokevirtual index) mk (Value.ref b :: argsL).toArray X₁ hg hsize hdg hW (X₁.named hnamed) (hpre vm₁ X₁.warmed) with ⟨v, B, X', hpost, hsteps⟩ | ⟨q, B, X', hpost, hsteps⟩
  · exact Or.inl ⟨v, vm₁, B, X₁.warmed, X', hpost, fun target h => hstep₁ _ fun acts => by rw [doInvoke_state]; exact hsteps.trans h⟩
  · exact Or.inr ⟨q, vm₁, B, X₁.warmed, X', hpost, hstep₁ _ fun acts => by rw [doInvoke_state]; exact hsteps⟩
theorem vx_callS (X : Stand p l e R s m args below meth c T locs cells slots) (hexec : p.tables.exec = Jvm.exec) {own : String} {index : Nat} {y : MethodName} {bytes : ByteArray} {maxL : Nat} {ret : Option FieldType}
    (hown : s.vm.findClass own = some m.cls) (hlink : (Cond.methodLink own index y).before args s = true) (hstat : (Cond.static y).before args s = true) (hinit : (Cond.initialized y.cls).before args s = true)
    (hcode : (Cond.code y bytes maxL ret).before args s = true) (hy : y.cls ≠ "java/lang/invoke/MethodHandle" ∧ y.cls ≠ "java/lang/invoke/VarHandle")
    {W9 : Nat} {Pre : Pt → Array Value → Prop} {Post : Pt → Array Value → Option Value → Pt → Prop} {PostX : Pt → Array Value → Addr → Pt → Prop} (hK : vx_Back l R p e below s args y 3 W9 Pre Post PostX)
    {g : JFrame} (hg : g.method = m) (hsize : g.locals.size = c.maxLocals) {argsL rest : List Value} (hlen : ∀ sig, parseMethodDescriptor y.desc = some sig → argsL.length = sig.parameters.length)
    (hstack : g.stack = argsL.reverse ++ rest) (hW : 2 * g.monitorRoom + (rest.map fun v => v.category).sum ≤ W9) (hdg : decode c.code g.pc = .ok (.invokestatic index, 3))
    (hpre : ∀ vm₁, s.WarmedH vm₁ → Pre ⟨T.setVm vm₁, locs, cells, slots⟩ argsL.toArray) :
    (∃ (v : Option Value) (vm₁ : Vm) (B : Pt), s.WarmedH vm₁ ∧ Stand p l e R s m args below meth c B.U B.locs B.cells B.slots ∧ Post ⟨T.setVm vm₁, locs, cells, slots⟩ argsL.toArray v B ∧
      ∀ target, Steps p.tables e below (B.U.setTop { g with pc := g.pc + 3, stack := v.toList ++ rest }) target → Steps p.tables e below (T.setTop g) target) ∨
    (∃ (q : Addr) (vm₁ : Vm) (B : Pt), s.WarmedH vm₁ ∧ Stand p l e R s m args below meth c B.U B.locs B.cells B.slots ∧ PostX ⟨T.setVm vm₁, locs, cells, slots⟩ argsL.toArray q B ∧
      Steps p.tables e below (T.setTop g) ((B.U.setTop { g with stack := rest }).pushFrame (.throwing q))) := by
  obtain ⟨mk, hnamed⟩ := Cond.code_named hcode
  obtain ⟨methM, cM, hmethM, -, -, -, -, -, -, hsigM⟩ := Cond.code_spec hnamed hcode
  have hstatic : methM.isStatic = true := Cond.static_spec hnamed hmethM hstat
  obtain ⟨kP, hkP, -⟩ := className_of_methodNamed hnamed
  have hinitP : kP.init = .initialized := Cond.initialized_spec (findClass_of_methodNamed hnamed) hkP hinit
  obtain ⟨vm₁, X₁, hstep₁⟩ := X.invokestatic hexec hown hlink hnamed hmethM hstatic hkP hinitP hy (g := g) hg (argsL := argsL) (rest := rest) (hlen _ hsigM) hstack hdg
  rcases hK m meth c ⟨T.setVm vm₁, locs, cells, slots⟩ { g with stack := rest } (.invokestatic index) mk argsL.toArray X₁ hg hsize hdg hW (X₁.named hnamed) (hpre vm₁ X₁.warmed) with ⟨v, B, X', hpost, hsteps⟩ | ⟨q, B, X', hpost, hsteps⟩
  · exact Or.inl ⟨v, vm₁, B, X₁.warmed, X', hpost, fun target h => hstep₁ _ fun acts => by rw [doInvoke_state]; exact hsteps.trans h⟩
  · exact Or.inr ⟨q, vm₁, B, X₁.warmed, X', hpost, hstep₁ _ fun acts => by rw [doInvoke_state]; exact hsteps⟩
end Calls
theorem vx_cls {s : State} {T : State} {vm₁ : Vm} {E : String} {k : ClassId} (hW : s.WarmedH vm₁) (h : (T.setVm vm₁).vm.findClass E = some k) : s.vm.findClass E = some k := by
  have h1 : vm₁.findClass E = some k := h
  rw [hW.alike.findClass] at h1
  exact h1
/-- the method's frame g, with q thrown over it -/
def vx_W (p : Program) (l : Launch) (e : Env) (R : Room) (s : State) (m : MethodId) (args : Array Value) (below : List Frame) (meth : Method) (c : Code) (H : Heap) (locs : List Loc) (cells slots : Nat) (Q : State → Prop) (g : JFrame) (q : Addr) : Prop :=
  ∀ T : State, T.heap = H → Stand p l e R s m args below meth c T locs cells slots → ∃ t, Steps p.tables e below ((T.setTop g).pushFrame (.throwing q)) t ∧ Q t
def vx_Run (p : Program) (l : Launch) (e : Env) (R : Room) (s : State) (m : MethodId) (args : Array Value) (below : List Frame) (meth : Method) (c : Code) (H : Heap) (locs : List Loc) (cells slots mc ms : Nat) (g : JFrame) (rest : List Value) (Qa : State → Outcome → State → Prop) (XC : String → State → State → Prop) (free : Addr → Prop) : Prop :=
  ∀ T : State, T.heap = H → Stand p l e R s m args below meth c T locs cells slots →
    (∃ (v : Option Value) (st₀ t T' : State) (L : List Loc), st₀.heap = H ∧ Stand p l e R s m args below meth c T' (locs ++ L) (cells + mc) (slots + ms) ∧ (∀ q ∈ L, free q.base) ∧ T'.heap = t.heap ∧ T'.vm = t.vm ∧ Qa st₀ (.returned v) t ∧
      Goes p e below T g T' { g with pc := g.pc + 3, stack := v.toList ++ rest }) ∨
    (∃ (q : Addr) (st₀ t T' : State) (L : List Loc) (E : String) (ce : Cell), st₀.heap = H ∧ Stand p l e R s m args below meth c T' (locs ++ L) (cells + mc) (slots + ms) ∧ (∀ z ∈ L, free z.base) ∧ T'.heap = t.heap ∧ T'.vm = t.vm ∧ XC E st₀ t ∧ t.heap[q]? = some ce ∧ ce.vm = .none ∧ s.vm.findClass E = some ce.cls ∧
      Steps p.tables e below (T.setTop g) ((T'.setTop { g with stack := rest }).pushFrame (.throwing q)))
def vx_X {S : Type} (px : S → Prop) (B : String → S → State → Prop) (A : Nat → Prop) : String → State → State → Prop := fun E st t => ∃ u : S, px u ∧ B E u t ∧ va_F A st t
section Runs
variable {p : Program} {l : Launch} {e : Env} {R : Room} {s : State} {m : MethodId} {args : Array Value} {below : List Frame} {meth : Method} {c : Code} {H : Heap} {locs : List Loc} {cells slots : Nat}
variable {y : MethodName} {bytes cc : ByteArray} {maxL nL mc ms n index : Nat} {ret : Option FieldType} {ws : List Cond} {rm : Room} {Pc : Array Value → State → Prop} {Qc : Array Value → State → Outcome → State → Prop} {XC : String → State → State → Prop} {free : Addr → Prop} {Ts : List Cond} {own C : String} {b : Addr} {As rest : List Value} {g : JFrame}
theorem vx_callBack (cb : CallB R s args own index y bytes maxL ret ws rm mc ms n) (hM : vx_Met l y ws rm Pc Qc XC mc ms free) (hbl : FrameBlind Pc) : vx_Back l R p e below s args y 3 8 (PreOf R mc ms Pc) (PostOf Qc mc ms free) (vx_Post XC mc ms free) := by
  obtain ⟨hrc, hrs, hfr, hlo, hws, hcw, -, hini, -⟩ := cb
  exact vx_back (bytes := bytes) (maxL := maxL) (ret := ret) hM hbl hrc hrs hfr hlo hws hcw (fun a' U hW => word_at hW (Or.inl (by first | rfl | simp [Cond.onTables, Cond.keeps, Cond.steady])) hini)
theorem vx_runV (S : CallFix p m c cc nL s args Ts own) (hM : vx_Met l y ws rm Pc Qc XC mc ms free) (cw : CallW R s args own C index y bytes maxL ret ws rm mc ms n) (hp : PreV s H C b Pc As)
    (hg : g.method = m) (hn : As.length = n) (hsize : g.locals.size = nL) (hstack : g.stack = As.reverse ++ .ref b :: rest) (hW : 2 * g.monitorRoom + (rest.map fun v => v.category).sum ≤ 8) (hdg : decode cc g.pc = .ok (.invokevirtual index, 3)) (hf : cells + mc ≤ R.cells ∧ slots + ms ≤ R.slots) :
    vx_Run p l e R s m args below meth c H locs cells slots mc ms g rest (Qc (Value.ref b :: As).toArray) XC free := by
  have hK : vx_Back l R p e below s args y 3 8 (PreOf R mc ms Pc) (PostOf Qc mc ms free) (vx_Post XC mc ms free) := vx_callBack cw.1 hM hp.1
  obtain ⟨⟨-, -, -, -, -, -, hcode, -, hy, hlen, hl⟩, hin, hse⟩ := cw
  obtain ⟨hx, hb, hml, ho, -⟩ := S
  obtain ⟨-, ⟨cellB, hcB, hoB, hclB⟩, hPc⟩ := hp
  intro T hT X
  rcases vx_callV X hx (C := C) (bytes := bytes) (maxL := maxL) (ret := ret) ho hl hin hse hcode hy hK (by rw [hT]; exact hcB) hoB hclB hg (hsize.trans hml.symm) (argsL := As) (rest := rest) (fun sig h => hn.trans (hlen sig h)) hstack hW (by rw [hb]; exact hdg)
    (fun vm₁ hW₁ => ⟨hf.1, hf.2, hPc (T.setVm vm₁) hT hW₁⟩) with ⟨v, vm₁, ⟨U', l2, c2, s2⟩, hW₁, X', ⟨g', mk, t, L, e1, e2, hq, h1, hL, h2, h3⟩, st⟩ | ⟨q, vm₁, ⟨U', l2, c2, s2⟩, hW₁, X', ⟨g', mk, t, L, E, ce, e1, e2, hq, hce, hcv, hcl, h1, hL, h2, h3⟩, st⟩
  · dsimp only [Pt.U, Pt.locs, Pt.cells, Pt.slots] at X' e1 e2 h1 h2 h3 st
    subst h1; subst h2; subst h3
    exact Or.inl ⟨v, (T.setVm vm₁).calling g' mk (Value.ref b :: As).toArray, t, U', L, hT, X', hL, e1, e2, hq, st⟩
  · dsimp only [Pt.U, Pt.locs, Pt.cells, Pt.slots] at X' e1 e2 h1 h2 h3 st hcl
    subst h1; subst h2; subst h3
    exact Or.inr ⟨q, (T.setVm vm₁).calling g' mk (Value.ref b :: As).toArray, t, U', L, E, ce, hT, X', hL, e1, e2, hq, hce, hcv, vx_cls hW₁ hcl, st⟩
theorem vx_runS (S : CallFix p m c cc nL s args Ts own) (hM : vx_Met l y ws rm Pc Qc XC mc ms free) (cw : CallB R s args own index y bytes maxL ret ws rm mc ms n ∧ (Cond.static y).before args s = true) (hp : PreS s H Pc As)
    (hg : g.method = m) (hn : As.length = n) (hsize : g.locals.size = nL) (hstack : g.stack = As.reverse ++ rest) (hW : 2 * g.monitorRoom + (rest.map fun v => v.category).sum ≤ 8) (hdg : decode cc g.pc = .ok (.invokestatic index, 3)) (hf : cells + mc ≤ R.cells ∧ slots + ms ≤ R.slots) :
    vx_Run p l e R s m args below meth c H locs cells slots mc ms g rest (Qc As.toArray) XC free := by
  have hK : vx_Back l R p e below s args y 3 8 (PreOf R mc ms Pc) (PostOf Qc mc ms free) (vx_Post XC mc ms free) := vx_callBack cw.1 hM hp.1
  obtain ⟨⟨-, -, -, -, -, -, hcode, hini, hy, hlen, hl⟩, hstt⟩ := cw
  obtain ⟨hx, hb, hml, ho, -⟩ := S
  intro T hT X
  rcases vx_callS X hx (bytes := bytes) (maxL := maxL) (ret := ret) ho hl hstt hini hcode hy hK hg (hsize.trans hml.symm) (argsL := As) (rest := rest) (fun sig h => hn.trans (hlen sig h)) hstack hW (by rw [hb]; exact hdg)
    (fun vm₁ hW₁ => ⟨hf.1, hf.2, hp.2 (T.setVm vm₁) hT hW₁⟩) with ⟨v, vm₁, ⟨U', l2, c2, s2⟩, hW₁, X', ⟨g', mk, t, L, e1, e2, hq, h1, hL, h2, h3⟩, st⟩ | ⟨q, vm₁, ⟨U', l2, c2, s2⟩, hW₁, X', ⟨g', mk, t, L, E, ce, e1, e2, hq, hce, hcv, hcl, h1, hL, h2, h3⟩, st⟩
  · dsimp only [Pt.U, Pt.locs, Pt.cells, Pt.slots] at X' e1 e2 h1 h2 h3 st
    subst h1; subst h2; subst h3
    exact Or.inl ⟨v, (T.setVm vm₁).calling g' mk As.toArray, t, U', L, hT, X', hL, e1, e2, hq, st⟩
  · dsimp only [Pt.U, Pt.locs, Pt.cells, Pt.slots] at X' e1 e2 h1 h2 h3 st hcl
    subst h1; subst h2; subst h3
    exact Or.inr ⟨q, (T.setVm vm₁).calling g' mk As.toArray, t, U', L, E, ce, hT, X', hL, e1, e2, hq, hce, hcv, vx_cls hW₁ hcl, st⟩
end Runs
section Rows
variable {p : Program} {l : Launch} {e : Env} {R : Room} {s : State} {m : MethodId} {args : Array Value} {below : List Frame} {meth : Method} {c : Code} {H : Heap} {locs : List Loc} {cells slots : Nat} {Q : State → Prop}
variable {mc ms : Nat} {free : Addr → Prop} {A0 A1 : Nat → Prop} {H0 : Heap} {a : Array Value} {pc : Nat} {ls : Array Slot} {st0 rest : List Value}
theorem vx_keep {st₀ t T' : State} {L : List Loc} (h0 : st₀.heap = H) (e1 : T'.heap = t.heap) (hS : va_S A0 H0 H locs) (hA : ∀ q, q < H.size → A1 q → A0 q) (hf : ∀ q, free q → A0 q) (hL : ∀ q ∈ L, free q.base) (hF : va_F A1 st₀ t) :
    H.size ≤ T'.heap.size ∧ (∀ q : Nat, q < H.size → ¬ A1 q → T'.heap[q]? = H[q]?) ∧ va_S A0 H0 T'.heap (locs ++ L) := by
  obtain ⟨hz, hk⟩ := hF
  rw [h0] at hz hk
  exact ⟨by rw [e1]; exact hz, fun q h1 h2 => by rw [e1]; exact hk q h1 h2,
    ⟨Nat.le_trans hS.1 (by rw [e1]; exact hz), fun q h1 h2 => by rw [e1, hk q (Nat.lt_of_lt_of_le h1 hS.1) (fun z => h2 (hA q (Nat.lt_of_lt_of_le h1 hS.1) z))]; exact hS.2.1 q h1 h2, fun q hq => by
      rcases List.mem_append.mp hq with h | h
      · exact hS.2.2 q h
      · exact hf _ (hL q h)⟩⟩
theorem vx_calli {S SX : Type} {post : Int32 → S → Prop} {px : SX → Prop} {B : S → State → Prop} {BX : String → SX → State → Prop} {AX : Nat → Prop} (hr : vx_Run p l e R s m args below meth c H locs cells slots mc ms (F0 m pc ls st0) rest (va_Qi post B A1 a) (vx_X px BX AX) free) (hS : va_S A0 H0 H locs) (hA : ∀ q, q < H.size → A1 q → A0 q) (hf : ∀ q, free q → A0 q) (hAX : ∀ q, q < H.size → AX q → A0 q)
    (kx : ∀ (E : String) (ce : Cell) (q9 : Addr) (u : SX) (t : State) (H1 : Heap) (locs1 : List Loc), t.heap = H1 → s.vm.Alike t.vm → px u → BX E u t → H.size ≤ H1.size → (∀ q : Nat, q < H.size → ¬ AX q → H1[q]? = H[q]?) → va_S A0 H0 H1 locs1 → H1[q9]? = some ce → ce.vm = .none → s.vm.findClass E = some ce.cls → vx_W p l e R s m args below meth c H1 locs1 (cells + mc) (slots + ms) Q (F0 m pc ls rest) q9)
    (kk : ∀ (r : Int32) (u : S) (t : State) (H1 : Heap) (locs1 : List Loc), t.heap = H1 → s.vm.Alike t.vm → post r u → B u t → H.size ≤ H1.size → (∀ q : Nat, q < H.size → ¬ A1 q → H1[q]? = H[q]?) → va_S A0 H0 H1 locs1 → W p l e R s m args below meth c H1 locs1 (cells + mc) (slots + ms) Q (F0 m (pc + 3) ls (.int r :: rest))) : W p l e R s m args below meth c H locs cells slots Q (F0 m pc ls st0) := by
  intro T hT X
  rcases hr T hT X with ⟨v, st₀, t, T', L, h0, X', hL, e1, e2, ⟨⟨r, u, hv, hp, hb⟩, hF⟩, st⟩ | ⟨q, st₀, t, T', L, E, ce, h0, X', hL, e1, e2, ⟨u, hp, hb, hF⟩, hce, hcv, hcl, st⟩
  · cases hv
    obtain ⟨k1, k2, k3⟩ := vx_keep h0 e1 hS hA hf hL hF
    obtain ⟨t2, a1, b1⟩ := kk r u t T'.heap (locs ++ L) e1.symm (by rw [← e2]; exact X'.warmed.alike) hp hb k1 k2 k3 T' rfl X'
    exact ⟨t2, st t2 a1, b1⟩
  · obtain ⟨k1, k2, k3⟩ := vx_keep h0 e1 hS hAX hf hL hF
    obtain ⟨t2, a1, b1⟩ := kx E ce q u t T'.heap (locs ++ L) e1.symm (by rw [← e2]; exact X'.warmed.alike) hp hb k1 k2 k3 (by rw [e1]; exact hce) hcv hcl T' rfl X'
    exact ⟨t2, st.trans a1, b1⟩
theorem vx_calll {S SX : Type} {post : Int64 → S → Prop} {px : SX → Prop} {B : S → State → Prop} {BX : String → SX → State → Prop} {AX : Nat → Prop} (hr : vx_Run p l e R s m args below meth c H locs cells slots mc ms (F0 m pc ls st0) rest (va_Ql post B A1 a) (vx_X px BX AX) free) (hS : va_S A0 H0 H locs) (hA : ∀ q, q < H.size → A1 q → A0 q) (hf : ∀ q, free q → A0 q) (hAX : ∀ q, q < H.size → AX q → A0 q)
    (kx : ∀ (E : String) (ce : Cell) (q9 : Addr) (u : SX) (t : State) (H1 : Heap) (locs1 : List Loc), t.heap = H1 → s.vm.Alike t.vm → px u → BX E u t → H.size ≤ H1.size → (∀ q : Nat, q < H.size → ¬ AX q → H1[q]? = H[q]?) → va_S A0 H0 H1 locs1 → H1[q9]? = some ce → ce.vm = .none → s.vm.findClass E = some ce.cls → vx_W p l e R s m args below meth c H1 locs1 (cells + mc) (slots + ms) Q (F0 m pc ls rest) q9)
    (kk : ∀ (r : Int64) (u : S) (t : State) (H1 : Heap) (locs1 : List Loc), t.heap = H1 → s.vm.Alike t.vm → post r u → B u t → H.size ≤ H1.size → (∀ q : Nat, q < H.size → ¬ A1 q → H1[q]? = H[q]?) → va_S A0 H0 H1 locs1 → W p l e R s m args below meth c H1 locs1 (cells + mc) (slots + ms) Q (F0 m (pc + 3) ls (.long r :: rest))) : W p l e R s m args below meth c H locs cells slots Q (F0 m pc ls st0) := by
  intro T hT X
  rcases hr T hT X with ⟨v, st₀, t, T', L, h0, X', hL, e1, e2, ⟨⟨r, u, hv, hp, hb⟩, hF⟩, st⟩ | ⟨q, st₀, t, T', L, E, ce, h0, X', hL, e1, e2, ⟨u, hp, hb, hF⟩, hce, hcv, hcl, st⟩
  · cases hv
    obtain ⟨k1, k2, k3⟩ := vx_keep h0 e1 hS hA hf hL hF
    obtain ⟨t2, a1, b1⟩ := kk r u t T'.heap (locs ++ L) e1.symm (by rw [← e2]; exact X'.warmed.alike) hp hb k1 k2 k3 T' rfl X'
    exact ⟨t2, st t2 a1, b1⟩
  · obtain ⟨k1, k2, k3⟩ := vx_keep h0 e1 hS hAX hf hL hF
    obtain ⟨t2, a1, b1⟩ := kx E ce q u t T'.heap (locs ++ L) e1.symm (by rw [← e2]; exact X'.warmed.alike) hp hb k1 k2 k3 (by rw [e1]; exact hce) hcv hcl T' rfl X'
    exact ⟨t2, st.trans a1, b1⟩
theorem vx_callf {S SX : Type} {post : UInt32 → S → Prop} {px : SX → Prop} {B : S → State → Prop} {BX : String → SX → State → Prop} {AX : Nat → Prop} (hr : vx_Run p l e R s m args below meth c H locs cells slots mc ms (F0 m pc ls st0) rest (va_Qf post B A1 a) (vx_X px BX AX) free) (hS : va_S A0 H0 H locs) (hA : ∀ q, q < H.size → A1 q → A0 q) (hf : ∀ q, free q → A0 q) (hAX : ∀ q, q < H.size → AX q → A0 q)
    (kx : ∀ (E : String) (ce : Cell) (q9 : Addr) (u : SX) (t : State) (H1 : Heap) (locs1 : List Loc), t.heap = H1 → s.vm.Alike t.vm → px u → BX E u t → H.size ≤ H1.size → (∀ q : Nat, q < H.size → ¬ AX q → H1[q]? = H[q]?) → va_S A0 H0 H1 locs1 → H1[q9]? = some ce → ce.vm = .none → s.vm.findClass E = some ce.cls → vx_W p l e R s m args below meth c H1 locs1 (cells + mc) (slots + ms) Q (F0 m pc ls rest) q9)
    (kk : ∀ (r : UInt32) (u : S) (t : State) (H1 : Heap) (locs1 : List Loc), t.heap = H1 → s.vm.Alike t.vm → post r u → B u t → H.size ≤ H1.size → (∀ q : Nat, q < H.size → ¬ A1 q → H1[q]? = H[q]?) → va_S A0 H0 H1 locs1 → W p l e R s m args below meth c H1 locs1 (cells + mc) (slots + ms) Q (F0 m (pc + 3) ls (.float r :: rest))) : W p l e R s m args below meth c H locs cells slots Q (F0 m pc ls st0) := by
  intro T hT X
  rcases hr T hT X with ⟨v, st₀, t, T', L, h0, X', hL, e1, e2, ⟨⟨r, u, hv, hp, hb⟩, hF⟩, st⟩ | ⟨q, st₀, t, T', L, E, ce, h0, X', hL, e1, e2, ⟨u, hp, hb, hF⟩, hce, hcv, hcl, st⟩
  · cases hv
    obtain ⟨k1, k2, k3⟩ := vx_keep h0 e1 hS hA hf hL hF
    obtain ⟨t2, a1, b1⟩ := kk r u t T'.heap (locs ++ L) e1.symm (by rw [← e2]; exact X'.warmed.alike) hp hb k1 k2 k3 T' rfl X'
    exact ⟨t2, st t2 a1, b1⟩
  · obtain ⟨k1, k2, k3⟩ := vx_keep h0 e1 hS hAX hf hL hF
    obtain ⟨t2, a1, b1⟩ := kx E ce q u t T'.heap (locs ++ L) e1.symm (by rw [← e2]; exact X'.warmed.alike) hp hb k1 k2 k3 (by rw [e1]; exact hce) hcv hcl T' rfl X'
    exact ⟨t2, st.trans a1, b1⟩
theorem vx_calld {S SX : Type} {post : UInt64 → S → Prop} {px : SX → Prop} {B : S → State → Prop} {BX : String → SX → State → Prop} {AX : Nat → Prop} (hr : vx_Run p l e R s m args below meth c H locs cells slots mc ms (F0 m pc ls st0) rest (va_Qd post B A1 a) (vx_X px BX AX) free) (hS : va_S A0 H0 H locs) (hA : ∀ q, q < H.size → A1 q → A0 q) (hf : ∀ q, free q → A0 q) (hAX : ∀ q, q < H.size → AX q → A0 q)
    (kx : ∀ (E : String) (ce : Cell) (q9 : Addr) (u : SX) (t : State) (H1 : Heap) (locs1 : List Loc), t.heap = H1 → s.vm.Alike t.vm → px u → BX E u t → H.size ≤ H1.size → (∀ q : Nat, q < H.size → ¬ AX q → H1[q]? = H[q]?) → va_S A0 H0 H1 locs1 → H1[q9]? = some ce → ce.vm = .none → s.vm.findClass E = some ce.cls → vx_W p l e R s m args below meth c H1 locs1 (cells + mc) (slots + ms) Q (F0 m pc ls rest) q9)
    (kk : ∀ (r : UInt64) (u : S) (t : State) (H1 : Heap) (locs1 : List Loc), t.heap = H1 → s.vm.Alike t.vm → post r u → B u t → H.size ≤ H1.size → (∀ q : Nat, q < H.size → ¬ A1 q → H1[q]? = H[q]?) → va_S A0 H0 H1 locs1 → W p l e R s m args below meth c H1 locs1 (cells + mc) (slots + ms) Q (F0 m (pc + 3) ls (.double r :: rest))) : W p l e R s m args below meth c H locs cells slots Q (F0 m pc ls st0) := by
  intro T hT X
  rcases hr T hT X with ⟨v, st₀, t, T', L, h0, X', hL, e1, e2, ⟨⟨r, u, hv, hp, hb⟩, hF⟩, st⟩ | ⟨q, st₀, t, T', L, E, ce, h0, X', hL, e1, e2, ⟨u, hp, hb, hF⟩, hce, hcv, hcl, st⟩
  · cases hv
    obtain ⟨k1, k2, k3⟩ := vx_keep h0 e1 hS hA hf hL hF
    obtain ⟨t2, a1, b1⟩ := kk r u t T'.heap (locs ++ L) e1.symm (by rw [← e2]; exact X'.warmed.alike) hp hb k1 k2 k3 T' rfl X'
    exact ⟨t2, st t2 a1, b1⟩
  · obtain ⟨k1, k2, k3⟩ := vx_keep h0 e1 hS hAX hf hL hF
    obtain ⟨t2, a1, b1⟩ := kx E ce q u t T'.heap (locs ++ L) e1.symm (by rw [← e2]; exact X'.warmed.alike) hp hb k1 k2 k3 (by rw [e1]; exact hce) hcv hcl T' rfl X'
    exact ⟨t2, st.trans a1, b1⟩
theorem vx_callv {S SX : Type} {post : S → Prop} {px : SX → Prop} {B : S → State → Prop} {BX : String → SX → State → Prop} {AX : Nat → Prop} (hr : vx_Run p l e R s m args below meth c H locs cells slots mc ms (F0 m pc ls st0) rest (va_Qv post B A1 a) (vx_X px BX AX) free) (hS : va_S A0 H0 H locs) (hA : ∀ q, q < H.size → A1 q → A0 q) (hf : ∀ q, free q → A0 q) (hAX : ∀ q, q < H.size → AX q → A0 q)
    (kx : ∀ (E : String) (ce : Cell) (q9 : Addr) (u : SX) (t : State) (H1 : Heap) (locs1 : List Loc), t.heap = H1 → s.vm.Alike t.vm → px u → BX E u t → H.size ≤ H1.size → (∀ q : Nat, q < H.size → ¬ AX q → H1[q]? = H[q]?) → va_S A0 H0 H1 locs1 → H1[q9]? = some ce → ce.vm = .none → s.vm.findClass E = some ce.cls → vx_W p l e R s m args below meth c H1 locs1 (cells + mc) (slots + ms) Q (F0 m pc ls rest) q9)
    (kk : ∀ (u : S) (t : State) (H1 : Heap) (locs1 : List Loc), t.heap = H1 → s.vm.Alike t.vm → post u → B u t → H.size ≤ H1.size → (∀ q : Nat, q < H.size → ¬ A1 q → H1[q]? = H[q]?) → va_S A0 H0 H1 locs1 → W p l e R s m args below meth c H1 locs1 (cells + mc) (slots + ms) Q (F0 m (pc + 3) ls (rest))) : W p l e R s m args below meth c H locs cells slots Q (F0 m pc ls st0) := by
  intro T hT X
  rcases hr T hT X with ⟨v, st₀, t, T', L, h0, X', hL, e1, e2, ⟨⟨u, hv, hp, hb⟩, hF⟩, st⟩ | ⟨q, st₀, t, T', L, E, ce, h0, X', hL, e1, e2, ⟨u, hp, hb, hF⟩, hce, hcv, hcl, st⟩
  · cases hv
    obtain ⟨k1, k2, k3⟩ := vx_keep h0 e1 hS hA hf hL hF
    obtain ⟨t2, a1, b1⟩ := kk u t T'.heap (locs ++ L) e1.symm (by rw [← e2]; exact X'.warmed.alike) hp hb k1 k2 k3 T' rfl X'
    exact ⟨t2, st t2 a1, b1⟩
  · obtain ⟨k1, k2, k3⟩ := vx_keep h0 e1 hS hAX hf hL hF
    obtain ⟨t2, a1, b1⟩ := kx E ce q u t T'.heap (locs ++ L) e1.symm (by rw [← e2]; exact X'.warmed.alike) hp hb k1 k2 k3 (by rw [e1]; exact hce) hcv hcl T' rfl X'
    exact ⟨t2, st.trans a1, b1⟩
/-- caught by the row x of this method's table; the rows ahead don't take it -/
theorem vx_catch {own name : String} {E : String} {ce : Cell} {q : Addr} (hown : s.vm.findClass own = some m.cls) (pre : List ExceptionTableEntry) (x : ExceptionTableEntry) (suf : List ExceptionTableEntry) (hsplit : c.exceptionTable.toList = pre ++ x :: suf)
    (hpass : ∀ z ∈ pre, covers z pc = false ∨ (z.catchType ≠ 0 ∧ ∃ nm : String, (Cond.classLink own z.catchType nm).before args s = true ∧ va_Nc E nm s)) (hx : covers x pc = true) (h0 : x.catchType ≠ 0)
    (hlink : (Cond.classLink own x.catchType name).before args s = true) (hcast : (Cond.castable E name).before args s = true) (hcell : H[q]? = some ce) (hv : ce.vm = .none) (hcl : s.vm.findClass E = some ce.cls)
    (kk : W p l e R s m args below meth c H locs cells slots Q (F0 m x.handlerPc ls [.ref q])) : vx_W p l e R s m args below meth c H locs cells slots Q (F0 m pc ls rest) q := by
  intro T hT X
  have hpl : e.platform.magicAccessors = ({} : Platform).magicAccessors := by rw [X.admits.platform]
  obtain ⟨c3, c4, hc3, hc4, hasg⟩ := Cond.castable_spec hcast
  cases Option.some.inj (hc3.symm.trans hcl)
  obtain ⟨c5, hc5, hcl5⟩ := Cond.classLink_spec hown hlink e.platform hpl
  cases Option.some.inj (hc4.symm.trans hc5)
  obtain ⟨vm', X', st⟩ := X.thenCaughtThrough q (g := F0 m pc ls rest) rfl (Steps.refl _) (by rw [hT]; exact hcell) (by rw [hv]; rfl) (by obtain ⟨k9, h9, -⟩ := Vm.findClass_spec hcl; exact ⟨k9, h9⟩) pre x suf hsplit
    (fun z hz => by
      rcases hpass z hz with h | ⟨hz0, nm, hl1, hn1⟩
      · exact Or.inl h
      · obtain ⟨c6, hc6, hcl6⟩ := Cond.classLink_spec hown hl1 e.platform hpl
        obtain ⟨a8, b8, h1, h2, h3⟩ := hn1
        cases Option.some.inj (h1.symm.trans hcl)
        cases Option.some.inj (h2.symm.trans hc6)
        exact Or.inr ⟨hz0, _, hcl6, h3⟩) hx (Or.inr ⟨h0, c4, hcl5, hasg⟩)
  obtain ⟨t, a1, b1⟩ := kk (T.setVm vm') hT X'
  exact ⟨t, st.trans a1, b1⟩
end Rows
section Ends
variable {p : Program} {l : Launch} {e : Env} {R : Room} {s : State} {m : MethodId} {args : Array Value} {below : List Frame} {meth : Method} {c : Code} {H : Heap} {locs : List Loc} {cells slots : Nat} {Q : State → Prop}
variable {mc ms : Nat} {free : Addr → Prop} {A0 A1 : Nat → Prop} {H0 : Heap} {a : Array Value} {ls : Array Slot} {st0 rest : List Value}
variable {Qc : Array Value → State → Outcome → State → Prop} {XC : String → State → State → Prop}
/-- what a body that may throw owes at its end -/
def vx_MQ (below : List Frame) (Qc : Array Value → State → Outcome → State → Prop) (XC : String → State → State → Prop) (a : Array Value) (s : State) (mc ms : Nat) (free : Addr → Prop) : State → Prop := fun t =>
  ∃ o, t.status = .running ∧ Ended t below o ∧ vx_Q Qc XC mc ms free a s o t
theorem vx_ret {g : JFrame} {mc ms : Nat} (k : W p l e R s m args below meth c H locs cells slots (MQ below Qc args s mc ms free) g) : W p l e R s m args below meth c H locs cells slots (vx_MQ below Qc XC args s mc ms free) g := by
  intro T hT X
  obtain ⟨t, a1, o, b1, b2, b3, b4⟩ := k T hT X
  exact ⟨t, a1, o, b1, b2, Or.inl ⟨b3, b4⟩⟩
/-- not caught here: it goes on to the caller -/
theorem vx_widen {g : JFrame} {q : Addr} {k n : Nat} (h1 : cells ≤ k) (h2 : slots ≤ n) (kk : vx_W p l e R s m args below meth c H locs k n Q g q) : vx_W p l e R s m args below meth c H locs cells slots Q g q := fun T hT X => kk T hT (stand_widen X h1 h2)
theorem vx_out {pc : Nat} {E : String} {ce : Cell} {q : Addr} {mc ms : Nat} (hout : ∀ x ∈ c.exceptionTable.toList, covers x pc = false) (hlocks : meth.locks = false) (hcell : H[q]? = some ce) (hv : ce.vm = .none) (hcl : s.vm.findClass E = some ce.cls)
    (hx : ∀ t : State, t.heap = H → s.vm.Alike t.vm → XC E s t) (hf : ∀ z ∈ locs, free z.base) (hc : cells ≤ mc) (hs : slots ≤ ms) :
    vx_W p l e R s m args below meth c H locs cells slots (vx_MQ below Qc XC args s mc ms free) (F0 m pc ls rest) q := by
  intro T hT X
  obtain ⟨st1, hrun, hend, hW, hsm⟩ := X.leaveThrown q (g := F0 m pc ls rest) rfl rfl rfl hout hlocks
  have hcell9 : (T.setFrames (.throwing q :: below)).heap[q]? = some ce := by
    show T.heap[q]? = some ce
    rw [hT]; exact hcell
  exact ⟨_, st1, .threw q, hrun, hend, Or.inr ⟨q, rfl, E, ce, locs, hx _ hT hW.alike, hcell9, hv, hcl, hW, hsm.mono hc hs, hf⟩⟩
theorem vx_frame {U : State} {k n : Nat} (h : s.sameButNew ({ U with vm := s.vm } : State) locs k n) : s.heap.size ≤ U.heap.size ∧ ∀ q : Nat, q < s.heap.size → (∀ z ∈ locs, z.base ≠ q) → U.heap[q]? = s.heap[q]? := by
  obtain ⟨-, h2, -, -, -, h6⟩ := h
  refine ⟨h2, fun q hq hz => ?_⟩
  obtain ⟨c9, e1, e2, e3, e4⟩ := h6 q _ (Array.getElem?_eq_getElem hq)
  have hs : c9.slots = (s.heap[q]).slots := Array.ext_getElem? fun i => e4 i fun hm => hz _ hm rfl
  have h9 : c9 = s.heap[q] := by
    rw [hs] at e2
    exact e2
  have e5 : U.heap[q]? = some c9 := e1
  rw [e5, h9, Array.getElem?_eq_getElem hq]
/-- the words of a throw but the four that speak of the heap -/
def vx_no (w : Cond) : Bool := decide (w ≠ .isRef (.static Bundle.tN "UNASSIGNED_STACK" Bundle.steD)) && decide (w ≠ .isRef (.static Bundle.tN "SUPPRESSED_SENTINEL" Bundle.listD)) && decide (w ≠ .laysStatic Bundle.tN "UNASSIGNED_STACK" Bundle.steD) && decide (w ≠ .laysStatic Bundle.tN "SUPPRESSED_SENTINEL" Bundle.listD)
def vx_at0 (own : String) (ic : Nat) (X : String) (names : List String) : List Cond := (Bundle.ownAtoms0 own ic X names).filter vx_no
def vx_atS (own : String) (ic : Nat) (X : String) (names : List String) : List Cond := (Bundle.ownAtoms own ic X names).filter vx_no
/-- a word that the tables alone decide, or a good one -/
def vx_ot (w : Cond) : Bool := w.onTables || goodWord w
theorem vx_ot_at {args a' : Array Value} {s U : State} {w : Cond} (hW : s.WarmedH U.vm) (hvm : s.vm = U.vm) (hg : vx_ot w = true) (h : w.before args s = true) : w.before a' U = true := by
  simp only [vx_ot, Bool.or_eq_true] at hg
  rcases hg with hg | hg
  · exact va_tabs hg hvm h
  · exact word_at hW (good_of_word hg) h
/-- a list's words: the good ones out of the method's own list, the others by premises of their own -/
theorem vx_hat {args : Array Value} {s : State} {L B : List Cond} (h1 : ∀ w ∈ L.filter goodWord, w.before args s = true) (h2 : ∀ w ∈ L.filter (fun w => !goodWord w), w ∈ B) (h3 : ∀ w ∈ B, w.before args s = true) : ∀ w ∈ L, w.before args s = true := by
  intro w hw
  by_cases g : goodWord w = true
  · exact h1 w (List.mem_filter.mpr ⟨hw, g⟩)
  · refine h3 w (h2 w (List.mem_filter.mpr ⟨hw, ?_⟩))
    show (!goodWord w) = true
    cases hgw : goodWord w
    · rfl
    · exact absurd hgw g
theorem vx_c {args : Array Value} {s : State} {w : Cond} {B : List Cond} (h : w.before args s = true) (t : ∀ w ∈ B, w.before args s = true) : ∀ w' ∈ w :: B, w'.before args s = true := fun w' h' => (List.mem_cons.mp h').elim (fun e => by rw [e]; exact h) (t w')
theorem vx_n {args : Array Value} {s : State} : ∀ w ∈ ([] : List Cond), w.before args s = true := fun _ h => nomatch h
theorem vx_own {args : Array Value} {s : State} {L : List Cond} (h1 : ∀ w ∈ L.filter vx_no, w.before args s = true)
    (hU : (Cond.isRef (.static Bundle.tN "UNASSIGNED_STACK" Bundle.steD)).before args s = true) (hN : (Cond.isRef (.static Bundle.tN "SUPPRESSED_SENTINEL" Bundle.listD)).before args s = true)
    (lU : (Cond.laysStatic Bundle.tN "UNASSIGNED_STACK" Bundle.steD).before args s = true) (lN : (Cond.laysStatic Bundle.tN "SUPPRESSED_SENTINEL" Bundle.listD).before args s = true) : ∀ w ∈ L, w.before args s = true := by
  intro w hw
  by_cases e1 : w = .isRef (.static Bundle.tN "UNASSIGNED_STACK" Bundle.steD)
  · rw [e1]; exact hU
  · by_cases e2 : w = .isRef (.static Bundle.tN "SUPPRESSED_SENTINEL" Bundle.listD)
    · rw [e2]; exact hN
    · by_cases e3 : w = .laysStatic Bundle.tN "UNASSIGNED_STACK" Bundle.steD
      · rw [e3]; exact lU
      · by_cases e4 : w = .laysStatic Bundle.tN "SUPPRESSED_SENTINEL" Bundle.listD
        · rw [e4]; exact lN
        · exact h1 w (List.mem_filter.mpr ⟨hw, by unfold vx_no; rw [decide_eq_true e1, decide_eq_true e2, decide_eq_true e3, decide_eq_true e4]; rfl⟩)
/-- where a static field lies, its class's statics cell in H -/
def vx_L (C n d : String) (A : Nat → Prop) (U : State) (H : Heap) : Prop := ∃ (c : ClassId) (k : Class) (i : Nat) (f : Field) (a : Nat) (cell : Cell), U.vm.findClass C = some c ∧ U.fieldFound? C n d = some (c, k, i, f) ∧ f.isStatic = true ∧ k.statics = some a ∧ H[a]? = some cell ∧ cell.vm.isStatics = true ∧ cell.cls = c ∧ f.slot < cell.slots.size ∧ k.staticTypes[f.slot]? = some f.type ∧ ¬ A a
theorem vx_L.moved {C n d : String} {A : Nat → Prop} {u U : State} {H : Heap} (hvm : u.vm.Alike U.vm) (h : vx_L C n d A u H) : vx_L C n d A U H := by
  obtain ⟨c, k, i, f, a, cell, h1, h2, h3, h4, h5, h6, h7, h8, h9, h10⟩ := h
  obtain ⟨k', hi', he⟩ := State.fieldFound?_setVm hvm h2
  exact ⟨c, k', i, f, a, cell, by rw [hvm.findClass]; exact h1, hi', h3, by rw [he]; exact h4, h5, h6, h7, h8, by rw [he]; exact h9, h10⟩
theorem vx_L.kept {C n d : String} {A : Nat → Prop} {U : State} {H H1 : Heap} (h : vx_L C n d A U H) (hq : ∀ a : Nat, a < H.size → ¬ A a → H1[a]? = H[a]?) : vx_L C n d A U H1 := by
  obtain ⟨c, k, i, f, a, cell, h1, h2, h3, h4, h5, h6, h7, h8, h9, h10⟩ := h
  exact ⟨c, k, i, f, a, cell, h1, h2, h3, h4, by rw [hq a (Array.getElem?_eq_some_iff.mp h5).1 h10]; exact h5, h6, h7, h8, h9, h10⟩
theorem vx_L.narrow {C n d : String} {A B : Nat → Prop} {U : State} {H : Heap} (h : vx_L C n d A U H) (hAB : ∀ q, B q → A q) : vx_L C n d B U H := by
  obtain ⟨c, k, i, f, a, cell, h1, h2, h3, h4, h5, h6, h7, h8, h9, h10⟩ := h
  exact ⟨c, k, i, f, a, cell, h1, h2, h3, h4, h5, h6, h7, h8, h9, fun z => h10 (hAB _ z)⟩
theorem vx_L.word {C n d : String} {A : Nat → Prop} {s : State} {args : Array Value} (h : vx_L C n d A s s.heap) : (Cond.laysStatic C n d).before args s = true := by
  obtain ⟨c, k, i, f, a, cell, h1, h2, h3, h4, h5, h6, h7, h8, h9, -⟩ := h
  show (Cond.laysStatic C n d).holds args s none s [] = true
  exact Cond.laysStatic_of h1 h2 h3 h4 h5 h6 h7 h8 h9
/-- .. and what it holds: null or some reference -/
def vx_Zq (C n d : String) (A : Nat → Prop) (U : State) (H : Heap) : Prop := va_Zq C n d A U H ∧ vx_L C n d A U H
theorem vx_Zq.moved {C n d : String} {A : Nat → Prop} {u U : State} {H : Heap} (hvm : u.vm.Alike U.vm) (h : vx_Zq C n d A u H) : vx_Zq C n d A U H := ⟨va_Zq.moved hvm h.1, vx_L.moved hvm h.2⟩
theorem vx_Zq.kept {C n d : String} {A : Nat → Prop} {U : State} {H H1 : Heap} (h : vx_Zq C n d A U H) (hq : ∀ a : Nat, a < H.size → ¬ A a → H1[a]? = H[a]?) : vx_Zq C n d A U H1 := ⟨va_Zq.kept h.1 hq, vx_L.kept h.2 hq⟩
theorem vx_Zq.narrow {C n d : String} {A B : Nat → Prop} {U : State} {H : Heap} (h : vx_Zq C n d A U H) (hAB : ∀ q, B q → A q) : vx_Zq C n d B U H := ⟨va_Zq.narrow h.1 hAB, vx_L.narrow h.2 hAB⟩
theorem vx_Zqof {args : Array Value} {s : State} {C n d : String} {A : Nat → Prop} (hl : (Cond.laysStatic C n d).before args s = true) (hini : (Cond.initialized C).before args s = true) (h : (Cond.isRef (.static C n d)).before args s = true) (hA : ∀ a : Nat, a < s.heap.size → ¬ A a) : vx_Zq C n d A s s.heap := by
  refine ⟨va_Zqof hl hini h hA, ?_⟩
  obtain ⟨c, k, i, f, a, cell, h1, h2, h3, h4, h5, h6, h7, h8, h9⟩ := Cond.laysStatic_spec hl
  exact ⟨c, k, i, f, a, cell, h1, h2, h3, h4, h5, h6, h7, h8, h9, hA a (Array.getElem?_eq_some_iff.mp h5).1⟩
theorem vx_isRef {C n d : String} {v : Value} {A : Nat → Prop} {s : State} {args : Array Value} (h : va_Z C n d v A s s.heap) (hv : v.isRef = true) : (Cond.isRef (.static C n d)).before args s = true := by
  obtain ⟨cf, kf, fi, f, a, cell, h1, h2, h3, h4, h5, h6, h7, -⟩ := h
  have he : (Term.static C n d).eval args s none [] s = some v := by
    simp [Term.eval, State.fieldNamed?, h1, h2, h4, h5, h6, h7]
  simp only [Cond.before, Cond.holds, Cond.value, he]
  cases v <;> simp_all [Value.isRef]
theorem vx_isRefq {C n d : String} {A : Nat → Prop} {s : State} {args : Array Value} (h : va_Zq C n d A s s.heap) : (Cond.isRef (.static C n d)).before args s = true := by
  rcases h with h | ⟨t, h⟩
  · exact vx_isRef h rfl
  · exact vx_isRef h rfl
/-- the same frame, seen from here: as if the method were called anew in this heap -/
theorem vx_rebase {T : State} (X : Stand p l e R s m args below meth c T locs cells slots) {R' : Room} (hf : R'.frames ≤ R.frames) (hl : R'.locals ≤ R.locals) (hc : cells + R'.cells ≤ R.cells) (hs : slots + R'.slots ≤ R.slots) :
    Stand p l e R' ((T.setVm s.vm).setFrames (.invoking m args :: below)) m args below meth c T [] 0 0 := by
  have htop : (T.setVm s.vm).topJava?.isSome := X.here.top
  have hF : ((T.setVm s.vm).setFrames (.invoking m args :: below)).frames = .invoking m args :: below := State.frames_setFrames _ (State.cur_lt_of_top htop)
  obtain ⟨g₀, hg0⟩ := Option.isSome_iff_exists.mp htop
  obtain ⟨r, hr⟩ := State.topJava?_eq_some.mp hg0
  have hl9 : e.platform.stackLimits (T.setVm s.vm).me = e.platform.stackLimits s.me := X.limits
  have hb9 : (T.setVm s.vm).me.stackBytes = s.me.stackBytes := X.bytes
  refine ⟨X.admits, X.cas, X.clock, hF, ?_, X.hears, X.method, X.code, X.here, X.tail, X.warmed, ?_, ?_, ?_⟩
  · have h := X.room
    have hU : ((T.setVm s.vm).setFrames (.invoking m args :: below)).localsInUse = s.localsInUse := by
      rw [State.localsInUse_invoking hF (meth := meth) (c := c) X.method X.code, State.localsInUse_invoking X.frames X.method X.code]
    simp only [State.hasRoom, Bool.and_eq_true, decide_eq_true_eq] at h ⊢
    obtain ⟨⟨⟨⟨h1, h2, h3, h4, h5, h6⟩, h7⟩, h8⟩, h9⟩ := h
    rw [X.frames, List.length_cons] at h2 h3
    have q1 := X.heapSize
    have q2 := X.used
    simp only [hF, hU, List.length_cons, State.stackLimits_setFrames, State.stackBytes_setFrames, hl9, hb9]
    refine ⟨⟨⟨⟨by omega, by omega, by omega, by omega, by omega, h6⟩, ?_⟩, ?_⟩, X.book⟩
    · show T.heap.size + R'.cells ≤ e.platform.maxCells
      omega
    · show T.slotsUsed + R'.slots ≤ e.platform.maxSlots
      omega
  · rw [State.stackLimits_setFrames]; rfl
  · rw [State.stackBytes_setFrames]; rfl
  · refine ⟨?_, Nat.le_refl _, Nat.le_refl _, ?_, ?_, fun a c9 h9 => ⟨c9, h9, rfl, rfl, fun _ _ => rfl⟩⟩
    · obtain ⟨t, ht, -⟩ := State.frames_cons hr
      show T.setVm s.vm = { ((T.setVm s.vm).setFrames (.invoking m args :: below)).setFrames (T.setVm s.vm).frames with heap := T.heap, slotsUsed := T.slotsUsed }
      rw [State.setFrames_setFrames, State.setFrames_self ht]
      rfl
    · show T.slotsUsed = T.slotsUsed + ((T.heap.toList.drop T.heap.size).map (·.slots.size)).sum
      rw [List.drop_eq_nil_of_le (Nat.le_of_eq Array.length_toList)]
      rfl
    · show ((T.heap.toList.drop T.heap.size).map (·.slots.size)).sum ≤ 0
      rw [List.drop_eq_nil_of_le (Nat.le_of_eq Array.length_toList)]
      exact Nat.le_refl _
/-- 'throw new E()': new; dup; invokespecial; athrow -/
theorem vx_throw0 {cc : ByteArray} {pc : Nat} (hexec : p.tables.exec = Jvm.exec) (hb : c.code = cc) (hl : l.stackTraces = false) {own cls : String} {names : List String} {ik ic mc ms : Nat} {A : Nat → Prop}
    (hown : s.vm.findClass own = some m.cls) (hcls : Bundle.fit cls = true) (hnames : ∀ n ∈ names, Bundle.fit n = true)
    (hk : (Cond.classLink own ik cls).before args s = true) (hini : (Cond.initialized cls).before args s = true) (hat : ∀ w ∈ vx_at0 own ic cls names, w.before args s = true)
    (hgood : ∀ w ∈ Cond.classLink own ik cls :: Cond.initialized cls :: vx_at0 own ic cls names, vx_ot w = true)
    (hU : vx_Zq Bundle.tN "UNASSIGNED_STACK" Bundle.steD A s s.heap) (hN : vx_Zq Bundle.tN "SUPPRESSED_SENTINEL" Bundle.listD A s s.heap) (hS : va_S A s.heap H locs) (hsize : ls.size = c.maxLocals)
    (d0 : decode cc pc = .ok (.new ik, 3)) (d3 : decode cc (pc + 3) = .ok (.dup, 1)) (d4 : decode cc (pc + 4) = .ok (.invokespecial ic, 3)) (d7 : decode cc (pc + 7) = .ok (.athrow, 1))
    (hout : ∀ x ∈ c.exceptionTable.toList, covers x (pc + 7) = false)
    (hRframes : names.length + 3 < R.frames) (hRlocals : (rest.map fun v => v.category).sum + (13 * (names.length + 1) + 42) ≤ R.locals) (hRcells : cells + 1 ≤ R.cells) (hRslots : slots + 6 ≤ R.slots) (hlocks : meth.locks = false)
    (hx : ∀ t : State, s.vm.Alike t.vm → H.size ≤ t.heap.size → (∀ q : Nat, q < H.size → t.heap[q]? = H[q]?) → XC cls s t)
    (hf : ∀ z ∈ locs, free z.base) (hc : cells + 1 ≤ mc) (hs : slots + 6 ≤ ms) :
    W p l e R s m args below meth c H locs cells slots (vx_MQ below Qc XC args s mc ms free) (F0 m pc ls rest) := by
  intro T hT X
  have htr : e.platform.stackTraces = false := (show e.platform.stackTraces = l.stackTraces by rw [X.admits.platform]).trans hl
  have Y := vx_rebase X (R' := { frames := R.frames, locals := R.locals, cells := 1, slots := 6 }) (Nat.le_refl _) (Nat.le_refl _) hRcells hRslots
  obtain ⟨s', hA⟩ : ∃ z, z = (T.setVm s.vm).setFrames (.invoking m args :: below) := ⟨_, rfl⟩
  rw [← hA] at Y
  have hvm : s'.vm = s.vm := by rw [hA]; rfl
  have hhp : s'.heap = H := by rw [hA]; exact hT
  have hW0 : s.WarmedH s'.vm := by rw [hvm]; exact State.WarmedH.refl s
  have hat' : ∀ w ∈ vx_at0 own ic cls names, w.before args s' = true := fun w hw => vx_ot_at hW0 hvm.symm (hgood w (List.mem_cons_of_mem _ (List.mem_cons_of_mem _ hw))) (hat w hw)
  have hk' : (Cond.classLink own ik cls).before args s' = true := vx_ot_at hW0 hvm.symm (hgood _ List.mem_cons_self) hk
  have hini' : (Cond.initialized cls).before args s' = true := vx_ot_at hW0 hvm.symm (hgood _ (List.mem_cons_of_mem _ List.mem_cons_self)) hini
  have hU' : vx_Zq Bundle.tN "UNASSIGNED_STACK" Bundle.steD A s' s'.heap := by rw [hhp]; exact vx_Zq.moved hW0.alike (hU.kept hS.2.1)
  have hN' : vx_Zq Bundle.tN "SUPPRESSED_SENTINEL" Bundle.listD A s' s'.heap := by rw [hhp]; exact vx_Zq.moved hW0.alike (hN.kept hS.2.1)
  have h : ∀ w ∈ Bundle.ownAtoms0 own ic cls names, w.before args s' = true := vx_own hat' (vx_isRefq hU'.1) (vx_isRefq hN'.1) hU'.2.word hN'.2.word
  have hown' : s'.vm.findClass own = some m.cls := by rw [hvm]; exact hown
  have hins : (Cond.instantiable cls 6).before args s' = true := h _ (by simp [Bundle.ownAtoms0])
  obtain ⟨vm₁, cX, kX, hfX, hkX, -, -, X₁, st1⟩ := Y.newCold hexec (own := own) (C := cls) (index := ik) (n := 6) hown' hk' hins hini'
    (g := F0 m pc ls rest) rfl (by rw [hb]; exact d0) (Nat.le_refl _) (Nat.le_refl _)
  generalize hT1 : (T.setVm vm₁).pushCell { cls := cX, slots := kX.instanceTypes.map defaultValue, vm := .none } = T1 at X₁ st1
  have hcat : (Value.ref T.heap.size).category = 1 := rfl
  have hcellA : T1.heap[T.heap.size]? = some (freshCell cX kX) := by rw [← hT1]; exact State.heap_pushCell_size _ _
  have d3' : decode c.code (pc + 3) = .ok (.dup, 1) := by rw [hb]; exact d3
  obtain ⟨U, hsteps, hrun, hend, hW, hsame, ce, hce, hO⟩ := X₁.ctorThrow0 hexec htr (own := own) (cls := cls) (names := names) (ic := ic) hown' hcls hnames h (fun x hx => nomatch hx) hfX hkX hcellA (by rw [hhp, hT]; exact Nat.le_refl _)
    (g := { method := m, pc := pc + 4, locals := ls, stack := .ref T.heap.size :: .ref T.heap.size :: rest, locked := none }) rfl hsize rfl rfl (rest := rest) rfl
    (by rw [hb]; exact d4) (by rw [hb]; exact d7) hout hRframes (by simp only [List.map_cons, List.sum_cons, hcat]; omega) hlocks
  obtain ⟨f1, f2⟩ := vx_frame hsame
  rw [hhp] at f1 f2
  have hWs : s.WarmedH U.vm := State.WarmedH.trans hW0 hW
  have hcl : s.vm.findClass cls = some ce.cls := by
    have h9 := hO.cls
    rw [hvm] at h9
    exact h9
  have hall : s.sameButNew ({ U with vm := s.vm } : State) locs mc ms := by
    subst hA
    obtain ⟨e1, e2⟩ := hsame
    rw [State.setFrames_setFrames] at e1
    have h2 : (T.setVm s.vm).sameButNew ({ U with vm := s.vm } : State) [] (0 + 1) (0 + 6) := ⟨e1, e2⟩
    have h3 := X.same.trans h2
    rw [List.append_nil] at h3
    exact h3.mono hc hs
  refine ⟨U, ?_, .threw T.heap.size, hrun, hend, Or.inr ⟨T.heap.size, rfl, cls, ce, locs, hx U hWs.alike f1 (fun q hq => f2 q hq (fun z hz => nomatch hz)), hce, hO.vm, hcl, hWs, hall, hf⟩⟩
  refine st1 _ ?_
  show Steps p.tables e below (T1.setTop { method := m, pc := pc + 3, locals := ls, stack := .ref T.heap.size :: rest, locked := none }) _
  jvm_step X₁.here [X₁.here.top, hexec, d3', Value.category]
  exact hsteps
/-- 'throw new E("text")': new; dup; ldc; invokespecial; athrow -/
theorem vx_throwS {cc : ByteArray} {pc : Nat} (hexec : p.tables.exec = Jvm.exec) (hb : c.code = cc) (hl : l.stackTraces = false) {own cls text : String} {names : List String} {ik is ic mc ms sa : Nat} {A : Nat → Prop}
    (hown : s.vm.findClass own = some m.cls) (hcls : Bundle.fit cls = true) (hnames : ∀ n ∈ names, Bundle.fit n = true)
    (hk : (Cond.classLink own ik cls).before args s = true) (hini : (Cond.initialized cls).before args s = true) (hstr : vk_R own is text sa s) (hat : ∀ w ∈ vx_atS own ic cls names, w.before args s = true)
    (hgood : ∀ w ∈ Cond.classLink own ik cls :: Cond.initialized cls :: vx_atS own ic cls names, vx_ot w = true)
    (hU : vx_Zq Bundle.tN "UNASSIGNED_STACK" Bundle.steD A s s.heap) (hN : vx_Zq Bundle.tN "SUPPRESSED_SENTINEL" Bundle.listD A s s.heap) (hS : va_S A s.heap H locs) (hsize : ls.size = c.maxLocals)
    (d0 : decode cc pc = .ok (.new ik, 3)) (d3 : decode cc (pc + 3) = .ok (.dup, 1)) (d4 : decode cc (pc + 4) = .ok (.ldc is, 2)) (d6 : decode cc (pc + 6) = .ok (.invokespecial ic, 3)) (d9 : decode cc (pc + 9) = .ok (.athrow, 1))
    (hout : ∀ x ∈ c.exceptionTable.toList, covers x (pc + 9) = false)
    (hRframes : names.length + 3 < R.frames) (hRlocals : (rest.map fun v => v.category).sum + (13 * (names.length + 1) + 43) ≤ R.locals) (hRcells : cells + 1 ≤ R.cells) (hRslots : slots + 6 ≤ R.slots) (hlocks : meth.locks = false)
    (hx : ∀ t : State, s.vm.Alike t.vm → H.size ≤ t.heap.size → (∀ q : Nat, q < H.size → t.heap[q]? = H[q]?) → XC cls s t)
    (hf : ∀ z ∈ locs, free z.base) (hc : cells + 1 ≤ mc) (hs : slots + 6 ≤ ms) :
    W p l e R s m args below meth c H locs cells slots (vx_MQ below Qc XC args s mc ms free) (F0 m pc ls rest) := by
  intro T hT X
  have htr : e.platform.stackTraces = false := (show e.platform.stackTraces = l.stackTraces by rw [X.admits.platform]).trans hl
  have Y := vx_rebase X (R' := { frames := R.frames, locals := R.locals, cells := 1, slots := 6 }) (Nat.le_refl _) (Nat.le_refl _) hRcells hRslots
  obtain ⟨s', hA⟩ : ∃ z, z = (T.setVm s.vm).setFrames (.invoking m args :: below) := ⟨_, rfl⟩
  rw [← hA] at Y
  have hvm : s'.vm = s.vm := by rw [hA]; rfl
  have hhp : s'.heap = H := by rw [hA]; exact hT
  have hW0 : s.WarmedH s'.vm := by rw [hvm]; exact State.WarmedH.refl s
  have hat' : ∀ w ∈ vx_atS own ic cls names, w.before args s' = true := fun w hw => vx_ot_at hW0 hvm.symm (hgood w (List.mem_cons_of_mem _ (List.mem_cons_of_mem _ hw))) (hat w hw)
  have hk' : (Cond.classLink own ik cls).before args s' = true := vx_ot_at hW0 hvm.symm (hgood _ List.mem_cons_self) hk
  have hini' : (Cond.initialized cls).before args s' = true := vx_ot_at hW0 hvm.symm (hgood _ (List.mem_cons_of_mem _ List.mem_cons_self)) hini
  have hU' : vx_Zq Bundle.tN "UNASSIGNED_STACK" Bundle.steD A s' s'.heap := by rw [hhp]; exact vx_Zq.moved hW0.alike (hU.kept hS.2.1)
  have hN' : vx_Zq Bundle.tN "SUPPRESSED_SENTINEL" Bundle.listD A s' s'.heap := by rw [hhp]; exact vx_Zq.moved hW0.alike (hN.kept hS.2.1)
  have h : ∀ w ∈ Bundle.ownAtoms own ic cls names, w.before args s' = true := vx_own hat' (vx_isRefq hU'.1) (vx_isRefq hN'.1) hU'.2.word hN'.2.word
  have hown' : s'.vm.findClass own = some m.cls := by rw [hvm]; exact hown
  have hins : (Cond.instantiable cls 6).before args s' = true := h _ (by simp [Bundle.ownAtoms])
  obtain ⟨vm₁, cX, kX, hfX, hkX, -, -, X₁, st1⟩ := Y.newCold hexec (own := own) (C := cls) (index := ik) (n := 6) hown' hk' hins hini'
    (g := F0 m pc ls rest) rfl (by rw [hb]; exact d0) (Nat.le_refl _) (Nat.le_refl _)
  generalize hT1 : (T.setVm vm₁).pushCell { cls := cX, slots := kX.instanceTypes.map defaultValue, vm := .none } = T1 at X₁ st1
  have hcat : (Value.ref T.heap.size).category = 1 := rfl
  have hcellA : T1.heap[T.heap.size]? = some (freshCell cX kX) := by rw [← hT1]; exact State.heap_pushCell_size _ _
  have d3' : decode c.code (pc + 3) = .ok (.dup, 1) := by rw [hb]; exact d3
  have d4' : decode c.code (pc + 4) = .ok (.ldc is, 2) := by rw [hb]; exact d4
  have hstr' : vk_R own is text sa s' := vk_R.warm hW0 hstr
  obtain ⟨U, hsteps, hrun, hend, hW, hsame, ce, hce, hO⟩ := X₁.ctorThrowS hexec htr (own := own) (cls := cls) (names := names) (ic := ic) hown' hcls hnames h (fun x hx => nomatch hx) hfX hkX hcellA (by rw [hhp, hT]; exact Nat.le_refl _) (msg := .ref sa) rfl
    (g := { method := m, pc := pc + 6, locals := ls, stack := .ref sa :: .ref T.heap.size :: .ref T.heap.size :: rest, locked := none }) rfl hsize rfl rfl (rest := rest) rfl
    (by rw [hb]; exact d6) (by rw [hb]; exact d9) hout hRframes (by simp only [List.map_cons, List.sum_cons, hcat]; omega) hlocks
  obtain ⟨f1, f2⟩ := vx_frame hsame
  rw [hhp] at f1 f2
  have hWs : s.WarmedH U.vm := State.WarmedH.trans hW0 hW
  have hcl : s.vm.findClass cls = some ce.cls := by
    have h9 := hO.cls
    rw [hvm] at h9
    exact h9
  have hall : s.sameButNew ({ U with vm := s.vm } : State) locs mc ms := by
    subst hA
    obtain ⟨e1, e2⟩ := hsame
    rw [State.setFrames_setFrames] at e1
    have h2 : (T.setVm s.vm).sameButNew ({ U with vm := s.vm } : State) [] (0 + 1) (0 + 6) := ⟨e1, e2⟩
    have h3 := X.same.trans h2
    rw [List.append_nil] at h3
    exact h3.mono hc hs
  refine ⟨U, ?_, .threw T.heap.size, hrun, hend, Or.inr ⟨T.heap.size, rfl, cls, ce, locs, hx U hWs.alike f1 (fun q hq => f2 q hq (fun z hz => nomatch hz)), hce, hO.vm, hcl, hWs, hall, hf⟩⟩
  refine st1 _ ?_
  show Steps p.tables e below (T1.setTop { method := m, pc := pc + 3, locals := ls, stack := .ref T.heap.size :: rest, locked := none }) _
  jvm_step X₁.here [X₁.here.top, hexec, d3', Value.category]
  exact X₁.ldcString hexec (own := own) (text := text) (index := is) (a := sa) hown' hstr'.1 hstr'.2
    (g := { method := m, pc := pc + 4, locals := ls, stack := .ref T.heap.size :: .ref T.heap.size :: rest, locked := none }) rfl d4' _ hsteps
/-- 'throw new E("text")', the text by a wide index -/
theorem vx_throwSW {cc : ByteArray} {pc : Nat} (hexec : p.tables.exec = Jvm.exec) (hb : c.code = cc) (hl : l.stackTraces = false) {own cls text : String} {names : List String} {ik is ic mc ms sa : Nat} {A : Nat → Prop}
    (hown : s.vm.findClass own = some m.cls) (hcls : Bundle.fit cls = true) (hnames : ∀ n ∈ names, Bundle.fit n = true)
    (hk : (Cond.classLink own ik cls).before args s = true) (hini : (Cond.initialized cls).before args s = true) (hstr : vk_R own is text sa s) (hat : ∀ w ∈ vx_atS own ic cls names, w.before args s = true)
    (hgood : ∀ w ∈ Cond.classLink own ik cls :: Cond.initialized cls :: vx_atS own ic cls names, vx_ot w = true)
    (hU : vx_Zq Bundle.tN "UNASSIGNED_STACK" Bundle.steD A s s.heap) (hN : vx_Zq Bundle.tN "SUPPRESSED_SENTINEL" Bundle.listD A s s.heap) (hS : va_S A s.heap H locs) (hsize : ls.size = c.maxLocals)
    (d0 : decode cc pc = .ok (.new ik, 3)) (d3 : decode cc (pc + 3) = .ok (.dup, 1)) (d4 : decode cc (pc + 4) = .ok (.ldc_w is, 3)) (d7 : decode cc (pc + 7) = .ok (.invokespecial ic, 3)) (d10 : decode cc (pc + 10) = .ok (.athrow, 1))
    (hout : ∀ x ∈ c.exceptionTable.toList, covers x (pc + 10) = false)
    (hRframes : names.length + 3 < R.frames) (hRlocals : (rest.map fun v => v.category).sum + (13 * (names.length + 1) + 43) ≤ R.locals) (hRcells : cells + 1 ≤ R.cells) (hRslots : slots + 6 ≤ R.slots) (hlocks : meth.locks = false)
    (hx : ∀ t : State, s.vm.Alike t.vm → H.size ≤ t.heap.size → (∀ q : Nat, q < H.size → t.heap[q]? = H[q]?) → XC cls s t)
    (hf : ∀ z ∈ locs, free z.base) (hc : cells + 1 ≤ mc) (hs : slots + 6 ≤ ms) :
    W p l e R s m args below meth c H locs cells slots (vx_MQ below Qc XC args s mc ms free) (F0 m pc ls rest) := by
  intro T hT X
  have htr : e.platform.stackTraces = false := (show e.platform.stackTraces = l.stackTraces by rw [X.admits.platform]).trans hl
  have Y := vx_rebase X (R' := { frames := R.frames, locals := R.locals, cells := 1, slots := 6 }) (Nat.le_refl _) (Nat.le_refl _) hRcells hRslots
  obtain ⟨s', hA⟩ : ∃ z, z = (T.setVm s.vm).setFrames (.invoking m args :: below) := ⟨_, rfl⟩
  rw [← hA] at Y
  have hvm : s'.vm = s.vm := by rw [hA]; rfl
  have hhp : s'.heap = H := by rw [hA]; exact hT
  have hW0 : s.WarmedH s'.vm := by rw [hvm]; exact State.WarmedH.refl s
  have hat' : ∀ w ∈ vx_atS own ic cls names, w.before args s' = true := fun w hw => vx_ot_at hW0 hvm.symm (hgood w (List.mem_cons_of_mem _ (List.mem_cons_of_mem _ hw))) (hat w hw)
  have hk' : (Cond.classLink own ik cls).before args s' = true := vx_ot_at hW0 hvm.symm (hgood _ List.mem_cons_self) hk
  have hini' : (Cond.initialized cls).before args s' = true := vx_ot_at hW0 hvm.symm (hgood _ (List.mem_cons_of_mem _ List.mem_cons_self)) hini
  have hU' : vx_Zq Bundle.tN "UNASSIGNED_STACK" Bundle.steD A s' s'.heap := by rw [hhp]; exact vx_Zq.moved hW0.alike (hU.kept hS.2.1)
  have hN' : vx_Zq Bundle.tN "SUPPRESSED_SENTINEL" Bundle.listD A s' s'.heap := by rw [hhp]; exact vx_Zq.moved hW0.alike (hN.kept hS.2.1)
  have h : ∀ w ∈ Bundle.ownAtoms own ic cls names, w.before args s' = true := vx_own hat' (vx_isRefq hU'.1) (vx_isRefq hN'.1) hU'.2.word hN'.2.word
  have hown' : s'.vm.findClass own = some m.cls := by rw [hvm]; exact hown
  have hins : (Cond.instantiable cls 6).before args s' = true := h _ (by simp [Bundle.ownAtoms])
  obtain ⟨vm₁, cX, kX, hfX, hkX, -, -, X₁, st1⟩ := Y.newCold hexec (own := own) (C := cls) (index := ik) (n := 6) hown' hk' hins hini'
    (g := F0 m pc ls rest) rfl (by rw [hb]; exact d0) (Nat.le_refl _) (Nat.le_refl _)
  generalize hT1 : (T.setVm vm₁).pushCell { cls := cX, slots := kX.instanceTypes.map defaultValue, vm := .none } = T1 at X₁ st1
  have hcat : (Value.ref T.heap.size).category = 1 := rfl
  have hcellA : T1.heap[T.heap.size]? = some (freshCell cX kX) := by rw [← hT1]; exact State.heap_pushCell_size _ _
  have d3' : decode c.code (pc + 3) = .ok (.dup, 1) := by rw [hb]; exact d3
  have d4' : decode c.code (pc + 4) = .ok (.ldc_w is, 3) := by rw [hb]; exact d4
  have hstr' : vk_R own is text sa s' := vk_R.warm hW0 hstr
  obtain ⟨U, hsteps, hrun, hend, hW, hsame, ce, hce, hO⟩ := X₁.ctorThrowS hexec htr (own := own) (cls := cls) (names := names) (ic := ic) hown' hcls hnames h (fun x hx => nomatch hx) hfX hkX hcellA (by rw [hhp, hT]; exact Nat.le_refl _) (msg := .ref sa) rfl
    (g := { method := m, pc := pc + 7, locals := ls, stack := .ref sa :: .ref T.heap.size :: .ref T.heap.size :: rest, locked := none }) rfl hsize rfl rfl (rest := rest) rfl
    (by rw [hb]; exact d7) (by rw [hb]; exact d10) hout hRframes (by simp only [List.map_cons, List.sum_cons, hcat]; omega) hlocks
  obtain ⟨f1, f2⟩ := vx_frame hsame
  rw [hhp] at f1 f2
  have hWs : s.WarmedH U.vm := State.WarmedH.trans hW0 hW
  have hcl : s.vm.findClass cls = some ce.cls := by
    have h9 := hO.cls
    rw [hvm] at h9
    exact h9
  have hall : s.sameButNew ({ U with vm := s.vm } : State) locs mc ms := by
    subst hA
    obtain ⟨e1, e2⟩ := hsame
    rw [State.setFrames_setFrames] at e1
    have h2 : (T.setVm s.vm).sameButNew ({ U with vm := s.vm } : State) [] (0 + 1) (0 + 6) := ⟨e1, e2⟩
    have h3 := X.same.trans h2
    rw [List.append_nil] at h3
    exact h3.mono hc hs
  refine ⟨U, ?_, .threw T.heap.size, hrun, hend, Or.inr ⟨T.heap.size, rfl, cls, ce, locs, hx U hWs.alike f1 (fun q hq => f2 q hq (fun z hz => nomatch hz)), hce, hO.vm, hcl, hWs, hall, hf⟩⟩
  refine st1 _ ?_
  show Steps p.tables e below (T1.setTop { method := m, pc := pc + 3, locals := ls, stack := .ref T.heap.size :: rest, locked := none }) _
  jvm_step X₁.here [X₁.here.top, hexec, d3', Value.category]
  exact X₁.ldcStringW hexec (own := own) (text := text) (index := is) (a := sa) hown' hstr'.1 hstr'.2
    (g := { method := m, pc := pc + 4, locals := ls, stack := .ref T.heap.size :: .ref T.heap.size :: rest, locked := none }) rfl d4' _ hsteps
end Ends
section Bodies
variable {l : Launch}
theorem vx_ofW {y : MethodName} {ws ws' : List Cond} {rm : Room} {Pc : Array Value → State → Prop} {Qc : Array Value → State → Outcome → State → Prop} {XC : String → State → State → Prop} {mc ms : Nat} {free : Addr → Prop} {cc : ByteArray} {maxL : Nat} {ret : Option FieldType}
    (hy : plainName y.cls = true) (hw : ws = Cond.code y cc maxL ret :: ws')
    (body : ∀ p e s m args below meth c s₁, BodyLoose p l y (headSpec ws rm) cc maxL ret e s m args below meth c s₁ → c.maxLocals = maxL → (∀ x ∈ c.exceptionTable.toList, False) → Pc args s →
      W p l e (headSpec ws rm).room s m args below meth c s.heap [] 0 0 (vx_MQ below Qc XC args s mc ms free) (entryFrame m args maxL)) : vx_Met l y ws rm Pc Qc XC mc ms free := by
  refine MetFree.of_bodyS (code := cc) (maxLocals := maxL) (ret := ret) hy ?_ ?_
  · intro args s m h hn
    obtain ⟨meth, c, h1, h2, h3, h4, h5, h6, -, -⟩ := Cond.code_spec hn (atoms_spec (ws := ws) h _ (by rw [hw]; exact List.mem_cons_self))
    exact ⟨meth, c, h1, h2, h3, h4, h5, h6⟩
  · intro p e s m args below meth c s₁ B hml hP _
    have hh0 : s₁.heap = s.heap := by rw [B.state]; rfl
    have ht : ∀ x ∈ c.exceptionTable.toList, False := by
      obtain ⟨meth9, c9, h1, h2, -, -, -, -, h7, -⟩ := Cond.code_spec B.named (atoms_spec (ws := ws) B.pre _ (by rw [hw]; exact List.mem_cons_self))
      cases Option.some.inj (h1.symm.trans B.method)
      cases Option.some.inj (h2.symm.trans (Stand.of_body B).code)
      intro x hx
      rw [Array.isEmpty_iff.mp h7] at hx
      cases hx
    obtain ⟨t, a1, o, b1, b2, b3⟩ := body p e s m args below meth c s₁ B hml ht hP s₁ hh0 (Stand.of_body B)
    exact ⟨t, o, a1, b1, b2, b3⟩
/-- the table of a body with handlers -/
theorem vx_table {p : Program} {x y : MethodName} {S : Spec} {cc bytes : ByteArray} {maxL maxL' : Nat} {ret ret' : Option FieldType} {e : Env} {s s₁ : State} {m : MethodId} {args : Array Value} {below : List Frame} {meth : Method} {c : Code} {hh : List (Nat × Nat × Nat × Nat)}
    (B : BodyLoose p l y S cc maxL ret e s m args below meth c s₁) (h : (Cond.codeWith y bytes maxL' ret' hh).before args s = true) : c.exceptionTable.toList = tableOf hh := by
  obtain ⟨m9, meth9, c9, hn9, h1, h2, -, -, h6, -⟩ := Cond.codeWith_spec h
  cases Option.some.inj (hn9.symm.trans B.named)
  cases Option.some.inj (h1.symm.trans B.method)
  cases Option.some.inj (h2.symm.trans (Stand.of_body B).code)
  rw [← h6, table_eq]
end Bodies
end VXA
/-! ===== END ===== -/
/-! ===== BEGIN a static call of a method with an exception table ===== -/
section VXS
variable {p : Program} {l : Launch} {e : Env} {R : Room} {s : State} {m : MethodId} {args : Array Value} {below : List Frame} {meth : Method} {c : Code} {T : State} {H : Heap} {locs : List Loc} {cells slots : Nat}
abbrev vx_CSW (R : Room) (s : State) (args : Array Value) (own : String) (index : Nat) (y : MethodName) (bytes : ByteArray) (maxL : Nat) (ret : Option FieldType) (hh : List (Nat × Nat × Nat × Nat)) (ws : List Cond) (rm : Room) (mc ms n : Nat) : Prop :=
  (rm.cells = mc ∧ rm.slots = ms ∧ rm.frames + 1 ≤ R.frames ∧ 8 + (maxL + 11) + rm.locals ≤ R.locals ∧ (∀ w ∈ ws, ∀ (a' : Array Value) (U : State), s.WarmedH U.vm → w.before a' U = true) ∧ Cond.codeWith y bytes maxL ret hh ∈ ws) ∧
  (Cond.codeWith y bytes maxL ret hh).before args s = true ∧ (Cond.initialized y.cls).before args s = true ∧ (y.cls ≠ "java/lang/invoke/MethodHandle" ∧ y.cls ≠ "java/lang/invoke/VarHandle") ∧
  (∀ sig, parseMethodDescriptor y.desc = some sig → n = sig.parameters.length) ∧ (Cond.methodLink own index y).before args s = true ∧ (Cond.static y).before args s = true
theorem vx_cwSW {own : String} {index maxL mc ms : Nat} {y : MethodName} {bytes : ByteArray} {ret : Option FieldType} {hh : List (Nat × Nat × Nat × Nat)} {Ts ws ws' : List Cond} {rm : Room} (n : Nat) (ht : ∀ w ∈ Ts, w.before args s = true) (hT : GoodIn Ts (va_wsS own index y ws)) (hw : ws = Cond.codeWith y bytes maxL ret hh :: ws') (hrc : rm.cells = mc) (hrs : rm.slots = ms)
    (hd : y.cls ≠ "java/lang/invoke/MethodHandle" ∧ y.cls ≠ "java/lang/invoke/VarHandle" ∧ (parseMethodDescriptor y.desc).map (fun d => d.parameters.length) = some n) (hR : rm.frames + 1 ≤ R.frames ∧ 8 + (maxL + 11) + rm.locals ≤ R.locals) :
    vx_CSW R s args own index y bytes maxL ret hh ws rm mc ms n := by
  have ok : ∀ w ∈ va_wsS own index y ws, w.before args s = true := fun w h => ht w (hT w h).1
  have hG : GoodIn Ts ws := fun w h => hT w (by unfold va_wsS; exact List.mem_append_right _ h)
  have hc : Cond.codeWith y bytes maxL ret hh ∈ ws := by rw [hw]; exact List.mem_cons_self
  refine ⟨⟨hrc, hrs, hR.1, hR.2, pay_in ht hG, hc⟩, ht _ (hG _ hc).1, ok _ (by simp [va_wsS]), ⟨hd.1, hd.2.1⟩, fun sig h => ?_, ok _ (by simp [va_wsS]), ok _ (by simp [va_wsS])⟩
  have h2 := hd.2.2
  rw [h] at h2
  exact (Option.some.inj h2).symm
theorem vx_callSW (X : Stand p l e R s m args below meth c T locs cells slots) (hexec : p.tables.exec = Jvm.exec) {own : String} {index : Nat} {y : MethodName} {bytes : ByteArray} {maxL : Nat} {ret : Option FieldType} {hh : List (Nat × Nat × Nat × Nat)}
    (hown : s.vm.findClass own = some m.cls) (hlink : (Cond.methodLink own index y).before args s = true) (hstat : (Cond.static y).before args s = true) (hinit : (Cond.initialized y.cls).before args s = true)
    (hcode : (Cond.codeWith y bytes maxL ret hh).before args s = true) (hy : y.cls ≠ "java/lang/invoke/MethodHandle" ∧ y.cls ≠ "java/lang/invoke/VarHandle")
    {W9 : Nat} {Pre : Pt → Array Value → Prop} {Post : Pt → Array Value → Option Value → Pt → Prop} (hK : Back l R p e below s args y 3 W9 Pre Post)
    {g : JFrame} (hg : g.method = m) (hsize : g.locals.size = c.maxLocals) {argsL rest : List Value} (hlen : ∀ sig, parseMethodDescriptor y.desc = some sig → argsL.length = sig.parameters.length)
    (hstack : g.stack = argsL.reverse ++ rest) (hW : 2 * g.monitorRoom + (rest.map fun v => v.category).sum ≤ W9) (hdg : decode c.code g.pc = .ok (.invokestatic index, 3))
    (hpre : ∀ vm₁, s.WarmedH vm₁ → Pre ⟨T.setVm vm₁, locs, cells, slots⟩ argsL.toArray) :
    ∃ (v : Option Value) (vm₁ : Vm) (B : Pt), s.WarmedH vm₁ ∧ Stand p l e R s m args below meth c B.U B.locs B.cells B.slots ∧ Post ⟨T.setVm vm₁, locs, cells, slots⟩ argsL.toArray v B ∧
      ∀ target, Steps p.tables e below (B.U.setTop { g with pc := g.pc + 3, stack := v.toList ++ rest }) target → Steps p.tables e below (T.setTop g) target := by
  obtain ⟨mk, methM, cM, hnamed, hmethM, -, -, -, -, -, -, hsigM⟩ := Cond.codeWith_spec hcode
  have hstatic : methM.isStatic = true := Cond.static_spec hnamed hmethM hstat
  obtain ⟨kP, hkP, -⟩ := className_of_methodNamed hnamed
  have hinitP : kP.init = .initialized := Cond.initialized_spec (findClass_of_methodNamed hnamed) hkP hinit
  obtain ⟨vm₁, X₁, hstep₁⟩ := X.invokestatic hexec hown hlink hnamed hmethM hstatic hkP hinitP hy (g := g) hg (argsL := argsL) (rest := rest) (hlen _ hsigM) hstack hdg
  obtain ⟨v, B, X', hpost, hsteps⟩ := hK m meth c ⟨T.setVm vm₁, locs, cells, slots⟩ { g with stack := rest } (.invokestatic index) mk argsL.toArray X₁ hg hsize hdg hW (X₁.named hnamed) (hpre vm₁ X₁.warmed)
  exact ⟨v, vm₁, B, X₁.warmed, X', hpost, fun target h => hstep₁ _ fun acts => by rw [doInvoke_state]; exact hsteps.trans h⟩
theorem vx_runSW {y : MethodName} {bytes cc : ByteArray} {maxL nL mc ms n index : Nat} {ret : Option FieldType} {hh : List (Nat × Nat × Nat × Nat)} {ws : List Cond} {rm : Room} {Pc : Array Value → State → Prop} {Qc : Array Value → State → Outcome → State → Prop} {free : Addr → Prop} {Ts : List Cond} {own : String} {As rest : List Value} {g : JFrame}
    (S : CallFix p m c cc nL s args Ts own) (hM : Met l y ws rm Pc Qc mc ms free) (cw : vx_CSW R s args own index y bytes maxL ret hh ws rm mc ms n) (hp : PreS s H Pc As)
    (hg : g.method = m) (hn : As.length = n) (hsize : g.locals.size = nL) (hstack : g.stack = As.reverse ++ rest) (hW : 2 * g.monitorRoom + (rest.map fun v => v.category).sum ≤ 8) (hdg : decode cc g.pc = .ok (.invokestatic index, 3)) (hf : cells + mc ≤ R.cells ∧ slots + ms ≤ R.slots) :
    va_Run p l e R s m args below meth c H locs cells slots mc ms g rest (Qc As.toArray) (free) := by
  obtain ⟨⟨hrc, hrs, hfr, hlo, hws, hcw⟩, hcode, hini, hy, hlen, hl, hstt⟩ := cw
  have hK : Back l R p e below s args y 3 8 (PreOf R mc ms Pc) (PostOf Qc mc ms free) := va_backW (hh := hh) (bytes := bytes) (maxL := maxL) (ret := ret) hM hp.1 hrc hrs hfr hlo hws hcw (fun a' U hW => word_at hW (Or.inl (by first | rfl | simp [Cond.onTables, Cond.keeps, Cond.steady])) hini)
  obtain ⟨hx, hb, hml, ho, -⟩ := S
  intro T hT X
  obtain ⟨v, vm₁, ⟨U', l2, c2, s2⟩, hW₁, X', ⟨g', mk, t, L, e1, e2, hq, h1, hL, h2, h3⟩, st⟩ := vx_callSW X hx (hh := hh) (bytes := bytes) (maxL := maxL) (ret := ret) ho hl hstt hini hcode hy hK hg (hsize.trans hml.symm) (argsL := As) (rest := rest) (fun sig h => hn.trans (hlen sig h)) hstack hW (by rw [hb]; exact hdg)
    (fun vm₁ hW₁ => ⟨hf.1, hf.2, hp.2 (T.setVm vm₁) hT hW₁⟩)
  dsimp only [Pt.U, Pt.locs, Pt.cells, Pt.slots] at X' e1 e2 h1 h2 h3 st
  subst h1; subst h2; subst h3
  exact ⟨v, (T.setVm vm₁).calling g' mk As.toArray, t, U', L, hT, X', hL, e1, e2, hq, st⟩
/-- not caught here, past rows that name other classes: it goes on to the caller -/
theorem vx_outP {p : Program} {l : Launch} {e : Env} {R : Room} {s : State} {m : MethodId} {args : Array Value} {below : List Frame} {meth : Method} {c : Code} {H : Heap} {locs : List Loc} {cells slots : Nat} {free : Addr → Prop} {ls : Array Slot} {rest : List Value} {Qc : Array Value → State → Outcome → State → Prop} {XC : String → State → State → Prop}
    {pc : Nat} {own E : String} {ce : Cell} {q : Addr} {mc ms : Nat} (hown : s.vm.findClass own = some m.cls) (hlocks : meth.locks = false)
    (hpass : ∀ z ∈ c.exceptionTable.toList, covers z pc = false ∨ (z.catchType ≠ 0 ∧ ∃ nm : String, (Cond.classLink own z.catchType nm).before args s = true ∧ va_Nc E nm s)) (hcell : H[q]? = some ce) (hv : ce.vm = .none) (hcl : s.vm.findClass E = some ce.cls)
    (hx : ∀ t : State, t.heap = H → s.vm.Alike t.vm → XC E s t) (hf : ∀ z ∈ locs, free z.base) (hc : cells ≤ mc) (hs : slots ≤ ms) :
    vx_W p l e R s m args below meth c H locs cells slots (vx_MQ below Qc XC args s mc ms free) (F0 m pc ls rest) q := by
  intro T hT X
  have hpl : e.platform.magicAccessors = ({} : Platform).magicAccessors := by rw [X.admits.platform]
  obtain ⟨vm', hW', X', st⟩ := X.outThrough hlocks q (g := F0 m pc ls rest) rfl rfl rfl (cell := ce) (by rw [hT]; exact hcell) (by rw [hv]; rfl)
    (by obtain ⟨k9, h9, -⟩ := Vm.findClass_spec hcl; exact ⟨k9, h9⟩) (fun z hz => by
      rcases hpass z hz with h | ⟨hz0, nm, hl1, hn1⟩
      · exact Or.inl h
      · obtain ⟨c6, hc6, hcl6⟩ := Cond.classLink_spec hown hl1 e.platform hpl
        obtain ⟨a8, b8, h1, h2, h3⟩ := hn1
        cases Option.some.inj (h1.symm.trans hcl)
        cases Option.some.inj (h2.symm.trans hc6)
        exact Or.inr ⟨hz0, _, hcl6, h3⟩)
  obtain ⟨g₀, hfr⟩ := X'.frames_eq
  have hcell9 : ((T.setVm vm').setFrames (.throwing q :: below)).heap[q]? = some ce := by
    show T.heap[q]? = some ce
    rw [hT]; exact hcell
  have hend : Ended ((T.setVm vm').setFrames (.throwing q :: below)) below (.threw q) := State.frames_setFrames _ (State.cur_lt_of_frames hfr)
  refine ⟨(T.setVm vm').setFrames (.throwing q :: below), ?_, .threw q, X'.here.running, hend, Or.inr ⟨q, rfl, E, ce, locs, hx _ hT (X'.ends _).1.alike, hcell9, hv, hcl, (X'.ends _).1, (X'.ends _).2.mono hc hs, hf⟩⟩
  rw [X.pushThrowing_eq]
  exact st
/-- a thing of a world lies in the heap -/
theorem vx_lt {D : va_G} {cl : List vw_C} {ws : va_W} {H1 : Heap} (h : va_P D cl ws H1) {k : Nat} {q : Nat × va_E} (hk : ws[k]? = some q) : q.1 < H1.size := (h k q hk).lt
end VXS
/-! ===== END ===== -/
/-! ===== BEGIN methods with a table of their own: called by a name, returning or throwing ===== -/
section VXH
/-! vx_backW, vx_callVX, vx_callSX, vx_callVW, vx_runVW, vx_runVX, vx_runSX, vx_ofWH follow the same proofs as their sisters above (Free/Laws.lean, Shelf42/LK1.lean); vx_outP calls Shelf42/NT130.lean (outThrough). -/
section
variable {l : Launch} {R : Room} {p : Program} {e : Env} {below : List Frame} {s : State} {sargs : Array Value} {y : MethodName} {len W9 : Nat}
theorem vx_backW {ws : List Cond} {rm : Room} {Pc : Array Value → State → Prop} {Qc : Array Value → State → Outcome → State → Prop} {XC : String → State → State → Prop} {mc ms : Nat} {free : Addr → Prop} {bytes : ByteArray} {maxL : Nat} {ret : Option FieldType} {hh : List (Nat × Nat × Nat × Nat)}
    (hM : vx_Met l y ws rm Pc Qc XC mc ms free) (hblind : FrameBlind Pc) (hrc : rm.cells = mc) (hrs : rm.slots = ms)
    (hframes : rm.frames + 1 ≤ R.frames) (hlocals : W9 + (maxL + 11) + rm.locals ≤ R.locals)
    (hws : ∀ w ∈ ws, ∀ a' U, s.WarmedH U.vm → w.before a' U = true) (hcode : Cond.codeWith y bytes maxL ret hh ∈ ws) (hinit : ∀ a' U, s.WarmedH U.vm → (Cond.initialized y.cls).before a' U = true) :
    vx_Back l R p e below s sargs y len W9 (PreOf R mc ms Pc) (PostOf Qc mc ms free) (vx_Post XC mc ms free) := by
  intro m meth c A g ig mk a X hg hsize hdg hW hn hp
  have h1 : (headSpec ws rm).pre.before a A.U = true := atoms_intro fun w hw => hws w hw _ _ X.warmed
  have h2 : (Cond.codeWith y bytes maxL ret hh).before a A.U = true := hws _ hcode _ _ X.warmed
  have h3 : (Cond.initialized y.cls).before a A.U = true := hinit _ _ X.warmed
  have h4 : A.cells + (headSpec ws rm).room.cells ≤ R.cells := by rw [show (headSpec ws rm).room.cells = mc from hrc]; exact hp.1
  have h5 : A.slots + (headSpec ws rm).room.slots ≤ R.slots := by rw [show (headSpec ws rm).room.slots = ms from hrs]; exact hp.2.1
  have hPc : Pc a (A.U.calling g mk a) := hblind _ _ _ _ hp.2.2
  obtain ⟨U, Ls, c0, s0⟩ := A
  dsimp only [Pt.U, Pt.locs, Pt.cells, Pt.slots] at h1 h2 h3 h4 h5 X hn hPc ⊢
  obtain ⟨m9, methY, cY, hn9, hmY, hcY, -, hlY, -⟩ := Cond.codeWith_spec h2
  cases Option.some.inj (hn9.symm.trans hn)
  obtain ⟨kY, hkY, -⟩ := className_of_methodNamed hn
  have hinitY : kY.init = .initialized := Cond.initialized_spec (findClass_of_methodNamed hn) hkY h3
  have h : At U g.method c below := by rw [hg]; exact X.here
  have hlocals9 : W9 + (maxL + 11) + (headSpec ws rm).room.locals ≤ R.locals := hlocals
  have happ : (headSpec ws rm).appliesLoose y e.platform (U.calling g mk a) = true :=
    Spec.appliesLoose_calling (g := g) h hdg hn hkY hinitY
      (X.room_calling (g := g) (R' := (headSpec ws rm).room) hsize hmY hcY hframes (by rw [hlY]; omega) h4 h5) h1
  obtain ⟨mid, hmid⟩ := h.above
  have hfr : (U.setTop g).frames = (.java g :: mid) ++ below := by rw [State.frames_setTop' g h.top, hmid]; rfl
  obtain ⟨o, s₂, hsteps, -, hend, hq⟩ := Steps.callFree hM p X.admits X.cas X.clock (acts := []) hfr happ hPc trivial
  have hq' : vx_Q Qc XC mc ms free a (U.calling g mk a) o s₂ := hq
  rw [State.frames_setTop' g h.top] at hend
  obtain ⟨g₀, hg0⟩ := Option.isSome_iff_exists.mp h.top
  obtain ⟨r, hr⟩ := State.topJava?_eq_some.mp hg0
  have hr' : (({ U with heap := s₂.heap, slotsUsed := s₂.slotsUsed } : State).setVm s₂.vm).frames = .java g₀ :: r := hr
  rcases hq' with ⟨hqc, L, hfe, hL⟩ | ⟨q, rfl, E, ce, L, hx, hce, hcv, hcl, hW₂, hsm, hL⟩
  · obtain ⟨⟨v, rfl⟩, hW₂, e2, q2, q3, q4, q5, q6⟩ := id hfe
    have e3 : s₂ = ({ (U.calling g mk a).setFrames s₂.frames with heap := s₂.heap, slotsUsed := s₂.slotsUsed } : State).setVm s₂.vm := by
      have : s₂ = ({ s₂ with vm := (U.calling g mk a).vm } : State).setVm s₂.vm := rfl
      rw [e2] at this
      exact this
    obtain ⟨c₂, i₂, len₂, hc₂, hd₂, hf₂⟩ := hend
    have hW' : U.WarmedH s₂.vm := hW₂
    have hcc : c₂ = c := by
      have h1 : s₂.code? g.method = U.code? g.method := by
        rw [State.code?_eq, State.code?_eq, hW'.alike.method?]
      exact Option.some.inj (hc₂.symm.trans (h1.trans h.code))
    subst hcc
    have hlen : len₂ = len := by rw [hdg] at hd₂; cases hd₂; rfl
    subst hlen
    have hs₂ : s₂ = (({ U with heap := s₂.heap, slotsUsed := s₂.slotsUsed } : State).setVm s₂.vm).setTop { g with pc := g.pc + len₂, stack := v.toList ++ g.stack } := by
      refine e3.trans ?_
      rw [hf₂, State.calling_eq h.top, State.setFrames_setFrames, State.setTop_of_frames _ hr', hr]
      rfl
    have hsame : U.sameButNew ({ U with heap := s₂.heap, slotsUsed := s₂.slotsUsed } : State) L mc ms := by
      refine ⟨?_, q2, q3, q4, q5, q6⟩
      obtain ⟨t, ht, -⟩ := State.frames_cons hr
      show ({ U with heap := s₂.heap, slotsUsed := s₂.slotsUsed } : State) = { U.setFrames U.frames with heap := s₂.heap, slotsUsed := s₂.slotsUsed }
      rw [State.setFrames_self ht]
    subst hg
    refine Or.inl ⟨v, ⟨(({ U with heap := s₂.heap, slotsUsed := s₂.slotsUsed } : State).setVm s₂.vm), Ls ++ L, c0 + mc, s0 + ms⟩,
      ⟨X.admits, X.cas, X.clock, X.frames, X.room, X.hears, X.method, X.code, (X.here.setHeapUsed s₂.heap s₂.slotsUsed).setVm hW'.alike, X.tail, State.WarmedH.trans X.warmed hW', X.limits, X.bytes, X.same.trans (hsame.setVm s.vm)⟩,
      ⟨g, mk, s₂, L, rfl, rfl, hqc, rfl, hL, rfl, rfl⟩, ?_⟩
    show Steps p.tables e below _ ((({ U with heap := s₂.heap, slotsUsed := s₂.slotsUsed } : State).setVm s₂.vm).setTop { g with pc := g.pc + len₂, stack := v.toList ++ g.stack })
    rw [← hs₂]
    exact hsteps
  · obtain ⟨e2, q2, q3, q4, q5, q6⟩ := id hsm
    have e3 : s₂ = ({ (U.calling g mk a).setFrames s₂.frames with heap := s₂.heap, slotsUsed := s₂.slotsUsed } : State).setVm s₂.vm := by
      have : s₂ = ({ s₂ with vm := (U.calling g mk a).vm } : State).setVm s₂.vm := rfl
      rw [e2] at this
      exact this
    have hf₂ : s₂.frames = .throwing q :: .java g :: U.frames.tail := hend
    have hW' : U.WarmedH s₂.vm := hW₂
    have hs₂ : s₂ = ((({ U with heap := s₂.heap, slotsUsed := s₂.slotsUsed } : State).setVm s₂.vm).setTop g).pushFrame (.throwing q) := by
      refine e3.trans ?_
      rw [hf₂, State.calling_eq h.top, State.setFrames_setFrames, State.pushFrame, State.frames_setTop _ hr', State.setTop_of_frames _ hr', State.setFrames_setFrames, hr]
      rfl
    have hsame : U.sameButNew ({ U with heap := s₂.heap, slotsUsed := s₂.slotsUsed } : State) L mc ms := by
      refine ⟨?_, q2, q3, q4, q5, q6⟩
      obtain ⟨t, ht, -⟩ := State.frames_cons hr
      show ({ U with heap := s₂.heap, slotsUsed := s₂.slotsUsed } : State) = { U.setFrames U.frames with heap := s₂.heap, slotsUsed := s₂.slotsUsed }
      rw [State.setFrames_self ht]
    subst hg
    refine Or.inr ⟨q, ⟨(({ U with heap := s₂.heap, slotsUsed := s₂.slotsUsed } : State).setVm s₂.vm), Ls ++ L, c0 + mc, s0 + ms⟩,
      ⟨X.admits, X.cas, X.clock, X.frames, X.room, X.hears, X.method, X.code, (X.here.setHeapUsed s₂.heap s₂.slotsUsed).setVm hW'.alike, X.tail, State.WarmedH.trans X.warmed hW', X.limits, X.bytes, X.same.trans (hsame.setVm s.vm)⟩,
      ⟨g, mk, s₂, L, E, ce, rfl, rfl, hx, hce, hcv, hcl, rfl, hL, rfl, rfl⟩, ?_⟩
    show Steps p.tables e below _ (((({ U with heap := s₂.heap, slotsUsed := s₂.slotsUsed } : State).setVm s₂.vm).setTop g).pushFrame (.throwing q))
    rw [← hs₂]
    exact hsteps
end
variable {p : Program} {l : Launch} {e : Env} {R : Room} {s : State} {m : MethodId} {args : Array Value} {below : List Frame} {meth : Method} {c : Code} {T : State} {H : Heap} {locs : List Loc} {cells slots : Nat}
theorem vx_callVX (X : Stand p l e R s m args below meth c T locs cells slots) (hexec : p.tables.exec = Jvm.exec) {own C : String} {index : Nat} {y : MethodName} {bytes : ByteArray} {maxL : Nat} {ret : Option FieldType} {hh : List (Nat × Nat × Nat × Nat)}
    (hown : s.vm.findClass own = some m.cls) (hlink : (Cond.methodLink own index y).before args s = true) (hinst : (Cond.instanceMethod y).before args s = true) (hsel : (Cond.selects C y y).before args s = true)
    (hcode : (Cond.codeWith y bytes maxL ret hh).before args s = true) (hy : y.cls ≠ "java/lang/invoke/MethodHandle" ∧ y.cls ≠ "java/lang/invoke/VarHandle")
    {W9 : Nat} {Pre : Pt → Array Value → Prop} {Post : Pt → Array Value → Option Value → Pt → Prop} {PostX : Pt → Array Value → Addr → Pt → Prop} (hK : vx_Back l R p e below s args y 3 W9 Pre Post PostX)
    {b : Addr} {cellB : Cell} (hcell : T.heap[b]? = some cellB) (hobj : cellB.vm.isStatics = false) (hcls : s.vm.findClass C = some cellB.cls)
    {g : JFrame} (hg : g.method = m) (hsize : g.locals.size = c.maxLocals) {argsL rest : List Value} (hlen : ∀ sig, parseMethodDescriptor y.desc = some sig → argsL.length = sig.parameters.length)
    (hstack : g.stack = argsL.reverse ++ .ref b :: rest) (hW : 2 * g.monitorRoom + (rest.map fun v => v.category).sum ≤ W9) (hdg : decode c.code g.pc = .ok (.invokevirtual index, 3))
    (hpre : ∀ vm₁, s.WarmedH vm₁ → Pre ⟨T.setVm vm₁, locs, cells, slots⟩ (Value.ref b :: argsL).toArray) :
    (∃ (v : Option Value) (vm₁ : Vm) (B : Pt), s.WarmedH vm₁ ∧ Stand p l e R s m args below meth c B.U B.locs B.cells B.slots ∧ Post ⟨T.setVm vm₁, locs, cells, slots⟩ (Value.ref b :: argsL).toArray v B ∧
      ∀ target, Steps p.tables e below (B.U.setTop { g with pc := g.pc + 3, stack := v.toList ++ rest }) target → Steps p.tables e below (T.setTop g) target) ∨
    (∃ (q : Addr) (vm₁ : Vm) (B : Pt), s.WarmedH vm₁ ∧ Stand p l e R s m args below meth c B.U B.locs B.cells B.slots ∧ PostX ⟨T.setVm vm₁, locs, cells, slots⟩ (Value.ref b :: argsL).toArray q B ∧
      Steps p.tables e below (T.setTop g) ((B.U.setTop { g with stack := rest }).pushFrame (.throwing q))) := by
  obtain ⟨mk, methM, hnamed, hmethM, hstM, habM⟩ := Cond.instanceMethod_spec hinst
  obtain ⟨m8, methM', cM, hn8, hmethM', -, -, -, -, -, -, hsigM⟩ := Cond.codeWith_spec hcode
  cases Option.some.inj (hn8.symm.trans hnamed)
  cases hmethM.symm.trans hmethM'
  obtain ⟨c2, r2, m2, q1, q2, q3, q4, kP, hkP, hkPi⟩ := Cond.selects_spec hsel
  cases hcls.symm.trans q1
  cases (State.methodFound?_of_named hnamed hy).symm.trans q2
  cases hnamed.symm.trans q3
  have hselP : selectMethod e.platform s.vm cellB.cls mk = .method mk := by rw [Launch.admits_selectMethod X.admits]; exact q4
  obtain ⟨vm₁, X₁, hstep₁⟩ := X.invokevirtual hexec hown hlink hnamed hmethM hstM hkP hkPi hy (a := b) (cell := cellB) hcell
    (fun z h => by rw [h] at hobj; cases hobj) hselP hmethM habM hkP hkPi (g := g) hg (argsL := argsL) (rest := rest) (hlen _ hsigM) hstack hdg
  rcases hK m meth c ⟨T.setVm vm₁, locs, cells, slots⟩ { g with stack := rest } (.invokevirtual index) mk (Value.ref b :: argsL).toArray X₁ hg hsize hdg hW (X₁.named hnamed) (hpre vm₁ X₁.warmed) with ⟨v, B, X', hpost, hsteps⟩ | ⟨q, B, X', hpost, hsteps⟩
  · exact Or.inl ⟨v, vm₁, B, X₁.warmed, X', hpost, fun target h => hstep₁ _ fun acts => by rw [doInvoke_state]; exact hsteps.trans h⟩
  · exact Or.inr ⟨q, vm₁, B, X₁.warmed, X', hpost, hstep₁ _ fun acts => by rw [doInvoke_state]; exact hsteps⟩
theorem vx_callSX (X : Stand p l e R s m args below meth c T locs cells slots) (hexec : p.tables.exec = Jvm.exec) {own : String} {index : Nat} {y : MethodName} {bytes : ByteArray} {maxL : Nat} {ret : Option FieldType} {hh : List (Nat × Nat × Nat × Nat)}
    (hown : s.vm.findClass own = some m.cls) (hlink : (Cond.methodLink own index y).before args s = true) (hstat : (Cond.static y).before args s = true) (hinit : (Cond.initialized y.cls).before args s = true)
    (hcode : (Cond.codeWith y bytes maxL ret hh).before args s = true) (hy : y.cls ≠ "java/lang/invoke/MethodHandle" ∧ y.cls ≠ "java/lang/invoke/VarHandle")
    {W9 : Nat} {Pre : Pt → Array Value → Prop} {Post : Pt → Array Value → Option Value → Pt → Prop} {PostX : Pt → Array Value → Addr → Pt → Prop} (hK : vx_Back l R p e below s args y 3 W9 Pre Post PostX)
    {g : JFrame} (hg : g.method = m) (hsize : g.locals.size = c.maxLocals) {argsL rest : List Value} (hlen : ∀ sig, parseMethodDescriptor y.desc = some sig → argsL.length = sig.parameters.length)
    (hstack : g.stack = argsL.reverse ++ rest) (hW : 2 * g.monitorRoom + (rest.map fun v => v.category).sum ≤ W9) (hdg : decode c.code g.pc = .ok (.invokestatic index, 3))
    (hpre : ∀ vm₁, s.WarmedH vm₁ → Pre ⟨T.setVm vm₁, locs, cells, slots⟩ argsL.toArray) :
    (∃ (v : Option Value) (vm₁ : Vm) (B : Pt), s.WarmedH vm₁ ∧ Stand p l e R s m args below meth c B.U B.locs B.cells B.slots ∧ Post ⟨T.setVm vm₁, locs, cells, slots⟩ argsL.toArray v B ∧
      ∀ target, Steps p.tables e below (B.U.setTop { g with pc := g.pc + 3, stack := v.toList ++ rest }) target → Steps p.tables e below (T.setTop g) target) ∨
    (∃ (q : Addr) (vm₁ : Vm) (B : Pt), s.WarmedH vm₁ ∧ Stand p l e R s m args below meth c B.U B.locs B.cells B.slots ∧ PostX ⟨T.setVm vm₁, locs, cells, slots⟩ argsL.toArray q B ∧
      Steps p.tables e below (T.setTop g) ((B.U.setTop { g with stack := rest }).pushFrame (.throwing q))) := by
  obtain ⟨mk, methM, cM, hnamed, hmethM, -, -, -, -, -, -, hsigM⟩ := Cond.codeWith_spec hcode
  have hstatic : methM.isStatic = true := Cond.static_spec hnamed hmethM hstat
  obtain ⟨kP, hkP, -⟩ := className_of_methodNamed hnamed
  have hinitP : kP.init = .initialized := Cond.initialized_spec (findClass_of_methodNamed hnamed) hkP hinit
  obtain ⟨vm₁, X₁, hstep₁⟩ := X.invokestatic hexec hown hlink hnamed hmethM hstatic hkP hinitP hy (g := g) hg (argsL := argsL) (rest := rest) (hlen _ hsigM) hstack hdg
  rcases hK m meth c ⟨T.setVm vm₁, locs, cells, slots⟩ { g with stack := rest } (.invokestatic index) mk argsL.toArray X₁ hg hsize hdg hW (X₁.named hnamed) (hpre vm₁ X₁.warmed) with ⟨v, B, X', hpost, hsteps⟩ | ⟨q, B, X', hpost, hsteps⟩
  · exact Or.inl ⟨v, vm₁, B, X₁.warmed, X', hpost, fun target h => hstep₁ _ fun acts => by rw [doInvoke_state]; exact hsteps.trans h⟩
  · exact Or.inr ⟨q, vm₁, B, X₁.warmed, X', hpost, hstep₁ _ fun acts => by rw [doInvoke_state]; exact hsteps⟩
theorem vx_callVW (X : Stand p l e R s m args below meth c T locs cells slots) (hexec : p.tables.exec = Jvm.exec) {own C : String} {index : Nat} {y : MethodName} {bytes : ByteArray} {maxL : Nat} {ret : Option FieldType} {hh : List (Nat × Nat × Nat × Nat)}
    (hown : s.vm.findClass own = some m.cls) (hlink : (Cond.methodLink own index y).before args s = true) (hinst : (Cond.instanceMethod y).before args s = true) (hsel : (Cond.selects C y y).before args s = true)
    (hcode : (Cond.codeWith y bytes maxL ret hh).before args s = true) (hy : y.cls ≠ "java/lang/invoke/MethodHandle" ∧ y.cls ≠ "java/lang/invoke/VarHandle")
    {W9 : Nat} {Pre : Pt → Array Value → Prop} {Post : Pt → Array Value → Option Value → Pt → Prop} (hK : Back l R p e below s args y 3 W9 Pre Post)
    {b : Addr} {cellB : Cell} (hcell : T.heap[b]? = some cellB) (hobj : cellB.vm.isStatics = false) (hcls : s.vm.findClass C = some cellB.cls)
    {g : JFrame} (hg : g.method = m) (hsize : g.locals.size = c.maxLocals) {argsL rest : List Value} (hlen : ∀ sig, parseMethodDescriptor y.desc = some sig → argsL.length = sig.parameters.length)
    (hstack : g.stack = argsL.reverse ++ .ref b :: rest) (hW : 2 * g.monitorRoom + (rest.map fun v => v.category).sum ≤ W9) (hdg : decode c.code g.pc = .ok (.invokevirtual index, 3))
    (hpre : ∀ vm₁, s.WarmedH vm₁ → Pre ⟨T.setVm vm₁, locs, cells, slots⟩ (Value.ref b :: argsL).toArray) :
    ∃ (v : Option Value) (vm₁ : Vm) (B : Pt), s.WarmedH vm₁ ∧ Stand p l e R s m args below meth c B.U B.locs B.cells B.slots ∧ Post ⟨T.setVm vm₁, locs, cells, slots⟩ (Value.ref b :: argsL).toArray v B ∧
      ∀ target, Steps p.tables e below (B.U.setTop { g with pc := g.pc + 3, stack := v.toList ++ rest }) target → Steps p.tables e below (T.setTop g) target := by
  obtain ⟨mk, methM, hnamed, hmethM, hstM, habM⟩ := Cond.instanceMethod_spec hinst
  obtain ⟨m8, methM', cM, hn8, hmethM', -, -, -, -, -, -, hsigM⟩ := Cond.codeWith_spec hcode
  cases Option.some.inj (hn8.symm.trans hnamed)
  cases hmethM.symm.trans hmethM'
  obtain ⟨c2, r2, m2, q1, q2, q3, q4, kP, hkP, hkPi⟩ := Cond.selects_spec hsel
  cases hcls.symm.trans q1
  cases (State.methodFound?_of_named hnamed hy).symm.trans q2
  cases hnamed.symm.trans q3
  have hselP : selectMethod e.platform s.vm cellB.cls mk = .method mk := by rw [Launch.admits_selectMethod X.admits]; exact q4
  obtain ⟨vm₁, X₁, hstep₁⟩ := X.invokevirtual hexec hown hlink hnamed hmethM hstM hkP hkPi hy (a := b) (cell := cellB) hcell
    (fun z h => by rw [h] at hobj; cases hobj) hselP hmethM habM hkP hkPi (g := g) hg (argsL := argsL) (rest := rest) (hlen _ hsigM) hstack hdg
  obtain ⟨v, B, X', hpost, hsteps⟩ := hK m meth c ⟨T.setVm vm₁, locs, cells, slots⟩ { g with stack := rest } (.invokevirtual index) mk (Value.ref b :: argsL).toArray X₁ hg hsize hdg hW (X₁.named hnamed) (hpre vm₁ X₁.warmed)
  exact ⟨v, vm₁, B, X₁.warmed, X', hpost, fun target h => hstep₁ _ fun acts => by rw [doInvoke_state]; exact hsteps.trans h⟩
abbrev vx_CVW (R : Room) (s : State) (args : Array Value) (own C : String) (index : Nat) (y : MethodName) (bytes : ByteArray) (maxL : Nat) (ret : Option FieldType) (hh : List (Nat × Nat × Nat × Nat)) (ws : List Cond) (rm : Room) (mc ms n : Nat) : Prop :=
  (rm.cells = mc ∧ rm.slots = ms ∧ rm.frames + 1 ≤ R.frames ∧ 8 + (maxL + 11) + rm.locals ≤ R.locals ∧ (∀ w ∈ ws, ∀ (a' : Array Value) (U : State), s.WarmedH U.vm → w.before a' U = true) ∧ Cond.codeWith y bytes maxL ret hh ∈ ws) ∧
  (Cond.codeWith y bytes maxL ret hh).before args s = true ∧ (Cond.initialized y.cls).before args s = true ∧ (y.cls ≠ "java/lang/invoke/MethodHandle" ∧ y.cls ≠ "java/lang/invoke/VarHandle") ∧
  (∀ sig, parseMethodDescriptor y.desc = some sig → n = sig.parameters.length) ∧ (Cond.methodLink own index y).before args s = true ∧ (Cond.instanceMethod y).before args s = true ∧ (Cond.selects C y y).before args s = true
theorem vx_cwVW {own C : String} {index maxL mc ms : Nat} {y : MethodName} {bytes : ByteArray} {ret : Option FieldType} {hh : List (Nat × Nat × Nat × Nat)} {Ts ws ws' : List Cond} {rm : Room} (n : Nat) (ht : ∀ w ∈ Ts, w.before args s = true) (hT : GoodIn Ts (wsV own index C y ws)) (hw : ws = Cond.codeWith y bytes maxL ret hh :: ws') (hrc : rm.cells = mc) (hrs : rm.slots = ms)
    (hd : y.cls = C ∧ y.cls ≠ "java/lang/invoke/MethodHandle" ∧ y.cls ≠ "java/lang/invoke/VarHandle" ∧ (parseMethodDescriptor y.desc).map (fun d => d.parameters.length) = some n) (hR : rm.frames + 1 ≤ R.frames ∧ 8 + (maxL + 11) + rm.locals ≤ R.locals) :
    vx_CVW R s args own C index y bytes maxL ret hh ws rm mc ms n := by
  obtain ⟨hC, hd⟩ := hd
  subst hC
  have ok : ∀ w ∈ wsV own index y.cls y ws, w.before args s = true := fun w h => ht w (hT w h).1
  have hG : GoodIn Ts ws := fun w h => hT w (by unfold wsV; exact List.mem_append_right _ h)
  have hc : Cond.codeWith y bytes maxL ret hh ∈ ws := by rw [hw]; exact List.mem_cons_self
  refine ⟨⟨hrc, hrs, hR.1, hR.2, pay_in ht hG, hc⟩, ht _ (hG _ hc).1, ok _ (by simp [wsV]), ⟨hd.1, hd.2.1⟩, fun sig h => ?_, ok _ (by simp [wsV]), ok _ (by simp [wsV]), ok _ (by simp [wsV])⟩
  have h2 := hd.2.2
  rw [h] at h2
  exact (Option.some.inj h2).symm
theorem vx_runVW {y : MethodName} {bytes cc : ByteArray} {maxL nL mc ms n index : Nat} {ret : Option FieldType} {hh : List (Nat × Nat × Nat × Nat)} {ws : List Cond} {rm : Room} {Pc : Array Value → State → Prop} {Qc : Array Value → State → Outcome → State → Prop} {free : Addr → Prop} {Ts : List Cond} {own C : String} {b : Addr} {As rest : List Value} {g : JFrame}
    (S : CallFix p m c cc nL s args Ts own) (hM : Met l y ws rm Pc Qc mc ms free) (cw : vx_CVW R s args own C index y bytes maxL ret hh ws rm mc ms n) (hp : PreV s H C b Pc As)
    (hg : g.method = m) (hn : As.length = n) (hsize : g.locals.size = nL) (hstack : g.stack = As.reverse ++ .ref b :: rest) (hW : 2 * g.monitorRoom + (rest.map fun v => v.category).sum ≤ 8) (hdg : decode cc g.pc = .ok (.invokevirtual index, 3)) (hf : cells + mc ≤ R.cells ∧ slots + ms ≤ R.slots) :
    va_Run p l e R s m args below meth c H locs cells slots mc ms g rest (Qc (Value.ref b :: As).toArray) free := by
  obtain ⟨⟨hrc, hrs, hfr, hlo, hws, hcw⟩, hcode, hini, hy, hlen, hl, hin, hse⟩ := cw
  have hK : Back l R p e below s args y 3 8 (PreOf R mc ms Pc) (PostOf Qc mc ms free) := va_backW (hh := hh) (bytes := bytes) (maxL := maxL) (ret := ret) hM hp.1 hrc hrs hfr hlo hws hcw (fun a' U hW => word_at hW (Or.inl (by first | rfl | simp [Cond.onTables, Cond.keeps, Cond.steady])) hini)
  obtain ⟨hx, hb, hml, ho, -⟩ := S
  obtain ⟨-, ⟨cellB, hcB, hoB, hclB⟩, hPc⟩ := hp
  intro T hT X
  obtain ⟨v, vm₁, ⟨U', l2, c2, s2⟩, hW₁, X', ⟨g', mk, t, L, e1, e2, hq, h1, hL, h2, h3⟩, st⟩ := vx_callVW X hx (C := C) (hh := hh) (bytes := bytes) (maxL := maxL) (ret := ret) ho hl hin hse hcode hy hK (by rw [hT]; exact hcB) hoB hclB hg (hsize.trans hml.symm) (argsL := As) (rest := rest) (fun sig h => hn.trans (hlen sig h)) hstack hW (by rw [hb]; exact hdg)
    (fun vm₁ hW₁ => ⟨hf.1, hf.2, hPc (T.setVm vm₁) hT hW₁⟩)
  dsimp only [Pt.U, Pt.locs, Pt.cells, Pt.slots] at X' e1 e2 h1 h2 h3 st
  subst h1; subst h2; subst h3
  exact ⟨v, (T.setVm vm₁).calling g' mk (Value.ref b :: As).toArray, t, U', L, hT, X', hL, e1, e2, hq, st⟩
section
variable {y : MethodName} {bytes cc : ByteArray} {maxL nL mc ms n index : Nat} {ret : Option FieldType} {ws : List Cond} {rm : Room} {Pc : Array Value → State → Prop} {Qc : Array Value → State → Outcome → State → Prop} {XC : String → State → State → Prop} {free : Addr → Prop} {Ts : List Cond} {own C : String} {b : Addr} {As rest : List Value} {g : JFrame}
theorem vx_runVX {hh : List (Nat × Nat × Nat × Nat)} (S : CallFix p m c cc nL s args Ts own) (hM : vx_Met l y ws rm Pc Qc XC mc ms free) (cw : vx_CVW R s args own C index y bytes maxL ret hh ws rm mc ms n) (hp : PreV s H C b Pc As)
    (hg : g.method = m) (hn : As.length = n) (hsize : g.locals.size = nL) (hstack : g.stack = As.reverse ++ .ref b :: rest) (hW : 2 * g.monitorRoom + (rest.map fun v => v.category).sum ≤ 8) (hdg : decode cc g.pc = .ok (.invokevirtual index, 3)) (hf : cells + mc ≤ R.cells ∧ slots + ms ≤ R.slots) :
    vx_Run p l e R s m args below meth c H locs cells slots mc ms g rest (Qc (Value.ref b :: As).toArray) XC free := by
  obtain ⟨⟨hrc, hrs, hfr, hlo, hws, hcw⟩, hcode, hini, hy, hlen, hl, hin, hse⟩ := cw
  have hK : vx_Back l R p e below s args y 3 8 (PreOf R mc ms Pc) (PostOf Qc mc ms free) (vx_Post XC mc ms free) := vx_backW (hh := hh) (bytes := bytes) (maxL := maxL) (ret := ret) hM hp.1 hrc hrs hfr hlo hws hcw (fun a' U hW => word_at hW (Or.inl (by first | rfl | simp [Cond.onTables, Cond.keeps, Cond.steady])) hini)
  obtain ⟨hx, hb, hml, ho, -⟩ := S
  obtain ⟨-, ⟨cellB, hcB, hoB, hclB⟩, hPc⟩ := hp
  intro T hT X
  rcases vx_callVX X hx (C := C) (hh := hh) (bytes := bytes) (maxL := maxL) (ret := ret) ho hl hin hse hcode hy hK (by rw [hT]; exact hcB) hoB hclB hg (hsize.trans hml.symm) (argsL := As) (rest := rest) (fun sig h => hn.trans (hlen sig h)) hstack hW (by rw [hb]; exact hdg)
    (fun vm₁ hW₁ => ⟨hf.1, hf.2, hPc (T.setVm vm₁) hT hW₁⟩) with ⟨v, vm₁, ⟨U', l2, c2, s2⟩, hW₁, X', ⟨g', mk, t, L, e1, e2, hq, h1, hL, h2, h3⟩, st⟩ | ⟨q, vm₁, ⟨U', l2, c2, s2⟩, hW₁, X', ⟨g', mk, t, L, E, ce, e1, e2, hq, hce, hcv, hcl, h1, hL, h2, h3⟩, st⟩
  · dsimp only [Pt.U, Pt.locs, Pt.cells, Pt.slots] at X' e1 e2 h1 h2 h3 st
    subst h1; subst h2; subst h3
    exact Or.inl ⟨v, (T.setVm vm₁).calling g' mk (Value.ref b :: As).toArray, t, U', L, hT, X', hL, e1, e2, hq, st⟩
  · dsimp only [Pt.U, Pt.locs, Pt.cells, Pt.slots] at X' e1 e2 h1 h2 h3 st hcl
    subst h1; subst h2; subst h3
    exact Or.inr ⟨q, (T.setVm vm₁).calling g' mk (Value.ref b :: As).toArray, t, U', L, E, ce, hT, X', hL, e1, e2, hq, hce, hcv, vx_cls hW₁ hcl, st⟩
theorem vx_runSX {hh : List (Nat × Nat × Nat × Nat)} (S : CallFix p m c cc nL s args Ts own) (hM : vx_Met l y ws rm Pc Qc XC mc ms free) (cw : vx_CSW R s args own index y bytes maxL ret hh ws rm mc ms n) (hp : PreS s H Pc As)
    (hg : g.method = m) (hn : As.length = n) (hsize : g.locals.size = nL) (hstack : g.stack = As.reverse ++ rest) (hW : 2 * g.monitorRoom + (rest.map fun v => v.category).sum ≤ 8) (hdg : decode cc g.pc = .ok (.invokestatic index, 3)) (hf : cells + mc ≤ R.cells ∧ slots + ms ≤ R.slots) :
    vx_Run p l e R s m args below meth c H locs cells slots mc ms g rest (Qc As.toArray) XC free := by
  obtain ⟨⟨hrc, hrs, hfr, hlo, hws, hcw⟩, hcode, hini, hy, hlen, hl, hstt⟩ := cw
  have hK : vx_Back l R p e below s args y 3 8 (PreOf R mc ms Pc) (PostOf Qc mc ms free) (vx_Post XC mc ms free) := vx_backW (hh := hh) (bytes := bytes) (maxL := maxL) (ret := ret) hM hp.1 hrc hrs hfr hlo hws hcw (fun a' U hW => word_at hW (Or.inl (by first | rfl | simp [Cond.onTables, Cond.keeps, Cond.steady])) hini)
  obtain ⟨hx, hb, hml, ho, -⟩ := S
  intro T hT X
  rcases vx_callSX X hx (hh := hh) (bytes := bytes) (maxL := maxL) (ret := ret) ho hl hstt hini hcode hy hK hg (hsize.trans hml.symm) (argsL := As) (rest := rest) (fun sig h => hn.trans (hlen sig h)) hstack hW (by rw [hb]; exact hdg)
    (fun vm₁ hW₁ => ⟨hf.1, hf.2, hp.2 (T.setVm vm₁) hT hW₁⟩) with ⟨v, vm₁, ⟨U', l2, c2, s2⟩, hW₁, X', ⟨g', mk, t, L, e1, e2, hq, h1, hL, h2, h3⟩, st⟩ | ⟨q, vm₁, ⟨U', l2, c2, s2⟩, hW₁, X', ⟨g', mk, t, L, E, ce, e1, e2, hq, hce, hcv, hcl, h1, hL, h2, h3⟩, st⟩
  · dsimp only [Pt.U, Pt.locs, Pt.cells, Pt.slots] at X' e1 e2 h1 h2 h3 st
    subst h1; subst h2; subst h3
    exact Or.inl ⟨v, (T.setVm vm₁).calling g' mk As.toArray, t, U', L, hT, X', hL, e1, e2, hq, st⟩
  · dsimp only [Pt.U, Pt.locs, Pt.cells, Pt.slots] at X' e1 e2 h1 h2 h3 st hcl
    subst h1; subst h2; subst h3
    exact Or.inr ⟨q, (T.setVm vm₁).calling g' mk As.toArray, t, U', L, E, ce, hT, X', hL, e1, e2, hq, hce, hcv, vx_cls hW₁ hcl, st⟩
end
end VXH
theorem vx_ofWH {l : Launch} {y : MethodName} {ws ws' : List Cond} {rm : Room} {Pc : Array Value → State → Prop} {Qc : Array Value → State → Outcome → State → Prop} {XC : String → State → State → Prop} {mc ms : Nat} {free : Addr → Prop} {cc : ByteArray} {maxL : Nat} {ret : Option FieldType} {hh : List (Nat × Nat × Nat × Nat)}
    (hy : plainName y.cls = true) (hw : ws = Cond.codeWith y cc maxL ret hh :: ws')
    (body : ∀ p e s m args below meth c s₁, BodyLoose p l y (headSpec ws rm) cc maxL ret e s m args below meth c s₁ → c.maxLocals = maxL → Pc args s →
      W p l e (headSpec ws rm).room s m args below meth c s.heap [] 0 0 (vx_MQ below Qc XC args s mc ms free) (entryFrame m args maxL)) : vx_Met l y ws rm Pc Qc XC mc ms free := by
  refine MetFree.of_bodyS (code := cc) (maxLocals := maxL) (ret := ret) hy ?_ ?_
  · intro args s m h hn
    obtain ⟨m9, meth, c, hn9, h1, h2, h3, h4, -, h5, h6, -⟩ := Cond.codeWith_spec (atoms_spec (ws := ws) h _ (by rw [hw]; exact List.mem_cons_self))
    cases hn.symm.trans hn9
    exact ⟨meth, c, h1, h2, h3, h4, h5, h6⟩
  · intro p e s m args below meth c s₁ B hml hP _
    have hh0 : s₁.heap = s.heap := by rw [B.state]; rfl
    obtain ⟨t, a1, o, b1, b2, b3⟩ := body p e s m args below meth c s₁ B hml hP s₁ hh0 (Stand.of_body B)
    exact ⟨t, o, a1, b1, b2, b3⟩
/-! ===== END ===== -/
end
section
/-! ===== BEGIN printed: names, fields, word lists, decode rows ===== -/
def RX0 : String := "Gimlet$Cubes"
def TX0 : u_T := fun k => match k with
  | 0 => ("Gimlet$Cubes", "contained", "[I", true)
  | 1 => ("Gimlet$Cubes", "implicant", "[Z", true)
  | _ => ("Gimlet$Cubes", "joined", "[Z", true)
def tyX0 : Nat → FieldType := fun k => match k with
  | 0 => .array .int
  | 1 => .array .boolean
  | _ => .array .boolean
abbrev wsX00 : List Cond := u_ws RX0 TX0 3
theorem nmX0 : ∀ a, a < 3 → ∀ b, b < 3 → a ≠ b → (TX0 a).2.1 ≠ (TX0 b).2.1 := by decide +kernel
theorem tyX0_ok : ∀ k, k < 3 → parseFieldDescriptor (TX0 k).2.2.1 = some (tyX0 k) := by decide +kernel
abbrev cX0_init : ByteArray := prog_2_method_1_code
def yX0_init : MethodName := ⟨RX0, "<init>", "()V"⟩
abbrev cX0_tells : ByteArray := prog_2_method_2_code
def yX0_tells : MethodName := ⟨RX0, "tells", "(II)C"⟩
abbrev cX0_digitOf : ByteArray := prog_2_method_3_code
def yX0_digitOf : MethodName := ⟨RX0, "digitOf", "(II)I"⟩
abbrev cX0_weightOf : ByteArray := prog_2_method_4_code
def yX0_weightOf : MethodName := ⟨RX0, "weightOf", "(I)I"⟩
abbrev cX0_regionsIn : ByteArray := prog_2_method_5_code
def yX0_regionsIn : MethodName := ⟨RX0, "regionsIn", "(I)I"⟩
abbrev cX0_contains : ByteArray := prog_2_method_6_code
def yX0_contains : MethodName := ⟨RX0, "contains", "(II)Z"⟩
abbrev cX0_join : ByteArray := prog_2_method_7_code
def yX0_join : MethodName := ⟨RX0, "join", "(I)V"⟩
abbrev cX0_isSingle : ByteArray := prog_2_method_8_code
def yX0_isSingle : MethodName := ⟨RX0, "isSingle", "(I)Z"⟩
abbrev cX0_joinParts : ByteArray := prog_2_method_9_code
def yX0_joinParts : MethodName := ⟨RX0, "joinParts", "(II)V"⟩
abbrev cX0_countPrimes : ByteArray := prog_2_method_10_code
def yX0_countPrimes : MethodName := ⟨RX0, "countPrimes", "()I"⟩
abbrev cX0_primeAt : ByteArray := prog_2_method_11_code
def yX0_primeAt : MethodName := ⟨RX0, "primeAt", "(I)I"⟩
abbrev cX0_countByTrying : ByteArray := prog_2_method_12_code
def yX0_countByTrying : MethodName := ⟨RX0, "countByTrying", "(I)I"⟩
abbrev cX0_isInLarger : ByteArray := prog_2_method_13_code
def yX0_isInLarger : MethodName := ⟨RX0, "isInLarger", "(II)Z"⟩
abbrev cX0_isInside : ByteArray := prog_2_method_14_code
def yX0_isInside : MethodName := ⟨RX0, "isInside", "(II)Z"⟩
def RX1 : String := "Gimlet$Rewriter"
def TX1 : u_T := fun k => match k with
  | 0 => ("Gimlet$Rewriter", "now", "LGimlet$Text;", false)
  | 1 => ("Gimlet$Rewriter", "next", "LGimlet$Text;", false)
  | 2 => ("Gimlet$Rewriter", "place", "I", false)
  | _ => ("Gimlet$Rewriter", "rule", "C", false)
def tyX1 : Nat → FieldType := fun k => match k with
  | 0 => .object "Gimlet$Text"
  | 1 => .object "Gimlet$Text"
  | 2 => .int
  | _ => .char
abbrev wsX10 : List Cond := u_ws RX1 TX1 4
theorem nmX1 : ∀ a, a < 4 → ∀ b, b < 4 → a ≠ b → (TX1 a).2.1 ≠ (TX1 b).2.1 := by decide +kernel
theorem tyX1_ok : ∀ k, k < 4 → parseFieldDescriptor (TX1 k).2.2.1 = some (tyX1 k) := by decide +kernel
abbrev cX1_init : ByteArray := prog_3_method_1_code
def yX1_init : MethodName := ⟨RX1, "<init>", "()V"⟩
abbrev cX1_load : ByteArray := prog_3_method_2_code
def yX1_load : MethodName := ⟨RX1, "load", "(LGimlet$Terms;I)V"⟩
abbrev cX1_text : ByteArray := prog_3_method_3_code
def yX1_text : MethodName := ⟨RX1, "text", "()LGimlet$Text;"⟩
abbrev cX1_canGoOn : ByteArray := prog_3_method_4_code
def yX1_canGoOn : MethodName := ⟨RX1, "canGoOn", "()Z"⟩
abbrev cX1_nextRule : ByteArray := prog_3_method_5_code
def yX1_nextRule : MethodName := ⟨RX1, "nextRule", "()C"⟩
abbrev cX1_seek : ByteArray := prog_3_method_6_code
def yX1_seek : MethodName := ⟨RX1, "seek", "()V"⟩
abbrev cX1_ruleAt : ByteArray := prog_3_method_7_code
def yX1_ruleAt : MethodName := ⟨RX1, "ruleAt", "(I)C"⟩
abbrev cX1_ruleOfComplement : ByteArray := prog_3_method_8_code
def yX1_ruleOfComplement : MethodName := ⟨RX1, "ruleOfComplement", "(C)C"⟩
abbrev cX1_ruleOfPair : ByteArray := prog_3_method_9_code
def yX1_ruleOfPair : MethodName := ⟨RX1, "ruleOfPair", "(ICC)C"⟩
abbrev cX1_rewrite : ByteArray := prog_3_method_10_code
def yX1_rewrite : MethodName := ⟨RX1, "rewrite", "()Z"⟩
abbrev cX1_putRewritten : ByteArray := prog_3_method_11_code
def yX1_putRewritten : MethodName := ⟨RX1, "putRewritten", "(I)V"⟩
abbrev cX1_putComplements : ByteArray := prog_3_method_12_code
def yX1_putComplements : MethodName := ⟨RX1, "putComplements", "(CII)V"⟩
abbrev cX1_putDifferences : ByteArray := prog_3_method_13_code
def yX1_putDifferences : MethodName := ⟨RX1, "putDifferences", "(III)V"⟩
abbrev cX1_putOtherSide : ByteArray := prog_3_method_14_code
def yX1_putOtherSide : MethodName := ⟨RX1, "putOtherSide", "(CIII)V"⟩
abbrev cX1_constantOf : ByteArray := prog_3_method_15_code
def yX1_constantOf : MethodName := ⟨RX1, "constantOf", "(CC)C"⟩
def RX2 : String := "Gimlet$Search"
def TX2 : u_T := fun k => match k with
  | 0 => ("Gimlet$Search", "meets", "[I", true)
  | 1 => ("Gimlet$Search", "fewest", "[I", true)
  | _ => ("Gimlet$Search", "wanted", "I", false)
def tyX2 : Nat → FieldType := fun k => match k with
  | 0 => .array .int
  | 1 => .array .int
  | _ => .int
abbrev wsX20 : List Cond := u_ws RX2 TX2 3
theorem nmX2 : ∀ a, a < 3 → ∀ b, b < 3 → a ≠ b → (TX2 a).2.1 ≠ (TX2 b).2.1 := by decide +kernel
theorem tyX2_ok : ∀ k, k < 3 → parseFieldDescriptor (TX2 k).2.2.1 = some (tyX2 k) := by decide +kernel
abbrev cX2_init : ByteArray := prog_4_method_1_code
def yX2_init : MethodName := ⟨RX2, "<init>", "()V"⟩
abbrev cX2_prepare : ByteArray := prog_4_method_2_code
def yX2_prepare : MethodName := ⟨RX2, "prepare", "(LGimlet$Statements;)V"⟩
abbrev cX2_want : ByteArray := prog_4_method_3_code
def yX2_want : MethodName := ⟨RX2, "want", "(II)V"⟩
abbrev cX2_fewestBySets : ByteArray := prog_4_method_4_code
def yX2_fewestBySets : MethodName := ⟨RX2, "fewestBySets", "()I"⟩
abbrev cX2_fewestFrom : ByteArray := prog_4_method_5_code
def yX2_fewestFrom : MethodName := ⟨RX2, "fewestFrom", "(II)I"⟩
abbrev cX2_regionOf : ByteArray := prog_4_method_6_code
def yX2_regionOf : MethodName := ⟨RX2, "regionOf", "(I)I"⟩
abbrev cX2_fewestByTrying : ByteArray := prog_4_method_7_code
def yX2_fewestByTrying : MethodName := ⟨RX2, "fewestByTrying", "()I"⟩
abbrev cX2_canMeet : ByteArray := prog_4_method_8_code
def yX2_canMeet : MethodName := ⟨RX2, "canMeet", "(II)Z"⟩
def RX3 : String := "Gimlet$Statements"
def TX3 : u_T := fun k => match k with
  | 0 => ("Gimlet$Statements", "demanding", "[Z", true)
  | 1 => ("Gimlet$Statements", "places", "[I", true)
  | 2 => ("Gimlet$Statements", "count", "I", false)
  | 3 => ("Gimlet$Statements", "goalSet", "Z", false)
  | 4 => ("Gimlet$Statements", "goalDemanding", "Z", false)
  | _ => ("Gimlet$Statements", "goalPlaces", "I", false)
def tyX3 : Nat → FieldType := fun k => match k with
  | 0 => .array .boolean
  | 1 => .array .int
  | 2 => .int
  | 3 => .boolean
  | 4 => .boolean
  | _ => .int
abbrev wsX30 : List Cond := u_ws RX3 TX3 6
theorem nmX3 : ∀ a, a < 6 → ∀ b, b < 6 → a ≠ b → (TX3 a).2.1 ≠ (TX3 b).2.1 := by decide +kernel
theorem tyX3_ok : ∀ k, k < 6 → parseFieldDescriptor (TX3 k).2.2.1 = some (tyX3 k) := by decide +kernel
abbrev cX3_init : ByteArray := prog_5_method_1_code
def yX3_init : MethodName := ⟨RX3, "<init>", "()V"⟩
abbrev cX3_howMany : ByteArray := prog_5_method_2_code
def yX3_howMany : MethodName := ⟨RX3, "howMany", "()I"⟩
abbrev cX3_add : ByteArray := prog_5_method_3_code
def yX3_add : MethodName := ⟨RX3, "add", "(ZI)V"⟩
abbrev cX3_removeLast : ByteArray := prog_5_method_4_code
def yX3_removeLast : MethodName := ⟨RX3, "removeLast", "()V"⟩
abbrev cX3_demandsElement : ByteArray := prog_5_method_5_code
def yX3_demandsElement : MethodName := ⟨RX3, "demandsElement", "(I)Z"⟩
abbrev cX3_placesAt : ByteArray := prog_5_method_6_code
def yX3_placesAt : MethodName := ⟨RX3, "placesAt", "(I)I"⟩
abbrev cX3_hasGoal : ByteArray := prog_5_method_7_code
def yX3_hasGoal : MethodName := ⟨RX3, "hasGoal", "()Z"⟩
abbrev cX3_goalDemands : ByteArray := prog_5_method_8_code
def yX3_goalDemands : MethodName := ⟨RX3, "goalDemands", "()Z"⟩
abbrev cX3_goalRegions : ByteArray := prog_5_method_9_code
def yX3_goalRegions : MethodName := ⟨RX3, "goalRegions", "()I"⟩
abbrev cX3_aimAt : ByteArray := prog_5_method_10_code
def yX3_aimAt : MethodName := ⟨RX3, "aimAt", "(ZI)V"⟩
abbrev cX3_allowed : ByteArray := prog_5_method_11_code
def yX3_allowed : MethodName := ⟨RX3, "allowed", "()I"⟩
abbrev cX3_firstDenial : ByteArray := prog_5_method_12_code
def yX3_firstDenial : MethodName := ⟨RX3, "firstDenial", "(I)I"⟩
abbrev cX3_firstUnmet : ByteArray := prog_5_method_13_code
def yX3_firstUnmet : MethodName := ⟨RX3, "firstUnmet", "(I)I"⟩
abbrev cX3_haveModel : ByteArray := prog_5_method_14_code
def yX3_haveModel : MethodName := ⟨RX3, "haveModel", "()Z"⟩
abbrev cX3_firstWitness : ByteArray := prog_5_method_15_code
def yX3_firstWitness : MethodName := ⟨RX3, "firstWitness", "()I"⟩
abbrev cX3_proveGoal : ByteArray := prog_5_method_16_code
def yX3_proveGoal : MethodName := ⟨RX3, "proveGoal", "()Z"⟩
abbrev cX3_allHold : ByteArray := prog_5_method_17_code
def yX3_allHold : MethodName := ⟨RX3, "allHold", "(I)Z"⟩
abbrev cX3_countModels : ByteArray := prog_5_method_18_code
def yX3_countModels : MethodName := ⟨RX3, "countModels", "(I)J"⟩
abbrev cX3_isSetOfDemands : ByteArray := prog_5_method_19_code
def yX3_isSetOfDemands : MethodName := ⟨RX3, "isSetOfDemands", "(I)Z"⟩
abbrev cX3_placesOfSet : ByteArray := prog_5_method_20_code
def yX3_placesOfSet : MethodName := ⟨RX3, "placesOfSet", "(I)I"⟩
abbrev cX3_power : ByteArray := prog_5_method_21_code
def yX3_power : MethodName := ⟨RX3, "power", "(II)J"⟩
abbrev cX3_countModelsByTrying : ByteArray := prog_5_method_22_code
def yX3_countModelsByTrying : MethodName := ⟨RX3, "countModelsByTrying", "(I)J"⟩
abbrev cX3_occupiedBy : ByteArray := prog_5_method_23_code
def yX3_occupiedBy : MethodName := ⟨RX3, "occupiedBy", "(JI)I"⟩
def RX4 : String := "Gimlet$Terms"
def TX4 : u_T := fun k => match k with
  | 0 => ("Gimlet$Terms", "heads", "[C", true)
  | 1 => ("Gimlet$Terms", "lefts", "[I", true)
  | 2 => ("Gimlet$Terms", "rights", "[I", true)
  | 3 => ("Gimlet$Terms", "sizes", "[I", true)
  | 4 => ("Gimlet$Terms", "covered", "[I", true)
  | _ => ("Gimlet$Terms", "count", "I", false)
def tyX4 : Nat → FieldType := fun k => match k with
  | 0 => .array .char
  | 1 => .array .int
  | 2 => .array .int
  | 3 => .array .int
  | 4 => .array .int
  | _ => .int
abbrev wsX40 : List Cond := u_ws RX4 TX4 6
theorem nmX4 : ∀ a, a < 6 → ∀ b, b < 6 → a ≠ b → (TX4 a).2.1 ≠ (TX4 b).2.1 := by decide +kernel
theorem tyX4_ok : ∀ k, k < 6 → parseFieldDescriptor (TX4 k).2.2.1 = some (tyX4 k) := by decide +kernel
abbrev cX4_init : ByteArray := prog_6_method_1_code
def yX4_init : MethodName := ⟨RX4, "<init>", "()V"⟩
abbrev cX4_howMany : ByteArray := prog_6_method_2_code
def yX4_howMany : MethodName := ⟨RX4, "howMany", "()I"⟩
abbrev cX4_isKnown : ByteArray := prog_6_method_3_code
def yX4_isKnown : MethodName := ⟨RX4, "isKnown", "(I)Z"⟩
abbrev cX4_sizeOf : ByteArray := prog_6_method_4_code
def yX4_sizeOf : MethodName := ⟨RX4, "sizeOf", "(I)I"⟩
abbrev cX4_coverOf : ByteArray := prog_6_method_5_code
def yX4_coverOf : MethodName := ⟨RX4, "coverOf", "(I)I"⟩
abbrev cX4_headOf : ByteArray := prog_6_method_6_code
def yX4_headOf : MethodName := ⟨RX4, "headOf", "(I)C"⟩
abbrev cX4_leftOf : ByteArray := prog_6_method_7_code
def yX4_leftOf : MethodName := ⟨RX4, "leftOf", "(I)I"⟩
abbrev cX4_rightOf : ByteArray := prog_6_method_8_code
def yX4_rightOf : MethodName := ⟨RX4, "rightOf", "(I)I"⟩
abbrev cX4_symbolOf : ByteArray := prog_6_method_9_code
def yX4_symbolOf : MethodName := ⟨RX4, "symbolOf", "(II)C"⟩
abbrev cX4_make : ByteArray := prog_6_method_10_code
def yX4_make : MethodName := ⟨RX4, "make", "(CII)I"⟩
abbrev cX4_find : ByteArray := prog_6_method_11_code
def yX4_find : MethodName := ⟨RX4, "find", "(CII)I"⟩
abbrev cX4_coverFrom : ByteArray := prog_6_method_12_code
def yX4_coverFrom : MethodName := ⟨RX4, "coverFrom", "(CII)I"⟩
abbrev cX4_makeAll : ByteArray := prog_6_method_13_code
def yX4_makeAll : MethodName := ⟨RX4, "makeAll", "(LGimlet$Text;)I"⟩
abbrev cX4_makeNext : ByteArray := prog_6_method_14_code
def yX4_makeNext : MethodName := ⟨RX4, "makeNext", "(LGimlet$Text;I)I"⟩
abbrev cX4_reaches : ByteArray := prog_6_method_15_code
def yX4_reaches : MethodName := ⟨RX4, "reaches", "(II)Z"⟩
abbrev cX4_reachesBelow : ByteArray := prog_6_method_16_code
def yX4_reachesBelow : MethodName := ⟨RX4, "reachesBelow", "(III)Z"⟩
def RX5 : String := "Gimlet$Text"
def TX5 : u_T := fun k => match k with
  | 0 => ("Gimlet$Text", "row", "[C", true)
  | 1 => ("Gimlet$Text", "ends", "[I", true)
  | 2 => ("Gimlet$Text", "length", "I", false)
  | _ => ("Gimlet$Text", "cursor", "I", false)
def tyX5 : Nat → FieldType := fun k => match k with
  | 0 => .array .char
  | 1 => .array .int
  | 2 => .int
  | _ => .int
abbrev wsX50 : List Cond := u_ws RX5 TX5 4
theorem nmX5 : ∀ a, a < 4 → ∀ b, b < 4 → a ≠ b → (TX5 a).2.1 ≠ (TX5 b).2.1 := by decide +kernel
theorem tyX5_ok : ∀ k, k < 4 → parseFieldDescriptor (TX5 k).2.2.1 = some (tyX5 k) := by decide +kernel
abbrev cX5_init : ByteArray := prog_7_method_1_code
def yX5_init : MethodName := ⟨RX5, "<init>", "()V"⟩
abbrev cX5_partsOf : ByteArray := prog_7_method_2_code
def yX5_partsOf : MethodName := ⟨RX5, "partsOf", "(C)I"⟩
abbrev cX5_length : ByteArray := prog_7_method_3_code
def yX5_length : MethodName := ⟨RX5, "length", "()I"⟩
abbrev cX5_clear : ByteArray := prog_7_method_4_code
def yX5_clear : MethodName := ⟨RX5, "clear", "()V"⟩
abbrev cX5_rewind : ByteArray := prog_7_method_5_code
def yX5_rewind : MethodName := ⟨RX5, "rewind", "()V"⟩
abbrev cX5_read : ByteArray := prog_7_method_6_code
def yX5_read : MethodName := ⟨RX5, "read", "()C"⟩
abbrev cX5_at : ByteArray := prog_7_method_7_code
def yX5_at : MethodName := ⟨RX5, "at", "(I)C"⟩
abbrev cX5_put : ByteArray := prog_7_method_8_code
def yX5_put : MethodName := ⟨RX5, "put", "(C)V"⟩
abbrev cX5_putPart : ByteArray := prog_7_method_9_code
def yX5_putPart : MethodName := ⟨RX5, "putPart", "(LGimlet$Text;II)V"⟩
abbrev cX5_measure : ByteArray := prog_7_method_10_code
def yX5_measure : MethodName := ⟨RX5, "measure", "()V"⟩
abbrev cX5_endOf : ByteArray := prog_7_method_11_code
def yX5_endOf : MethodName := ⟨RX5, "endOf", "(I)I"⟩
abbrev cX5_isSame : ByteArray := prog_7_method_12_code
def yX5_isSame : MethodName := ⟨RX5, "isSame", "(II)Z"⟩
abbrev cX5_isComplement : ByteArray := prog_7_method_13_code
def yX5_isComplement : MethodName := ⟨RX5, "isComplement", "(II)Z"⟩
def RX6 : String := "Gimlet"
def TX6 : u_T := fun k => match k with
  | 0 => ("Gimlet", "known", "LGimlet$Terms;", true)
  | 1 => ("Gimlet", "rewriter", "LGimlet$Rewriter;", true)
  | 2 => ("Gimlet", "cubes", "LGimlet$Cubes;", true)
  | 3 => ("Gimlet", "stated", "LGimlet$Statements;", true)
  | _ => ("Gimlet", "search", "LGimlet$Search;", true)
def tyX6 : Nat → FieldType := fun k => match k with
  | 0 => .object "Gimlet$Terms"
  | 1 => .object "Gimlet$Rewriter"
  | 2 => .object "Gimlet$Cubes"
  | 3 => .object "Gimlet$Statements"
  | _ => .object "Gimlet$Search"
abbrev wsX60 : List Cond := u_ws RX6 TX6 5
theorem nmX6 : ∀ a, a < 5 → ∀ b, b < 5 → a ≠ b → (TX6 a).2.1 ≠ (TX6 b).2.1 := by decide +kernel
theorem tyX6_ok : ∀ k, k < 5 → parseFieldDescriptor (TX6 k).2.2.1 = some (tyX6 k) := by decide +kernel
abbrev cX6_init : ByteArray := prog_1_method_1_code
def yX6_init : MethodName := ⟨RX6, "<init>", "()V"⟩
abbrev cX6_letter : ByteArray := prog_1_method_2_code
def yX6_letter : MethodName := ⟨RX6, "letter", "(I)I"⟩
abbrev cX6_empty : ByteArray := prog_1_method_3_code
def yX6_empty : MethodName := ⟨RX6, "empty", "()I"⟩
abbrev cX6_universe : ByteArray := prog_1_method_4_code
def yX6_universe : MethodName := ⟨RX6, "universe", "()I"⟩
abbrev cX6_complement : ByteArray := prog_1_method_5_code
def yX6_complement : MethodName := ⟨RX6, "complement", "(I)I"⟩
abbrev cX6_union : ByteArray := prog_1_method_6_code
def yX6_union : MethodName := ⟨RX6, "union", "(II)I"⟩
abbrev cX6_intersection : ByteArray := prog_1_method_7_code
def yX6_intersection : MethodName := ⟨RX6, "intersection", "(II)I"⟩
abbrev cX6_difference : ByteArray := prog_1_method_8_code
def yX6_difference : MethodName := ⟨RX6, "difference", "(II)I"⟩
abbrev cX6_symmetric : ByteArray := prog_1_method_9_code
def yX6_symmetric : MethodName := ⟨RX6, "symmetric", "(II)I"⟩
abbrev cX6_terms : ByteArray := prog_1_method_10_code
def yX6_terms : MethodName := ⟨RX6, "terms", "()I"⟩
abbrev cX6_size : ByteArray := prog_1_method_11_code
def yX6_size : MethodName := ⟨RX6, "size", "(I)I"⟩
abbrev cX6_symbol : ByteArray := prog_1_method_12_code
def yX6_symbol : MethodName := ⟨RX6, "symbol", "(II)C"⟩
abbrev cX6_makePair : ByteArray := prog_1_method_13_code
def yX6_makePair : MethodName := ⟨RX6, "makePair", "(CII)I"⟩
abbrev cX6_madeOrThrow : ByteArray := prog_1_method_14_code
def yX6_madeOrThrow : MethodName := ⟨RX6, "madeOrThrow", "(I)I"⟩
abbrev cX6_checkTerm : ByteArray := prog_1_method_15_code
def yX6_checkTerm : MethodName := ⟨RX6, "checkTerm", "(I)V"⟩
abbrev cX6_checkLetter : ByteArray := prog_1_method_16_code
def yX6_checkLetter : MethodName := ⟨RX6, "checkLetter", "(I)V"⟩
abbrev cX6_checkRegion : ByteArray := prog_1_method_17_code
def yX6_checkRegion : MethodName := ⟨RX6, "checkRegion", "(I)V"⟩
abbrev cX6_regions : ByteArray := prog_1_method_18_code
def yX6_regions : MethodName := ⟨RX6, "regions", "(I)I"⟩
abbrev cX6_covers : ByteArray := prog_1_method_19_code
def yX6_covers : MethodName := ⟨RX6, "covers", "(II)Z"⟩
abbrev cX6_coversByTerm : ByteArray := prog_1_method_20_code
def yX6_coversByTerm : MethodName := ⟨RX6, "coversByTerm", "(II)Z"⟩
abbrev cX6_isEqual : ByteArray := prog_1_method_21_code
def yX6_isEqual : MethodName := ⟨RX6, "isEqual", "(II)Z"⟩
abbrev cX6_isIn : ByteArray := prog_1_method_22_code
def yX6_isIn : MethodName := ⟨RX6, "isIn", "(II)Z"⟩
abbrev cX6_rule : ByteArray := prog_1_method_23_code
def yX6_rule : MethodName := ⟨RX6, "rule", "(I)C"⟩
abbrev cX6_step : ByteArray := prog_1_method_24_code
def yX6_step : MethodName := ⟨RX6, "step", "(I)I"⟩
abbrev cX6_steps : ByteArray := prog_1_method_25_code
def yX6_steps : MethodName := ⟨RX6, "steps", "(I)I"⟩
abbrev cX6_normalForm : ByteArray := prog_1_method_26_code
def yX6_normalForm : MethodName := ⟨RX6, "normalForm", "(I)I"⟩
abbrev cX6_primes : ByteArray := prog_1_method_27_code
def yX6_primes : MethodName := ⟨RX6, "primes", "(I)I"⟩
abbrev cX6_primesByTrying : ByteArray := prog_1_method_28_code
def yX6_primesByTrying : MethodName := ⟨RX6, "primesByTrying", "(I)I"⟩
abbrev cX6_prime : ByteArray := prog_1_method_29_code
def yX6_prime : MethodName := ⟨RX6, "prime", "(III)C"⟩
abbrev cX6_ruleOrThrow : ByteArray := prog_1_method_30_code
def yX6_ruleOrThrow : MethodName := ⟨RX6, "ruleOrThrow", "()C"⟩
abbrev cX6_rewriteOrThrow : ByteArray := prog_1_method_31_code
def yX6_rewriteOrThrow : MethodName := ⟨RX6, "rewriteOrThrow", "()V"⟩
abbrev cX6_assume : ByteArray := prog_1_method_32_code
def yX6_assume : MethodName := ⟨RX6, "assume", "(CII)I"⟩
abbrev cX6_drop : ByteArray := prog_1_method_33_code
def yX6_drop : MethodName := ⟨RX6, "drop", "()I"⟩
abbrev cX6_assumptions : ByteArray := prog_1_method_34_code
def yX6_assumptions : MethodName := ⟨RX6, "assumptions", "()I"⟩
abbrev cX6_setGoal : ByteArray := prog_1_method_35_code
def yX6_setGoal : MethodName := ⟨RX6, "setGoal", "(CII)Z"⟩
abbrev cX6_isConsistent : ByteArray := prog_1_method_36_code
def yX6_isConsistent : MethodName := ⟨RX6, "isConsistent", "()Z"⟩
abbrev cX6_deniedBy : ByteArray := prog_1_method_37_code
def yX6_deniedBy : MethodName := ⟨RX6, "deniedBy", "(I)I"⟩
abbrev cX6_follows : ByteArray := prog_1_method_38_code
def yX6_follows : MethodName := ⟨RX6, "follows", "()Z"⟩
abbrev cX6_why : ByteArray := prog_1_method_39_code
def yX6_why : MethodName := ⟨RX6, "why", "()C"⟩
abbrev cX6_witness : ByteArray := prog_1_method_40_code
def yX6_witness : MethodName := ⟨RX6, "witness", "()I"⟩
abbrev cX6_checkStatement : ByteArray := prog_1_method_41_code
def yX6_checkStatement : MethodName := ⟨RX6, "checkStatement", "(CII)V"⟩
abbrev cX6_checkGoal : ByteArray := prog_1_method_42_code
def yX6_checkGoal : MethodName := ⟨RX6, "checkGoal", "()V"⟩
abbrev cX6_isDenial : ByteArray := prog_1_method_43_code
def yX6_isDenial : MethodName := ⟨RX6, "isDenial", "(C)Z"⟩
abbrev cX6_isDemand : ByteArray := prog_1_method_44_code
def yX6_isDemand : MethodName := ⟨RX6, "isDemand", "(C)Z"⟩
abbrev cX6_placesOf : ByteArray := prog_1_method_45_code
def yX6_placesOf : MethodName := ⟨RX6, "placesOf", "(CII)I"⟩
abbrev cX6_elements : ByteArray := prog_1_method_46_code
def yX6_elements : MethodName := ⟨RX6, "elements", "()I"⟩
abbrev cX6_elementsByTrying : ByteArray := prog_1_method_47_code
def yX6_elementsByTrying : MethodName := ⟨RX6, "elementsByTrying", "()I"⟩
abbrev cX6_region : ByteArray := prog_1_method_48_code
def yX6_region : MethodName := ⟨RX6, "region", "(I)I"⟩
abbrev cX6_models : ByteArray := prog_1_method_49_code
def yX6_models : MethodName := ⟨RX6, "models", "(I)J"⟩
abbrev cX6_modelsByTrying : ByteArray := prog_1_method_50_code
def yX6_modelsByTrying : MethodName := ⟨RX6, "modelsByTrying", "(I)J"⟩
abbrev cX6_density : ByteArray := prog_1_method_51_code
def yX6_density : MethodName := ⟨RX6, "density", "(I)F"⟩
abbrev cX6_leastOrThrow : ByteArray := prog_1_method_52_code
def yX6_leastOrThrow : MethodName := ⟨RX6, "leastOrThrow", "(I)I"⟩
abbrev cX6_checkElements : ByteArray := prog_1_method_53_code
def yX6_checkElements : MethodName := ⟨RX6, "checkElements", "(II)V"⟩
def RX7 : String := "GimletModel"
def TX7 : u_T := fun k => match k with
  | 0 => ("GimletModel", "thrown", "I", false)
  | 1 => ("GimletModel", "terms", "I", false)
  | 2 => ("GimletModel", "many", "I", false)
  | 3 => ("GimletModel", "hasGoal", "I", false)
  | 4 => ("GimletModel", "length", "I", false)
  | 5 => ("GimletModel", "read", "I", false)
  | 6 => ("GimletModel", "bits", "I", false)
  | 7 => ("GimletModel", "kind", "[I", true)
  | 8 => ("GimletModel", "left", "[I", true)
  | 9 => ("GimletModel", "right", "[I", true)
  | 10 => ("GimletModel", "sizes", "[I", true)
  | 11 => ("GimletModel", "cover", "[I", true)
  | 12 => ("GimletModel", "assumedKind", "[I", true)
  | 13 => ("GimletModel", "assumedLeft", "[I", true)
  | 14 => ("GimletModel", "assumedRight", "[I", true)
  | 15 => ("GimletModel", "goalKind", "I", false)
  | 16 => ("GimletModel", "goalLeft", "I", false)
  | 17 => ("GimletModel", "goalRight", "I", false)
  | 18 => ("GimletModel", "text", "[I", true)
  | 19 => ("GimletModel", "next", "[I", true)
  | 20 => ("GimletModel", "chosen", "[I", true)
  | 21 => ("GimletModel", "demands", "[I", true)
  | _ => ("GimletModel", "put", "I", false)
def tyX7 : Nat → FieldType := fun k => match k with
  | 0 => .int
  | 1 => .int
  | 2 => .int
  | 3 => .int
  | 4 => .int
  | 5 => .int
  | 6 => .int
  | 7 => .array .int
  | 8 => .array .int
  | 9 => .array .int
  | 10 => .array .int
  | 11 => .array .int
  | 12 => .array .int
  | 13 => .array .int
  | 14 => .array .int
  | 15 => .int
  | 16 => .int
  | 17 => .int
  | 18 => .array .int
  | 19 => .array .int
  | 20 => .array .int
  | 21 => .array .int
  | _ => .int
abbrev wsX70 : List Cond := u_ws RX7 TX7 23
theorem nmX7 : ∀ a, a < 23 → ∀ b, b < 23 → a ≠ b → (TX7 a).2.1 ≠ (TX7 b).2.1 := by decide +kernel
theorem tyX7_ok : ∀ k, k < 23 → parseFieldDescriptor (TX7 k).2.2.1 = some (tyX7 k) := by decide +kernel
abbrev cX7_init : ByteArray := prog_9_method_1_code
def yX7_init : MethodName := ⟨RX7, "<init>", "()V"⟩
abbrev cX7_thrown : ByteArray := prog_9_method_2_code
def yX7_thrown : MethodName := ⟨RX7, "thrown", "()I"⟩
abbrev cX7_fail : ByteArray := prog_9_method_3_code
def yX7_fail : MethodName := ⟨RX7, "fail", "(I)I"⟩
abbrev cX7_isIn : ByteArray := prog_9_method_4_code
def yX7_isIn : MethodName := ⟨RX7, "isIn", "(III)Z"⟩
abbrev cX7_noTerm : ByteArray := prog_9_method_5_code
def yX7_noTerm : MethodName := ⟨RX7, "noTerm", "(I)Z"⟩
abbrev cX7_isPair : ByteArray := prog_9_method_6_code
def yX7_isPair : MethodName := ⟨RX7, "isPair", "(I)Z"⟩
abbrev cX7_letterCover : ByteArray := prog_9_method_7_code
def yX7_letterCover : MethodName := ⟨RX7, "letterCover", "(I)I"⟩
abbrev cX7_covered : ByteArray := prog_9_method_8_code
def yX7_covered : MethodName := ⟨RX7, "covered", "(III)I"⟩
abbrev cX7_know : ByteArray := prog_9_method_9_code
def yX7_know : MethodName := ⟨RX7, "know", "(III)I"⟩
abbrev cX7_makes : ByteArray := prog_9_method_10_code
def yX7_makes : MethodName := ⟨RX7, "makes", "(IIII)I"⟩
abbrev cX7_letter : ByteArray := prog_9_method_11_code
def yX7_letter : MethodName := ⟨RX7, "letter", "(I)I"⟩
abbrev cX7_empty : ByteArray := prog_9_method_12_code
def yX7_empty : MethodName := ⟨RX7, "empty", "()I"⟩
abbrev cX7_universe : ByteArray := prog_9_method_13_code
def yX7_universe : MethodName := ⟨RX7, "universe", "()I"⟩
abbrev cX7_complement : ByteArray := prog_9_method_14_code
def yX7_complement : MethodName := ⟨RX7, "complement", "(I)I"⟩
abbrev cX7_pair : ByteArray := prog_9_method_15_code
def yX7_pair : MethodName := ⟨RX7, "pair", "(III)I"⟩
abbrev cX7_union : ByteArray := prog_9_method_16_code
def yX7_union : MethodName := ⟨RX7, "union", "(II)I"⟩
abbrev cX7_intersection : ByteArray := prog_9_method_17_code
def yX7_intersection : MethodName := ⟨RX7, "intersection", "(II)I"⟩
abbrev cX7_difference : ByteArray := prog_9_method_18_code
def yX7_difference : MethodName := ⟨RX7, "difference", "(II)I"⟩
abbrev cX7_symmetric : ByteArray := prog_9_method_19_code
def yX7_symmetric : MethodName := ⟨RX7, "symmetric", "(II)I"⟩
abbrev cX7_terms : ByteArray := prog_9_method_20_code
def yX7_terms : MethodName := ⟨RX7, "terms", "()I"⟩
abbrev cX7_size : ByteArray := prog_9_method_21_code
def yX7_size : MethodName := ⟨RX7, "size", "(I)I"⟩
abbrev cX7_write : ByteArray := prog_9_method_22_code
def yX7_write : MethodName := ⟨RX7, "write", "(I)V"⟩
abbrev cX7_spell : ByteArray := prog_9_method_23_code
def yX7_spell : MethodName := ⟨RX7, "spell", "(I)V"⟩
abbrev cX7_symbol : ByteArray := prog_9_method_24_code
def yX7_symbol : MethodName := ⟨RX7, "symbol", "(II)C"⟩
abbrev cX7_regions : ByteArray := prog_9_method_25_code
def yX7_regions : MethodName := ⟨RX7, "regions", "(I)I"⟩
abbrev cX7_covers : ByteArray := prog_9_method_26_code
def yX7_covers : MethodName := ⟨RX7, "covers", "(II)Z"⟩
abbrev cX7_coversByTerm : ByteArray := prog_9_method_27_code
def yX7_coversByTerm : MethodName := ⟨RX7, "coversByTerm", "(II)Z"⟩
abbrev cX7_isEqual : ByteArray := prog_9_method_28_code
def yX7_isEqual : MethodName := ⟨RX7, "isEqual", "(II)Z"⟩
abbrev cX7_behind : ByteArray := prog_9_method_29_code
def yX7_behind : MethodName := ⟨RX7, "behind", "(I)I"⟩
abbrev cX7_isSame : ByteArray := prog_9_method_30_code
def yX7_isSame : MethodName := ⟨RX7, "isSame", "(II)Z"⟩
abbrev cX7_ruleAt : ByteArray := prog_9_method_31_code
def yX7_ruleAt : MethodName := ⟨RX7, "ruleAt", "(I)I"⟩
abbrev cX7_place : ByteArray := prog_9_method_32_code
def yX7_place : MethodName := ⟨RX7, "place", "()I"⟩
abbrev cX7_puts : ByteArray := prog_9_method_33_code
def yX7_puts : MethodName := ⟨RX7, "puts", "(I)V"⟩
abbrev cX7_copies : ByteArray := prog_9_method_34_code
def yX7_copies : MethodName := ⟨RX7, "copies", "(II)V"⟩
abbrev cX7_rewrite : ByteArray := prog_9_method_35_code
def yX7_rewrite : MethodName := ⟨RX7, "rewrite", "(I)Z"⟩
abbrev cX7_parse : ByteArray := prog_9_method_36_code
def yX7_parse : MethodName := ⟨RX7, "parse", "()I"⟩
abbrev cX7_learns : ByteArray := prog_9_method_37_code
def yX7_learns : MethodName := ⟨RX7, "learns", "(I)I"⟩
abbrev cX7_rule : ByteArray := prog_9_method_38_code
def yX7_rule : MethodName := ⟨RX7, "rule", "(I)C"⟩
abbrev cX7_step : ByteArray := prog_9_method_39_code
def yX7_step : MethodName := ⟨RX7, "step", "(I)I"⟩
abbrev cX7_steps : ByteArray := prog_9_method_40_code
def yX7_steps : MethodName := ⟨RX7, "steps", "(I)I"⟩
abbrev cX7_normalForm : ByteArray := prog_9_method_41_code
def yX7_normalForm : MethodName := ⟨RX7, "normalForm", "(I)I"⟩
abbrev cX7_cube : ByteArray := prog_9_method_42_code
def yX7_cube : MethodName := ⟨RX7, "cube", "(I)I"⟩
abbrev cX7_isImplicant : ByteArray := prog_9_method_43_code
def yX7_isImplicant : MethodName := ⟨RX7, "isImplicant", "(II)Z"⟩
abbrev cX7_isPrime : ByteArray := prog_9_method_44_code
def yX7_isPrime : MethodName := ⟨RX7, "isPrime", "(II)Z"⟩
abbrev cX7_primes : ByteArray := prog_9_method_45_code
def yX7_primes : MethodName := ⟨RX7, "primes", "(I)I"⟩
abbrev cX7_primesByTrying : ByteArray := prog_9_method_46_code
def yX7_primesByTrying : MethodName := ⟨RX7, "primesByTrying", "(I)I"⟩
abbrev cX7_prime : ByteArray := prog_9_method_47_code
def yX7_prime : MethodName := ⟨RX7, "prime", "(III)C"⟩
abbrev cX7_isKind : ByteArray := prog_9_method_48_code
def yX7_isKind : MethodName := ⟨RX7, "isKind", "(I)Z"⟩
abbrev cX7_isDemand : ByteArray := prog_9_method_49_code
def yX7_isDemand : MethodName := ⟨RX7, "isDemand", "(I)Z"⟩
abbrev cX7_regionsOf : ByteArray := prog_9_method_50_code
def yX7_regionsOf : MethodName := ⟨RX7, "regionsOf", "(III)I"⟩
abbrev cX7_assumed : ByteArray := prog_9_method_51_code
def yX7_assumed : MethodName := ⟨RX7, "assumed", "(I)I"⟩
abbrev cX7_goal : ByteArray := prog_9_method_52_code
def yX7_goal : MethodName := ⟨RX7, "goal", "()I"⟩
abbrev cX7_areTerms : ByteArray := prog_9_method_53_code
def yX7_areTerms : MethodName := ⟨RX7, "areTerms", "(II)Z"⟩
abbrev cX7_assume : ByteArray := prog_9_method_54_code
def yX7_assume : MethodName := ⟨RX7, "assume", "(CII)I"⟩
abbrev cX7_drop : ByteArray := prog_9_method_55_code
def yX7_drop : MethodName := ⟨RX7, "drop", "()I"⟩
abbrev cX7_assumptions : ByteArray := prog_9_method_56_code
def yX7_assumptions : MethodName := ⟨RX7, "assumptions", "()I"⟩
abbrev cX7_setGoal : ByteArray := prog_9_method_57_code
def yX7_setGoal : MethodName := ⟨RX7, "setGoal", "(CII)Z"⟩
abbrev cX7_allowed : ByteArray := prog_9_method_58_code
def yX7_allowed : MethodName := ⟨RX7, "allowed", "()I"⟩
abbrev cX7_hasModel : ByteArray := prog_9_method_59_code
def yX7_hasModel : MethodName := ⟨RX7, "hasModel", "(I)Z"⟩
abbrev cX7_isConsistent : ByteArray := prog_9_method_60_code
def yX7_isConsistent : MethodName := ⟨RX7, "isConsistent", "()Z"⟩
abbrev cX7_deniedBy : ByteArray := prog_9_method_61_code
def yX7_deniedBy : MethodName := ⟨RX7, "deniedBy", "(I)I"⟩
abbrev cX7_counter : ByteArray := prog_9_method_62_code
def yX7_counter : MethodName := ⟨RX7, "counter", "()I"⟩
abbrev cX7_isFollowing : ByteArray := prog_9_method_63_code
def yX7_isFollowing : MethodName := ⟨RX7, "isFollowing", "()Z"⟩
abbrev cX7_noGoal : ByteArray := prog_9_method_64_code
def yX7_noGoal : MethodName := ⟨RX7, "noGoal", "()Z"⟩
abbrev cX7_follows : ByteArray := prog_9_method_65_code
def yX7_follows : MethodName := ⟨RX7, "follows", "()Z"⟩
abbrev cX7_why : ByteArray := prog_9_method_66_code
def yX7_why : MethodName := ⟨RX7, "why", "()C"⟩
abbrev cX7_witness : ByteArray := prog_9_method_67_code
def yX7_witness : MethodName := ⟨RX7, "witness", "()I"⟩
abbrev cX7_choose : ByteArray := prog_9_method_68_code
def yX7_choose : MethodName := ⟨RX7, "choose", "(IIIII)Z"⟩
abbrev cX7_least : ByteArray := prog_9_method_69_code
def yX7_least : MethodName := ⟨RX7, "least", "()I"⟩
abbrev cX7_noCounterexample : ByteArray := prog_9_method_70_code
def yX7_noCounterexample : MethodName := ⟨RX7, "noCounterexample", "()Z"⟩
abbrev cX7_elements : ByteArray := prog_9_method_71_code
def yX7_elements : MethodName := ⟨RX7, "elements", "()I"⟩
abbrev cX7_elementsByTrying : ByteArray := prog_9_method_72_code
def yX7_elementsByTrying : MethodName := ⟨RX7, "elementsByTrying", "()I"⟩
abbrev cX7_region : ByteArray := prog_9_method_73_code
def yX7_region : MethodName := ⟨RX7, "region", "(I)I"⟩
abbrev cX7_power : ByteArray := prog_9_method_74_code
def yX7_power : MethodName := ⟨RX7, "power", "(II)J"⟩
abbrev cX7_ways : ByteArray := prog_9_method_75_code
def yX7_ways : MethodName := ⟨RX7, "ways", "(I)J"⟩
abbrev cX7_models : ByteArray := prog_9_method_76_code
def yX7_models : MethodName := ⟨RX7, "models", "(I)J"⟩
abbrev cX7_modelsByTrying : ByteArray := prog_9_method_77_code
def yX7_modelsByTrying : MethodName := ⟨RX7, "modelsByTrying", "(I)J"⟩
abbrev cX7_density : ByteArray := prog_9_method_78_code
def yX7_density : MethodName := ⟨RX7, "density", "(I)F"⟩
def RJx145de : String := "java/io/Serializable"
def TJx145de : u_T := fun k => match k with
  | _ => ("", "", "", false)
def tyJx145de : Nat → FieldType := fun k => match k with
  | _ => .int
abbrev wsJx145de0 : List Cond := u_ws RJx145de TJx145de 0
theorem nmJx145de : ∀ a, a < 0 → ∀ b, b < 0 → a ≠ b → (TJx145de a).2.1 ≠ (TJx145de b).2.1 := by decide +kernel
theorem tyJx145de_ok : ∀ k, k < 0 → parseFieldDescriptor (TJx145de k).2.2.1 = some (tyJx145de k) := by decide +kernel
def RJ6 : String := "java/lang/Integer"
def TJ6 : u_T := fun k => match k with
  | _ => ("", "", "", false)
def tyJ6 : Nat → FieldType := fun k => match k with
  | _ => .int
abbrev wsJ60 : List Cond := u_ws RJ6 TJ6 0
theorem nmJ6 : ∀ a, a < 0 → ∀ b, b < 0 → a ≠ b → (TJ6 a).2.1 ≠ (TJ6 b).2.1 := by decide +kernel
theorem tyJ6_ok : ∀ k, k < 0 → parseFieldDescriptor (TJ6 k).2.2.1 = some (tyJ6 k) := by decide +kernel
abbrev cJ6_bitCount_0f7a4 : ByteArray := prog_15_method_49_code
def yJ6_bitCount_0f7a4 : MethodName := ⟨RJ6, "bitCount", "(I)I"⟩
def RJ9 : String := "java/lang/Math"
def TJ9 : u_T := fun k => match k with
  | _ => ("", "", "", false)
def tyJ9 : Nat → FieldType := fun k => match k with
  | _ => .int
abbrev wsJ90 : List Cond := u_ws RJ9 TJ9 0
theorem nmJ9 : ∀ a, a < 0 → ∀ b, b < 0 → a ≠ b → (TJ9 a).2.1 ≠ (TJ9 b).2.1 := by decide +kernel
theorem tyJ9_ok : ∀ k, k < 0 → parseFieldDescriptor (TJ9 k).2.2.1 = some (tyJ9 k) := by decide +kernel
abbrev cJ9_min_7cf53 : ByteArray := prog_16_method_69_code
def yJ9_min_7cf53 : MethodName := ⟨RJ9, "min", "(II)I"⟩
def RJ0 : String := "java/lang/String"
def TJ0 : u_T := fun k => match k with
  | _ => ("", "", "", false)
def tyJ0 : Nat → FieldType := fun k => match k with
  | _ => .int
abbrev wsJ00 : List Cond := u_ws RJ0 TJ0 0
theorem nmJ0 : ∀ a, a < 0 → ∀ b, b < 0 → a ≠ b → (TJ0 a).2.1 ≠ (TJ0 b).2.1 := by decide +kernel
theorem tyJ0_ok : ∀ k, k < 0 → parseFieldDescriptor (TJ0 k).2.2.1 = some (tyJ0 k) := by decide +kernel
def RL : String := "GimletLaw"
abbrev cL_letter : ByteArray := method_3_code
def yL_letter : MethodName := ⟨RL, "letter", "(LGimlet;I[J)I"⟩
abbrev cL_empty : ByteArray := method_4_code
def yL_empty : MethodName := ⟨RL, "empty", "(LGimlet;[J)I"⟩
abbrev cL_universe : ByteArray := method_5_code
def yL_universe : MethodName := ⟨RL, "universe", "(LGimlet;[J)I"⟩
abbrev cL_complement : ByteArray := method_6_code
def yL_complement : MethodName := ⟨RL, "complement", "(LGimlet;I[J)I"⟩
abbrev cL_union : ByteArray := method_7_code
def yL_union : MethodName := ⟨RL, "union", "(LGimlet;II[J)I"⟩
abbrev cL_intersection : ByteArray := method_8_code
def yL_intersection : MethodName := ⟨RL, "intersection", "(LGimlet;II[J)I"⟩
abbrev cL_difference : ByteArray := method_9_code
def yL_difference : MethodName := ⟨RL, "difference", "(LGimlet;II[J)I"⟩
abbrev cL_symmetric : ByteArray := method_10_code
def yL_symmetric : MethodName := ⟨RL, "symmetric", "(LGimlet;II[J)I"⟩
abbrev cL_size : ByteArray := method_11_code
def yL_size : MethodName := ⟨RL, "size", "(LGimlet;I[J)I"⟩
abbrev cL_symbol : ByteArray := method_12_code
def yL_symbol : MethodName := ⟨RL, "symbol", "(LGimlet;II[J)I"⟩
abbrev cL_regions : ByteArray := method_13_code
def yL_regions : MethodName := ⟨RL, "regions", "(LGimlet;I[J)I"⟩
abbrev cL_covers : ByteArray := method_14_code
def yL_covers : MethodName := ⟨RL, "covers", "(LGimlet;II[J)I"⟩
abbrev cL_coversByTerm : ByteArray := method_15_code
def yL_coversByTerm : MethodName := ⟨RL, "coversByTerm", "(LGimlet;II[J)I"⟩
abbrev cL_isEqual : ByteArray := method_16_code
def yL_isEqual : MethodName := ⟨RL, "isEqual", "(LGimlet;II[J)I"⟩
abbrev cL_rule : ByteArray := method_17_code
def yL_rule : MethodName := ⟨RL, "rule", "(LGimlet;I[J)I"⟩
abbrev cL_step : ByteArray := method_18_code
def yL_step : MethodName := ⟨RL, "step", "(LGimlet;I[J)I"⟩
abbrev cL_steps : ByteArray := method_19_code
def yL_steps : MethodName := ⟨RL, "steps", "(LGimlet;I[J)I"⟩
abbrev cL_normalForm : ByteArray := method_20_code
def yL_normalForm : MethodName := ⟨RL, "normalForm", "(LGimlet;I[J)I"⟩
abbrev cL_primes : ByteArray := method_21_code
def yL_primes : MethodName := ⟨RL, "primes", "(LGimlet;I[J)I"⟩
abbrev cL_primesByTrying : ByteArray := method_22_code
def yL_primesByTrying : MethodName := ⟨RL, "primesByTrying", "(LGimlet;I[J)I"⟩
abbrev cL_prime : ByteArray := method_23_code
def yL_prime : MethodName := ⟨RL, "prime", "(LGimlet;III[J)I"⟩
abbrev cL_assume : ByteArray := method_24_code
def yL_assume : MethodName := ⟨RL, "assume", "(LGimlet;CII[J)I"⟩
abbrev cL_drop : ByteArray := method_25_code
def yL_drop : MethodName := ⟨RL, "drop", "(LGimlet;[J)I"⟩
abbrev cL_setGoal : ByteArray := method_26_code
def yL_setGoal : MethodName := ⟨RL, "setGoal", "(LGimlet;CII[J)I"⟩
abbrev cL_deniedBy : ByteArray := method_27_code
def yL_deniedBy : MethodName := ⟨RL, "deniedBy", "(LGimlet;I[J)I"⟩
abbrev cL_follows : ByteArray := method_28_code
def yL_follows : MethodName := ⟨RL, "follows", "(LGimlet;[J)I"⟩
abbrev cL_why : ByteArray := method_29_code
def yL_why : MethodName := ⟨RL, "why", "(LGimlet;[J)I"⟩
abbrev cL_witness : ByteArray := method_30_code
def yL_witness : MethodName := ⟨RL, "witness", "(LGimlet;[J)I"⟩
abbrev cL_elements : ByteArray := method_31_code
def yL_elements : MethodName := ⟨RL, "elements", "(LGimlet;[J)I"⟩
abbrev cL_elementsByTrying : ByteArray := method_32_code
def yL_elementsByTrying : MethodName := ⟨RL, "elementsByTrying", "(LGimlet;[J)I"⟩
abbrev cL_region : ByteArray := method_33_code
def yL_region : MethodName := ⟨RL, "region", "(LGimlet;I[J)I"⟩
abbrev cL_models : ByteArray := method_34_code
def yL_models : MethodName := ⟨RL, "models", "(LGimlet;I[J)I"⟩
abbrev cL_modelsByTrying : ByteArray := method_35_code
def yL_modelsByTrying : MethodName := ⟨RL, "modelsByTrying", "(LGimlet;I[J)I"⟩
abbrev cL_density : ByteArray := method_36_code
def yL_density : MethodName := ⟨RL, "density", "(LGimlet;I[D)I"⟩
abbrev cL_law : ByteArray := code
def yL_law : MethodName := ⟨RL, "law", "([I)Z"⟩
abbrev vwCl : List vw_C := [(RX0, TX0, 3), (RX1, TX1, 4), (RX2, TX2, 3), (RX3, TX3, 6), (RX4, TX4, 6), (RX5, TX5, 4), (RX6, TX6, 5), (RX7, TX7, 23)]
end
section
/-! AN EXCEPTION CLASS whose String constructor calls its super's by another place of the pool than 7 (NoSuchElementException: 13): the row of the kit with the place left open. It follows the library's proofs (BundleOwnThrow, BundleChainS) and the kit's row vx_throwS. -/
section GX
def gx_chainAtoms (X : String) (ix : Nat) (rx : ByteArray) : List String → List Cond
  | [] => Bundle.passSAtoms X Bundle.tN ix rx
  | Y :: r => Bundle.passSAtoms X Y ix rx ++ Bundle.chainSAtoms Y r
theorem gx_chain {args : Array Value} {s : State} {pl : Platform} (hpl : pl.magicAccessors = ({} : Platform).magicAccessors) {top : MethodId} (htop : s.methodNamed? (Bundle.initS Bundle.tN) = some top)
    {ix : Nat} {rx : ByteArray} (x0 : decode rx 0 = .ok (.aload_n 0, 1)) (x1 : decode rx 1 = .ok (.aload_n 1, 1)) (x2 : decode rx 2 = .ok (.invokespecial ix, 3)) (x5 : decode rx 5 = .ok (.return_, 1)) (names : List String) (X : String) (hX : Bundle.fit X = true) (hn : ∀ n ∈ names, Bundle.fit n = true) (h : ∀ c ∈ gx_chainAtoms X ix rx names, c.before args s = true) :
      ∃ (P1 : PassC) (Ps : List PassC), Ps.length = names.length ∧ P1.LinksS pl s ∧ (∀ P, P ∈ Ps → P.LinksS pl s) ∧ s.methodNamed? (Bundle.initS X) = some P1.m ∧
        P1.sup = firstOf top (Ps.map (·.toPassT)) ∧ PassesOn top (Ps.map (·.toPassT)) := by
  cases names with
  | nil =>
    obtain ⟨P, L, hm, hs⟩ := PassC.ofS_atoms (args := args) (s := s) hpl (X := X) (Y := Bundle.tN) (Bundle.fit_spec hX).1 (by decide) x0 x1 x2 x5 h
    exact ⟨P, [], rfl, L, (fun _ hP => by cases hP), hm, Option.some.inj (hs.symm.trans htop), trivial⟩
  | cons Y r =>
    obtain ⟨P, L, hm, hs⟩ := PassC.ofS_atoms (args := args) (s := s) hpl (X := X) (Y := Y) (Bundle.fit_spec hX).1 (Bundle.fit_spec (hn Y List.mem_cons_self)).2 x0 x1 x2 x5 (fun c hc => h c (by simp only [gx_chainAtoms, List.mem_append]; exact Or.inl hc))
    obtain ⟨P', Ps, hlen, L', hL, hm', hsup, hpass⟩ := Bundle.chainS (args := args) hpl htop r Y (hn Y List.mem_cons_self) (fun n hn' => hn n (List.mem_cons_of_mem _ hn')) (fun c hc => h c (by simp only [gx_chainAtoms, List.mem_append]; exact Or.inr hc))
    refine ⟨P, P' :: Ps, by simp [hlen], L, ?_, hm, Option.some.inj (hs.symm.trans hm'), hsup, hpass⟩
    intro Q hQ
    rcases List.mem_cons.mp hQ with rfl | hQ
    · exact L'
    · exact hL Q hQ
def gx_own (own : String) (ic : Nat) (X : String) (ix : Nat) (rx : ByteArray) (names : List String) : List Cond :=
  Bundle.throwableAtoms ++ Bundle.throwableSAtoms ++ gx_chainAtoms X ix rx names ++
  [.methodLink own ic (Bundle.initS X), .instantiable X 6, .castable X X, .selects X Bundle.tFill0 Bundle.tFill0, .selects X Bundle.tFill Bundle.tFill,
   .lays X Bundle.tN "cause" "Ljava/lang/Throwable;", .lays X Bundle.tN "stackTrace" Bundle.steD, .lays X Bundle.tN "suppressedExceptions" Bundle.listD, .lays X Bundle.tN "detailMessage" "Ljava/lang/String;",
   .isRef (.static Bundle.tN "UNASSIGNED_STACK" Bundle.steD), .isRef (.static Bundle.tN "SUPPRESSED_SENTINEL" Bundle.listD),
   .fieldLink Bundle.tN 198 Bundle.tN "backtrace" "Ljava/lang/Object;", .lays Bundle.tN Bundle.tN "backtrace" "Ljava/lang/Object;", .lays X Bundle.tN "backtrace" "Ljava/lang/Object;"]
def gx_at (own : String) (ic : Nat) (X : String) (ix : Nat) (rx : ByteArray) (names : List String) : List Cond := (gx_own own ic X ix rx names).filter vx_no
variable {p : Program} {l : Launch} {e : Env} {R : Room} {s : State} {m₀ : MethodId} {args : Array Value} {below : List Frame} {meth : Method} {c : Code} {W : State} {locs : List Loc} {cells slots : Nat}
set_option maxHeartbeats 1000000 in
theorem gx_ctorThrow (X : Stand p l e R s m₀ args below meth c W locs cells slots) (hexec : p.tables.exec = Jvm.exec) (htr : e.platform.stackTraces = false) {own cls : String} {names : List String} {ic : Nat}
    {ix : Nat} {rx : ByteArray} (x0 : decode rx 0 = .ok (.aload_n 0, 1)) (x1 : decode rx 1 = .ok (.aload_n 1, 1)) (x2 : decode rx 2 = .ok (.invokespecial ix, 3)) (x5 : decode rx 5 = .ok (.return_, 1))
    (hown : s.vm.findClass own = some m₀.cls) (hcls : Bundle.fit cls = true) (hnames : ∀ n ∈ names, Bundle.fit n = true)
    (h : ∀ a ∈ gx_own own ic cls ix rx names, a.before args s = true)
    (hlocs : ∀ x ∈ locs, ∀ cell, s.heap[x.base]? = some cell → cell.vm.isStatics = false)
    {a : Addr} {cX : ClassId} {kX : Class} (hfoundX : s.vm.findClass cls = some cX) (hkX : s.vm.classes[cX]? = some kX) (hcell : W.heap[a]? = some (freshCell cX kX)) (hnew : s.heap.size ≤ a)
    {msg : Value} (hmsg : msg.isRef = true)
    {g : JFrame} (hg : g.method = m₀) (hsize : g.locals.size = c.maxLocals) (hlocked : g.locked = none) (hentered : g.entered = []) {rest : List Value} (hstack : g.stack = msg :: .ref a :: .ref a :: rest)
    (hd6 : decode c.code g.pc = .ok (.invokespecial ic, 3)) (hd9 : decode c.code (g.pc + 3) = .ok (.athrow, 1)) (hout : ∀ x ∈ c.exceptionTable.toList, covers x (g.pc + 3) = false)
    (hRframes : names.length + 3 < R.frames) (hRlocals : 2 * g.monitorRoom + ((Value.ref a :: rest).map fun v => v.category).sum + (13 * (names.length + 1) + 42) ≤ R.locals) (hlocks : meth.locks = false := by first | assumption | exact BodyLoose.notSynchronized (by assumption) | exact Body.notSynchronized (by assumption)) :
    ∃ U : State, Steps p.tables e below (W.setTop g) U ∧ U.status = .running ∧ Ended U below (.threw a) ∧ s.WarmedH U.vm ∧ s.sameButNew ({ U with vm := s.vm } : State) locs cells slots ∧
      ∃ ce, U.heap[a]? = some ce ∧ Bundle.OwnCell args s cls a msg ce := by
  have howns : e.platform.frameOwnsMonitors = true := by rw [X.admits.platform]
  have hfin : e.platform.finalization = false := by rw [X.admits.platform]
  have hpl : e.platform.magicAccessors = ({} : Platform).magicAccessors := by rw [X.admits.platform]
  have a' : ∀ x, x ∈ gx_own own ic cls ix rx names → x.holds args s none s [] = true := fun x hx => h x hx
  obtain ⟨T, Z0, L, -, Y⟩ := ThrowableC.of_atoms (args := args) howns hfin hpl (fun x hx => h x (by simp [gx_own, hx]))
  obtain ⟨Z, M, LZ, LM, hnZ⟩ := Init0T.ofS_atoms (args := args) hpl L Y (fun x hx => h x (by simp [gx_own, hx]))
  obtain ⟨P1, Ps, hlen, L1, hL, hP1m, hlink1, hlink⟩ := gx_chain (args := args) hpl hnZ x0 x1 x2 x5 names cls hcls hnames (fun x hx => h x (by simp [gx_own, hx]))
              
  have hfound : s.vm.findClass cls = some P1.m.cls := findClass_of_methodNamed hP1m
  cases Option.some.inj (hfoundX.symm.trans hfound)
  obtain ⟨c1, kX', hc1, hk, hord, -, -, hn6⟩ := Cond.instantiable_spec (a' (.instantiable cls 6) (by simp [gx_own]))
  cases Option.some.inj (hc1.symm.trans hfound)
  cases Option.some.inj (hkX.symm.trans hk)
  have hsel0 : selectMethod e.platform s.vm P1.m.cls T.fill0 = .method T.fill0 := by
    obtain ⟨c2, r2, m2, q1, q2, q3, q4, -⟩ := Cond.selects_spec (a' (.selects cls Bundle.tFill0 Bundle.tFill0) (by simp [gx_own]))
    cases Option.some.inj (q1.symm.trans hfound)
    cases Option.some.inj (q2.symm.trans (State.methodFound?_of_named Y.fill0 (by decide)))
    cases Option.some.inj (q3.symm.trans Y.fill0)
    rw [Launch.admits_selectMethod X.admits]; exact q4
  have hselF : selectMethod e.platform s.vm P1.m.cls T.fill = .method T.fill := by
    obtain ⟨c2, r2, m2, q1, q2, q3, q4, -⟩ := Cond.selects_spec (a' (.selects cls Bundle.tFill Bundle.tFill) (by simp [gx_own]))
    cases Option.some.inj (q1.symm.trans hfound)
    cases Option.some.inj (q2.symm.trans (State.methodFound?_of_named Y.fill (by decide)))
    cases Option.some.inj (q3.symm.trans Y.fill)
    rw [Launch.admits_selectMethod X.admits]; exact q4
  obtain ⟨cellS0, hcS0, hiss⟩ := Y.statics
  obtain ⟨u0, hu0⟩ := Cond.staticRefV Y.unassigned L.unassignedStatic L.statics hcS0 hiss (a' (.isRef (.static Bundle.tN "UNASSIGNED_STACK" Bundle.steD)) (by simp [gx_own]))
  obtain ⟨sen, hsen⟩ := Cond.staticRefV Y.sentinel L.sentinelStatic L.statics hcS0 hiss (a' (.isRef (.static Bundle.tN "SUPPRESSED_SENTINEL" Bundle.listD)) (by simp [gx_own]))
  obtain ⟨ci198, i198, fB, hk198, hg198, ha198, hsB, -, hnB, htB, hffB⟩ := Cond.ownField (t := .object "java/lang/Object") Y.found L.cls (by decide +kernel) (a' (.fieldLink Bundle.tN 198 Bundle.tN "backtrace" "Ljava/lang/Object;") (by simp [gx_own])) (a' (.lays Bundle.tN Bundle.tN "backtrace" "Ljava/lang/Object;") (by simp [gx_own])) e.platform hpl
  obtain ⟨cellS, hcS', heS, -, hkeep⟩ := X.same.2.2.2.2.2 T.aS cellS0 hcS0
  have hcellS : W.heap[T.aS]? = some cellS := hcS'
  have hout' : ∀ i, (⟨T.aS, i⟩ : Loc) ∉ locs := fun i hmem => by
    have := hlocs _ hmem cellS0 hcS0
    rw [hiss] at this; cases this
  have hknownS : cellS.vm ≠ .unknown := by
    rw [heS]; intro hu
    rw [show cellS0.vm = .unknown from hu] at hiss
    cases hiss
  have hneS : T.aS ≠ a := Nat.ne_of_lt (Nat.lt_of_lt_of_le (Array.getElem?_eq_some_iff.mp hcS0).1 hnew)
  obtain ⟨iM, hffM⟩ := Y.msg
  obtain ⟨tyC, dC, hdC, hdnC⟩ := Cond.laysAt hfound hk Y.cause (a' (.lays cls Bundle.tN "cause" "Ljava/lang/Throwable;") (by simp [gx_own]))
  obtain ⟨tyS, dS, hdS, hdnS⟩ := Cond.laysAt hfound hk Y.stack (a' (.lays cls Bundle.tN "stackTrace" Bundle.steD) (by simp [gx_own]))
  obtain ⟨tyP, dP, hdP, hdnP⟩ := Cond.laysAt hfound hk Y.supp (a' (.lays cls Bundle.tN "suppressedExceptions" Bundle.listD) (by simp [gx_own]))
  obtain ⟨tyM, dM, hdM, hdnM⟩ := Cond.laysAt hfound hk hffM (a' (.lays cls Bundle.tN "detailMessage" "Ljava/lang/String;") (by simp [gx_own]))
  obtain ⟨tyB, dB, hdB, hdnB⟩ := Cond.laysAt hfound hk hffB (a' (.lays cls Bundle.tN "backtrace" "Ljava/lang/Object;") (by simp [gx_own]))
  have bC := Cond.laysApart hdB hdC hdnB hdnC (by rw [hnB, Y.causeName]; decide)
  have bS := Cond.laysApart hdB hdS hdnB hdnS (by rw [hnB, Y.stackName]; decide)
  have bP := Cond.laysApart hdB hdP hdnB hdnP (by rw [hnB, Y.suppName]; decide)
  have hskip : SkipFacts T e.platform s (fun u => u) u0 ((preparedCellV T.toThrowableT (freshCell P1.m.cls kX) a u0 sen).withEntry W.cur) :=
    ⟨{ ci198 := ci198, i198 := i198, fBack := fB }, ⟨hk198, hg198, ha198, hsB⟩, by
      have := fresh_default (c := P1.m.cls) tyB
      rw [htB] at this
      simpa [preparedCellV, Cell.setSlot, Cell.withEntry, Array.getElem?_setIfInBounds, bC, bS, bP, bC.symm, bS.symm, bP.symm, defaultValue] using this, fun _ _ => rfl⟩
                                     
  obtain ⟨tm, methC, cdC, kC, vm₁, hnC, -, -, -, -, -, -, -, hW₁, st1⟩ := Steps.initColdS (tb := p.tables) (e := e) (below := below) (s := s) (U := W) X.here hexec X.warmed hpl hown (t := Bundle.initS cls) rfl rfl (Bundle.fit_spec hcls).2
    (a' (.methodLink own ic (Bundle.initS cls)) (by simp [gx_own])) (h (.instanceMethod (Bundle.initS cls)) (by cases names <;> simp [gx_own, gx_chainAtoms, Bundle.passSAtoms])) (bytes := rx) (maxL := 2) (h (.code (Bundle.initS cls) rx 2 none) (by cases names <;> simp [gx_own, gx_chainAtoms, Bundle.passSAtoms]))
    (f := g) hg (a := a) (msg := msg) (rest := .ref a :: rest) hstack hd6
  cases Option.some.inj (hnC.symm.trans hP1m)
  have X₁ := X.noted hW₁
                                 
  obtain ⟨vm₂, X₂, st2⟩ := X₁.ctorMessageOffV hexec (g := { g with stack := .ref a :: rest }) hg hsize T L Z LZ M LM (P1 :: Ps)
    (fun P hP => by rcases List.mem_cons.mp hP with rfl | hP; exact L1; exact hL P hP) ⟨hlink1, hlink⟩ (u0 := u0) (sen := sen) (self := a) hmsg (cell := freshCell P1.m.cls kX) (cellS := cellS)
    hcell (fun _ => by simp) (by simp) rfl rfl hsel0 hselF hcellS hneS hknownS (by rw [hkeep _ (hout' _)]; exact hu0) (by rw [hkeep _ (hout' _)]; exact hsen)
    (Takes.of_laid hk hord tyC (by rw [Y.causeType]; rfl)) (Takes.of_laid hk hord tyS (by rw [Y.stackType]; exact fits_refV_array _ u0)) (Takes.of_laid hk hord tyP (by rw [Y.suppType]; exact fits_refV_object _ sen))
    (Takes.of_laid hk hord tyM (by rw [Y.msgType]; exact fits_refV_object _ ⟨msg, hmsg⟩)) Y.objLocals hskip htr [] hd6
    (by simp only [List.length_cons, hlen]; omega) (by simp only [List.length_cons, hlen]; exact hRlocals)
                                    
  obtain ⟨hwalk, hrun, hended, hWU, hsame⟩ := X₂.athrowLeaves hexec (g := { g with stack := .ref a :: rest, pc := g.pc + 3 }) hg hlocked hentered hout (a := a) (rest := rest) rfl hd9
  obtain ⟨c3, c4, hc3, hc4, hasg⟩ := Cond.castable_spec (a' (.castable cls cls) (by simp [gx_own]))
  cases Option.some.inj (hc3.symm.trans hfound)
  cases Option.some.inj (hc4.symm.trans hfound)
  have hlt : a < ((W.setVm vm₁).setVm vm₂).heap.size := (Array.getElem?_eq_some_iff.mp hcell).1
  have hU := heapAt_setCell_self (s := (W.setVm vm₁).setVm vm₂) (plainBareV T.toThrowableT (freshCell P1.m.cls kX) a u0 sen msg) hlt
  have hnM : T.fMsg.name = "detailMessage" := (State.fieldFound?_type hffM (t := .object "java/lang/String") (by decide +kernel)).1
  have nCS := Cond.laysApart hdC hdS hdnC hdnS (by rw [Y.causeName, Y.stackName]; decide)
  have nCP := Cond.laysApart hdC hdP hdnC hdnP (by rw [Y.causeName, Y.suppName]; decide)
  have nCM := Cond.laysApart hdC hdM hdnC hdnM (by rw [Y.causeName, hnM]; decide)
  have nSP := Cond.laysApart hdS hdP hdnS hdnP (by rw [Y.stackName, Y.suppName]; decide)
  have nSM := Cond.laysApart hdS hdM hdnS hdnM (by rw [Y.stackName, hnM]; decide)
  have nPM := Cond.laysApart hdP hdM hdnP hdnM (by rw [Y.suppName, hnM]; decide)
  have lC : T.fCause.slot < kX.instanceTypes.size := (Array.getElem?_eq_some_iff.mp tyC).1
  have lS : T.fStack.slot < kX.instanceTypes.size := (Array.getElem?_eq_some_iff.mp tyS).1
  have lP : T.fSupp.slot < kX.instanceTypes.size := (Array.getElem?_eq_some_iff.mp tyP).1
  have lM : T.fMsg.slot < kX.instanceTypes.size := (Array.getElem?_eq_some_iff.mp tyM).1
  have evU : ∀ o, (Term.static Bundle.tN "UNASSIGNED_STACK" Bundle.steD).eval args s o [] s = some u0.v := by
    intro o
    simp [Term.eval, State.fieldNamed?, Y.unassigned, L.unassignedStatic, L.statics, hcS0, hiss, hu0]
  have evS : ∀ o, (Term.static Bundle.tN "SUPPRESSED_SENTINEL" Bundle.listD).eval args s o [] s = some sen.v := by
    intro o
    simp [Term.eval, State.fieldNamed?, Y.sentinel, L.sentinelStatic, L.statics, hcS0, hiss, hsen]
  refine ⟨_, st1 _ (fun acts => ?_), hrun, hended, hWU, hsame.weaken (fun y hy hlt' => ?_) (Nat.le_refl _) (Nat.le_refl _), _, hU, ?_⟩
  · rw [doInvoke_state]
    exact st2 _ hwalk
  · rcases List.mem_append.mp hy with h1 | h1
    · exact h1
    · exfalso
      have hb : y.base = a := by
        simp only [List.mem_cons, List.not_mem_nil, or_false] at h1
        rcases h1 with rfl | rfl | rfl | rfl | rfl <;> rfl
      rw [hb] at hlt'
      exact Nat.not_lt.mpr hnew hlt'
  · exact { cls := hfound, self := hasg, monitor := rfl, hash := rfl, vm := rfl, size := by simp [plainBareV, preparedCellV, Cell.setSlot, hn6]
            cause := ⟨_, _, _, _, Y.cause, by simp [plainBareV, preparedCellV, Cell.setSlot, nCS.symm, nCP.symm, nCM.symm, lC]⟩
            stack := ⟨_, _, _, _, u0, Y.stack, by simp [plainBareV, preparedCellV, Cell.setSlot, nSM.symm, lS], evU⟩
            supp := ⟨_, _, _, _, sen, Y.supp, by simp [plainBareV, preparedCellV, Cell.setSlot, nSP, nPM.symm, lP], evS⟩
            msg := ⟨_, _, _, _, hffM, by simp [plainBareV, preparedCellV, Cell.setSlot, lM]⟩
            other := fun O f d c k i fd hf hy n1 n2 n3 n4 => by
              obtain ⟨ty, dd, hdd, hddn⟩ := Cond.laysAt hfound hk hf hy
              have m1 := Cond.laysApart hdd hdC hddn hdnC (by rw [Y.causeName]; exact n1)
              have m2 := Cond.laysApart hdd hdS hddn hdnS (by rw [Y.stackName]; exact n2)
              have m3 := Cond.laysApart hdd hdP hddn hdnP (by rw [Y.suppName]; exact n3)
              have m4 := Cond.laysApart hdd hdM hddn hdnM (by rw [hnM]; exact n4)
              have := fresh_default (c := P1.m.cls) ty
              simpa [plainBareV, preparedCellV, Cell.setSlot, Array.getElem?_setIfInBounds, m1, m2, m3, m4, m1.symm, m2.symm, m3.symm, m4.symm] using this }
end GX
section GX2
variable {p : Program} {l : Launch} {e : Env} {R : Room} {s : State} {m : MethodId} {args : Array Value} {below : List Frame} {meth : Method} {c : Code} {H : Heap} {locs : List Loc} {cells slots : Nat} {Q : State → Prop}
variable {mc ms : Nat} {free : Addr → Prop} {A0 A1 : Nat → Prop} {H0 : Heap} {a : Array Value} {ls : Array Slot} {st0 rest : List Value}
variable {Qc : Array Value → State → Outcome → State → Prop} {XC : String → State → State → Prop}
theorem gx_throwS {cc : ByteArray} {pc : Nat} (hexec : p.tables.exec = Jvm.exec) (hb : c.code = cc) (hl : l.stackTraces = false) {own cls text : String} {names : List String} {ik is ic mc ms sa ix : Nat} {rx : ByteArray} (x0 : decode rx 0 = .ok (.aload_n 0, 1)) (x1 : decode rx 1 = .ok (.aload_n 1, 1)) (x2 : decode rx 2 = .ok (.invokespecial ix, 3)) (x5 : decode rx 5 = .ok (.return_, 1)) {A : Nat → Prop}
    (hown : s.vm.findClass own = some m.cls) (hcls : Bundle.fit cls = true) (hnames : ∀ n ∈ names, Bundle.fit n = true)
    (hk : (Cond.classLink own ik cls).before args s = true) (hini : (Cond.initialized cls).before args s = true) (hstr : vk_R own is text sa s) (hat : ∀ w ∈ gx_at own ic cls ix rx names, w.before args s = true)
    (hgood : ∀ w ∈ Cond.classLink own ik cls :: Cond.initialized cls :: gx_at own ic cls ix rx names, vx_ot w = true)
    (hU : vx_Zq Bundle.tN "UNASSIGNED_STACK" Bundle.steD A s s.heap) (hN : vx_Zq Bundle.tN "SUPPRESSED_SENTINEL" Bundle.listD A s s.heap) (hS : va_S A s.heap H locs) (hsize : ls.size = c.maxLocals)
    (d0 : decode cc pc = .ok (.new ik, 3)) (d3 : decode cc (pc + 3) = .ok (.dup, 1)) (d4 : decode cc (pc + 4) = .ok (.ldc is, 2)) (d6 : decode cc (pc + 6) = .ok (.invokespecial ic, 3)) (d9 : decode cc (pc + 9) = .ok (.athrow, 1))
    (hout : ∀ x ∈ c.exceptionTable.toList, covers x (pc + 9) = false)
    (hRframes : names.length + 3 < R.frames) (hRlocals : (rest.map fun v => v.category).sum + (13 * (names.length + 1) + 43) ≤ R.locals) (hRcells : cells + 1 ≤ R.cells) (hRslots : slots + 6 ≤ R.slots) (hlocks : meth.locks = false)
    (hx : ∀ t : State, s.vm.Alike t.vm → H.size ≤ t.heap.size → (∀ q : Nat, q < H.size → t.heap[q]? = H[q]?) → XC cls s t)
    (hf : ∀ z ∈ locs, free z.base) (hc : cells + 1 ≤ mc) (hs : slots + 6 ≤ ms) :
    W p l e R s m args below meth c H locs cells slots (vx_MQ below Qc XC args s mc ms free) (F0 m pc ls rest) := by
  intro T hT X
  have htr : e.platform.stackTraces = false := (show e.platform.stackTraces = l.stackTraces by rw [X.admits.platform]).trans hl
  have Y := vx_rebase X (R' := { frames := R.frames, locals := R.locals, cells := 1, slots := 6 }) (Nat.le_refl _) (Nat.le_refl _) hRcells hRslots
  obtain ⟨s', hA⟩ : ∃ z, z = (T.setVm s.vm).setFrames (.invoking m args :: below) := ⟨_, rfl⟩
  rw [← hA] at Y
  have hvm : s'.vm = s.vm := by rw [hA]; rfl
  have hhp : s'.heap = H := by rw [hA]; exact hT
  have hW0 : s.WarmedH s'.vm := by rw [hvm]; exact State.WarmedH.refl s
  have hat' : ∀ w ∈ gx_at own ic cls ix rx names, w.before args s' = true := fun w hw => vx_ot_at hW0 hvm.symm (hgood w (List.mem_cons_of_mem _ (List.mem_cons_of_mem _ hw))) (hat w hw)
  have hk' : (Cond.classLink own ik cls).before args s' = true := vx_ot_at hW0 hvm.symm (hgood _ List.mem_cons_self) hk
  have hini' : (Cond.initialized cls).before args s' = true := vx_ot_at hW0 hvm.symm (hgood _ (List.mem_cons_of_mem _ List.mem_cons_self)) hini
  have hU' : vx_Zq Bundle.tN "UNASSIGNED_STACK" Bundle.steD A s' s'.heap := by rw [hhp]; exact vx_Zq.moved hW0.alike (hU.kept hS.2.1)
  have hN' : vx_Zq Bundle.tN "SUPPRESSED_SENTINEL" Bundle.listD A s' s'.heap := by rw [hhp]; exact vx_Zq.moved hW0.alike (hN.kept hS.2.1)
  have h : ∀ w ∈ gx_own own ic cls ix rx names, w.before args s' = true := vx_own hat' (vx_isRefq hU'.1) (vx_isRefq hN'.1) hU'.2.word hN'.2.word
  have hown' : s'.vm.findClass own = some m.cls := by rw [hvm]; exact hown
  have hins : (Cond.instantiable cls 6).before args s' = true := h _ (by simp [gx_own])
  obtain ⟨vm₁, cX, kX, hfX, hkX, -, -, X₁, st1⟩ := Y.newCold hexec (own := own) (C := cls) (index := ik) (n := 6) hown' hk' hins hini'
    (g := F0 m pc ls rest) rfl (by rw [hb]; exact d0) (Nat.le_refl _) (Nat.le_refl _)
  generalize hT1 : (T.setVm vm₁).pushCell { cls := cX, slots := kX.instanceTypes.map defaultValue, vm := .none } = T1 at X₁ st1
  have hcat : (Value.ref T.heap.size).category = 1 := rfl
  have hcellA : T1.heap[T.heap.size]? = some (freshCell cX kX) := by rw [← hT1]; exact State.heap_pushCell_size _ _
  have d3' : decode c.code (pc + 3) = .ok (.dup, 1) := by rw [hb]; exact d3
  have d4' : decode c.code (pc + 4) = .ok (.ldc is, 2) := by rw [hb]; exact d4
  have hstr' : vk_R own is text sa s' := vk_R.warm hW0 hstr
  obtain ⟨U, hsteps, hrun, hend, hW, hsame, ce, hce, hO⟩ := gx_ctorThrow X₁ hexec htr x0 x1 x2 x5 (own := own) (cls := cls) (names := names) (ic := ic) hown' hcls hnames h (fun x hx => nomatch hx) hfX hkX hcellA (by rw [hhp, hT]; exact Nat.le_refl _) (msg := .ref sa) rfl
    (g := { method := m, pc := pc + 6, locals := ls, stack := .ref sa :: .ref T.heap.size :: .ref T.heap.size :: rest, locked := none }) rfl hsize rfl rfl (rest := rest) rfl
    (by rw [hb]; exact d6) (by rw [hb]; exact d9) hout hRframes (by simp only [List.map_cons, List.sum_cons, hcat]; omega) hlocks
  obtain ⟨f1, f2⟩ := vx_frame hsame
  rw [hhp] at f1 f2
  have hWs : s.WarmedH U.vm := State.WarmedH.trans hW0 hW
  have hcl : s.vm.findClass cls = some ce.cls := by
    have h9 := hO.cls
    rw [hvm] at h9
    exact h9
  have hall : s.sameButNew ({ U with vm := s.vm } : State) locs mc ms := by
    subst hA
    obtain ⟨e1, e2⟩ := hsame
    rw [State.setFrames_setFrames] at e1
    have h2 : (T.setVm s.vm).sameButNew ({ U with vm := s.vm } : State) [] (0 + 1) (0 + 6) := ⟨e1, e2⟩
    have h3 := X.same.trans h2
    rw [List.append_nil] at h3
    exact h3.mono hc hs
  refine ⟨U, ?_, .threw T.heap.size, hrun, hend, Or.inr ⟨T.heap.size, rfl, cls, ce, locs, hx U hWs.alike f1 (fun q hq => f2 q hq (fun z hz => nomatch hz)), hce, hO.vm, hcl, hWs, hall, hf⟩⟩
  refine st1 _ ?_
  show Steps p.tables e below (T1.setTop { method := m, pc := pc + 3, locals := ls, stack := .ref T.heap.size :: rest, locked := none }) _
  jvm_step X₁.here [X₁.here.top, hexec, d3', Value.category]
  exact X₁.ldcString hexec (own := own) (text := text) (index := is) (a := sa) hown' hstr'.1 hstr'.2
    (g := { method := m, pc := pc + 4, locals := ls, stack := .ref T.heap.size :: .ref T.heap.size :: rest, locked := none }) rfl d4' _ hsteps
theorem gx_throwSW {cc : ByteArray} {pc : Nat} (hexec : p.tables.exec = Jvm.exec) (hb : c.code = cc) (hl : l.stackTraces = false) {own cls text : String} {names : List String} {ik is ic mc ms sa ix : Nat} {rx : ByteArray} (x0 : decode rx 0 = .ok (.aload_n 0, 1)) (x1 : decode rx 1 = .ok (.aload_n 1, 1)) (x2 : decode rx 2 = .ok (.invokespecial ix, 3)) (x5 : decode rx 5 = .ok (.return_, 1)) {A : Nat → Prop}
    (hown : s.vm.findClass own = some m.cls) (hcls : Bundle.fit cls = true) (hnames : ∀ n ∈ names, Bundle.fit n = true)
    (hk : (Cond.classLink own ik cls).before args s = true) (hini : (Cond.initialized cls).before args s = true) (hstr : vk_R own is text sa s) (hat : ∀ w ∈ gx_at own ic cls ix rx names, w.before args s = true)
    (hgood : ∀ w ∈ Cond.classLink own ik cls :: Cond.initialized cls :: gx_at own ic cls ix rx names, vx_ot w = true)
    (hU : vx_Zq Bundle.tN "UNASSIGNED_STACK" Bundle.steD A s s.heap) (hN : vx_Zq Bundle.tN "SUPPRESSED_SENTINEL" Bundle.listD A s s.heap) (hS : va_S A s.heap H locs) (hsize : ls.size = c.maxLocals)
    (d0 : decode cc pc = .ok (.new ik, 3)) (d3 : decode cc (pc + 3) = .ok (.dup, 1)) (d4 : decode cc (pc + 4) = .ok (.ldc_w is, 3)) (d7 : decode cc (pc + 7) = .ok (.invokespecial ic, 3)) (d10 : decode cc (pc + 10) = .ok (.athrow, 1))
    (hout : ∀ x ∈ c.exceptionTable.toList, covers x (pc + 10) = false)
    (hRframes : names.length + 3 < R.frames) (hRlocals : (rest.map fun v => v.category).sum + (13 * (names.length + 1) + 43) ≤ R.locals) (hRcells : cells + 1 ≤ R.cells) (hRslots : slots + 6 ≤ R.slots) (hlocks : meth.locks = false)
    (hx : ∀ t : State, s.vm.Alike t.vm → H.size ≤ t.heap.size → (∀ q : Nat, q < H.size → t.heap[q]? = H[q]?) → XC cls s t)
    (hf : ∀ z ∈ locs, free z.base) (hc : cells + 1 ≤ mc) (hs : slots + 6 ≤ ms) :
    W p l e R s m args below meth c H locs cells slots (vx_MQ below Qc XC args s mc ms free) (F0 m pc ls rest) := by
  intro T hT X
  have htr : e.platform.stackTraces = false := (show e.platform.stackTraces = l.stackTraces by rw [X.admits.platform]).trans hl
  have Y := vx_rebase X (R' := { frames := R.frames, locals := R.locals, cells := 1, slots := 6 }) (Nat.le_refl _) (Nat.le_refl _) hRcells hRslots
  obtain ⟨s', hA⟩ : ∃ z, z = (T.setVm s.vm).setFrames (.invoking m args :: below) := ⟨_, rfl⟩
  rw [← hA] at Y
  have hvm : s'.vm = s.vm := by rw [hA]; rfl
  have hhp : s'.heap = H := by rw [hA]; exact hT
  have hW0 : s.WarmedH s'.vm := by rw [hvm]; exact State.WarmedH.refl s
  have hat' : ∀ w ∈ gx_at own ic cls ix rx names, w.before args s' = true := fun w hw => vx_ot_at hW0 hvm.symm (hgood w (List.mem_cons_of_mem _ (List.mem_cons_of_mem _ hw))) (hat w hw)
  have hk' : (Cond.classLink own ik cls).before args s' = true := vx_ot_at hW0 hvm.symm (hgood _ List.mem_cons_self) hk
  have hini' : (Cond.initialized cls).before args s' = true := vx_ot_at hW0 hvm.symm (hgood _ (List.mem_cons_of_mem _ List.mem_cons_self)) hini
  have hU' : vx_Zq Bundle.tN "UNASSIGNED_STACK" Bundle.steD A s' s'.heap := by rw [hhp]; exact vx_Zq.moved hW0.alike (hU.kept hS.2.1)
  have hN' : vx_Zq Bundle.tN "SUPPRESSED_SENTINEL" Bundle.listD A s' s'.heap := by rw [hhp]; exact vx_Zq.moved hW0.alike (hN.kept hS.2.1)
  have h : ∀ w ∈ gx_own own ic cls ix rx names, w.before args s' = true := vx_own hat' (vx_isRefq hU'.1) (vx_isRefq hN'.1) hU'.2.word hN'.2.word
  have hown' : s'.vm.findClass own = some m.cls := by rw [hvm]; exact hown
  have hins : (Cond.instantiable cls 6).before args s' = true := h _ (by simp [gx_own])
  obtain ⟨vm₁, cX, kX, hfX, hkX, -, -, X₁, st1⟩ := Y.newCold hexec (own := own) (C := cls) (index := ik) (n := 6) hown' hk' hins hini'
    (g := F0 m pc ls rest) rfl (by rw [hb]; exact d0) (Nat.le_refl _) (Nat.le_refl _)
  generalize hT1 : (T.setVm vm₁).pushCell { cls := cX, slots := kX.instanceTypes.map defaultValue, vm := .none } = T1 at X₁ st1
  have hcat : (Value.ref T.heap.size).category = 1 := rfl
  have hcellA : T1.heap[T.heap.size]? = some (freshCell cX kX) := by rw [← hT1]; exact State.heap_pushCell_size _ _
  have d3' : decode c.code (pc + 3) = .ok (.dup, 1) := by rw [hb]; exact d3
  have d4' : decode c.code (pc + 4) = .ok (.ldc_w is, 3) := by rw [hb]; exact d4
  have hstr' : vk_R own is text sa s' := vk_R.warm hW0 hstr
  obtain ⟨U, hsteps, hrun, hend, hW, hsame, ce, hce, hO⟩ := gx_ctorThrow X₁ hexec htr x0 x1 x2 x5 (own := own) (cls := cls) (names := names) (ic := ic) hown' hcls hnames h (fun x hx => nomatch hx) hfX hkX hcellA (by rw [hhp, hT]; exact Nat.le_refl _) (msg := .ref sa) rfl
    (g := { method := m, pc := pc + 7, locals := ls, stack := .ref sa :: .ref T.heap.size :: .ref T.heap.size :: rest, locked := none }) rfl hsize rfl rfl (rest := rest) rfl
    (by rw [hb]; exact d7) (by rw [hb]; exact d10) hout hRframes (by simp only [List.map_cons, List.sum_cons, hcat]; omega) hlocks
  obtain ⟨f1, f2⟩ := vx_frame hsame
  rw [hhp] at f1 f2
  have hWs : s.WarmedH U.vm := State.WarmedH.trans hW0 hW
  have hcl : s.vm.findClass cls = some ce.cls := by
    have h9 := hO.cls
    rw [hvm] at h9
    exact h9
  have hall : s.sameButNew ({ U with vm := s.vm } : State) locs mc ms := by
    subst hA
    obtain ⟨e1, e2⟩ := hsame
    rw [State.setFrames_setFrames] at e1
    have h2 : (T.setVm s.vm).sameButNew ({ U with vm := s.vm } : State) [] (0 + 1) (0 + 6) := ⟨e1, e2⟩
    have h3 := X.same.trans h2
    rw [List.append_nil] at h3
    exact h3.mono hc hs
  refine ⟨U, ?_, .threw T.heap.size, hrun, hend, Or.inr ⟨T.heap.size, rfl, cls, ce, locs, hx U hWs.alike f1 (fun q hq => f2 q hq (fun z hz => nomatch hz)), hce, hO.vm, hcl, hWs, hall, hf⟩⟩
  refine st1 _ ?_
  show Steps p.tables e below (T1.setTop { method := m, pc := pc + 3, locals := ls, stack := .ref T.heap.size :: rest, locked := none }) _
  jvm_step X₁.here [X₁.here.top, hexec, d3', Value.category]
  exact X₁.ldcStringW hexec (own := own) (text := text) (index := is) (a := sa) hown' hstr'.1 hstr'.2
    (g := { method := m, pc := pc + 4, locals := ls, stack := .ref T.heap.size :: .ref T.heap.size :: rest, locked := none }) rfl d4' _ hsteps
end GX2
end
section
/-! THE ABSTRACT MACHINE: cells by their places in a list, values as the JVM's with places for addresses. One predicate a point of the code (pG); what an instruction owes (gm_w). -/
abbrev pE : Type := (Nat × vp_A) ⊕ (Nat × List Value)
abbrev pH : Type := List pE
abbrev pL : Type := List (Option Value)
abbrev pO : Type := Option Value ⊕ String
abbrev pG : Type := Nat → pL → List Value → pH → Nat → Nat → Prop
abbrev pX : Type := pO → pH → Nat → Nat → Prop
abbrev pS : Type := Nat → List Value → pH → pO → pH → Nat → Nat → Prop
/-- a class: fields, methods, constants, classes made, exceptions made, by the places of its constant pool -/
abbrev pK : Type := List (Nat × Nat × Nat) × List (Nat × Nat × Nat) × List (Nat × Value) × List (Nat × Nat × List Value) × List (Nat × String)
/-- a method: its class's name, its name, its bytes, locals, return type, instructions, handlers, class -/
abbrev pM : Type := String × MethodName × ByteArray × Nat × Option FieldType × List (Nat × Instr × Nat) × List (Nat × Nat × Nat × Nat) × pK
def gm_nth {α : Type} : List α → Nat → Option α
  | [], _ => none
  | a :: _, 0 => some a
  | _ :: l, k + 1 => gm_nth l k
def gm_set {α : Type} : List α → Nat → α → List α
  | [], _, _ => []
  | _ :: l, 0, x => x :: l
  | a :: l, k + 1, x => a :: gm_set l k x
def gm_asc {α : Type} : List (Nat × α) → Nat → Option α
  | [], _ => none
  | (k, a) :: l, n => bif Nat.beq k n then some a else gm_asc l n
def gm_lit : Int → Int32
  | .ofNat n => OfNat.ofNat n
  | .negSucc n => -(OfNat.ofNat (n + 1))
def gm_jmp (pc : Nat) (off : Int) (f : Nat → Prop) : Prop := match (pc : Int) + off with
  | .ofNat t => f t
  | .negSucc _ => False
def gm_ic (cd : ClassFile.Cond) (x y : Int32) : Prop := match cd with
  | .eq => x = y
  | .ne => ¬ x = y
  | .lt => x < y
  | .ge => y ≤ x
  | .gt => y < x
  | .le => x ≤ y
def gm_look (pc : Nat) (d : Int) (x : Int32) (f : Nat → Prop) : List (Int × Int) → Prop
  | [] => gm_jmp pc d f
  | (k, o) :: r => (x = gm_lit k → gm_jmp pc o f) ∧ (¬ x = gm_lit k → gm_look pc d x f r)
def gm_tab (pc : Nat) (d : Int) (x : Int32) (f : Nat → Prop) : Int → List Int → Prop
  | _, [] => gm_jmp pc d f
  | v, o :: r => (x = gm_lit v → gm_jmp pc o f) ∧ (¬ x = gm_lit v → gm_tab pc d x f (v + 1) r)
/-- what may be put into a field, or handed back, of a type -/
def gm_ok : FieldType → Value → Prop
  | .int, .int _ => True
  | .boolean, .int x => x = 0 ∨ x = 1
  | .char, .int x => 0 ≤ x ∧ x ≤ 65535
  | .long, .long _ => True
  | .float, .float _ => True
  | .object _, .ref _ => True
  | .array _, .ref _ => True
  | _, _ => False
def gm_if (b : Bool) (P : Prop) : Prop := match b with
  | true => P
  | false => False
/-- a value of a type, and more -/
def gm_okx (ty : FieldType) (v : Value) (P : Prop) : Prop := match ty, v with
  | .int, .int _ => P
  | .boolean, .int x => (x = 0 ∨ x = 1) ∧ P
  | .char, .int x => (0 ≤ x ∧ x ≤ 65535) ∧ P
  | .long, .long _ => P
  | .float, .float _ => P
  | .object _, .ref _ => P
  | .array _, .ref _ => P
  | _, _ => False
def gm_okrx (ty : Option FieldType) (v : Option Value) (P : Prop) : Prop := match ty, v with
  | none, none => P
  | some ty, some v => gm_okx ty v P
  | _, _ => False
def gm_okr : Option FieldType → Option Value → Prop
  | none, none => True
  | some ty, some v => gm_ok ty v
  | _, _ => False
def gm_cat2 : Option (Option Value) → Bool
  | some (some (.long _)) => true
  | some (some (.double _)) => true
  | _ => false
/-- a value of one slot into a local: a long ahead of it goes -/
def gm_st1 (ls : pL) : Nat → Value → pL
  | 0, v => gm_set ls 0 (some v)
  | i + 1, v => gm_set (bif gm_cat2 (gm_nth ls i) then gm_set ls i none else ls) (i + 1) (some v)
def gm_st2 (ls : pL) : Nat → Value → pL
  | 0, v => gm_set (gm_set ls 1 none) 0 (some v)
  | i + 1, v => gm_set (gm_set (bif gm_cat2 (gm_nth ls i) then gm_set ls i none else ls) (i + 2) none) (i + 1) (some v)
def gm_sum : List Value → Nat
  | [] => 0
  | .long _ :: r => 2 + gm_sum r
  | .double _ :: r => 2 + gm_sum r
  | _ :: r => 1 + gm_sum r
/-- n values off the stack, the first pushed first -/
def gm_pop : Nat → List Value → List Value → Option (List Value × List Value)
  | 0, acc, st => some (acc, st)
  | n + 1, acc, v :: st => gm_pop n (v :: acc) st
  | _ + 1, _, [] => none
def gm_i1 (st : List Value) (f : Int32 → List Value → Prop) : Prop := match st with
  | .int x :: r => f x r
  | _ => False
def gm_i2 (st : List Value) (f : Int32 → Int32 → List Value → Prop) : Prop := match st with
  | .int y :: .int x :: r => f x y r
  | _ => False
def gm_l1 (st : List Value) (f : Int64 → List Value → Prop) : Prop := match st with
  | .long x :: r => f x r
  | _ => False
def gm_l2 (st : List Value) (f : Int64 → Int64 → List Value → Prop) : Prop := match st with
  | .long y :: .long x :: r => f x y r
  | _ => False
def gm_li (v : Option (Option Value)) (f : Int32 → Prop) : Prop := match v with
  | some (some (.int x)) => f x
  | _ => False
def gm_ll (v : Option (Option Value)) (f : Int64 → Prop) : Prop := match v with
  | some (some (.long x)) => f x
  | _ => False
def gm_lf (v : Option (Option Value)) (f : UInt32 → Prop) : Prop := match v with
  | some (some (.float x)) => f x
  | _ => False
def gm_la (v : Option (Option Value)) (f : Nat → Prop) : Prop := match v with
  | some (some (.ref x)) => f x
  | _ => False
def gm_si (st : List Value) (f : Int32 → List Value → Prop) : Prop := gm_i1 st f
def gm_sf (st : List Value) (f : UInt32 → List Value → Prop) : Prop := match st with
  | .float x :: r => f x r
  | _ => False
def gm_sa (st : List Value) (f : Nat → List Value → Prop) : Prop := match st with
  | .ref x :: r => f x r
  | _ => False
def gm_d1 (st : List Value) (f : UInt64 → List Value → Prop) : Prop := match st with
  | .double x :: r => f x r
  | _ => False
/-- an object's cell -/
def gm_ob (h : pH) (a : Nat) (f : Nat → List Value → Prop) : Prop := match gm_nth h a with
  | some (.inr (ci, fs)) => f ci fs
  | _ => False
/-- an array of 32-bit numbers, of a kind (0 int, 1 char, 2 boolean) -/
def gm_ai (h : pH) (a : Nat) (t : Nat) (f : Nat → (Nat → Int32) → Prop) : Prop := match gm_nth h a with
  | some (.inl (k, n, .inl r)) => bif Nat.beq k t then f n r else False
  | _ => False
def gm_al (h : pH) (a : Nat) (f : Nat → (Nat → Int64) → Prop) : Prop := match gm_nth h a with
  | some (.inl (3, n, .inr (.inl r))) => f n r
  | _ => False
def gm_ad (h : pH) (a : Nat) (f : Nat → (Nat → UInt64) → Prop) : Prop := match gm_nth h a with
  | some (.inl (4, n, .inr (.inr (.inr (.inl r))))) => f n r
  | _ => False
def gm_op {α : Type} (o : Option α) (f : α → Prop) : Prop := match o with
  | some a => f a
  | none => False
def gm_c1 (v : Value) : Bool := match v with
  | .int _ => true
  | .ref _ => true
  | .float _ => true
  | _ => false
/-- the handler of this method for an exception of class E at pc, by its table; 'tn' tells a table's class place by name -/
def gm_hd (tn : List (Nat × String)) (E : String) (pc : Nat) : List (Nat × Nat × Nat × Nat) → Option Nat
  | [] => none
  | (a, b, t, k) :: r => bif Nat.ble a pc && Nat.blt pc b && (gm_asc tn k == some E) then some t else gm_hd tn E pc r
/-- what a call owes: some outcome of the callee, and the way on from there -/
def gm_call (Sp : pS) (mid : Nat) (av : List Value) (h : pH) (c s : Nat) (f : Option Value → pH → Nat → Nat → Prop) (g : String → pH → Nat → Nat → Prop) : Prop :=
  (∃ (v : Option Value) (h1 : pH) (c1 s1 : Nat), Sp mid av h (.inl v) h1 c1 s1 ∧ f v h1 (c + c1) (s + s1)) ∨ (∃ (E : String) (h1 : pH) (c1 s1 : Nat), Sp mid av h (.inr E) h1 c1 s1 ∧ g E h1 (c + c1) (s + s1))
/-- the script: an array outside the world, at the place 88888 -/
abbrev pQ : Type := Option (Nat × (Nat → Int32))
def gm_ifs {α : Type} (b : Bool) (x y : α) : α := bif b then x else y
def gm_zero : ArrayType → Nat → Option pE
  | .int, n => some (.inl (0, n, .inl (fun _ => 0)))
  | .char, n => some (.inl (1, n, .inl (fun _ => 0)))
  | .boolean, n => some (.inl (2, n, .inl (fun _ => 0)))
  | .long, n => some (.inl (3, n, .inr (.inl (fun _ => 0))))
  | .double, n => some (.inl (4, n, .inr (.inr (.inr (.inl (fun _ => 0))))))
  | _, _ => none
def gm_vl : Option Value → List Value → List Value
  | none, r => r
  | some v, r => v :: r
/-- an exception of class E comes out of a call at pc: a handler's first instruction puts it into a local that nobody reads; or it goes on to the caller -/
def gm_thr (M : pM) (G : pG) (X : pX) (pc : Nat) (ls : pL) (E : String) (h1 : pH) (c1 s1 : Nat) : Prop := match gm_hd M.2.2.2.2.2.2.2.2.2.2.2 E pc M.2.2.2.2.2.2.1 with
  | some t => (match gm_asc M.2.2.2.2.2.1 t with
    | some (.astore_n k, _) => gm_if (Nat.blt k.val ls.length) (G (t + 1) (gm_set (gm_st1 ls k.val (.int 0)) k.val none) [] h1 c1 s1)
    | some (.astore k, _) => gm_if (Nat.blt k ls.length) (G (t + 2) (gm_set (gm_st1 ls k (.int 0)) k none) [] h1 c1 s1)
    | _ => False)
  | none => X (.inr E) h1 c1 s1
/-- references that stay what they are while cells are made -/
def gm_fr (n : Nat) : Value → Bool
  | .ref a => Nat.blt a n || Nat.beq a 88888
  | _ => true
def gm_frs (n : Nat) : List Value → Bool
  | [] => true
  | v :: r => gm_fr n v && gm_frs n r
def gm_frl (n : Nat) : pL → Bool
  | [] => true
  | some v :: r => gm_fr n v && gm_frl n r
  | none :: r => gm_frl n r
def gm_frh (n : Nat) : pH → Bool
  | [] => true
  | .inl _ :: r => gm_frh n r
  | .inr q :: r => gm_frs n q.2 && gm_frh n r
/-- what an instruction owes at pc, its successor at n -/
def gm_w (M : pM) (tyf : Nat → Nat → FieldType) (sq : pQ) (Sp : pS) (G : pG) (X : pX) (i : Instr) (pc n : Nat) (ls : pL) (st : List Value) (h : pH) (c s : Nat) : Prop := match i with
  | .iconst k => G n ls (.int (gm_lit k) :: st) h c s
  | .bipush k => G n ls (.int (gm_lit k) :: st) h c s
  | .sipush k => G n ls (.int (gm_lit k) :: st) h c s
  | .lconst k => G n ls (.long (OfNat.ofNat k.val) :: st) h c s
  | .fconst k => match k with
    | 0 => G n ls (.float FP.fconst0 :: st) h c s
    | _ => False
  | .ldc k => gm_op (gm_asc M.2.2.2.2.2.2.2.2.2.1 k) fun v => match v with
    | .int x => G n ls (.int x :: st) h c s
    | .float x => G n ls (.float x :: st) h c s
    | _ => False
  | .ldc_w k => gm_op (gm_asc M.2.2.2.2.2.2.2.2.2.1 k) fun v => match v with
    | .int x => G n ls (.int x :: st) h c s
    | .float x => G n ls (.float x :: st) h c s
    | _ => False
  | .ldc2_w k => gm_op (gm_asc M.2.2.2.2.2.2.2.2.2.1 k) fun v => match v with
    | .long x => G n ls (.long x :: st) h c s
    | _ => False
  | .iload_n k => gm_li (gm_nth ls k.val) fun x => G n ls (.int x :: st) h c s
  | .iload k => gm_li (gm_nth ls k) fun x => G n ls (.int x :: st) h c s
  | .lload_n k => gm_ll (gm_nth ls k.val) fun x => G n ls (.long x :: st) h c s
  | .lload k => gm_ll (gm_nth ls k) fun x => G n ls (.long x :: st) h c s
  | .fload k => gm_lf (gm_nth ls k) fun x => G n ls (.float x :: st) h c s
  | .aload_n k => gm_la (gm_nth ls k.val) fun x => G n ls (.ref x :: st) h c s
  | .aload k => gm_la (gm_nth ls k) fun x => G n ls (.ref x :: st) h c s
  | .istore_n k => gm_i1 st fun x r => gm_if (Nat.blt k.val ls.length) (G n (gm_st1 ls k.val (.int x)) r h c s)
  | .istore k => gm_i1 st fun x r => gm_if (Nat.blt k ls.length) (G n (gm_st1 ls k (.int x)) r h c s)
  | .lstore_n k => gm_l1 st fun x r => gm_if (Nat.blt (k.val + 1) ls.length) (G n (gm_st2 ls k.val (.long x)) r h c s)
  | .lstore k => gm_l1 st fun x r => gm_if (Nat.blt (k + 1) ls.length) (G n (gm_st2 ls k (.long x)) r h c s)
  | .fstore k => gm_sf st fun x r => gm_if (Nat.blt k ls.length) (G n (gm_st1 ls k (.float x)) r h c s)
  | .astore_n k => gm_sa st fun x r => gm_if (Nat.blt k.val ls.length) (G n (gm_st1 ls k.val (.ref x)) r h c s)
  | .astore k => gm_sa st fun x r => gm_if (Nat.blt k ls.length) (G n (gm_st1 ls k (.ref x)) r h c s)
  | .iinc k d => gm_li (gm_nth ls k) fun x => G n (gm_st1 ls k (.int (x + gm_lit d))) st h c s
  | .iadd => gm_i2 st fun x y r => G n ls (.int (x + y) :: r) h c s
  | .isub => gm_i2 st fun x y r => G n ls (.int (x - y) :: r) h c s
  | .imul => gm_i2 st fun x y r => G n ls (.int (x * y) :: r) h c s
  | .iand => gm_i2 st fun x y r => G n ls (.int (x &&& y) :: r) h c s
  | .ior => gm_i2 st fun x y r => G n ls (.int (x ||| y) :: r) h c s
  | .ixor => gm_i2 st fun x y r => G n ls (.int (x ^^^ y) :: r) h c s
  | .ineg => gm_i1 st fun x r => G n ls (.int (-x) :: r) h c s
  | .idiv => gm_i2 st fun x y r => ¬ y = 0 ∧ G n ls (.int (x / y) :: r) h c s
  | .irem => gm_i2 st fun x y r => ¬ y = 0 ∧ G n ls (.int (x - x / y * y) :: r) h c s
  | .ishl => gm_i2 st fun x y r => G n ls (.int (x <<< (y &&& 31)) :: r) h c s
  | .ishr => gm_i2 st fun x y r => G n ls (.int (x >>> (y &&& 31)) :: r) h c s
  | .iushr => gm_i2 st fun x y r => G n ls (.int ((x.toUInt32 >>> (y.toUInt32 &&& Int32.toUInt32 31)).toInt32) :: r) h c s
  | .ladd => gm_l2 st fun x y r => G n ls (.long (x + y) :: r) h c s
  | .lmul => gm_l2 st fun x y r => G n ls (.long (x * y) :: r) h c s
  | .lsub => gm_l2 st fun x y r => G n ls (.long (x - y) :: r) h c s
  | .land => gm_l2 st fun x y r => G n ls (.long (x &&& y) :: r) h c s
  | .lor => gm_l2 st fun x y r => G n ls (.long (x ||| y) :: r) h c s
  | .lxor => gm_l2 st fun x y r => G n ls (.long (x ^^^ y) :: r) h c s
  | .lshl => gm_i1 st fun y r => gm_l1 r fun x r => G n ls (.long (x <<< (y.toInt64 &&& 63)) :: r) h c s
  | .lshr => gm_i1 st fun y r => gm_l1 r fun x r => G n ls (.long (x >>> (y.toInt64 &&& 63)) :: r) h c s
  | .lneg => gm_l1 st fun x r => G n ls (.long (-x) :: r) h c s
  | .l2i => gm_l1 st fun x r => G n ls (.int x.toInt32 :: r) h c s
  | .lcmp => gm_l2 st fun x y r => G n ls (.int (lg_cmp x y) :: r) h c s
  | .i2l => gm_i1 st fun x r => G n ls (.long x.toInt64 :: r) h c s
  | .i2c => gm_i1 st fun x r => G n ls (.int (x.toUInt32 % 65536).toInt32 :: r) h c s
  | .i2f => gm_i1 st fun x r => G n ls (.float (FP.i2f x) :: r) h c s
  | .f2d => gm_sf st fun x r => vf_n64 (FP.f2d x) ∧ G n ls (.double (FP.f2d x) :: r) h c s
  | .fdiv => match st with
    | .float y :: .float x :: r => vf_n32 (FP.fdiv x y) ∧ G n ls (.float (FP.fdiv x y) :: r) h c s
    | _ => False
  | .fcmp op => match st with
    | .float y :: .float x :: r => G n ls (.int (Op.cmpValue (FP.fcmp x y) op) :: r) h c s
    | _ => False
  | .dcmp op => match st with
    | .double y :: .double x :: r => G n ls (.int (Op.cmpValue (FP.dcmp x y) op) :: r) h c s
    | _ => False
  | .dup => match st with
    | v :: r => gm_if (gm_c1 v) (G n ls (v :: v :: r) h c s)
    | _ => False
  | .dup_x1 => match st with
    | v :: w :: r => gm_if (gm_c1 v) (gm_if (gm_c1 w) (G n ls (v :: w :: v :: r) h c s))
    | _ => False
  | .dup2 => match st with
    | v :: w :: r => gm_if (gm_c1 v) (gm_if (gm_c1 w) (G n ls (v :: w :: v :: w :: r) h c s))
    | _ => False
  | .pop => match st with
    | v :: r => gm_if (gm_c1 v) (G n ls r h c s)
    | _ => False
  | .goto o => gm_jmp pc o fun t => G t ls st h c s
  | .ifCond cd o => gm_i1 st fun x r => gm_jmp pc o fun t => (gm_ic cd x 0 → G t ls r h c s) ∧ (¬ gm_ic cd x 0 → G n ls r h c s)
  | .if_icmp cd o => gm_i2 st fun x y r => gm_jmp pc o fun t => (gm_ic cd x y → G t ls r h c s) ∧ (¬ gm_ic cd x y → G n ls r h c s)
  | .lookupswitch d ps => gm_i1 st fun x r => gm_look pc d x (fun t => G t ls r h c s) ps.toList
  | .tableswitch d lo _ os => gm_i1 st fun x r => gm_tab pc d x (fun t => G t ls r h c s) lo os.toList
  | .getfield k => gm_sa st fun a r => gm_op (gm_asc M.2.2.2.2.2.2.2.1 k) fun f => gm_ob h a fun ci fs => gm_if (Nat.beq ci f.1) (gm_op (gm_nth fs f.2) fun v => G n ls (v :: r) h c s)
  | .putfield k => match st with
    | v :: .ref a :: r => gm_op (gm_asc M.2.2.2.2.2.2.2.1 k) fun f => gm_ob h a fun ci fs => gm_op (gm_nth fs f.2) fun _ => gm_if (Nat.beq ci f.1) (gm_okx (tyf f.1 f.2) v (G n ls r (gm_set h a (.inr (ci, gm_set fs f.2 v))) c s))
    | _ => False
  | .iaload => gm_i1 st fun x r => gm_sa r fun a r => bif Nat.beq a 88888 then gm_op sq (fun q => vp_in x q.1 ∧ G n ls (.int (q.2 x.toNatClampNeg) :: r) h c s) else gm_ai h a 0 fun N f => vp_in x N ∧ G n ls (.int (f x.toNatClampNeg) :: r) h c s
  | .caload => gm_i1 st fun x r => gm_sa r fun a r => gm_ai h a 1 fun N f => vp_in x N ∧ G n ls (.int (f x.toNatClampNeg) :: r) h c s
  | .baload => gm_i1 st fun x r => gm_sa r fun a r => gm_ai h a 2 fun N f => vp_in x N ∧ G n ls (.int (f x.toNatClampNeg) :: r) h c s
  | .laload => gm_i1 st fun x r => gm_sa r fun a r => gm_al h a fun N f => vp_in x N ∧ G n ls (.long (f x.toNatClampNeg) :: r) h c s
  | .daload => gm_i1 st fun x r => gm_sa r fun a r => gm_ad h a fun N f => vp_in x N ∧ G n ls (.double (f x.toNatClampNeg) :: r) h c s
  | .iastore => gm_i2 st fun x y r => gm_sa r fun a r => gm_ai h a 0 fun N f => vp_in x N ∧ G n ls r (gm_set h a (.inl (0, N, .inl (upd f x.toNatClampNeg y)))) c s
  | .castore => gm_i2 st fun x y r => gm_sa r fun a r => gm_ai h a 1 fun N f => vp_in x N ∧ (0 ≤ y ∧ y ≤ 65535) ∧ G n ls r (gm_set h a (.inl (1, N, .inl (upd f x.toNatClampNeg y)))) c s
  | .bastore => gm_i2 st fun x y r => gm_sa r fun a r => gm_ai h a 2 fun N f => vp_in x N ∧ (y = 0 ∨ y = 1) ∧ G n ls r (gm_set h a (.inl (2, N, .inl (upd f x.toNatClampNeg y)))) c s
  | .lastore => gm_l1 st fun y r => gm_i1 r fun x r => gm_sa r fun a r => gm_al h a fun N f => vp_in x N ∧ G n ls r (gm_set h a (.inl (3, N, .inr (.inl (vp_updL f x.toNatClampNeg y))))) c s
  | .dastore => gm_d1 st fun y r => gm_i1 r fun x r => gm_sa r fun a r => gm_ad h a fun N f => vp_in x N ∧ G n ls r (gm_set h a (.inl (4, N, .inr (.inr (.inr (.inl (vf_upd f x.toNatClampNeg y))))))) c s
  | .arraylength => gm_sa st fun a r => bif Nat.beq a 88888 then gm_op sq (fun q => G n ls (.int (Int32.ofNat q.1) :: r) h c s) else False
  | .newarray t => gm_i1 st fun x r => ¬ x < 0 ∧ gm_if (Nat.ble x.toNatClampNeg 100000) (gm_if (gm_frs h.length r && (gm_frl h.length ls && gm_frh h.length h) && Nat.blt h.length 88888) (gm_op (gm_zero t x.toNatClampNeg) fun e => G n ls (.ref h.length :: r) (h ++ [e]) (c + 1) (s + x.toNatClampNeg)))
  | .new k => match gm_asc M.2.2.2.2.2.2.2.2.2.2.2 k with
    | some E => gm_if (Nat.ble (gm_sum st) 8) (X (.inr E) h (c + 1) (s + 6))
    | none => gm_op (gm_asc M.2.2.2.2.2.2.2.2.2.2.1 k) fun q => gm_if (gm_frs h.length st && (gm_frl h.length ls && gm_frh h.length h) && (gm_frs h.length q.2 && Nat.blt h.length 88888)) (G n ls (.ref h.length :: st) (h ++ [.inr q]) (c + 1) (s + q.2.length))
  | .invokestatic k => gm_op (gm_asc M.2.2.2.2.2.2.2.2.1 k) fun q => bif Nat.ble 100 q.2 then False else bif Nat.ble 50 q.2 then gm_op (gm_pop (q.2 - 50) [] st) (fun z => gm_if (Nat.ble (gm_sum z.2) 8) (∃ (v : Option Value) (h1 : pH) (c1 s1 : Nat), Sp q.1 z.1 h (.inl v) h1 c1 s1 ∧ G n ls (gm_vl v z.2) h1 (c + c1) (s + s1))) else gm_op (gm_pop q.2 [] st) fun z => gm_if (Nat.ble (gm_sum z.2) 8) (gm_call Sp q.1 z.1 h c s (fun v h1 c1 s1 => G n ls (gm_vl v z.2) h1 c1 s1) (gm_thr M G X pc ls))
  | .invokevirtual k => gm_op (gm_asc M.2.2.2.2.2.2.2.2.1 k) fun q => bif Nat.blt q.2 100 || Nat.ble 200 q.2 then False else gm_op (gm_pop (q.2 - 100) [] st) fun z => gm_sa z.2 fun a r => gm_ob h a fun ci _ => bif Nat.beq (q.1 / 1000) (ci + 1) then gm_if (Nat.ble (gm_sum r) 8) (gm_call Sp q.1 (.ref a :: z.1) h c s (fun v h1 c1 s1 => G n ls (gm_vl v r) h1 c1 s1) (gm_thr M G X pc ls)) else False
  | .invokespecial k => gm_op (gm_asc M.2.2.2.2.2.2.2.2.1 k) fun q => bif Nat.blt q.2 200 then False else gm_op (gm_pop (q.2 - 200) [] st) fun z => gm_sa z.2 fun a r => gm_if (Nat.ble (gm_sum r) 6) (match q.1 with
      | 0 => G n ls r h c s
      | q1 + 1 => ∃ (h1 : pH) (c1 s1 : Nat), Sp (q1 + 1) (.ref a :: z.1) h (.inl none) h1 c1 s1 ∧ gm_if (gm_frs h.length r && gm_frl h.length ls) (G n ls r h1 (c + c1) (s + s1)))
  | .ireturn => match st with
    | [.int x] => gm_okrx M.2.2.2.2.1 (some (.int x)) (X (.inl (some (.int x))) h c s)
    | _ => False
  | .lreturn => match st with
    | [.long x] => gm_okrx M.2.2.2.2.1 (some (.long x)) (X (.inl (some (.long x))) h c s)
    | _ => False
  | .freturn => match st with
    | [.float x] => gm_okrx M.2.2.2.2.1 (some (.float x)) (X (.inl (some (.float x))) h c s)
    | _ => False
  | .areturn => match st with
    | [.ref x] => gm_okrx M.2.2.2.2.1 (some (.ref x)) (X (.inl (some (.ref x))) h c s)
    | _ => False
  | .return_ => match st with
    | [] => gm_okrx M.2.2.2.2.1 none (X (.inl none) h c s)
    | _ => False
  | _ => False
/-- a predicate that goes back along the code -/
def gm_cl (M : pM) (tyf : Nat → Nat → FieldType) (sq : pQ) (Sp : pS) (G : pG) (X : pX) : Prop :=
  ∀ (pc : Nat) (i : Instr) (len : Nat), gm_asc M.2.2.2.2.2.1 pc = some (i, len) → ∀ (ls : pL) (st : List Value) (h : pH) (c s : Nat), gm_w M tyf sq Sp G X i pc (pc + len) ls st h c s → G pc ls st h c s
end
section
/-! SOUNDNESS, 1: how the abstract world lies in the heap; one instruction each -/
def gm_v (ad : Nat → Nat) : Value → Value
  | .ref a => .ref (ad a)
  | v => v
def gm_e (cy : Nat → ClassId) (ad : Nat → Nat) : pE → va_E
  | .inl q => .inl (cy q.1, q.2)
  | .inr q => .inr (q.1, q.2.map (gm_v ad))
def gm_W (cy : Nat → ClassId) (ad : Nat → Nat) : Nat → pH → va_W
  | _, [] => []
  | k, e :: r => (ad k, gm_e cy ad e) :: gm_W cy ad (k + 1) r
theorem gm_nth_some {α : Type} : ∀ (l : List α) (i : Nat), gm_nth l i = l[i]?
  | [], _ => by simp [gm_nth]
  | a :: l, 0 => by simp [gm_nth]
  | a :: l, i + 1 => by simp [gm_nth, gm_nth_some l i]
theorem gm_set_eq {α : Type} : ∀ (l : List α) (i : Nat) (x : α), gm_set l i x = l.set i x
  | [], _, _ => by simp [gm_set]
  | a :: l, 0, x => by simp [gm_set]
  | a :: l, i + 1, x => by simp [gm_set, gm_set_eq l i x]
theorem gm_W_get (cy : Nat → ClassId) (ad : Nat → Nat) : ∀ (h : pH) (k i : Nat), (gm_W cy ad k h)[i]? = (h[i]?).map (fun e => (ad (k + i), gm_e cy ad e))
  | [], _, _ => by simp [gm_W]
  | e :: h, k, 0 => by simp [gm_W]
  | e :: h, k, i + 1 => by
    simp only [gm_W, List.getElem?_cons_succ]
    rw [gm_W_get cy ad h (k + 1) i, show k + 1 + i = k + (i + 1) by omega]
theorem gm_W_set (cy : Nat → ClassId) (ad : Nat → Nat) (e1 : pE) : ∀ (h : pH) (k i : Nat), gm_W cy ad k (h.set i e1) = (gm_W cy ad k h).set i (ad (k + i), gm_e cy ad e1)
  | [], _, _ => by simp [gm_W]
  | e :: h, k, 0 => by simp [gm_W]
  | e :: h, k, i + 1 => by
    simp only [gm_W, List.set_cons_succ]
    rw [gm_W_set cy ad e1 h (k + 1) i, show k + 1 + i = k + (i + 1) by omega]
theorem gm_W_app (cy : Nat → ClassId) (ad : Nat → Nat) (e1 : pE) : ∀ (h : pH) (k : Nat), gm_W cy ad k (h ++ [e1]) = gm_W cy ad k h ++ [(ad (k + h.length), gm_e cy ad e1)]
  | [], _ => by simp [gm_W]
  | e :: h, k => by
    simp only [gm_W, List.cons_append, List.length_cons]
    rw [gm_W_app cy ad e1 h (k + 1), show k + 1 + h.length = k + (h.length + 1) by omega]
theorem gm_W_len (cy : Nat → ClassId) (ad : Nat → Nat) : ∀ (h : pH) (k : Nat), (gm_W cy ad k h).length = h.length
  | [], _ => rfl
  | e :: h, k => by simp [gm_W, gm_W_len cy ad h (k + 1)]
/-- the locals -/
def gm_hL (lsA : Array Slot) (nL : Nat) (ad : Nat → Nat) (ls : pL) : Prop := lsA.size = nL ∧ ls.length = nL ∧ lv_wf lsA ∧ ∀ (i : Nat) (v : Value), ls[i]? = some (some v) → lsA[i]? = some (.val (gm_v ad v))
def gm_lv (ad : Nat → Nat) : Nat → pL → List (Nat × Value)
  | _, [] => []
  | k, none :: r => gm_lv ad (k + 1) r
  | k, some v :: r => (k, gm_v ad v) :: gm_lv ad (k + 1) r
theorem gm_lv_mem (ad : Nat → Nat) : ∀ (ls : pL) (k : Nat) (q : Nat × Value), q ∈ gm_lv ad k ls ↔ ∃ i v, ls[i]? = some (some v) ∧ q = (k + i, gm_v ad v)
  | [], k, q => by simp [gm_lv]
  | none :: ls, k, q => by
    simp only [gm_lv]
    rw [gm_lv_mem ad ls (k + 1) q]
    constructor
    · rintro ⟨i, v, h1, h2⟩
      exact ⟨i + 1, v, by simpa using h1, by rw [h2, show k + 1 + i = k + (i + 1) by omega]⟩
    · rintro ⟨i, v, h1, h2⟩
      cases i with
      | zero => simp at h1
      | succ i => exact ⟨i, v, by simpa using h1, by rw [h2, show k + 1 + i = k + (i + 1) by omega]⟩
  | some w :: ls, k, q => by
    simp only [gm_lv, List.mem_cons]
    rw [gm_lv_mem ad ls (k + 1) q]
    constructor
    · rintro (h | ⟨i, v, h1, h2⟩)
      · exact ⟨0, w, by simp, by simpa using h⟩
      · exact ⟨i + 1, v, by simpa using h1, by rw [h2, show k + 1 + i = k + (i + 1) by omega]⟩
    · rintro ⟨i, v, h1, h2⟩
      cases i with
      | zero =>
        simp at h1
        subst h1
        exact Or.inl (by simpa using h2)
      | succ i => exact Or.inr ⟨i, v, by simpa using h1, by rw [h2, show k + 1 + i = k + (i + 1) by omega]⟩
theorem gm_hL.has {lsA : Array Slot} {nL : Nat} {ad : Nat → Nat} {ls : pL} (h : gm_hL lsA nL ad ls) : lv_has lsA nL (gm_lv ad 0 ls) := by
  refine ⟨h.1, h.2.2.1, fun q hq => ?_⟩
  obtain ⟨i, v, h1, h2⟩ := (gm_lv_mem ad ls 0 q).mp hq
  rw [h2]
  simpa using h.2.2.2 i v h1
theorem gm_hL.at {lsA : Array Slot} {nL : Nat} {ad : Nat → Nat} {ls : pL} (h : gm_hL lsA nL ad ls) {i : Nat} {v : Value} (hv : gm_nth ls i = some (some v)) : lsA[i]? = some (.val (gm_v ad v)) := h.2.2.2 i v (by rw [← gm_nth_some]; exact hv)
theorem gm_v_cat (ad : Nat → Nat) (v : Value) : (gm_v ad v).category = v.category := by cases v <;> rfl
theorem gm_v_sum (ad : Nat → Nat) : ∀ st : List Value, ((st.map (gm_v ad)).map fun v => v.category).sum = gm_sum st
  | [] => rfl
  | v :: r => by
    simp only [List.map_cons, List.sum_cons, gm_v_cat, gm_v_sum ad r]
    cases v <;> simp [gm_sum, Value.category]
theorem gm_cat2_of {ls : pL} {i : Nat} {w : Value} (h : ls[i]? = some (some w)) : gm_cat2 (gm_nth ls i) = (w.category == 2) := by
  rw [gm_nth_some, h]
  cases w <;> rfl
theorem gm_if_of {b : Bool} {P : Prop} (h : gm_if b P) : b = true ∧ P := by
  cases b with
  | true => exact ⟨rfl, h⟩
  | false => exact False.elim h
theorem gm_okx_of {ty : FieldType} {v : Value} {P : Prop} (h : gm_okx ty v P) : gm_ok ty v ∧ P := by
  unfold gm_okx at h
  split at h <;> first | exact ⟨trivial, h⟩ | exact h | exact False.elim h
theorem gm_okrx_of {ty : Option FieldType} {v : Option Value} {P : Prop} (h : gm_okrx ty v P) : gm_okr ty v ∧ P := by
  unfold gm_okrx at h
  split at h
  · exact ⟨trivial, h⟩
  · exact gm_okx_of h
  · exact False.elim h
theorem gm_hL.st1 {lsA lsB : Array Slot} {nL : Nat} {ad : Nat → Nat} {ls : pL} {i : Nat} {v : Value} (h : gm_hL lsA nL ad ls) (hi : i < nL)
    (hB : lv_has lsB nL ((i, gm_v ad v) :: (gm_lv ad 0 ls).filter (fun q => !(q.1 == i) && !(q.1 + 1 == i && q.2.category == 2)))) : gm_hL lsB nL ad (gm_st1 ls i v) := by
  obtain ⟨b1, b2, b3⟩ := hB
  have hlen : (gm_st1 ls i v).length = nL := by
    cases i with
    | zero => simp [gm_st1, gm_set_eq, h.2.1]
    | succ i =>
      simp only [gm_st1, gm_set_eq]
      cases gm_cat2 (gm_nth ls i) <;> simp [h.2.1]
  refine ⟨b1, hlen, b2, fun j w hj => ?_⟩
  have rest : j ≠ i → ls[j]? = some (some w) → ¬ (j + 1 = i ∧ w.category = 2) → lsB[j]? = some (.val (gm_v ad w)) := by
    intro h1 h2 h3
    refine b3 (j, gm_v ad w) (List.mem_cons_of_mem _ (List.mem_filter.mpr ⟨(gm_lv_mem ad ls 0 _).mpr ⟨j, w, h2, by simp⟩, ?_⟩))
    simp only [Bool.and_eq_true, Bool.not_eq_true', beq_eq_false_iff_ne, ne_eq, Bool.and_eq_false_iff, gm_v_cat]
    refine ⟨h1, ?_⟩
    by_cases h4 : j + 1 = i
    · exact Or.inr fun h5 => h3 ⟨h4, h5⟩
    · exact Or.inl h4
  have hil : i < ls.length := by rw [h.2.1]; exact hi
  cases i with
  | zero =>
    simp only [gm_st1, gm_set_eq] at hj
    by_cases hj0 : j = 0
    · subst hj0
      rw [List.getElem?_set_self hil] at hj
      cases hj
      exact b3 _ List.mem_cons_self
    · rw [List.getElem?_set_ne (Ne.symm hj0)] at hj
      exact rest hj0 hj (by omega)
  | succ i =>
    simp only [gm_st1, gm_set_eq] at hj
    by_cases hj0 : j = i + 1
    · subst hj0
      rw [List.getElem?_set_self (by cases gm_cat2 (gm_nth ls i) <;> simp <;> omega)] at hj
      cases hj
      exact b3 _ List.mem_cons_self
    · rw [List.getElem?_set_ne (Ne.symm hj0)] at hj
      cases hc : gm_cat2 (gm_nth ls i) with
      | false =>
        rw [hc] at hj
        simp only [cond_false] at hj
        refine rest hj0 hj (fun hz => ?_)
        have hji : j = i := by omega
        subst hji
        rw [gm_cat2_of hj, hz.2] at hc
        simp at hc
      | true =>
        rw [hc] at hj
        simp only [cond_true] at hj
        by_cases hji : j = i
        · subst hji
          rw [List.getElem?_set_self (by omega)] at hj
          cases hj
        · rw [List.getElem?_set_ne (Ne.symm hji)] at hj
          exact rest hj0 hj (fun hz => hji (by omega))
theorem gm_hL.st2 {lsA lsB : Array Slot} {nL : Nat} {ad : Nat → Nat} {ls : pL} {i : Nat} {v : Value} (h : gm_hL lsA nL ad ls) (hi : i + 1 < nL)
    (hB : lv_has lsB nL ((i, gm_v ad v) :: (gm_lv ad 0 ls).filter (fun q => !(q.1 == i) && (!(q.1 == i + 1) && !(q.1 + 1 == i && q.2.category == 2))))) : gm_hL lsB nL ad (gm_st2 ls i v) := by
  obtain ⟨b1, b2, b3⟩ := hB
  have hlen : (gm_st2 ls i v).length = nL := by
    cases i with
    | zero => simp [gm_st2, gm_set_eq, h.2.1]
    | succ i =>
      simp only [gm_st2, gm_set_eq]
      cases gm_cat2 (gm_nth ls i) <;> simp [h.2.1]
  refine ⟨b1, hlen, b2, fun j w hj => ?_⟩
  have rest : j ≠ i → j ≠ i + 1 → ls[j]? = some (some w) → ¬ (j + 1 = i ∧ w.category = 2) → lsB[j]? = some (.val (gm_v ad w)) := by
    intro h1 h0 h2 h3
    refine b3 (j, gm_v ad w) (List.mem_cons_of_mem _ (List.mem_filter.mpr ⟨(gm_lv_mem ad ls 0 _).mpr ⟨j, w, h2, by simp⟩, ?_⟩))
    simp only [Bool.and_eq_true, Bool.not_eq_true', beq_eq_false_iff_ne, ne_eq, Bool.and_eq_false_iff, gm_v_cat]
    refine ⟨h1, h0, ?_⟩
    by_cases h4 : j + 1 = i
    · exact Or.inr fun h5 => h3 ⟨h4, h5⟩
    · exact Or.inl h4
  have hil : i + 1 < ls.length := by rw [h.2.1]; exact hi
  cases i with
  | zero =>
    simp only [gm_st2, gm_set_eq] at hj
    by_cases hj0 : j = 0
    · subst hj0
      rw [List.getElem?_set_self (by simp; omega)] at hj
      cases hj
      exact b3 _ List.mem_cons_self
    · rw [List.getElem?_set_ne (Ne.symm hj0)] at hj
      by_cases hj1 : j = 1
      · subst hj1
        rw [List.getElem?_set_self (by omega)] at hj
        cases hj
      · rw [List.getElem?_set_ne (Ne.symm hj1)] at hj
        exact rest hj0 hj1 hj (by omega)
  | succ i =>
    simp only [gm_st2, gm_set_eq] at hj
    by_cases hj0 : j = i + 1
    · subst hj0
      rw [List.getElem?_set_self (by cases gm_cat2 (gm_nth ls i) <;> simp <;> omega)] at hj
      cases hj
      exact b3 _ List.mem_cons_self
    · rw [List.getElem?_set_ne (Ne.symm hj0)] at hj
      by_cases hj2 : j = i + 2
      · subst hj2
        rw [List.getElem?_set_self (by cases gm_cat2 (gm_nth ls i) <;> simp <;> omega)] at hj
        cases hj
      rw [List.getElem?_set_ne (Ne.symm hj2)] at hj
      cases hc : gm_cat2 (gm_nth ls i) with
      | false =>
        rw [hc] at hj
        simp only [cond_false] at hj
        refine rest hj0 hj2 hj (fun hz => ?_)
        have hji : j = i := by omega
        subst hji
        rw [gm_cat2_of hj, hz.2] at hc
        simp at hc
      | true =>
        rw [hc] at hj
        simp only [cond_true] at hj
        by_cases hji : j = i
        · subst hji
          rw [List.getElem?_set_self (by omega)] at hj
          cases hj
        · rw [List.getElem?_set_ne (Ne.symm hji)] at hj
          exact rest hj0 hj2 hj (fun hz => hji (by omega))
theorem gm_lit_ofInt (k : Int) : Int32.ofInt k = gm_lit k := by
  cases k with
  | ofNat n => exact Int32.ofInt_eq_ofNat
  | negSucc n =>
    show Int32.ofInt (Int.negSucc n) = -(Int32.ofNat (n + 1))
    rw [Int.negSucc_eq, Int32.ofInt_neg]
    exact congrArg (fun z : Int32 => -z) (Int32.ofInt_eq_ofNat (n := n + 1))
/-- how the addresses that a method began with stay -/
def gm_ag (n0 : Nat) (ad0 ad : Nat → Nat) (h : pH) : Prop := n0 ≤ h.length ∧ (h.length = n0 → ad = ad0) ∧ (∀ i, i < n0 → ad i = ad0 i) ∧ ad 88888 = ad0 88888
section GM
variable {p : Program} {l : Launch} {e : Env} {R : Room} {s : State} {m : MethodId} {args : Array Value} {below : List Frame} {meth : Method} {c : Code} {Q : State → Prop} {dC : Nat → ClassId} {dI : Nat → Nat → Nat} {cy : Nat → ClassId} {A : Nat → Prop} {ad0 : Nat → Nat} {n0 nL : Nat}
/-- the predicate that the machine itself goes back along: from every heap that holds the world h the machine comes to Q -/
def gm_G (p : Program) (l : Launch) (e : Env) (R : Room) (s : State) (m : MethodId) (args : Array Value) (below : List Frame) (meth : Method) (c : Code) (Q : State → Prop) (dC : Nat → ClassId) (dI : Nat → Nat → Nat) (cy : Nat → ClassId) (A : Nat → Prop) (ad0 : Nat → Nat) (n0 nL : Nat) : pG := fun pc ls st h cl sl =>
  (cl ≤ R.cells ∧ sl ≤ R.slots) ∧ ∀ (ad : Nat → Nat) (H : Heap) (locs : List Loc) (lsA : Array Slot), gm_ag n0 ad0 ad h → va_P (dC, dI) vwCl (gm_W cy ad 0 h) H → va_D A (gm_W cy ad 0 h) → va_S A s.heap H locs → gm_hL lsA nL ad ls → W p l e R s m args below meth c H locs cl sl Q (F0 m pc lsA (st.map (gm_v ad)))
variable {pc n : Nat} {ls : pL} {st : List Value} {h : pH} {cl sl : Nat} {cc : ByteArray}
theorem gm_lift {pc2 : Nat} {ls2 : pL} {st2 : List Value} (hG : gm_G p l e R s m args below meth c Q dC dI cy A ad0 n0 nL pc2 ls2 st2 h cl sl)
    (k : ∀ (ad : Nat → Nat) (H : Heap) (locs : List Loc) (lsA : Array Slot), gm_ag n0 ad0 ad h → va_P (dC, dI) vwCl (gm_W cy ad 0 h) H → va_D A (gm_W cy ad 0 h) → va_S A s.heap H locs → gm_hL lsA nL ad ls → (∀ lsB : Array Slot, gm_hL lsB nL ad ls2 → W p l e R s m args below meth c H locs cl sl Q (F0 m pc2 lsB (st2.map (gm_v ad)))) → W p l e R s m args below meth c H locs cl sl Q (F0 m pc lsA (st.map (gm_v ad)))) : gm_G p l e R s m args below meth c Q dC dI cy A ad0 n0 nL pc ls st h cl sl :=
  ⟨hG.1, fun ad H locs lsA h1 h2 h3 h4 h5 => k ad H locs lsA h1 h2 h3 h4 h5 (fun lsB h6 => hG.2 ad H locs lsB h1 h2 h3 h4 h6)⟩
/-- an instruction that leaves locals and heap as they are -/
theorem gm_lift0 {pc2 : Nat} {st2 : List Value} (hG : gm_G p l e R s m args below meth c Q dC dI cy A ad0 n0 nL pc2 ls st2 h cl sl)
    (k : ∀ (ad : Nat → Nat) (H : Heap) (locs : List Loc) (lsA : Array Slot), gm_hL lsA nL ad ls → W p l e R s m args below meth c H locs cl sl Q (F0 m pc2 lsA (st2.map (gm_v ad))) → W p l e R s m args below meth c H locs cl sl Q (F0 m pc lsA (st.map (gm_v ad)))) : gm_G p l e R s m args below meth c Q dC dI cy A ad0 n0 nL pc ls st h cl sl :=
  gm_lift hG (fun ad H locs lsA _ _ _ _ h5 h6 => k ad H locs lsA h5 (h6 lsA h5))

theorem gm_s_iconst {k : Int} (hx : p.tables.exec = Jvm.exec) (hb : c.code = cc) (hd : decode cc pc = .ok (.iconst k, 1)) (h0 : gm_G p l e R s m args below meth c Q dC dI cy A ad0 n0 nL (pc + 1) ls (.int (gm_lit k) :: st) h cl sl) : gm_G p l e R s m args below meth c Q dC dI cy A ad0 n0 nL pc ls st h cl sl :=
  gm_lift0 h0 fun _ _ _ _ _ k => lv_iconst hx hb hd (gm_lit_ofInt _) k
theorem gm_s_bipush {k : Int} (hv : (Int8.ofInt k).toInt32 = gm_lit k) (hx : p.tables.exec = Jvm.exec) (hb : c.code = cc) (hd : decode cc pc = .ok (.bipush k, 2)) (h0 : gm_G p l e R s m args below meth c Q dC dI cy A ad0 n0 nL (pc + 2) ls (.int (gm_lit k) :: st) h cl sl) : gm_G p l e R s m args below meth c Q dC dI cy A ad0 n0 nL pc ls st h cl sl :=
  gm_lift0 h0 fun _ _ _ _ _ k => lv_bipush hx hb hd hv k
theorem gm_s_sipush {k : Int} (hv : (Int16.ofInt k).toInt32 = gm_lit k) (hx : p.tables.exec = Jvm.exec) (hb : c.code = cc) (hd : decode cc pc = .ok (.sipush k, 3)) (h0 : gm_G p l e R s m args below meth c Q dC dI cy A ad0 n0 nL (pc + 3) ls (.int (gm_lit k) :: st) h cl sl) : gm_G p l e R s m args below meth c Q dC dI cy A ad0 n0 nL pc ls st h cl sl :=
  gm_lift0 h0 fun _ _ _ _ _ k => lv_sipush hx hb hd hv k
theorem gm_s_lconst {k : Fin 2} (hx : p.tables.exec = Jvm.exec) (hb : c.code = cc) (hd : decode cc pc = .ok (.lconst k, 1)) (h0 : gm_G p l e R s m args below meth c Q dC dI cy A ad0 n0 nL (pc + 1) ls (.long (OfNat.ofNat k.val) :: st) h cl sl) : gm_G p l e R s m args below meth c Q dC dI cy A ad0 n0 nL pc ls st h cl sl :=
  gm_lift0 h0 fun _ _ _ _ _ k => lv_lconst hx hb hd rfl k
theorem gm_s_fconst0 (hx : p.tables.exec = Jvm.exec) (hb : c.code = cc) (hd : decode cc pc = .ok (.fconst 0, 1)) (h0 : gm_G p l e R s m args below meth c Q dC dI cy A ad0 n0 nL (pc + 1) ls (.float FP.fconst0 :: st) h cl sl) : gm_G p l e R s m args below meth c Q dC dI cy A ad0 n0 nL pc ls st h cl sl :=
  gm_lift0 h0 fun _ _ _ _ _ k => lv_fconst0 hx hb hd k

theorem gm_s_iload_n {k : Fin 4} (hx : p.tables.exec = Jvm.exec) (hb : c.code = cc) (hd : decode cc pc = .ok (.iload_n k, 1)) (h0 : gm_li (gm_nth ls k.val) fun x => gm_G p l e R s m args below meth c Q dC dI cy A ad0 n0 nL (pc + 1) ls (.int x :: st) h cl sl) : gm_G p l e R s m args below meth c Q dC dI cy A ad0 n0 nL pc ls st h cl sl := by
  unfold gm_li at h0
  split at h0
  · rename_i x hq
    exact gm_lift0 h0 fun _ _ _ _ hL k => lv_iload_n hx hb hd rfl (hL.at hq) k
  · exact h0.elim

theorem gm_s_lload_n {k : Fin 4} (hx : p.tables.exec = Jvm.exec) (hb : c.code = cc) (hd : decode cc pc = .ok (.lload_n k, 1)) (h0 : gm_ll (gm_nth ls k.val) fun x => gm_G p l e R s m args below meth c Q dC dI cy A ad0 n0 nL (pc + 1) ls (.long x :: st) h cl sl) : gm_G p l e R s m args below meth c Q dC dI cy A ad0 n0 nL pc ls st h cl sl := by
  unfold gm_ll at h0
  split at h0
  · rename_i x hq
    exact gm_lift0 h0 fun _ _ _ _ hL k => lv_lload_n hx hb hd rfl (hL.at hq) k
  · exact h0.elim

theorem gm_s_aload_n {k : Fin 4} (hx : p.tables.exec = Jvm.exec) (hb : c.code = cc) (hd : decode cc pc = .ok (.aload_n k, 1)) (h0 : gm_la (gm_nth ls k.val) fun x => gm_G p l e R s m args below meth c Q dC dI cy A ad0 n0 nL (pc + 1) ls (.ref x :: st) h cl sl) : gm_G p l e R s m args below meth c Q dC dI cy A ad0 n0 nL pc ls st h cl sl := by
  unfold gm_la at h0
  split at h0
  · rename_i x hq
    exact gm_lift0 h0 fun _ _ _ _ hL k => lv_aload_n hx hb hd rfl (hL.at hq) k
  · exact h0.elim

theorem gm_s_iload {k : Nat} (hx : p.tables.exec = Jvm.exec) (hb : c.code = cc) (hd : decode cc pc = .ok (.iload k, 2)) (h0 : gm_li (gm_nth ls k) fun x => gm_G p l e R s m args below meth c Q dC dI cy A ad0 n0 nL (pc + 2) ls (.int x :: st) h cl sl) : gm_G p l e R s m args below meth c Q dC dI cy A ad0 n0 nL pc ls st h cl sl := by
  unfold gm_li at h0
  split at h0
  · rename_i x hq
    exact gm_lift0 h0 fun _ _ _ _ hL k => lv_iload hx hb hd (hL.at hq) k
  · exact h0.elim

theorem gm_s_lload {k : Nat} (hx : p.tables.exec = Jvm.exec) (hb : c.code = cc) (hd : decode cc pc = .ok (.lload k, 2)) (h0 : gm_ll (gm_nth ls k) fun x => gm_G p l e R s m args below meth c Q dC dI cy A ad0 n0 nL (pc + 2) ls (.long x :: st) h cl sl) : gm_G p l e R s m args below meth c Q dC dI cy A ad0 n0 nL pc ls st h cl sl := by
  unfold gm_ll at h0
  split at h0
  · rename_i x hq
    exact gm_lift0 h0 fun _ _ _ _ hL k => lv_lload hx hb hd (hL.at hq) k
  · exact h0.elim

theorem gm_s_aload {k : Nat} (hx : p.tables.exec = Jvm.exec) (hb : c.code = cc) (hd : decode cc pc = .ok (.aload k, 2)) (h0 : gm_la (gm_nth ls k) fun x => gm_G p l e R s m args below meth c Q dC dI cy A ad0 n0 nL (pc + 2) ls (.ref x :: st) h cl sl) : gm_G p l e R s m args below meth c Q dC dI cy A ad0 n0 nL pc ls st h cl sl := by
  unfold gm_la at h0
  split at h0
  · rename_i x hq
    exact gm_lift0 h0 fun _ _ _ _ hL k => lv_aload hx hb hd (hL.at hq) k
  · exact h0.elim

theorem gm_s_fload {k : Nat} (hx : p.tables.exec = Jvm.exec) (hb : c.code = cc) (hd : decode cc pc = .ok (.fload k, 2)) (h0 : gm_lf (gm_nth ls k) fun x => gm_G p l e R s m args below meth c Q dC dI cy A ad0 n0 nL (pc + 2) ls (.float x :: st) h cl sl) : gm_G p l e R s m args below meth c Q dC dI cy A ad0 n0 nL pc ls st h cl sl := by
  unfold gm_lf at h0
  split at h0
  · rename_i x hq
    exact gm_lift0 h0 fun _ _ _ _ hL k => lv_fload hx hb hd (hL.at hq) k
  · exact h0.elim

theorem gm_s_istore_n {k : Fin 4} (hx : p.tables.exec = Jvm.exec) (hb : c.code = cc) (hd : decode cc pc = .ok (.istore_n k, 1)) (h0 : gm_i1 st fun x r => gm_if (Nat.blt k.val ls.length) (gm_G p l e R s m args below meth c Q dC dI cy A ad0 n0 nL (pc + 1) (gm_st1 ls k.val (.int x)) r h cl sl)) : gm_G p l e R s m args below meth c Q dC dI cy A ad0 n0 nL pc ls st h cl sl := by
  unfold gm_i1 at h0
  split at h0
  · obtain ⟨h1, h0⟩ := gm_if_of h0
    exact gm_lift h0 fun ad _ _ _ _ _ _ _ hL k => lv_istore_n hx hb hd rfl hL.has (by rw [← hL.2.1]; exact Nat.blt_eq.mp h1) rfl (fun lsB hB => k lsB (hL.st1 (by rw [← hL.2.1]; exact Nat.blt_eq.mp h1) hB))
  · exact h0.elim

theorem gm_s_istore {k : Nat} (hx : p.tables.exec = Jvm.exec) (hb : c.code = cc) (hd : decode cc pc = .ok (.istore k, 2)) (h0 : gm_i1 st fun x r => gm_if (Nat.blt k ls.length) (gm_G p l e R s m args below meth c Q dC dI cy A ad0 n0 nL (pc + 2) (gm_st1 ls k (.int x)) r h cl sl)) : gm_G p l e R s m args below meth c Q dC dI cy A ad0 n0 nL pc ls st h cl sl := by
  unfold gm_i1 at h0
  split at h0
  · obtain ⟨h1, h0⟩ := gm_if_of h0
    exact gm_lift h0 fun ad _ _ _ _ _ _ _ hL k => lv_istore hx hb hd hL.has (by rw [← hL.2.1]; exact Nat.blt_eq.mp h1) rfl (fun lsB hB => k lsB (hL.st1 (by rw [← hL.2.1]; exact Nat.blt_eq.mp h1) hB))
  · exact h0.elim

theorem gm_s_lstore_n {k : Fin 4} (hx : p.tables.exec = Jvm.exec) (hb : c.code = cc) (hd : decode cc pc = .ok (.lstore_n k, 1)) (h0 : gm_l1 st fun x r => gm_if (Nat.blt (k.val + 1) ls.length) (gm_G p l e R s m args below meth c Q dC dI cy A ad0 n0 nL (pc + 1) (gm_st2 ls k.val (.long x)) r h cl sl)) : gm_G p l e R s m args below meth c Q dC dI cy A ad0 n0 nL pc ls st h cl sl := by
  unfold gm_l1 at h0
  split at h0
  · obtain ⟨h1, h0⟩ := gm_if_of h0
    exact gm_lift h0 fun ad _ _ _ _ _ _ _ hL k => lv_lstore_n hx hb hd rfl hL.has (by rw [← hL.2.1]; exact Nat.blt_eq.mp h1) rfl (fun lsB hB => k lsB (hL.st2 (by rw [← hL.2.1]; exact Nat.blt_eq.mp h1) hB))
  · exact h0.elim

theorem gm_s_lstore {k : Nat} (hx : p.tables.exec = Jvm.exec) (hb : c.code = cc) (hd : decode cc pc = .ok (.lstore k, 2)) (h0 : gm_l1 st fun x r => gm_if (Nat.blt (k + 1) ls.length) (gm_G p l e R s m args below meth c Q dC dI cy A ad0 n0 nL (pc + 2) (gm_st2 ls k (.long x)) r h cl sl)) : gm_G p l e R s m args below meth c Q dC dI cy A ad0 n0 nL pc ls st h cl sl := by
  unfold gm_l1 at h0
  split at h0
  · obtain ⟨h1, h0⟩ := gm_if_of h0
    exact gm_lift h0 fun ad _ _ _ _ _ _ _ hL k => lv_lstore hx hb hd hL.has (by rw [← hL.2.1]; exact Nat.blt_eq.mp h1) rfl (fun lsB hB => k lsB (hL.st2 (by rw [← hL.2.1]; exact Nat.blt_eq.mp h1) hB))
  · exact h0.elim

theorem gm_s_astore_n {k : Fin 4} (hx : p.tables.exec = Jvm.exec) (hb : c.code = cc) (hd : decode cc pc = .ok (.astore_n k, 1)) (h0 : gm_sa st fun x r => gm_if (Nat.blt k.val ls.length) (gm_G p l e R s m args below meth c Q dC dI cy A ad0 n0 nL (pc + 1) (gm_st1 ls k.val (.ref x)) r h cl sl)) : gm_G p l e R s m args below meth c Q dC dI cy A ad0 n0 nL pc ls st h cl sl := by
  unfold gm_sa at h0
  split at h0
  · obtain ⟨h1, h0⟩ := gm_if_of h0
    exact gm_lift h0 fun ad _ _ _ _ _ _ _ hL k => lv_astore_n hx hb hd rfl hL.has (by rw [← hL.2.1]; exact Nat.blt_eq.mp h1) rfl (fun lsB hB => k lsB (hL.st1 (by rw [← hL.2.1]; exact Nat.blt_eq.mp h1) hB))
  · exact h0.elim

theorem gm_s_astore {k : Nat} (hx : p.tables.exec = Jvm.exec) (hb : c.code = cc) (hd : decode cc pc = .ok (.astore k, 2)) (h0 : gm_sa st fun x r => gm_if (Nat.blt k ls.length) (gm_G p l e R s m args below meth c Q dC dI cy A ad0 n0 nL (pc + 2) (gm_st1 ls k (.ref x)) r h cl sl)) : gm_G p l e R s m args below meth c Q dC dI cy A ad0 n0 nL pc ls st h cl sl := by
  unfold gm_sa at h0
  split at h0
  · obtain ⟨h1, h0⟩ := gm_if_of h0
    exact gm_lift h0 fun ad _ _ _ _ _ _ _ hL k => lv_astore hx hb hd hL.has (by rw [← hL.2.1]; exact Nat.blt_eq.mp h1) rfl (fun lsB hB => k lsB (hL.st1 (by rw [← hL.2.1]; exact Nat.blt_eq.mp h1) hB))
  · exact h0.elim

theorem gm_s_fstore {k : Nat} (hx : p.tables.exec = Jvm.exec) (hb : c.code = cc) (hd : decode cc pc = .ok (.fstore k, 2)) (h0 : gm_sf st fun x r => gm_if (Nat.blt k ls.length) (gm_G p l e R s m args below meth c Q dC dI cy A ad0 n0 nL (pc + 2) (gm_st1 ls k (.float x)) r h cl sl)) : gm_G p l e R s m args below meth c Q dC dI cy A ad0 n0 nL pc ls st h cl sl := by
  unfold gm_sf at h0
  split at h0
  · obtain ⟨h1, h0⟩ := gm_if_of h0
    exact gm_lift h0 fun ad _ _ _ _ _ _ _ hL k => lv_fstore hx hb hd hL.has (by rw [← hL.2.1]; exact Nat.blt_eq.mp h1) rfl (fun lsB hB => k lsB (hL.st1 (by rw [← hL.2.1]; exact Nat.blt_eq.mp h1) hB))
  · exact h0.elim

theorem gm_s_iinc {k : Nat} {d : Int} (hx : p.tables.exec = Jvm.exec) (hb : c.code = cc) (hd : decode cc pc = .ok (.iinc k d, 3)) (h0 : gm_li (gm_nth ls k) fun x => gm_G p l e R s m args below meth c Q dC dI cy A ad0 n0 nL (pc + 3) (gm_st1 ls k (.int (x + gm_lit d))) st h cl sl) : gm_G p l e R s m args below meth c Q dC dI cy A ad0 n0 nL pc ls st h cl sl := by
  unfold gm_li at h0
  split at h0
  · rename_i x hq
    have hk : k < ls.length := by
      rw [gm_nth_some] at hq
      exact (List.getElem?_eq_some_iff.mp hq).1
    refine gm_lift h0 fun ad _ _ _ _ _ _ _ hL k2 => ?_
    obtain ⟨j, hj⟩ := List.getElem?_of_mem ((gm_lv_mem ad ls 0 (k, .int x)).mpr ⟨k, .int x, by rw [← gm_nth_some]; exact hq, by simp [gm_v]⟩)
    exact lv_iinc hx hb hd hL.has hj (by rw [gm_lit_ofInt]) (by rw [← hL.2.1]; exact hk) rfl (fun lsB hB => k2 lsB (hL.st1 (by rw [← hL.2.1]; exact hk) hB))
  · exact h0.elim

theorem gm_s_iadd (hx : p.tables.exec = Jvm.exec) (hb : c.code = cc) (hd : decode cc pc = .ok (.iadd, 1)) (h0 : gm_i2 st fun x y r => gm_G p l e R s m args below meth c Q dC dI cy A ad0 n0 nL (pc + 1) ls (.int (x + y) :: r) h cl sl) : gm_G p l e R s m args below meth c Q dC dI cy A ad0 n0 nL pc ls st h cl sl := by
  unfold gm_i2 at h0
  split at h0
  · exact gm_lift0 h0 fun _ _ _ _ _ k => lv_iadd hx hb hd k
  · exact h0.elim

theorem gm_s_isub (hx : p.tables.exec = Jvm.exec) (hb : c.code = cc) (hd : decode cc pc = .ok (.isub, 1)) (h0 : gm_i2 st fun x y r => gm_G p l e R s m args below meth c Q dC dI cy A ad0 n0 nL (pc + 1) ls (.int (x - y) :: r) h cl sl) : gm_G p l e R s m args below meth c Q dC dI cy A ad0 n0 nL pc ls st h cl sl := by
  unfold gm_i2 at h0
  split at h0
  · exact gm_lift0 h0 fun _ _ _ _ _ k => lv_isub hx hb hd k
  · exact h0.elim

theorem gm_s_imul (hx : p.tables.exec = Jvm.exec) (hb : c.code = cc) (hd : decode cc pc = .ok (.imul, 1)) (h0 : gm_i2 st fun x y r => gm_G p l e R s m args below meth c Q dC dI cy A ad0 n0 nL (pc + 1) ls (.int (x * y) :: r) h cl sl) : gm_G p l e R s m args below meth c Q dC dI cy A ad0 n0 nL pc ls st h cl sl := by
  unfold gm_i2 at h0
  split at h0
  · exact gm_lift0 h0 fun _ _ _ _ _ k => lv_imul hx hb hd k
  · exact h0.elim

theorem gm_s_iand (hx : p.tables.exec = Jvm.exec) (hb : c.code = cc) (hd : decode cc pc = .ok (.iand, 1)) (h0 : gm_i2 st fun x y r => gm_G p l e R s m args below meth c Q dC dI cy A ad0 n0 nL (pc + 1) ls (.int (x &&& y) :: r) h cl sl) : gm_G p l e R s m args below meth c Q dC dI cy A ad0 n0 nL pc ls st h cl sl := by
  unfold gm_i2 at h0
  split at h0
  · exact gm_lift0 h0 fun _ _ _ _ _ k => lv_iand hx hb hd k
  · exact h0.elim

theorem gm_s_ior (hx : p.tables.exec = Jvm.exec) (hb : c.code = cc) (hd : decode cc pc = .ok (.ior, 1)) (h0 : gm_i2 st fun x y r => gm_G p l e R s m args below meth c Q dC dI cy A ad0 n0 nL (pc + 1) ls (.int (x ||| y) :: r) h cl sl) : gm_G p l e R s m args below meth c Q dC dI cy A ad0 n0 nL pc ls st h cl sl := by
  unfold gm_i2 at h0
  split at h0
  · exact gm_lift0 h0 fun _ _ _ _ _ k => lv_ior hx hb hd k
  · exact h0.elim

theorem gm_s_ixor (hx : p.tables.exec = Jvm.exec) (hb : c.code = cc) (hd : decode cc pc = .ok (.ixor, 1)) (h0 : gm_i2 st fun x y r => gm_G p l e R s m args below meth c Q dC dI cy A ad0 n0 nL (pc + 1) ls (.int (x ^^^ y) :: r) h cl sl) : gm_G p l e R s m args below meth c Q dC dI cy A ad0 n0 nL pc ls st h cl sl := by
  unfold gm_i2 at h0
  split at h0
  · exact gm_lift0 h0 fun _ _ _ _ _ k => lv_ixor hx hb hd k
  · exact h0.elim

theorem gm_s_ishl (hx : p.tables.exec = Jvm.exec) (hb : c.code = cc) (hd : decode cc pc = .ok (.ishl, 1)) (h0 : gm_i2 st fun x y r => gm_G p l e R s m args below meth c Q dC dI cy A ad0 n0 nL (pc + 1) ls (.int (x <<< (y &&& 31)) :: r) h cl sl) : gm_G p l e R s m args below meth c Q dC dI cy A ad0 n0 nL pc ls st h cl sl := by
  unfold gm_i2 at h0
  split at h0
  · exact gm_lift0 h0 fun _ _ _ _ _ k => lv_ishl hx hb hd k
  · exact h0.elim

theorem gm_s_ishr (hx : p.tables.exec = Jvm.exec) (hb : c.code = cc) (hd : decode cc pc = .ok (.ishr, 1)) (h0 : gm_i2 st fun x y r => gm_G p l e R s m args below meth c Q dC dI cy A ad0 n0 nL (pc + 1) ls (.int (x >>> (y &&& 31)) :: r) h cl sl) : gm_G p l e R s m args below meth c Q dC dI cy A ad0 n0 nL pc ls st h cl sl := by
  unfold gm_i2 at h0
  split at h0
  · exact gm_lift0 h0 fun _ _ _ _ _ k => lv_ishr hx hb hd k
  · exact h0.elim

theorem gm_s_iushr (hx : p.tables.exec = Jvm.exec) (hb : c.code = cc) (hd : decode cc pc = .ok (.iushr, 1)) (h0 : gm_i2 st fun x y r => gm_G p l e R s m args below meth c Q dC dI cy A ad0 n0 nL (pc + 1) ls (.int ((x.toUInt32 >>> (y.toUInt32 &&& Int32.toUInt32 31)).toInt32) :: r) h cl sl) : gm_G p l e R s m args below meth c Q dC dI cy A ad0 n0 nL pc ls st h cl sl := by
  unfold gm_i2 at h0
  split at h0
  · exact gm_lift0 h0 fun _ _ _ _ _ k => lv_iushr hx hb hd rfl k
  · exact h0.elim

theorem gm_s_idiv (hx : p.tables.exec = Jvm.exec) (hb : c.code = cc) (hd : decode cc pc = .ok (.idiv, 1)) (h0 : gm_i2 st fun x y r => ¬ y = 0 ∧ gm_G p l e R s m args below meth c Q dC dI cy A ad0 n0 nL (pc + 1) ls (.int (x / y) :: r) h cl sl) : gm_G p l e R s m args below meth c Q dC dI cy A ad0 n0 nL pc ls st h cl sl := by
  unfold gm_i2 at h0
  split at h0
  · exact gm_lift0 h0.2 fun _ _ _ _ _ k => lv_idiv hx hb hd h0.1 k
  · exact h0.elim

theorem gm_s_irem (hx : p.tables.exec = Jvm.exec) (hb : c.code = cc) (hd : decode cc pc = .ok (.irem, 1)) (h0 : gm_i2 st fun x y r => ¬ y = 0 ∧ gm_G p l e R s m args below meth c Q dC dI cy A ad0 n0 nL (pc + 1) ls (.int (x - x / y * y) :: r) h cl sl) : gm_G p l e R s m args below meth c Q dC dI cy A ad0 n0 nL pc ls st h cl sl := by
  unfold gm_i2 at h0
  split at h0
  · exact gm_lift0 h0.2 fun _ _ _ _ _ k => lv_irem hx hb hd h0.1 k
  · exact h0.elim

theorem gm_s_ladd (hx : p.tables.exec = Jvm.exec) (hb : c.code = cc) (hd : decode cc pc = .ok (.ladd, 1)) (h0 : gm_l2 st fun x y r => gm_G p l e R s m args below meth c Q dC dI cy A ad0 n0 nL (pc + 1) ls (.long (x + y) :: r) h cl sl) : gm_G p l e R s m args below meth c Q dC dI cy A ad0 n0 nL pc ls st h cl sl := by
  unfold gm_l2 at h0
  split at h0
  · exact gm_lift0 h0 fun _ _ _ _ _ k => lv_ladd hx hb hd k
  · exact h0.elim

theorem gm_s_lmul (hx : p.tables.exec = Jvm.exec) (hb : c.code = cc) (hd : decode cc pc = .ok (.lmul, 1)) (h0 : gm_l2 st fun x y r => gm_G p l e R s m args below meth c Q dC dI cy A ad0 n0 nL (pc + 1) ls (.long (x * y) :: r) h cl sl) : gm_G p l e R s m args below meth c Q dC dI cy A ad0 n0 nL pc ls st h cl sl := by
  unfold gm_l2 at h0
  split at h0
  · exact gm_lift0 h0 fun _ _ _ _ _ k => lv_lmul hx hb hd k
  · exact h0.elim

theorem gm_s_lsub (hx : p.tables.exec = Jvm.exec) (hb : c.code = cc) (hd : decode cc pc = .ok (.lsub, 1)) (h0 : gm_l2 st fun x y r => gm_G p l e R s m args below meth c Q dC dI cy A ad0 n0 nL (pc + 1) ls (.long (x - y) :: r) h cl sl) : gm_G p l e R s m args below meth c Q dC dI cy A ad0 n0 nL pc ls st h cl sl := by
  unfold gm_l2 at h0
  split at h0
  · exact gm_lift0 h0 fun _ _ _ _ _ k => lv_lsub hx hb hd k
  · exact h0.elim

theorem gm_s_land (hx : p.tables.exec = Jvm.exec) (hb : c.code = cc) (hd : decode cc pc = .ok (.land, 1)) (h0 : gm_l2 st fun x y r => gm_G p l e R s m args below meth c Q dC dI cy A ad0 n0 nL (pc + 1) ls (.long (x &&& y) :: r) h cl sl) : gm_G p l e R s m args below meth c Q dC dI cy A ad0 n0 nL pc ls st h cl sl := by
  unfold gm_l2 at h0
  split at h0
  · exact gm_lift0 h0 fun _ _ _ _ _ k => lv_land hx hb hd k
  · exact h0.elim

theorem gm_s_lor (hx : p.tables.exec = Jvm.exec) (hb : c.code = cc) (hd : decode cc pc = .ok (.lor, 1)) (h0 : gm_l2 st fun x y r => gm_G p l e R s m args below meth c Q dC dI cy A ad0 n0 nL (pc + 1) ls (.long (x ||| y) :: r) h cl sl) : gm_G p l e R s m args below meth c Q dC dI cy A ad0 n0 nL pc ls st h cl sl := by
  unfold gm_l2 at h0
  split at h0
  · exact gm_lift0 h0 fun _ _ _ _ _ k => lv_lor hx hb hd k
  · exact h0.elim

theorem gm_s_lxor (hx : p.tables.exec = Jvm.exec) (hb : c.code = cc) (hd : decode cc pc = .ok (.lxor, 1)) (h0 : gm_l2 st fun x y r => gm_G p l e R s m args below meth c Q dC dI cy A ad0 n0 nL (pc + 1) ls (.long (x ^^^ y) :: r) h cl sl) : gm_G p l e R s m args below meth c Q dC dI cy A ad0 n0 nL pc ls st h cl sl := by
  unfold gm_l2 at h0
  split at h0
  · exact gm_lift0 h0 fun _ _ _ _ _ k => lv_lxor hx hb hd k
  · exact h0.elim

theorem gm_s_lshl (hx : p.tables.exec = Jvm.exec) (hb : c.code = cc) (hd : decode cc pc = .ok (.lshl, 1)) (h0 : gm_i1 st fun y r => gm_l1 r fun x r => gm_G p l e R s m args below meth c Q dC dI cy A ad0 n0 nL (pc + 1) ls (.long (x <<< (y.toInt64 &&& 63)) :: r) h cl sl) : gm_G p l e R s m args below meth c Q dC dI cy A ad0 n0 nL pc ls st h cl sl := by
  unfold gm_i1 at h0
  split at h0
  · unfold gm_l1 at h0
    split at h0
    · exact gm_lift0 h0 fun _ _ _ _ _ k => lv_lshl hx hb hd rfl k
    · exact h0.elim
  · exact h0.elim

theorem gm_s_lshr (hx : p.tables.exec = Jvm.exec) (hb : c.code = cc) (hd : decode cc pc = .ok (.lshr, 1)) (h0 : gm_i1 st fun y r => gm_l1 r fun x r => gm_G p l e R s m args below meth c Q dC dI cy A ad0 n0 nL (pc + 1) ls (.long (x >>> (y.toInt64 &&& 63)) :: r) h cl sl) : gm_G p l e R s m args below meth c Q dC dI cy A ad0 n0 nL pc ls st h cl sl := by
  unfold gm_i1 at h0
  split at h0
  · unfold gm_l1 at h0
    split at h0
    · exact gm_lift0 h0 fun _ _ _ _ _ k => lv_lshr hx hb hd rfl k
    · exact h0.elim
  · exact h0.elim

theorem gm_s_lcmp (hx : p.tables.exec = Jvm.exec) (hb : c.code = cc) (hd : decode cc pc = .ok (.lcmp, 1)) (h0 : gm_l2 st fun x y r => gm_G p l e R s m args below meth c Q dC dI cy A ad0 n0 nL (pc + 1) ls (.int (lg_cmp x y) :: r) h cl sl) : gm_G p l e R s m args below meth c Q dC dI cy A ad0 n0 nL pc ls st h cl sl := by
  unfold gm_l2 at h0
  split at h0
  · exact gm_lift0 h0 fun _ _ _ _ _ k => W.lcmp hx hb hd k
  · exact h0.elim

theorem gm_s_ineg (hx : p.tables.exec = Jvm.exec) (hb : c.code = cc) (hd : decode cc pc = .ok (.ineg, 1)) (h0 : gm_i1 st fun x r => gm_G p l e R s m args below meth c Q dC dI cy A ad0 n0 nL (pc + 1) ls (.int (-x) :: r) h cl sl) : gm_G p l e R s m args below meth c Q dC dI cy A ad0 n0 nL pc ls st h cl sl := by
  unfold gm_i1 at h0
  split at h0
  · exact gm_lift0 h0 fun _ _ _ _ _ k => lv_ineg hx hb hd k
  · exact h0.elim

theorem gm_s_lneg (hx : p.tables.exec = Jvm.exec) (hb : c.code = cc) (hd : decode cc pc = .ok (.lneg, 1)) (h0 : gm_l1 st fun x r => gm_G p l e R s m args below meth c Q dC dI cy A ad0 n0 nL (pc + 1) ls (.long (-x) :: r) h cl sl) : gm_G p l e R s m args below meth c Q dC dI cy A ad0 n0 nL pc ls st h cl sl := by
  unfold gm_l1 at h0
  split at h0
  · exact gm_lift0 h0 fun _ _ _ _ _ k => lv_lneg hx hb hd k
  · exact h0.elim

theorem gm_s_l2i (hx : p.tables.exec = Jvm.exec) (hb : c.code = cc) (hd : decode cc pc = .ok (.l2i, 1)) (h0 : gm_l1 st fun x r => gm_G p l e R s m args below meth c Q dC dI cy A ad0 n0 nL (pc + 1) ls (.int x.toInt32 :: r) h cl sl) : gm_G p l e R s m args below meth c Q dC dI cy A ad0 n0 nL pc ls st h cl sl := by
  unfold gm_l1 at h0
  split at h0
  · exact gm_lift0 h0 fun _ _ _ _ _ k => lv_l2i hx hb hd rfl k
  · exact h0.elim

theorem gm_s_i2l (hx : p.tables.exec = Jvm.exec) (hb : c.code = cc) (hd : decode cc pc = .ok (.i2l, 1)) (h0 : gm_i1 st fun x r => gm_G p l e R s m args below meth c Q dC dI cy A ad0 n0 nL (pc + 1) ls (.long x.toInt64 :: r) h cl sl) : gm_G p l e R s m args below meth c Q dC dI cy A ad0 n0 nL pc ls st h cl sl := by
  unfold gm_i1 at h0
  split at h0
  · exact gm_lift0 h0 fun _ _ _ _ _ k => lv_i2l hx hb hd rfl k
  · exact h0.elim

theorem gm_s_i2c (hx : p.tables.exec = Jvm.exec) (hb : c.code = cc) (hd : decode cc pc = .ok (.i2c, 1)) (h0 : gm_i1 st fun x r => gm_G p l e R s m args below meth c Q dC dI cy A ad0 n0 nL (pc + 1) ls (.int (x.toUInt32 % 65536).toInt32 :: r) h cl sl) : gm_G p l e R s m args below meth c Q dC dI cy A ad0 n0 nL pc ls st h cl sl := by
  unfold gm_i1 at h0
  split at h0
  · exact gm_lift0 h0 fun _ _ _ _ _ k => lv_i2c hx hb hd rfl k
  · exact h0.elim

theorem gm_s_i2f (hx : p.tables.exec = Jvm.exec) (hb : c.code = cc) (hd : decode cc pc = .ok (.i2f, 1)) (h0 : gm_i1 st fun x r => gm_G p l e R s m args below meth c Q dC dI cy A ad0 n0 nL (pc + 1) ls (.float (FP.i2f x) :: r) h cl sl) : gm_G p l e R s m args below meth c Q dC dI cy A ad0 n0 nL pc ls st h cl sl := by
  unfold gm_i1 at h0
  split at h0
  · exact gm_lift0 h0 fun _ _ _ _ _ k => lv_i2f hx hb hd k
  · exact h0.elim

theorem gm_s_f2d (hx : p.tables.exec = Jvm.exec) (hb : c.code = cc) (hd : decode cc pc = .ok (.f2d, 1)) (h0 : gm_sf st fun x r => vf_n64 (FP.f2d x) ∧ gm_G p l e R s m args below meth c Q dC dI cy A ad0 n0 nL (pc + 1) ls (.double (FP.f2d x) :: r) h cl sl) : gm_G p l e R s m args below meth c Q dC dI cy A ad0 n0 nL pc ls st h cl sl := by
  unfold gm_sf at h0
  split at h0
  · exact gm_lift0 h0.2 fun _ _ _ _ _ k => lv_f2d hx hb hd h0.1 k
  · exact h0.elim
theorem gm_s_fdiv {x y : UInt32} {r : List Value} (hx : p.tables.exec = Jvm.exec) (hb : c.code = cc) (hd : decode cc pc = .ok (.fdiv, 1)) (h0 : vf_n32 (FP.fdiv x y) ∧ gm_G p l e R s m args below meth c Q dC dI cy A ad0 n0 nL (pc + 1) ls (.float (FP.fdiv x y) :: r) h cl sl) : gm_G p l e R s m args below meth c Q dC dI cy A ad0 n0 nL pc ls (.float y :: .float x :: r) h cl sl :=
  gm_lift0 h0.2 fun _ _ _ _ _ k => lv_fdiv hx hb hd h0.1 k
theorem gm_s_fcmp {x y : UInt32} {r : List Value} {op : CmpOp} (hx : p.tables.exec = Jvm.exec) (hb : c.code = cc) (hd : decode cc pc = .ok (.fcmp op, 1)) (h0 : gm_G p l e R s m args below meth c Q dC dI cy A ad0 n0 nL (pc + 1) ls (.int (Op.cmpValue (FP.fcmp x y) op) :: r) h cl sl) : gm_G p l e R s m args below meth c Q dC dI cy A ad0 n0 nL pc ls (.float y :: .float x :: r) h cl sl :=
  gm_lift0 h0 fun _ _ _ _ _ k => lv_fcmp hx hb hd k
theorem gm_s_dcmp {x y : UInt64} {r : List Value} {op : CmpOp} (hx : p.tables.exec = Jvm.exec) (hb : c.code = cc) (hd : decode cc pc = .ok (.dcmp op, 1)) (h0 : gm_G p l e R s m args below meth c Q dC dI cy A ad0 n0 nL (pc + 1) ls (.int (Op.cmpValue (FP.dcmp x y) op) :: r) h cl sl) : gm_G p l e R s m args below meth c Q dC dI cy A ad0 n0 nL pc ls (.double y :: .double x :: r) h cl sl :=
  gm_lift0 h0 fun _ _ _ _ _ k => lv_dcmp hx hb hd k
theorem gm_c1_cat (ad : Nat → Nat) {v : Value} (h : gm_c1 v = true) : (gm_v ad v).category = 1 := by
  cases v <;> first | rfl | cases h
theorem gm_s_dup {v : Value} {r : List Value} (hx : p.tables.exec = Jvm.exec) (hb : c.code = cc) (hd : decode cc pc = .ok (.dup, 1)) (h0 : gm_if (gm_c1 v) (gm_G p l e R s m args below meth c Q dC dI cy A ad0 n0 nL (pc + 1) ls (v :: v :: r) h cl sl)) : gm_G p l e R s m args below meth c Q dC dI cy A ad0 n0 nL pc ls (v :: r) h cl sl :=
  gm_lift0 (gm_if_of h0).2 fun ad _ _ _ _ k => lv_dup hx hb hd (gm_c1_cat ad (gm_if_of h0).1) k
theorem gm_s_dup_x1 {v w : Value} {r : List Value} (hx : p.tables.exec = Jvm.exec) (hb : c.code = cc) (hd : decode cc pc = .ok (.dup_x1, 1)) (h0 : gm_if (gm_c1 v) (gm_if (gm_c1 w) (gm_G p l e R s m args below meth c Q dC dI cy A ad0 n0 nL (pc + 1) ls (v :: w :: v :: r) h cl sl))) : gm_G p l e R s m args below meth c Q dC dI cy A ad0 n0 nL pc ls (v :: w :: r) h cl sl :=
  gm_lift0 (gm_if_of (gm_if_of h0).2).2 fun ad _ _ _ _ k => lv_dup_x1 hx hb hd (gm_c1_cat ad (gm_if_of h0).1) (gm_c1_cat ad (gm_if_of (gm_if_of h0).2).1) k
theorem gm_s_dup2 {v w : Value} {r : List Value} (hx : p.tables.exec = Jvm.exec) (hb : c.code = cc) (hd : decode cc pc = .ok (.dup2, 1)) (h0 : gm_if (gm_c1 v) (gm_if (gm_c1 w) (gm_G p l e R s m args below meth c Q dC dI cy A ad0 n0 nL (pc + 1) ls (v :: w :: v :: w :: r) h cl sl))) : gm_G p l e R s m args below meth c Q dC dI cy A ad0 n0 nL pc ls (v :: w :: r) h cl sl :=
  gm_lift0 (gm_if_of (gm_if_of h0).2).2 fun ad _ _ _ _ k => lv_dup2_11 hx hb hd (gm_c1_cat ad (gm_if_of h0).1) (gm_c1_cat ad (gm_if_of (gm_if_of h0).2).1) k
theorem gm_s_pop {v : Value} {r : List Value} (hx : p.tables.exec = Jvm.exec) (hb : c.code = cc) (hd : decode cc pc = .ok (.pop, 1)) (h0 : gm_if (gm_c1 v) (gm_G p l e R s m args below meth c Q dC dI cy A ad0 n0 nL (pc + 1) ls r h cl sl)) : gm_G p l e R s m args below meth c Q dC dI cy A ad0 n0 nL pc ls (v :: r) h cl sl :=
  gm_lift0 (gm_if_of h0).2 fun ad _ _ _ _ k => lv_pop hx hb hd (gm_c1_cat ad (gm_if_of h0).1) k
theorem gm_jmp_of {o : Int} {f : Nat → Prop} (h : gm_jmp pc o f) : ∃ t : Nat, (pc : Int) + o = (t : Int) ∧ f t := by
  unfold gm_jmp at h
  split at h
  · rename_i t ht
    exact ⟨t, ht, h⟩
  · exact h.elim
theorem gm_s_goto {o : Int} (hx : p.tables.exec = Jvm.exec) (hb : c.code = cc) (hd : decode cc pc = .ok (.goto o, 3)) (h0 : gm_jmp pc o fun t => gm_G p l e R s m args below meth c Q dC dI cy A ad0 n0 nL t ls st h cl sl) : gm_G p l e R s m args below meth c Q dC dI cy A ad0 n0 nL pc ls st h cl sl := by
  obtain ⟨t, ht, h0⟩ := gm_jmp_of h0
  exact gm_lift0 h0 fun _ _ _ _ _ k => lv_goto hx hb hd ht k

theorem gm_s_if_eq {x : Int32} {r : List Value} {o : Int} (hx : p.tables.exec = Jvm.exec) (hb : c.code = cc) (hd : decode cc pc = .ok (.ifCond .eq o, 3)) (h0 : gm_jmp pc o fun t => (gm_ic .eq x 0 → gm_G p l e R s m args below meth c Q dC dI cy A ad0 n0 nL t ls r h cl sl) ∧ (¬ gm_ic .eq x 0 → gm_G p l e R s m args below meth c Q dC dI cy A ad0 n0 nL (pc + 3) ls r h cl sl)) : gm_G p l e R s m args below meth c Q dC dI cy A ad0 n0 nL pc ls (.int x :: r) h cl sl := by
  obtain ⟨t, ht, h1, h2⟩ := gm_jmp_of h0
  by_cases hc : gm_ic .eq x 0
  · exact gm_lift0 (h1 hc) fun _ _ _ _ _ k => lv_if_eq hx hb hd ht (fun _ => k) (fun z => absurd hc z)
  · exact gm_lift0 (h2 hc) fun _ _ _ _ _ k => lv_if_eq hx hb hd ht (fun z => absurd z hc) (fun _ => k)
theorem gm_s_icmp_eq {x y : Int32} {r : List Value} {o : Int} (hx : p.tables.exec = Jvm.exec) (hb : c.code = cc) (hd : decode cc pc = .ok (.if_icmp .eq o, 3)) (h0 : gm_jmp pc o fun t => (gm_ic .eq x y → gm_G p l e R s m args below meth c Q dC dI cy A ad0 n0 nL t ls r h cl sl) ∧ (¬ gm_ic .eq x y → gm_G p l e R s m args below meth c Q dC dI cy A ad0 n0 nL (pc + 3) ls r h cl sl)) : gm_G p l e R s m args below meth c Q dC dI cy A ad0 n0 nL pc ls (.int y :: .int x :: r) h cl sl := by
  obtain ⟨t, ht, h1, h2⟩ := gm_jmp_of h0
  by_cases hc : gm_ic .eq x y
  · exact gm_lift0 (h1 hc) fun _ _ _ _ _ k => lv_icmp_eq hx hb hd ht (fun _ => k) (fun z => absurd hc z)
  · exact gm_lift0 (h2 hc) fun _ _ _ _ _ k => lv_icmp_eq hx hb hd ht (fun z => absurd z hc) (fun _ => k)

theorem gm_s_if_ne {x : Int32} {r : List Value} {o : Int} (hx : p.tables.exec = Jvm.exec) (hb : c.code = cc) (hd : decode cc pc = .ok (.ifCond .ne o, 3)) (h0 : gm_jmp pc o fun t => (gm_ic .ne x 0 → gm_G p l e R s m args below meth c Q dC dI cy A ad0 n0 nL t ls r h cl sl) ∧ (¬ gm_ic .ne x 0 → gm_G p l e R s m args below meth c Q dC dI cy A ad0 n0 nL (pc + 3) ls r h cl sl)) : gm_G p l e R s m args below meth c Q dC dI cy A ad0 n0 nL pc ls (.int x :: r) h cl sl := by
  obtain ⟨t, ht, h1, h2⟩ := gm_jmp_of h0
  by_cases hc : gm_ic .ne x 0
  · exact gm_lift0 (h1 hc) fun _ _ _ _ _ k => lv_if_ne hx hb hd ht (fun _ => k) (fun z => absurd z hc)
  · exact gm_lift0 (h2 hc) fun _ _ _ _ _ k => lv_if_ne hx hb hd ht (fun z => absurd z hc) (fun _ => k)
theorem gm_s_icmp_ne {x y : Int32} {r : List Value} {o : Int} (hx : p.tables.exec = Jvm.exec) (hb : c.code = cc) (hd : decode cc pc = .ok (.if_icmp .ne o, 3)) (h0 : gm_jmp pc o fun t => (gm_ic .ne x y → gm_G p l e R s m args below meth c Q dC dI cy A ad0 n0 nL t ls r h cl sl) ∧ (¬ gm_ic .ne x y → gm_G p l e R s m args below meth c Q dC dI cy A ad0 n0 nL (pc + 3) ls r h cl sl)) : gm_G p l e R s m args below meth c Q dC dI cy A ad0 n0 nL pc ls (.int y :: .int x :: r) h cl sl := by
  obtain ⟨t, ht, h1, h2⟩ := gm_jmp_of h0
  by_cases hc : gm_ic .ne x y
  · exact gm_lift0 (h1 hc) fun _ _ _ _ _ k => lv_icmp_ne hx hb hd ht (fun _ => k) (fun z => absurd z hc)
  · exact gm_lift0 (h2 hc) fun _ _ _ _ _ k => lv_icmp_ne hx hb hd ht (fun z => absurd z hc) (fun _ => k)

theorem gm_s_if_lt {x : Int32} {r : List Value} {o : Int} (hx : p.tables.exec = Jvm.exec) (hb : c.code = cc) (hd : decode cc pc = .ok (.ifCond .lt o, 3)) (h0 : gm_jmp pc o fun t => (gm_ic .lt x 0 → gm_G p l e R s m args below meth c Q dC dI cy A ad0 n0 nL t ls r h cl sl) ∧ (¬ gm_ic .lt x 0 → gm_G p l e R s m args below meth c Q dC dI cy A ad0 n0 nL (pc + 3) ls r h cl sl)) : gm_G p l e R s m args below meth c Q dC dI cy A ad0 n0 nL pc ls (.int x :: r) h cl sl := by
  obtain ⟨t, ht, h1, h2⟩ := gm_jmp_of h0
  by_cases hc : gm_ic .lt x 0
  · exact gm_lift0 (h1 hc) fun _ _ _ _ _ k => lv_if_lt hx hb hd ht (fun _ => k) (fun z => absurd hc z)
  · exact gm_lift0 (h2 hc) fun _ _ _ _ _ k => lv_if_lt hx hb hd ht (fun z => absurd z hc) (fun _ => k)
theorem gm_s_icmp_lt {x y : Int32} {r : List Value} {o : Int} (hx : p.tables.exec = Jvm.exec) (hb : c.code = cc) (hd : decode cc pc = .ok (.if_icmp .lt o, 3)) (h0 : gm_jmp pc o fun t => (gm_ic .lt x y → gm_G p l e R s m args below meth c Q dC dI cy A ad0 n0 nL t ls r h cl sl) ∧ (¬ gm_ic .lt x y → gm_G p l e R s m args below meth c Q dC dI cy A ad0 n0 nL (pc + 3) ls r h cl sl)) : gm_G p l e R s m args below meth c Q dC dI cy A ad0 n0 nL pc ls (.int y :: .int x :: r) h cl sl := by
  obtain ⟨t, ht, h1, h2⟩ := gm_jmp_of h0
  by_cases hc : gm_ic .lt x y
  · exact gm_lift0 (h1 hc) fun _ _ _ _ _ k => lv_icmp_lt hx hb hd ht (fun _ => k) (fun z => absurd hc z)
  · exact gm_lift0 (h2 hc) fun _ _ _ _ _ k => lv_icmp_lt hx hb hd ht (fun z => absurd z hc) (fun _ => k)

theorem gm_s_if_ge {x : Int32} {r : List Value} {o : Int} (hx : p.tables.exec = Jvm.exec) (hb : c.code = cc) (hd : decode cc pc = .ok (.ifCond .ge o, 3)) (h0 : gm_jmp pc o fun t => (gm_ic .ge x 0 → gm_G p l e R s m args below meth c Q dC dI cy A ad0 n0 nL t ls r h cl sl) ∧ (¬ gm_ic .ge x 0 → gm_G p l e R s m args below meth c Q dC dI cy A ad0 n0 nL (pc + 3) ls r h cl sl)) : gm_G p l e R s m args below meth c Q dC dI cy A ad0 n0 nL pc ls (.int x :: r) h cl sl := by
  obtain ⟨t, ht, h1, h2⟩ := gm_jmp_of h0
  by_cases hc : gm_ic .ge x 0
  · exact gm_lift0 (h1 hc) fun _ _ _ _ _ k => lv_if_ge hx hb hd ht (fun _ => k) (fun z => absurd hc z)
  · exact gm_lift0 (h2 hc) fun _ _ _ _ _ k => lv_if_ge hx hb hd ht (fun z => absurd z hc) (fun _ => k)
theorem gm_s_icmp_ge {x y : Int32} {r : List Value} {o : Int} (hx : p.tables.exec = Jvm.exec) (hb : c.code = cc) (hd : decode cc pc = .ok (.if_icmp .ge o, 3)) (h0 : gm_jmp pc o fun t => (gm_ic .ge x y → gm_G p l e R s m args below meth c Q dC dI cy A ad0 n0 nL t ls r h cl sl) ∧ (¬ gm_ic .ge x y → gm_G p l e R s m args below meth c Q dC dI cy A ad0 n0 nL (pc + 3) ls r h cl sl)) : gm_G p l e R s m args below meth c Q dC dI cy A ad0 n0 nL pc ls (.int y :: .int x :: r) h cl sl := by
  obtain ⟨t, ht, h1, h2⟩ := gm_jmp_of h0
  by_cases hc : gm_ic .ge x y
  · exact gm_lift0 (h1 hc) fun _ _ _ _ _ k => lv_icmp_ge hx hb hd ht (fun _ => k) (fun z => absurd hc z)
  · exact gm_lift0 (h2 hc) fun _ _ _ _ _ k => lv_icmp_ge hx hb hd ht (fun z => absurd z hc) (fun _ => k)

theorem gm_s_if_gt {x : Int32} {r : List Value} {o : Int} (hx : p.tables.exec = Jvm.exec) (hb : c.code = cc) (hd : decode cc pc = .ok (.ifCond .gt o, 3)) (h0 : gm_jmp pc o fun t => (gm_ic .gt x 0 → gm_G p l e R s m args below meth c Q dC dI cy A ad0 n0 nL t ls r h cl sl) ∧ (¬ gm_ic .gt x 0 → gm_G p l e R s m args below meth c Q dC dI cy A ad0 n0 nL (pc + 3) ls r h cl sl)) : gm_G p l e R s m args below meth c Q dC dI cy A ad0 n0 nL pc ls (.int x :: r) h cl sl := by
  obtain ⟨t, ht, h1, h2⟩ := gm_jmp_of h0
  by_cases hc : gm_ic .gt x 0
  · exact gm_lift0 (h1 hc) fun _ _ _ _ _ k => lv_if_gt hx hb hd ht (fun _ => k) (fun z => absurd hc z)
  · exact gm_lift0 (h2 hc) fun _ _ _ _ _ k => lv_if_gt hx hb hd ht (fun z => absurd z hc) (fun _ => k)
theorem gm_s_icmp_gt {x y : Int32} {r : List Value} {o : Int} (hx : p.tables.exec = Jvm.exec) (hb : c.code = cc) (hd : decode cc pc = .ok (.if_icmp .gt o, 3)) (h0 : gm_jmp pc o fun t => (gm_ic .gt x y → gm_G p l e R s m args below meth c Q dC dI cy A ad0 n0 nL t ls r h cl sl) ∧ (¬ gm_ic .gt x y → gm_G p l e R s m args below meth c Q dC dI cy A ad0 n0 nL (pc + 3) ls r h cl sl)) : gm_G p l e R s m args below meth c Q dC dI cy A ad0 n0 nL pc ls (.int y :: .int x :: r) h cl sl := by
  obtain ⟨t, ht, h1, h2⟩ := gm_jmp_of h0
  by_cases hc : gm_ic .gt x y
  · exact gm_lift0 (h1 hc) fun _ _ _ _ _ k => lv_icmp_gt hx hb hd ht (fun _ => k) (fun z => absurd hc z)
  · exact gm_lift0 (h2 hc) fun _ _ _ _ _ k => lv_icmp_gt hx hb hd ht (fun z => absurd z hc) (fun _ => k)

theorem gm_s_if_le {x : Int32} {r : List Value} {o : Int} (hx : p.tables.exec = Jvm.exec) (hb : c.code = cc) (hd : decode cc pc = .ok (.ifCond .le o, 3)) (h0 : gm_jmp pc o fun t => (gm_ic .le x 0 → gm_G p l e R s m args below meth c Q dC dI cy A ad0 n0 nL t ls r h cl sl) ∧ (¬ gm_ic .le x 0 → gm_G p l e R s m args below meth c Q dC dI cy A ad0 n0 nL (pc + 3) ls r h cl sl)) : gm_G p l e R s m args below meth c Q dC dI cy A ad0 n0 nL pc ls (.int x :: r) h cl sl := by
  obtain ⟨t, ht, h1, h2⟩ := gm_jmp_of h0
  by_cases hc : gm_ic .le x 0
  · exact gm_lift0 (h1 hc) fun _ _ _ _ _ k => lv_if_le hx hb hd ht (fun _ => k) (fun z => absurd hc z)
  · exact gm_lift0 (h2 hc) fun _ _ _ _ _ k => lv_if_le hx hb hd ht (fun z => absurd z hc) (fun _ => k)
theorem gm_s_icmp_le {x y : Int32} {r : List Value} {o : Int} (hx : p.tables.exec = Jvm.exec) (hb : c.code = cc) (hd : decode cc pc = .ok (.if_icmp .le o, 3)) (h0 : gm_jmp pc o fun t => (gm_ic .le x y → gm_G p l e R s m args below meth c Q dC dI cy A ad0 n0 nL t ls r h cl sl) ∧ (¬ gm_ic .le x y → gm_G p l e R s m args below meth c Q dC dI cy A ad0 n0 nL (pc + 3) ls r h cl sl)) : gm_G p l e R s m args below meth c Q dC dI cy A ad0 n0 nL pc ls (.int y :: .int x :: r) h cl sl := by
  obtain ⟨t, ht, h1, h2⟩ := gm_jmp_of h0
  by_cases hc : gm_ic .le x y
  · exact gm_lift0 (h1 hc) fun _ _ _ _ _ k => lv_icmp_le hx hb hd ht (fun _ => k) (fun z => absurd hc z)
  · exact gm_lift0 (h2 hc) fun _ _ _ _ _ k => lv_icmp_le hx hb hd ht (fun z => absurd z hc) (fun _ => k)

end GM
end
section
/-! SOUNDNESS, 2: switches, fields, arrays, what is made, calls -/
def gm_U : List Cond := lw_tbl.filter goodWord
theorem gm_U_in {w : Cond} (h : w ∈ lw_tbl) (hg : goodWord w = true) : w ∈ gm_U := List.mem_filter.mpr ⟨h, hg⟩
theorem gm_U_good {ws : List Cond} (h : ∀ w ∈ ws, w ∈ gm_U) : GoodIn gm_U ws := fun w hw => ⟨h w hw, good_of_word (List.mem_filter.mp (h w hw)).2⟩
def gm_tyf (ci j : Nat) : FieldType := match ci with
  | 0 => tyX0 j
  | 1 => tyX1 j
  | 2 => tyX2 j
  | 3 => tyX3 j
  | 4 => tyX4 j
  | 5 => tyX5 j
  | 6 => tyX6 j
  | _ => tyX7 j
def gm_tys (cy : Nat → ClassId) : List (ClassId × FieldType) := [(cy 0, .int), (cy 1, .char), (cy 2, .boolean), (cy 3, .long), (cy 4, .double)]
theorem gm_cl_ty : ∀ (ci : Nat) (r : vw_C), vwCl[ci]? = some r → (∀ k, k < r.2.2 → parseFieldDescriptor (r.2.1 k).2.2.1 = some (gm_tyf ci k)) ∧ (∀ a, a < r.2.2 → ∀ b, b < r.2.2 → a ≠ b → (r.2.1 a).2.1 ≠ (r.2.1 b).2.1) := by
  intro ci r h
  match ci, h with
  | 0, h => cases h; exact ⟨tyX0_ok, nmX0⟩
  | 1, h => cases h; exact ⟨tyX1_ok, nmX1⟩
  | 2, h => cases h; exact ⟨tyX2_ok, nmX2⟩
  | 3, h => cases h; exact ⟨tyX3_ok, nmX3⟩
  | 4, h => cases h; exact ⟨tyX4_ok, nmX4⟩
  | 5, h => cases h; exact ⟨tyX5_ok, nmX5⟩
  | 6, h => cases h; exact ⟨tyX6_ok, nmX6⟩
  | 7, h => cases h; exact ⟨tyX7_ok, nmX7⟩
  | ci + 8, h => simp [vwCl] at h
theorem gm_W_at {cy : Nat → ClassId} {ad : Nat → Nat} {h : pH} {a : Nat} {e : pE} (he : gm_nth h a = some e) : (gm_W cy ad 0 h)[a]? = some (ad a, gm_e cy ad e) := by
  rw [gm_W_get, ← gm_nth_some, he]
  simp
theorem gm_W_up {cy : Nat → ClassId} {ad : Nat → Nat} {h : pH} {a : Nat} {e : pE} : (gm_W cy ad 0 h).set a (ad a, gm_e cy ad e) = gm_W cy ad 0 (gm_set h a e) := by
  rw [gm_set_eq, gm_W_set]
  simp
theorem gm_ok_nf (ad : Nat → Nat) {ty : FieldType} {v : Value} (h : gm_ok ty v) : narrow ty (gm_v ad v) = gm_v ad v ∧ fits ty (gm_v ad v) = true := by
  unfold gm_ok at h
  split at h
  · exact ⟨rfl, rfl⟩
  · rcases h with rfl | rfl <;> exact ⟨rfl, rfl⟩
  · rename_i x
    refine ⟨?_, ?_⟩
    · show narrow .char (.int x) = .int x
      have h0 : 0 ≤ x.toInt := by simpa [Int32.le_iff_toInt_le] using h.1
      have h1 : x.toInt ≤ 65535 := by simpa [Int32.le_iff_toInt_le] using h.2
      obtain ⟨n, hn⟩ : ∃ n : Nat, x.toInt = (n : Int) := ⟨x.toInt.toNat, by omega⟩
      have hx : x = nI n := by
        apply Int32.toInt_inj.mp
        rw [hn, nI_toInt (by omega)]
      rw [hx]
      exact (pk_charN (q := n) (by omega)).1
    · show fits .char (.int x) = true
      simp [fits, h.1, h.2]
  all_goals first | exact ⟨rfl, rfl⟩ | exact h.elim
theorem gm_set_len {h : pH} {a : Nat} {e : pE} : (gm_set h a e).length = h.length := by rw [gm_set_eq, List.length_set]
theorem gm_ag.put {n0 : Nat} {ad0 ad : Nat → Nat} {h : pH} {a : Nat} {e : pE} (h1 : gm_ag n0 ad0 ad h) : gm_ag n0 ad0 ad (gm_set h a e) := by
  unfold gm_ag
  rw [gm_set_len]
  exact h1
theorem gm_fr_v {n : Nat} {ad ad1 : Nat → Nat} (hag : ∀ i, i < n ∨ i = 88888 → ad1 i = ad i) {v : Value} (h : gm_fr n v = true) : gm_v ad1 v = gm_v ad v := by
  cases v with
  | ref a =>
    simp only [gm_fr, Bool.or_eq_true] at h
    show Value.ref (ad1 a) = Value.ref (ad a)
    rw [hag a (h.imp (fun z => Nat.blt_eq.mp z) (fun z => Nat.eq_of_beq_eq_true z))]
  | _ => rfl
theorem gm_frs_v {n : Nat} {ad ad1 : Nat → Nat} (hag : ∀ i, i < n ∨ i = 88888 → ad1 i = ad i) : ∀ {st : List Value}, gm_frs n st = true → st.map (gm_v ad1) = st.map (gm_v ad)
  | [], _ => rfl
  | v :: r, h => by
    simp only [gm_frs, Bool.and_eq_true] at h
    simp only [List.map_cons, gm_fr_v hag h.1, gm_frs_v hag h.2]
theorem gm_frl_v {n : Nat} {ad ad1 : Nat → Nat} (hag : ∀ i, i < n ∨ i = 88888 → ad1 i = ad i) : ∀ {ls : pL}, gm_frl n ls = true → ∀ (i : Nat) (v : Value), ls[i]? = some (some v) → gm_v ad1 v = gm_v ad v
  | [], _, i, v, h => by simp at h
  | none :: r, h, i, v, hv => by
    cases i with
    | zero => simp at hv
    | succ i => exact gm_frl_v hag (ls := r) h i v (by simpa using hv)
  | some w :: r, h, i, v, hv => by
    simp only [gm_frl, Bool.and_eq_true] at h
    cases i with
    | zero =>
      simp at hv
      subst hv
      exact gm_fr_v hag h.1
    | succ i => exact gm_frl_v hag h.2 i v (by simpa using hv)
theorem gm_frh_W {n : Nat} {ad ad1 : Nat → Nat} {cy : Nat → ClassId} (hag : ∀ i, i < n ∨ i = 88888 → ad1 i = ad i) : ∀ {h : pH} {k : Nat}, k + h.length ≤ n → gm_frh n h = true → gm_W cy ad1 k h = gm_W cy ad k h
  | [], _, _, _ => rfl
  | .inl q :: r, k, hk, h => by
    simp only [List.length_cons] at hk
    simp only [gm_W, gm_e, hag k (Or.inl (by omega)), gm_frh_W hag (h := r) (k := k + 1) (by omega) h]
  | .inr q :: r, k, hk, h => by
    simp only [List.length_cons] at hk
    simp only [gm_frh, Bool.and_eq_true] at h
    simp only [gm_W, gm_e, hag k (Or.inl (by omega)), gm_frs_v hag h.1, gm_frh_W hag (h := r) (k := k + 1) (by omega) h.2]
theorem gm_hL.moved {lsA : Array Slot} {nL n : Nat} {ad ad1 : Nat → Nat} {ls : pL} (h : gm_hL lsA nL ad ls) (hag : ∀ i, i < n ∨ i = 88888 → ad1 i = ad i) (hf : gm_frl n ls = true) : gm_hL lsA nL ad1 ls :=
  ⟨h.1, h.2.1, h.2.2.1, fun i v hv => by rw [gm_frl_v hag hf i v hv]; exact h.2.2.2 i v hv⟩
section GM
variable {p : Program} {l : Launch} {e : Env} {R : Room} {s : State} {m : MethodId} {args : Array Value} {below : List Frame} {meth : Method} {c : Code} {Q : State → Prop} {dC : Nat → ClassId} {dI : Nat → Nat → Nat} {cy : Nat → ClassId} {A : Nat → Prop} {ad0 : Nat → Nat} {n0 nL : Nat}
variable {pc n : Nat} {ls : pL} {st : List Value} {h : pH} {cl sl : Nat} {cc : ByteArray}
theorem gm_look_of {d : Int} {x : Int32} {f : Nat → Prop} : ∀ {ps : List (Int × Int)}, (∀ q ∈ ps, (gm_lit q.1).toInt = q.1) → gm_look pc d x f ps → ∃ (o : Int) (t : Nat), Op.lookupswitch.offset ps d x.toInt = o ∧ (pc : Int) + o = (t : Int) ∧ f t
  | [], _, h => by
    obtain ⟨t, h1, h2⟩ := gm_jmp_of h
    exact ⟨d, t, rfl, h1, h2⟩
  | (k, o) :: r, hk, h => by
    have hk1 : (gm_lit k).toInt = k := hk (k, o) List.mem_cons_self
    by_cases hx : x = gm_lit k
    · obtain ⟨t, h1, h2⟩ := gm_jmp_of (h.1 hx)
      refine ⟨o, t, ?_, h1, h2⟩
      rw [hx, hk1]
      simp [Op.lookupswitch.offset]
    · obtain ⟨o2, t, h1, h2, h3⟩ := gm_look_of (fun q hq => hk q (List.mem_cons_of_mem _ hq)) (h.2 hx)
      exact ⟨o2, t, by rw [lv_osw hx hk1]; exact h1, h2, h3⟩
theorem gm_s_look {d : Int} {ps : Array (Int × Int)} {x : Int32} {r : List Value} {len : Nat} (hx : p.tables.exec = Jvm.exec) (hb : c.code = cc) (hd : decode cc pc = .ok (.lookupswitch d ps, len)) (hp : (ps.toList.zip (ps.toList.drop 1)).all (fun (a, next) => a.1 < next.1) = true) (hk : ∀ q ∈ ps.toList, (gm_lit q.1).toInt = q.1) (h0 : gm_look pc d x (fun t => gm_G p l e R s m args below meth c Q dC dI cy A ad0 n0 nL t ls r h cl sl) ps.toList) : gm_G p l e R s m args below meth c Q dC dI cy A ad0 n0 nL pc ls (.int x :: r) h cl sl := by
  obtain ⟨o, t, h1, h2, h3⟩ := gm_look_of hk h0
  exact gm_lift0 h3 fun _ _ _ _ _ k => lv_lookup hx hb hd hp h1 h2 k
theorem gm_tab_of {d : Int} {x : Int32} {f : Nat → Prop} : ∀ {os : List Int} {v : Int}, (∀ j : Nat, j < os.length → (gm_lit (v + j)).toInt = v + j) → gm_tab pc d x f v os → (∃ (j : Nat) (o : Int) (t : Nat), x.toInt = v + j ∧ os[j]? = some o ∧ (pc : Int) + o = (t : Int) ∧ f t) ∨ ((∀ j : Nat, j < os.length → x.toInt ≠ v + j) ∧ ∃ t : Nat, (pc : Int) + d = (t : Int) ∧ f t)
  | [], v, _, h => by
    obtain ⟨t, h1, h2⟩ := gm_jmp_of h
    exact Or.inr ⟨fun j hj => by simp at hj, t, h1, h2⟩
  | o :: r, v, hk, h => by
    have hk0 : (gm_lit v).toInt = v := by simpa using hk 0 (by simp)
    by_cases hx : x = gm_lit v
    · obtain ⟨t, h1, h2⟩ := gm_jmp_of (h.1 hx)
      exact Or.inl ⟨0, o, t, by rw [hx, hk0]; simp, by simp, h1, h2⟩
    · have hk' : ∀ j : Nat, j < r.length → (gm_lit (v + 1 + j)).toInt = v + 1 + j := fun j hj => by
        have := hk (j + 1) (by simp; omega)
        rw [show v + 1 + (j : Int) = v + ((j + 1 : Nat) : Int) by push_cast; omega]
        exact this
      rcases gm_tab_of hk' (h.2 hx) with ⟨j, o2, t, h1, h2, h3, h4⟩ | ⟨h1, t, h2, h3⟩
      · exact Or.inl ⟨j + 1, o2, t, by rw [h1]; push_cast; omega, by simpa using h2, h3, h4⟩
      · refine Or.inr ⟨fun j hj => ?_, t, h2, h3⟩
        cases j with
        | zero =>
          intro hxe
          apply hx
          apply Int32.toInt_inj.mp
          rw [hk0, hxe]
          simp
        | succ j =>
          have := h1 j (by simpa using hj)
          intro hxe
          apply this
          rw [hxe]
          push_cast
          omega
theorem gm_s_tab {d lo hi : Int} {os : Array Int} {x : Int32} {r : List Value} {len : Nat} (hx : p.tables.exec = Jvm.exec) (hb : c.code = cc) (hd : decode cc pc = .ok (.tableswitch d lo hi os, len)) (hh : hi + 1 = lo + os.size) (hk : ∀ j : Nat, j < os.toList.length → (gm_lit (lo + j)).toInt = lo + j) (h0 : gm_tab pc d x (fun t => gm_G p l e R s m args below meth c Q dC dI cy A ad0 n0 nL t ls r h cl sl) lo os.toList) : gm_G p l e R s m args below meth c Q dC dI cy A ad0 n0 nL pc ls (.int x :: r) h cl sl := by
  rcases gm_tab_of hk h0 with ⟨j, o, t, h1, h2, h3, h4⟩ | ⟨h1, t, h2, h3⟩
  · have hj : j < os.toList.length := (List.getElem?_eq_some_iff.mp h2).1
    have hj2 : j < os.size := by simpa using hj
    refine gm_lift0 h4 fun _ _ _ _ _ k => lv_tableIn hx hb hd (by omega) (by omega) ?_ h3 k
    rw [h1, show (lo + (j : Int) - lo).toNat = j by omega]
    rw [← Array.getElem?_toList]
    exact h2
  · refine gm_lift0 h3 fun _ _ _ _ _ k => lv_tableOut hx hb hd ?_ h2 k
    by_cases hlo : x.toInt < lo
    · exact Or.inl hlo
    · refine Or.inr ?_
      rcases Int.lt_or_le hi x.toInt with hz | hz
      · exact hz
      · exfalso
        have := h1 (x.toInt - lo).toNat (by simp; omega)
        omega
theorem gm_s_getfield {F : List (Nat × Nat × Nat)} {own : String} (hx : p.tables.exec = Jvm.exec) (hb : c.code = cc) (hown : s.vm.findClass own = some m.cls) (hts : ∀ w ∈ gm_U, w.before args s = true) (hcu : ∀ (ci : Nat) (r : vw_C), vwCl[ci]? = some r → ∀ w ∈ u_ws r.1 r.2.1 r.2.2, w ∈ gm_U) (hK : va_K (dC, dI) vwCl (gm_tys cy) s)
    (hF : ∀ k f, gm_asc F k = some f → ∃ r : vw_C, vwCl[f.1]? = some r ∧ f.2 < r.2.2 ∧ Cond.fieldLink own k (r.2.1 f.2).1 (r.2.1 f.2).2.1 (r.2.1 f.2).2.2.1 ∈ gm_U)
    {k : Nat} (hd : decode cc pc = .ok (.getfield k, 3)) (h0 : gm_sa st fun a r => gm_op (gm_asc F k) fun f => gm_ob h a fun ci fs => gm_if (Nat.beq ci f.1) (gm_op (gm_nth fs f.2) fun v => gm_G p l e R s m args below meth c Q dC dI cy A ad0 n0 nL (pc + 3) ls (v :: r) h cl sl)) : gm_G p l e R s m args below meth c Q dC dI cy A ad0 n0 nL pc ls st h cl sl := by
  unfold gm_sa at h0
  split at h0
  · rename_i a r
    unfold gm_op at h0
    split at h0
    · rename_i f hf
      unfold gm_ob at h0
      split at h0
      · rename_i ci fs hcell
        obtain ⟨hci, h9⟩ := gm_if_of h0
        have hci := Nat.eq_of_beq_eq_true hci
        subst hci
        replace h0 := h9
        clear h9
        split at h0
        · rename_i v hv
          obtain ⟨r2, h1, h2, h3⟩ := hF k f hf
          refine gm_lift h0 fun ad H locs lsA hag hP hD hS hL kk => ?_
          refine va_get (D := (dC, dI)) (cl := vwCl) (tys := gm_tys cy) (C := r2.1) (T := r2.2.1) (N := r2.2.2) (Ts := gm_U) (ref := (r2.2.1 f.2).1) hx hb hts (hcu f.1 r2 h1) hown hK hP a (gm_W_at hcell) h1 f.2 h2 (hts _ h3) (fun _ z => z) (v := gm_v ad v) ?_ hd (kk lsA hL)
          rw [List.getElem?_map, ← gm_nth_some, hv]
          rfl
        · exact h0.elim
      · exact h0.elim
    · exact h0.elim
  · exact h0.elim
theorem gm_s_putfield {F : List (Nat × Nat × Nat)} {own : String} {v : Value} {a : Nat} {r : List Value} (hx : p.tables.exec = Jvm.exec) (hb : c.code = cc) (hown : s.vm.findClass own = some m.cls) (hts : ∀ w ∈ gm_U, w.before args s = true) (hcu : ∀ (ci : Nat) (r : vw_C), vwCl[ci]? = some r → ∀ w ∈ u_ws r.1 r.2.1 r.2.2, w ∈ gm_U) (hK : va_K (dC, dI) vwCl (gm_tys cy) s)
    (hF : ∀ k f, gm_asc F k = some f → ∃ r : vw_C, vwCl[f.1]? = some r ∧ f.2 < r.2.2 ∧ Cond.fieldLink own k (r.2.1 f.2).1 (r.2.1 f.2).2.1 (r.2.1 f.2).2.2.1 ∈ gm_U)
    {k : Nat} (hput : ∀ f r, gm_asc F k = some f → vwCl[f.1]? = some r → (r.2.1 f.2).2.2.2 = false ∨ ((r.2.1 f.2).2.2.2 = true ∧ meth.name = "<init>" ∧ (r.2.1 f.2).1 = own))
    (hd : decode cc pc = .ok (.putfield k, 3)) (h0 : gm_op (gm_asc F k) fun f => gm_ob h a fun ci fs => gm_op (gm_nth fs f.2) fun _ => gm_if (Nat.beq ci f.1) (gm_okx (gm_tyf f.1 f.2) v (gm_G p l e R s m args below meth c Q dC dI cy A ad0 n0 nL (pc + 3) ls r (gm_set h a (.inr (ci, gm_set fs f.2 v))) cl sl))) : gm_G p l e R s m args below meth c Q dC dI cy A ad0 n0 nL pc ls (v :: .ref a :: r) h cl sl := by
  unfold gm_op at h0
  split at h0
  · rename_i f hf
    unfold gm_ob at h0
    split at h0
    · rename_i ci fs hcell
      split at h0
      · rename_i v0 hv0
        obtain ⟨hci, h9⟩ := gm_if_of h0
        have hci := Nat.eq_of_beq_eq_true hci
        subst hci
        obtain ⟨hok, h8⟩ := gm_okx_of h9
        clear h0 h9
        have h0 := h8
        clear h8
        obtain ⟨r2, h1, h2, h3⟩ := hF k f hf
        refine ⟨h0.1, fun ad H locs lsA hag hP hD hS hL => ?_⟩
        have hl : f.2 < (fs.map (gm_v ad)).length := by
          rw [gm_nth_some] at hv0
          rw [List.length_map]
          exact (List.getElem?_eq_some_iff.mp hv0).1
        have hnf := gm_ok_nf ad hok
        have hcell2 : ∀ (H1 : Heap) (locs1 : List Loc), va_P (dC, dI) vwCl ((gm_W cy ad 0 h).set a (ad a, .inr (f.1, (fs.map (gm_v ad)).set f.2 (gm_v ad v)))) H1 → va_D A ((gm_W cy ad 0 h).set a (ad a, .inr (f.1, (fs.map (gm_v ad)).set f.2 (gm_v ad v)))) → va_S A s.heap H1 locs1 → W p l e R s m args below meth c H1 locs1 cl sl Q (F0 m (pc + 3) lsA (r.map (gm_v ad))) := by
          intro H1 locs1 hP1 hD1 hS1
          have he : (gm_W cy ad 0 h).set a (ad a, .inr (f.1, (fs.map (gm_v ad)).set f.2 (gm_v ad v))) = gm_W cy ad 0 (gm_set h a (.inr (f.1, gm_set fs f.2 v))) := by
            rw [← gm_W_up, gm_set_eq fs]
            simp [gm_e, List.map_set]
          rw [he] at hP1 hD1
          exact h0.2 ad H1 locs1 lsA hag.put hP1 hD1 hS1 hL
        rcases hput f r2 hf h1 with hfin | ⟨hfin, hin, hown2⟩
        · exact va_put (D := (dC, dI)) (cl := vwCl) (tys := gm_tys cy) (C := r2.1) (T := r2.2.1) (N := r2.2.2) (Ts := gm_U) (ref := (r2.2.1 f.2).1) hx hb hts (hcu f.1 r2 h1) (gm_tyf f.1) (gm_cl_ty f.1 r2 h1).1 (gm_cl_ty f.1 r2 h1).2 hown hK hP hD hS a (gm_W_at hcell) h1 f.2 h2 (hts _ h3) (fun _ z => z) hfin ((gm_cl_ty f.1 r2 h1).1 f.2 h2) hnf.1 hnf.2 hl hd hcell2
        · exact va_putF (D := (dC, dI)) (cl := vwCl) (tys := gm_tys cy) (C := r2.1) (T := r2.2.1) (N := r2.2.2) (Ts := gm_U) (ref := (r2.2.1 f.2).1) hx hb hts (hcu f.1 r2 h1) (gm_tyf f.1) (gm_cl_ty f.1 r2 h1).1 (gm_cl_ty f.1 r2 h1).2 hown hK hP hD hS a (gm_W_at hcell) h1 f.2 h2 (hts _ h3) (fun _ z => z) hfin hin hown2 ((gm_cl_ty f.1 r2 h1).1 f.2 h2) hnf.1 hnf.2 hl hd hcell2
      · exact h0.elim
    · exact h0.elim
  · exact h0.elim
theorem gm_ai_of {a t : Nat} {f : Nat → (Nat → Int32) → Prop} (h0 : gm_ai h a t f) : ∃ N g, gm_nth h a = some (.inl (t, N, .inl g)) ∧ f N g := by
  unfold gm_ai at h0
  split at h0
  · rename_i k N g hq
    cases hk : Nat.beq k t with
    | true =>
      rw [hk] at h0
      rw [Nat.eq_of_beq_eq_true hk] at hq
      exact ⟨N, g, hq, h0⟩
    | false =>
      rw [hk] at h0
      exact h0.elim
  · exact h0.elim
theorem gm_al_of {a : Nat} {f : Nat → (Nat → Int64) → Prop} (h0 : gm_al h a f) : ∃ N g, gm_nth h a = some (.inl (3, N, .inr (.inl g))) ∧ f N g := by
  unfold gm_al at h0
  split at h0
  · rename_i N g hq
    exact ⟨N, g, hq, h0⟩
  · exact h0.elim
theorem gm_ad_of {a : Nat} {f : Nat → (Nat → UInt64) → Prop} (h0 : gm_ad h a f) : ∃ N g, gm_nth h a = some (.inl (4, N, .inr (.inr (.inr (.inl g))))) ∧ f N g := by
  unfold gm_ad at h0
  split at h0
  · rename_i N g hq
    exact ⟨N, g, hq, h0⟩
  · exact h0.elim
theorem gm_i1_of {f : Int32 → List Value → Prop} (h0 : gm_i1 st f) : ∃ x r, st = .int x :: r ∧ f x r := by
  unfold gm_i1 at h0
  split at h0
  · exact ⟨_, _, rfl, h0⟩
  · exact h0.elim
theorem gm_i2_of {f : Int32 → Int32 → List Value → Prop} (h0 : gm_i2 st f) : ∃ x y r, st = .int y :: .int x :: r ∧ f x y r := by
  unfold gm_i2 at h0
  split at h0
  · exact ⟨_, _, _, rfl, h0⟩
  · exact h0.elim
theorem gm_l1_of {f : Int64 → List Value → Prop} (h0 : gm_l1 st f) : ∃ x r, st = .long x :: r ∧ f x r := by
  unfold gm_l1 at h0
  split at h0
  · exact ⟨_, _, rfl, h0⟩
  · exact h0.elim
theorem gm_d1_of {f : UInt64 → List Value → Prop} (h0 : gm_d1 st f) : ∃ x r, st = .double x :: r ∧ f x r := by
  unfold gm_d1 at h0
  split at h0
  · exact ⟨_, _, rfl, h0⟩
  · exact h0.elim
theorem gm_sa_of {f : Nat → List Value → Prop} (h0 : gm_sa st f) : ∃ x r, st = .ref x :: r ∧ f x r := by
  unfold gm_sa at h0
  split at h0
  · exact ⟨_, _, rfl, h0⟩
  · exact h0.elim
theorem gm_op_of {α : Type} {o : Option α} {f : α → Prop} (h0 : gm_op o f) : ∃ a, o = some a ∧ f a := by
  unfold gm_op at h0
  split at h0
  · exact ⟨_, rfl, h0⟩
  · exact h0.elim

theorem gm_s_caload (hx : p.tables.exec = Jvm.exec) (hb : c.code = cc) (hK : va_K (dC, dI) vwCl (gm_tys cy) s) (hd : decode cc pc = .ok (.caload, 1)) (h0 : gm_i1 st fun x r => gm_sa r fun a r => gm_ai h a 1 fun N f => vp_in x N ∧ gm_G p l e R s m args below meth c Q dC dI cy A ad0 n0 nL (pc + 1) ls (.int (f x.toNatClampNeg) :: r) h cl sl) : gm_G p l e R s m args below meth c Q dC dI cy A ad0 n0 nL pc ls st h cl sl := by
  obtain ⟨x, r, rfl, h0⟩ := gm_i1_of h0
  obtain ⟨a, r, rfl, h0⟩ := gm_sa_of h0
  obtain ⟨N, f, hq, hin, h0⟩ := gm_ai_of h0
  exact gm_lift h0 fun ad H locs lsA hag hP hD hS hL kk => va_cald (D := (dC, dI)) (cl := vwCl) (tys := gm_tys cy) hx hb hK hP a 1 (gm_W_at hq) rfl hin hd (kk lsA hL)

theorem gm_s_baload (hx : p.tables.exec = Jvm.exec) (hb : c.code = cc) (hK : va_K (dC, dI) vwCl (gm_tys cy) s) (hd : decode cc pc = .ok (.baload, 1)) (h0 : gm_i1 st fun x r => gm_sa r fun a r => gm_ai h a 2 fun N f => vp_in x N ∧ gm_G p l e R s m args below meth c Q dC dI cy A ad0 n0 nL (pc + 1) ls (.int (f x.toNatClampNeg) :: r) h cl sl) : gm_G p l e R s m args below meth c Q dC dI cy A ad0 n0 nL pc ls st h cl sl := by
  obtain ⟨x, r, rfl, h0⟩ := gm_i1_of h0
  obtain ⟨a, r, rfl, h0⟩ := gm_sa_of h0
  obtain ⟨N, f, hq, hin, h0⟩ := gm_ai_of h0
  exact gm_lift h0 fun ad H locs lsA hag hP hD hS hL kk => va_zald (D := (dC, dI)) (cl := vwCl) (tys := gm_tys cy) hx hb hK hP a 2 (gm_W_at hq) rfl hin hd (kk lsA hL)

theorem gm_s_laload (hx : p.tables.exec = Jvm.exec) (hb : c.code = cc) (hK : va_K (dC, dI) vwCl (gm_tys cy) s) (hd : decode cc pc = .ok (.laload, 1)) (h0 : gm_i1 st fun x r => gm_sa r fun a r => gm_al h a fun N f => vp_in x N ∧ gm_G p l e R s m args below meth c Q dC dI cy A ad0 n0 nL (pc + 1) ls (.long (f x.toNatClampNeg) :: r) h cl sl) : gm_G p l e R s m args below meth c Q dC dI cy A ad0 n0 nL pc ls st h cl sl := by
  obtain ⟨x, r, rfl, h0⟩ := gm_i1_of h0
  obtain ⟨a, r, rfl, h0⟩ := gm_sa_of h0
  obtain ⟨N, f, hq, hin, h0⟩ := gm_al_of h0
  exact gm_lift h0 fun ad H locs lsA hag hP hD hS hL kk => va_lald (D := (dC, dI)) (cl := vwCl) (tys := gm_tys cy) hx hb hK hP a 3 (gm_W_at hq) rfl hin hd (kk lsA hL)

theorem gm_s_daload (hx : p.tables.exec = Jvm.exec) (hb : c.code = cc) (hK : va_K (dC, dI) vwCl (gm_tys cy) s) (hd : decode cc pc = .ok (.daload, 1)) (h0 : gm_i1 st fun x r => gm_sa r fun a r => gm_ad h a fun N f => vp_in x N ∧ gm_G p l e R s m args below meth c Q dC dI cy A ad0 n0 nL (pc + 1) ls (.double (f x.toNatClampNeg) :: r) h cl sl) : gm_G p l e R s m args below meth c Q dC dI cy A ad0 n0 nL pc ls st h cl sl := by
  obtain ⟨x, r, rfl, h0⟩ := gm_i1_of h0
  obtain ⟨a, r, rfl, h0⟩ := gm_sa_of h0
  obtain ⟨N, f, hq, hin, h0⟩ := gm_ad_of h0
  exact gm_lift h0 fun ad H locs lsA hag hP hD hS hL kk => va_dald (D := (dC, dI)) (cl := vwCl) (tys := gm_tys cy) hx hb hK hP a 4 (gm_W_at hq) rfl hin hd (kk lsA hL)

theorem gm_s_iaload {sq : pQ} (hx : p.tables.exec = Jvm.exec) (hb : c.code = cc) (hK : va_K (dC, dI) vwCl (gm_tys cy) s) (hscr : ∀ q, sq = some q → va_X (ad0 88888) q.1 q.2 s s.heap ∧ ad0 88888 < s.heap.size ∧ ¬ A (ad0 88888)) (hd : decode cc pc = .ok (.iaload, 1)) (h0 : gm_i1 st fun x r => gm_sa r fun a r => bif Nat.beq a 88888 then gm_op sq (fun q => vp_in x q.1 ∧ gm_G p l e R s m args below meth c Q dC dI cy A ad0 n0 nL (pc + 1) ls (.int (q.2 x.toNatClampNeg) :: r) h cl sl) else gm_ai h a 0 fun N f => vp_in x N ∧ gm_G p l e R s m args below meth c Q dC dI cy A ad0 n0 nL (pc + 1) ls (.int (f x.toNatClampNeg) :: r) h cl sl) : gm_G p l e R s m args below meth c Q dC dI cy A ad0 n0 nL pc ls st h cl sl := by
  obtain ⟨x, r, rfl, h1⟩ := gm_i1_of h0
  obtain ⟨a, r, rfl, h2⟩ := gm_sa_of h1
  try dsimp only at h2
  clear h0 h1
  cases hk : Nat.beq a 88888 with
  | true =>
    rw [hk] at h2
    have ha := Nat.eq_of_beq_eq_true hk
    subst ha
    obtain ⟨q, hq, hin, h0⟩ := gm_op_of h2
    obtain ⟨z1, z2, z3⟩ := hscr q hq
    refine gm_lift h0 fun ad H locs lsA hag hP hD hS hL kk => ?_
    have h4 : gm_v ad (.ref 88888) = .ref (ad0 88888) := by
      show Value.ref (ad 88888) = _
      rw [hag.2.2.2]
    simp only [List.map_cons, h4]
    exact va_sld hx hb z1 z2 z3 hS hin hd (kk lsA hL)
  | false =>
    rw [hk] at h2
    obtain ⟨N, f, hq, hin, h0⟩ := gm_ai_of h2
    exact gm_lift h0 fun ad H locs lsA hag hP hD hS hL kk => va_iald (D := (dC, dI)) (cl := vwCl) (tys := gm_tys cy) hx hb hK hP a 0 (gm_W_at hq) rfl hin hd (kk lsA hL)
theorem gm_s_arraylength {sq : pQ} (hx : p.tables.exec = Jvm.exec) (hb : c.code = cc) (hscr : ∀ q, sq = some q → va_X (ad0 88888) q.1 q.2 s s.heap ∧ ad0 88888 < s.heap.size ∧ ¬ A (ad0 88888)) (hd : decode cc pc = .ok (.arraylength, 1)) (h0 : gm_sa st fun a r => bif Nat.beq a 88888 then gm_op sq (fun q => gm_G p l e R s m args below meth c Q dC dI cy A ad0 n0 nL (pc + 1) ls (.int (Int32.ofNat q.1) :: r) h cl sl) else False) : gm_G p l e R s m args below meth c Q dC dI cy A ad0 n0 nL pc ls st h cl sl := by
  obtain ⟨a, r, rfl, h2⟩ := gm_sa_of h0
  try dsimp only at h2
  clear h0
  cases hk : Nat.beq a 88888 with
  | true =>
    rw [hk] at h2
    have ha := Nat.eq_of_beq_eq_true hk
    subst ha
    obtain ⟨q, hq, h0⟩ := gm_op_of h2
    obtain ⟨z1, z2, z3⟩ := hscr q hq
    refine gm_lift h0 fun ad H locs lsA hag hP hD hS hL kk => ?_
    have h4 : gm_v ad (.ref 88888) = .ref (ad0 88888) := by
      show Value.ref (ad 88888) = _
      rw [hag.2.2.2]
    simp only [List.map_cons, h4]
    exact va_slen hx hb z1 z2 z3 hS hd (kk lsA hL)
  | false =>
    rw [hk] at h2
    exact h2.elim

theorem gm_s_iastore (hx : p.tables.exec = Jvm.exec) (hb : c.code = cc) (hK : va_K (dC, dI) vwCl (gm_tys cy) s) (hd : decode cc pc = .ok (.iastore, 1)) (h0 : gm_i2 st fun x y r => gm_sa r fun a r => gm_ai h a 0 fun N f => vp_in x N ∧ gm_G p l e R s m args below meth c Q dC dI cy A ad0 n0 nL (pc + 1) ls r (gm_set h a (.inl (0, N, .inl (upd f x.toNatClampNeg y)))) cl sl) : gm_G p l e R s m args below meth c Q dC dI cy A ad0 n0 nL pc ls st h cl sl := by
  obtain ⟨x, y, r, rfl, h0⟩ := gm_i2_of h0
  obtain ⟨a, r, rfl, h0⟩ := gm_sa_of h0
  obtain ⟨N, f, hq, hin, h0⟩ := gm_ai_of h0
  exact ⟨h0.1, fun ad H locs lsA hag hP hD hS hL => va_iast (D := (dC, dI)) (cl := vwCl) (tys := gm_tys cy) hx hb hK hP hD hS a 0 (gm_W_at hq) rfl hin hd (fun H1 locs1 hP1 hD1 hS1 => by exact h0.2 ad H1 locs1 lsA hag.put (gm_W_up (e := .inl (0, N, .inl (upd f x.toNatClampNeg y))) ▸ hP1) (gm_W_up (e := .inl (0, N, .inl (upd f x.toNatClampNeg y))) ▸ hD1) hS1 hL)⟩

theorem gm_s_castore (hx : p.tables.exec = Jvm.exec) (hb : c.code = cc) (hK : va_K (dC, dI) vwCl (gm_tys cy) s) (hd : decode cc pc = .ok (.castore, 1)) (h0 : gm_i2 st fun x y r => gm_sa r fun a r => gm_ai h a 1 fun N f => vp_in x N ∧ (0 ≤ y ∧ y ≤ 65535) ∧ gm_G p l e R s m args below meth c Q dC dI cy A ad0 n0 nL (pc + 1) ls r (gm_set h a (.inl (1, N, .inl (upd f x.toNatClampNeg y)))) cl sl) : gm_G p l e R s m args below meth c Q dC dI cy A ad0 n0 nL pc ls st h cl sl := by
  obtain ⟨x, y, r, rfl, h0⟩ := gm_i2_of h0
  obtain ⟨a, r, rfl, h0⟩ := gm_sa_of h0
  obtain ⟨N, f, hq, hin, hy, h0⟩ := gm_ai_of h0
  have hn : vp_nar .char y = y := by
    have := (gm_ok_nf (fun z => z) (ty := .char) (v := .int y) hy).1
    unfold vp_nar
    rw [show narrow .char (.int y) = .int y from this]
  exact ⟨h0.1, fun ad H locs lsA hag hP hD hS hL => va_cast (D := (dC, dI)) (cl := vwCl) (tys := gm_tys cy) hx hb hK hP hD hS a 1 (gm_W_at hq) rfl hin hd (fun H1 locs1 hP1 hD1 hS1 => by rw [hn] at hP1 hD1; exact h0.2 ad H1 locs1 lsA hag.put (gm_W_up (e := .inl (1, N, .inl (upd f x.toNatClampNeg y))) ▸ hP1) (gm_W_up (e := .inl (1, N, .inl (upd f x.toNatClampNeg y))) ▸ hD1) hS1 hL)⟩

theorem gm_s_bastore (hx : p.tables.exec = Jvm.exec) (hb : c.code = cc) (hK : va_K (dC, dI) vwCl (gm_tys cy) s) (hd : decode cc pc = .ok (.bastore, 1)) (h0 : gm_i2 st fun x y r => gm_sa r fun a r => gm_ai h a 2 fun N f => vp_in x N ∧ (y = 0 ∨ y = 1) ∧ gm_G p l e R s m args below meth c Q dC dI cy A ad0 n0 nL (pc + 1) ls r (gm_set h a (.inl (2, N, .inl (upd f x.toNatClampNeg y)))) cl sl) : gm_G p l e R s m args below meth c Q dC dI cy A ad0 n0 nL pc ls st h cl sl := by
  obtain ⟨x, y, r, rfl, h0⟩ := gm_i2_of h0
  obtain ⟨a, r, rfl, h0⟩ := gm_sa_of h0
  obtain ⟨N, f, hq, hin, hy, h0⟩ := gm_ai_of h0
  have hn : vp_nar .boolean y = y := by
    have := (gm_ok_nf (fun z => z) (ty := .boolean) (v := .int y) hy).1
    unfold vp_nar
    rw [show narrow .boolean (.int y) = .int y from this]
  exact ⟨h0.1, fun ad H locs lsA hag hP hD hS hL => va_zast (D := (dC, dI)) (cl := vwCl) (tys := gm_tys cy) hx hb hK hP hD hS a 2 (gm_W_at hq) rfl hin hd (fun H1 locs1 hP1 hD1 hS1 => by rw [hn] at hP1 hD1; exact h0.2 ad H1 locs1 lsA hag.put (gm_W_up (e := .inl (2, N, .inl (upd f x.toNatClampNeg y))) ▸ hP1) (gm_W_up (e := .inl (2, N, .inl (upd f x.toNatClampNeg y))) ▸ hD1) hS1 hL)⟩

theorem gm_s_lastore (hx : p.tables.exec = Jvm.exec) (hb : c.code = cc) (hK : va_K (dC, dI) vwCl (gm_tys cy) s) (hd : decode cc pc = .ok (.lastore, 1)) (h0 : gm_l1 st fun y r => gm_i1 r fun x r => gm_sa r fun a r => gm_al h a fun N f => vp_in x N ∧ gm_G p l e R s m args below meth c Q dC dI cy A ad0 n0 nL (pc + 1) ls r (gm_set h a (.inl (3, N, .inr (.inl (vp_updL f x.toNatClampNeg y))))) cl sl) : gm_G p l e R s m args below meth c Q dC dI cy A ad0 n0 nL pc ls st h cl sl := by
  obtain ⟨y, r, rfl, h0⟩ := gm_l1_of h0
  obtain ⟨x, r, rfl, h0⟩ := gm_i1_of h0
  obtain ⟨a, r, rfl, h0⟩ := gm_sa_of h0
  obtain ⟨N, f, hq, hin, h0⟩ := gm_al_of h0
  exact ⟨h0.1, fun ad H locs lsA hag hP hD hS hL => va_last (D := (dC, dI)) (cl := vwCl) (tys := gm_tys cy) hx hb hK hP hD hS a 3 (gm_W_at hq) rfl hin hd (fun H1 locs1 hP1 hD1 hS1 => h0.2 ad H1 locs1 lsA hag.put (gm_W_up (e := .inl (3, N, .inr (.inl (vp_updL f x.toNatClampNeg y)))) ▸ hP1) (gm_W_up (e := .inl (3, N, .inr (.inl (vp_updL f x.toNatClampNeg y)))) ▸ hD1) hS1 hL)⟩
theorem gm_s_dastore (hx : p.tables.exec = Jvm.exec) (hb : c.code = cc) (hK : va_K (dC, dI) vwCl (gm_tys cy) s) (hd : decode cc pc = .ok (.dastore, 1)) (h0 : gm_d1 st fun y r => gm_i1 r fun x r => gm_sa r fun a r => gm_ad h a fun N f => vp_in x N ∧ gm_G p l e R s m args below meth c Q dC dI cy A ad0 n0 nL (pc + 1) ls r (gm_set h a (.inl (4, N, .inr (.inr (.inr (.inl (vf_upd f x.toNatClampNeg y))))))) cl sl) : gm_G p l e R s m args below meth c Q dC dI cy A ad0 n0 nL pc ls st h cl sl := by
  obtain ⟨y, r, rfl, h0⟩ := gm_d1_of h0
  obtain ⟨x, r, rfl, h0⟩ := gm_i1_of h0
  obtain ⟨a, r, rfl, h0⟩ := gm_sa_of h0
  obtain ⟨N, f, hq, hin, h0⟩ := gm_ad_of h0
  exact ⟨h0.1, fun ad H locs lsA hag hP hD hS hL => va_dast (D := (dC, dI)) (cl := vwCl) (tys := gm_tys cy) hx hb hK hP hD hS a 4 (gm_W_at hq) rfl hin hd (fun H1 locs1 hP1 hD1 hS1 => h0.2 ad H1 locs1 lsA hag.put (gm_W_up (e := .inl (4, N, .inr (.inr (.inr (.inl (vf_upd f x.toNatClampNeg y)))))) ▸ hP1) (gm_W_up (e := .inl (4, N, .inr (.inr (.inr (.inl (vf_upd f x.toNatClampNeg y)))))) ▸ hD1) hS1 hL)⟩
end GM
end
section
/-! SOUNDNESS, 3: what is made; calls -/
def gm_exs : List String := ["java/lang/IllegalArgumentException", "java/lang/IllegalStateException", "java/lang/IndexOutOfBoundsException", "java/util/NoSuchElementException", "java/lang/UnsupportedOperationException"]
def gm_strs : List (Nat × String) := [(71, "the term has no such symbol"), (82, "the term can't be made"), (91, "there is no such term"), (96, "a letter is between 0 and 3"), (99, "a region is between 0 and 15"), (158, "the term has no such prime implicant"), (163, "no rule can rewrite anything in the term"), (170, "the step can't be made"), (178, "there are 6 assumptions"), (191, "there is no assumption"), (208, "no assumption denies the region"), (216, "the goal does not follow"), (221, "the goal does not demand an element"), (226, "there is no witness"), (231, "there is no such kind"), (233, "there is no goal"), (251, "the least counterexample has no such element"), (265, "the goal follows"), (267, "no such number of elements")]
/-- private members of nest mates that are called -/
def gm_nests : List (String × Nat × MethodName) := [(RX6, 9, yX4_init), (RX6, 18, yX1_init), (RX1, 11, yX5_init), (RX0, 34, yX6_isIn), (RX6, 32, yX3_init), (RX6, 39, yX2_init), (RX4, 89, yX6_isIn), (RX3, 42, yX6_isIn), (RX2, 50, yX6_isIn)]
/-- words of the tables that aren't 'good', but stay -/
def gm_isn : Cond → Bool
  | .castable .. => true
  | .declares .. => true
  | _ => false
/-- what a throw needs of the state -/
def gm_Ex (A : Nat → Prop) (U : State) : Prop := vx_Zq Bundle.tN "UNASSIGNED_STACK" Bundle.steD A U U.heap ∧ vx_Zq Bundle.tN "SUPPRESSED_SENTINEL" Bundle.listD A U U.heap ∧ (∀ w ∈ lw_tbl, gm_isn w = true → va_Nw w U) ∧ (∀ q ∈ gm_strs, ∃ a, vk_R RX6 q.1 q.2 a U) ∧ (∀ E ∈ gm_exs, ∀ E2 ∈ gm_exs, E ≠ E2 → va_Nc E E2 U) ∧ (∀ q ∈ gm_nests, va_Nw (.methodLinkNest q.1 q.2.1 q.2.2 RX6) U)
theorem gm_isn_warm {w : Cond} {s U : State} (hn : gm_isn w = true) (hW : s.WarmedH U.vm) (h : va_Nw w s) : va_Nw w U := by
  unfold gm_isn at hn
  split at hn
  · exact va_Nw.warmC hW h
  · exact va_tabs rfl (rfl : (s.setVm U.vm).vm = U.vm) (by rw [Cond.declares_setVm hW.alike]; exact h)
  · cases hn
theorem gm_isn_tab {w : Cond} (hn : gm_isn w = true) : w.onTables = true := by
  unfold gm_isn at hn
  split at hn
  · rfl
  · rfl
  · cases hn
theorem gm_Ex.next {A A1 : Nat → Prop} {s U : State} {H : Heap} {locs : List Loc} (h : gm_Ex A s) (hS : va_S A s.heap H locs) (hW : s.WarmedH U.vm) (hU : U.heap = H) (hA : ∀ q, A1 q → A q) : gm_Ex A1 U := by
  obtain ⟨h1, h2, h3, h4, h5, h6⟩ := h
  refine ⟨?_, ?_, fun w hw hn => gm_isn_warm hn hW (h3 w hw hn), fun q hq => ?_, fun E hE E2 hE2 hn => va_Nc.moved hW.alike (h5 E hE E2 hE2 hn), fun q hq => va_Nw.warmM hW (h6 q hq)⟩
  · rw [hU]
    exact ((h1.kept hS.2.1).moved hW.alike).narrow hA
  · rw [hU]
    exact ((h2.kept hS.2.1).moved hW.alike).narrow hA
  · obtain ⟨a, ha⟩ := h4 q hq
    exact ⟨a, vk_R.warm hW ha⟩
theorem gm_Ex.blind {A : Nat → Prop} {U : State} (h : gm_Ex A U) (g : JFrame) (mk : MethodId) (a : Array Value) : gm_Ex A (U.calling g mk a) := by
  obtain ⟨h1, h2, h3, h4, h5, h6⟩ := h
  refine ⟨vx_Zq.moved (u := U) (U := U.calling g mk a) (Vm.Alike.refl U.vm) h1, vx_Zq.moved (u := U) (U := U.calling g mk a) (Vm.Alike.refl U.vm) h2, fun w hw hn => va_Nw.same (gm_isn_tab hn) (u := U) rfl (h3 w hw hn), fun q hq => ?_, fun E hE E2 hE2 hn => va_Nc.moved (u := U) (U := U.calling g mk a) (Vm.Alike.refl U.vm) (h5 E hE E2 hE2 hn), fun q hq => va_Nw.same (u := U) rfl rfl (h6 q hq)⟩
  obtain ⟨b, hb⟩ := h4 q hq
  exact ⟨b, vk_R.same (u := U) rfl hb⟩
def gm_cw (M : pM) : Cond := match M.2.2.2.2.2.2.1 with
  | [] => .code M.2.1 M.2.2.1 M.2.2.2.1 M.2.2.2.2.1
  | q :: r => .codeWith M.2.1 M.2.2.1 M.2.2.2.1 M.2.2.2.2.1 (q :: r)
def gm_ws (M : pM) : List Cond := gm_cw M :: gm_U
def gm_rm (d c1 s1 : Nat) : Room := { frames := d + 12, cells := c1, slots := s1, locals := 60 * d + 150 }
def gm_Pc (dC : Nat → ClassId) (dI : Nat → Nat → Nat) (cy : Nat → ClassId) (ad : Nat → Nat) (h : pH) (av : List Value) (sz : Nat) : Array Value → State → Prop := va_Pc (av.map (gm_v ad)) (fun U => U.heap.size = sz ∧ va_P (dC, dI) vwCl (gm_W cy ad 0 h) U.heap ∧ va_K (dC, dI) vwCl (gm_tys cy) U ∧ va_D (fun _ => True) (gm_W cy ad 0 h) ∧ gm_Ex (va_A (gm_W cy ad 0 h) sz) U)
def gm_Q (dC : Nat → ClassId) (dI : Nat → Nat → Nat) (cy : Nat → ClassId) (ad : Nat → Nat) (h h1 : pH) (v : Option Value) (sz : Nat) : Array Value → State → Outcome → State → Prop := fun _ st oc t =>
  (∃ ad1, gm_ag h.length ad ad1 h1 ∧ oc = .returned (v.map (gm_v ad1)) ∧ va_P (dC, dI) vwCl (gm_W cy ad1 0 h1) t.heap ∧ va_D (va_A (gm_W cy ad 0 h) sz) (gm_W cy ad1 0 h1)) ∧ va_F (va_A (gm_W cy ad 0 h) sz) st t
def gm_XC (E0 : String) (dC : Nat → ClassId) (dI : Nat → Nat → Nat) (cy : Nat → ClassId) (ad : Nat → Nat) (h h1 : pH) (sz : Nat) : String → State → State → Prop := fun E st t =>
  E = E0 ∧ va_P (dC, dI) vwCl (gm_W cy ad 0 h1) t.heap ∧ va_D (va_A (gm_W cy ad 0 h) sz) (gm_W cy ad 0 h1) ∧ va_F (va_A (gm_W cy ad 0 h) sz) st t
def gm_Met1 (l : Launch) (d : Nat) (M : pM) (av : List Value) (h : pH) (v : Option Value) (h1 : pH) (c1 s1 : Nat) : Prop := ∀ (dC : Nat → ClassId) (dI : Nat → Nat → Nat) (cy : Nat → ClassId) (ad : Nat → Nat) (sz : Nat),
  Met l M.2.1 (gm_ws M) (gm_rm d c1 s1) (gm_Pc dC dI cy ad h av sz) (gm_Q dC dI cy ad h h1 v sz) c1 s1 (va_A (gm_W cy ad 0 h) sz)
def gm_Met2 (l : Launch) (d : Nat) (M : pM) (av : List Value) (h : pH) (E : String) (h1 : pH) (c1 s1 : Nat) : Prop := ∀ (dC : Nat → ClassId) (dI : Nat → Nat → Nat) (cy : Nat → ClassId) (ad : Nat → Nat) (sz : Nat),
  vx_Met l M.2.1 (gm_ws M) (gm_rm d c1 s1) (gm_Pc dC dI cy ad h av sz) (fun _ _ _ _ => False) (gm_XC E dC dI cy ad h h1 sz) c1 s1 (va_A (gm_W cy ad 0 h) sz)
theorem gm_Pc_blind {dC : Nat → ClassId} {dI : Nat → Nat → Nat} {cy : Nat → ClassId} {ad : Nat → Nat} {h : pH} {av : List Value} {sz : Nat} : FrameBlind (gm_Pc dC dI cy ad h av sz) := by
  intro a U g mk q
  obtain ⟨q0, q1, qP, qK, qD, qE⟩ := q
  exact ⟨q0, q1, qP, va_K.moved (u := U) (U := U.calling g mk a) (Vm.Alike.refl U.vm) qK, qD, qE.blind g mk a⟩
section GM
variable {p : Program} {l : Launch} {e : Env} {R : Room} {s : State} {m : MethodId} {args : Array Value} {below : List Frame} {meth : Method} {c : Code} {Q : State → Prop} {dC : Nat → ClassId} {dI : Nat → Nat → Nat} {cy : Nat → ClassId} {A : Nat → Prop} {ad0 : Nat → Nat} {n0 nL : Nat}
variable {pc n : Nat} {ls : pL} {st : List Value} {h : pH} {cl sl : Nat} {cc : ByteArray}
def gm_nr : List Value → Bool
  | [] => true
  | .ref _ :: _ => false
  | _ :: r => gm_nr r
theorem gm_nr_v (ad : Nat → Nat) : ∀ {fs : List Value}, gm_nr fs = true → fs.map (gm_v ad) = fs
  | [], _ => rfl
  | v :: r, h => by
    cases v with
    | ref a => simp [gm_nr] at h
    | _ =>
      simp only [List.map_cons, gm_v]
      rw [gm_nr_v ad (fs := r) (by simpa [gm_nr] using h)]
theorem gm_up_ag {q n : Nat} {ad : Nat → Nat} (hn : n < 88888) : ∀ i, i < n ∨ i = 88888 → va_up ad n q i = ad i := by
  intro i hi
  have : i ≠ n := by omega
  simp [va_up, this]
theorem gm_ag.push {q : Nat} {ad : Nat → Nat} {x : pE} (h1 : gm_ag n0 ad0 ad h) (hn : h.length < 88888) : gm_ag n0 ad0 (va_up ad h.length q) (h ++ [x]) := by
  obtain ⟨a1, a2, a3, a4⟩ := h1
  refine ⟨by simp; omega, fun hz => by simp at hz; omega, fun i hi => ?_, ?_⟩
  · rw [gm_up_ag hn i (Or.inl (by omega)), a3 i hi]
  · rw [gm_up_ag hn 88888 (Or.inr rfl), a4]
/-- a cell has come: the world is the list with it behind -/
theorem gm_grow {x : pE} {pc2 : Nat} {r : List Value} {q c1 s1 : Nat} {H1 : Heap} {locs : List Loc} {lsA : Array Slot} {ad : Nat → Nat} (h0 : gm_G p l e R s m args below meth c Q dC dI cy A ad0 n0 nL pc2 ls (.ref h.length :: r) (h ++ [x]) c1 s1) (hf : (gm_frs h.length r && (gm_frl h.length ls && gm_frh h.length h)) = true) (hn : h.length < 88888)
    (hag : gm_ag n0 ad0 ad h) (hL : gm_hL lsA nL ad ls) (hx1 : gm_e cy (va_up ad h.length q) x = gm_e cy ad x)
    (hP : va_P (dC, dI) vwCl (gm_W cy ad 0 h ++ [(q, gm_e cy ad x)]) H1) (hD : va_D A (gm_W cy ad 0 h ++ [(q, gm_e cy ad x)])) (hS : va_S A s.heap H1 locs) : W p l e R s m args below meth c H1 locs c1 s1 Q (F0 m pc2 lsA (.ref q :: r.map (gm_v ad))) := by
  simp only [Bool.and_eq_true] at hf
  obtain ⟨f1, f2, f3⟩ := hf
  have hup := gm_up_ag (q := q) (ad := ad) hn
  have he : gm_W cy (va_up ad h.length q) 0 (h ++ [x]) = gm_W cy ad 0 h ++ [(q, gm_e cy ad x)] := by
    rw [gm_W_app, gm_frh_W hup (by omega) f3, hx1]
    simp [va_up]
  have hk := h0.2 (va_up ad h.length q) H1 locs lsA (hag.push hn) (by rw [he]; exact hP) (by rw [he]; exact hD) hS (hL.moved hup f2)
  have hst : (Value.ref h.length :: r).map (gm_v (va_up ad h.length q)) = .ref q :: r.map (gm_v ad) := by
    simp only [List.map_cons, gm_frs_v hup f1]
    simp [gm_v, va_up]
  rw [hst] at hk
  exact hk
theorem gm_s_new {own : String} {k : Nat} {q : Nat × List Value} (hx : p.tables.exec = Jvm.exec) (hb : c.code = cc) (hown : s.vm.findClass own = some m.cls) (hts : ∀ w ∈ gm_U, w.before args s = true) (hcu : ∀ (ci : Nat) (r : vw_C), vwCl[ci]? = some r → ∀ w ∈ u_ws r.1 r.2.1 r.2.2, w ∈ gm_U) (hK : va_K (dC, dI) vwCl (gm_tys cy) s) (hA : ∀ q, s.heap.size ≤ q → A q)
    (hN : ∃ r : vw_C, vwCl[q.1]? = some r ∧ q.2.length = r.2.2 ∧ gm_nr q.2 = true ∧ Cond.classLink own k r.1 ∈ gm_U ∧ Cond.instantiable r.1 r.2.2 ∈ gm_U ∧ Cond.initialized r.1 ∈ gm_U ∧ ∀ j, j < r.2.2 → defaultValue (gm_tyf q.1 j) = vp_V q.2 j)
    (hd : decode cc pc = .ok (.new k, 3)) (hf : (gm_frs h.length st && (gm_frl h.length ls && gm_frh h.length h) && (gm_frs h.length q.2 && Nat.blt h.length 88888)) = true) (h0 : gm_G p l e R s m args below meth c Q dC dI cy A ad0 n0 nL (pc + 3) ls (.ref h.length :: st) (h ++ [.inr q]) (cl + 1) (sl + q.2.length)) : gm_G p l e R s m args below meth c Q dC dI cy A ad0 n0 nL pc ls st h cl sl := by
  obtain ⟨r, h1, h2, h3, h4, h5, h6, h7⟩ := hN
  have hbd := h0.1
  refine ⟨⟨by omega, by omega⟩, fun ad H locs lsA hag hP hD hS hL => ?_⟩
  have hf2 := Bool.and_eq_true_iff.mp hf
  have hn : h.length < 88888 := Nat.blt_eq.mp (Bool.and_eq_true_iff.mp hf2.2).2
  refine va_new (ci := q.1) (fs := q.2) (C := r.1) (T := r.2.1) (N := r.2.2) (Ts := gm_U) hx hb hts (hcu q.1 r h1) (gm_tyf q.1) (gm_cl_ty q.1 r h1).1 hown (hts _ h4) (hts _ h5) (hts _ h6) hK hP hD hS hA h1 h7 hbd.1 (by rw [← h2]; exact hbd.2) hd (fun a H1 hP1 hD1 hS1 => ?_)
  have he : gm_e cy ad (.inr q) = .inr (q.1, q.2) := by simp [gm_e, gm_nr_v ad h3]
  have he2 : gm_e cy (va_up ad h.length a) (.inr q) = gm_e cy ad (.inr q) := by simp [gm_e, gm_nr_v _ h3]
  rw [← h2]
  exact gm_grow h0 hf2.1 hn hag hL he2 (by rw [he]; exact hP1) (by rw [he]; exact hD1) hS1
theorem gm_s_newarray {t : ArrayType} {x : Int32} {r : List Value} {E : pE} (hx : p.tables.exec = Jvm.exec) (hb : c.code = cc) (hts : ∀ w ∈ gm_U, w.before args s = true) (hcw : Cond.arrayClass (newarray.typeOf t) ∈ gm_U) (hK : va_K (dC, dI) vwCl (gm_tys cy) s) (hA : ∀ q, s.heap.size ≤ q → A q)
    (hd : decode cc pc = .ok (.newarray t, 2)) (hneg : ¬ x < 0) (hle : Nat.ble x.toNatClampNeg 100000 = true) (hf : (gm_frs h.length r && (gm_frl h.length ls && gm_frh h.length h) && Nat.blt h.length 88888) = true) (hz : gm_zero t x.toNatClampNeg = some E) (h0 : gm_G p l e R s m args below meth c Q dC dI cy A ad0 n0 nL (pc + 2) ls (.ref h.length :: r) (h ++ [E]) (cl + 1) (sl + x.toNatClampNeg)) : gm_G p l e R s m args below meth c Q dC dI cy A ad0 n0 nL pc ls (.int x :: r) h cl sl := by
  have hbd := h0.1
  refine ⟨⟨by omega, by omega⟩, fun ad H locs lsA hag hP hD hS hL => ?_⟩
  have hf2 := Bool.and_eq_true_iff.mp hf
  have hn : h.length < 88888 := Nat.blt_eq.mp hf2.2
  have hle2 : x.toNatClampNeg ≤ 100000 := Nat.le_of_ble_eq_true hle
  have go : ∀ (tg : Nat) (ty : FieldType) (a0 : vp_A), newarray.typeOf t = ty → (gm_tys cy)[tg]? = some (cy tg, ty) → E = .inl (tg, a0) → (∀ cA : ClassId, vp_cell cA a0 = arrV cA x.toNatClampNeg (fun _ => defaultValue ty)) → x.toNatClampNeg * componentBytes ty ≤ 536870912 → (∀ (u v : ClassId), va_RA s u ty → va_RA s v ty → u = v) → W p l e R s m args below meth c H locs cl sl Q (F0 m pc lsA ((Value.int x :: r).map (gm_v ad))) := by
    intro tg ty a0 h1 h2 h3 h4 h5 h6
    subst h3
    refine va_newa (ty := ty) (a0 := a0) (N' := x.toNatClampNeg) hx hb (hts _ hcw) h1 hK hP hD hS hA h4 hneg rfl h5 hbd.1 hbd.2 hd (fun a cA H1 hK1 hP1 hD1 hS1 => ?_)
    have hcA : cA = cy tg := h6 cA (cy tg) (hK1.2 (gm_tys cy).length (cA, ty) (by simp)).2 (hK.2 tg (cy tg, ty) h2).2
    subst hcA
    exact gm_grow (x := .inl (tg, a0)) h0 hf2.1 hn hag hL rfl hP1 hD1 hS1
  have uniq : ∀ (ty : FieldType), (∀ u, va_RA s u ty → s.vm.findClass ("[" ++ ty.toString) = some u) → ∀ (u v : ClassId), va_RA s u ty → va_RA s v ty → u = v := fun ty hy u v hu hv => Option.some.inj ((hy u hu).symm.trans (hy v hv))
  cases t with
  | int => cases hz; exact go 0 .int _ rfl rfl rfl (fun cA => rfl) (by simp [componentBytes]; omega) (uniq _ fun u hu => hu)
  | char => cases hz; exact go 1 .char _ rfl rfl rfl (fun cA => rfl) (by simp [componentBytes]; omega) (uniq _ fun u hu => hu)
  | boolean => cases hz; exact go 2 .boolean _ rfl rfl rfl (fun cA => rfl) (by simp [componentBytes]; omega) (uniq _ fun u hu => hu)
  | long => cases hz; exact go 3 .long _ rfl rfl rfl (fun cA => rfl) (by simp [componentBytes]; omega) (uniq _ fun u hu => hu)
  | double => cases hz; exact go 4 .double _ rfl rfl rfl (fun cA => rfl) (by simp [componentBytes]; omega) (uniq _ fun u hu => hu)
  | _ => cases hz
/-- q thrown over this method's frame -/
def gm_GX (p : Program) (l : Launch) (e : Env) (R : Room) (s : State) (m : MethodId) (args : Array Value) (below : List Frame) (meth : Method) (c : Code) (Q : State → Prop) (dC : Nat → ClassId) (dI : Nat → Nat → Nat) (cy : Nat → ClassId) (A : Nat → Prop) (ad0 : Nat → Nat) (n0 nL : Nat) (pc : Nat) (ls : pL) (E : String) (h : pH) (cl sl : Nat) : Prop :=
  (cl ≤ R.cells ∧ sl ≤ R.slots) ∧ ∀ (ad : Nat → Nat) (H : Heap) (locs : List Loc) (lsA : Array Slot) (rest : List Value) (q : Addr) (ce : Cell), gm_ag n0 ad0 ad h → va_P (dC, dI) vwCl (gm_W cy ad 0 h) H → va_D A (gm_W cy ad 0 h) → va_S A s.heap H locs → gm_hL lsA nL ad ls → H[q]? = some ce → ce.vm = .none → s.vm.findClass E = some ce.cls → vx_W p l e R s m args below meth c H locs cl sl Q (F0 m pc lsA rest) q
/-- behind a call that returns -/
theorem gm_after {v : Option Value} {h1 : pH} {c1 s1 : Nat} {ad : Nat → Nat} {H : Heap} {locs : List Loc} {lsA : Array Slot} {rest st0 : List Value} {aA : Array Value}
    (hr : va_Run p l e R s m args below meth c H locs cl sl c1 s1 (F0 m pc lsA st0) (rest.map (gm_v ad)) (gm_Q dC dI cy ad h h1 v H.size aA) (va_A (gm_W cy ad 0 h) H.size))
    (hA : ∀ q, s.heap.size ≤ q → A q) (hag : gm_ag n0 ad0 ad h) (hD : va_D A (gm_W cy ad 0 h)) (hS : va_S A s.heap H locs) (hL : gm_hL lsA nL ad ls)
    (hG : gm_G p l e R s m args below meth c Q dC dI cy A ad0 n0 nL (pc + 3) ls (gm_vl v rest) h1 (cl + c1) (sl + s1)) (hkeep : h1.length = h.length ∨ (gm_frs h.length rest && gm_frl h.length ls) = true) : W p l e R s m args below meth c H locs cl sl Q (F0 m pc lsA st0) := by
  intro T hT X
  obtain ⟨v2, st₀, t, T', L, e0, X', hL2, e1, e2, ⟨⟨ad1, g1, hv, hP1, hD1⟩, hF⟩, stp⟩ := hr T hT X
  have hA1 : ∀ q, va_A (gm_W cy ad 0 h) H.size q → A q := va_free hD hS hA (List.range (gm_W cy ad 0 h).length) (by
    apply List.ext_getElem?
    intro i
    simp only [List.getElem?_map]
    by_cases hi : i < (gm_W cy ad 0 h).length
    · simp [List.getElem?_range hi, hi]
    · simp only [Nat.not_lt] at hi
      rw [List.getElem?_eq_none (by simpa using hi), List.getElem?_eq_none hi]
      rfl)
  obtain ⟨k1, k2, k3⟩ := vx_keep (A1 := va_A (gm_W cy ad 0 h) H.size) e0 e1 hS (fun q _ hq => hA1 q hq) hA1 hL2 hF
  cases hv
  have key : (∀ i : Nat, i < ls.length → True) ∧ gm_hL lsA nL ad1 ls ∧ rest.map (gm_v ad1) = rest.map (gm_v ad) := by
    refine ⟨fun _ _ => trivial, ?_⟩
    rcases hkeep with hk | hk
    · rw [g1.2.1 hk]
      exact ⟨hL, rfl⟩
    · have hk2 := Bool.and_eq_true_iff.mp hk
      have hup : ∀ i, i < h.length ∨ i = 88888 → ad1 i = ad i := fun i hi => hi.elim (fun z => g1.2.2.1 i z) (fun z => by rw [z]; exact g1.2.2.2)
      exact ⟨hL.moved hup hk2.2, gm_frs_v hup hk2.1⟩
  have hag1 : gm_ag n0 ad0 ad1 h1 := by
    obtain ⟨a1, a2, a3, a4⟩ := hag
    obtain ⟨b1, b2, b3, b4⟩ := g1
    refine ⟨by omega, fun hz => ?_, fun i hi => ?_, by rw [b4, a4]⟩
    · rw [b2 (by omega), a2 (by omega)]
    · rw [b3 i (by omega), a3 i hi]
  have hk := hG.2 ad1 T'.heap (locs ++ L) lsA hag1 (by rw [e1]; exact hP1) (hD1.weaken (fun k q _ hq => hA1 q.1 hq)) k3 key.2.1
  have hst : (gm_vl v rest).map (gm_v ad1) = (v.map (gm_v ad1)).toList ++ rest.map (gm_v ad) := by
    rw [← key.2.2]
    cases v <;> rfl
  rw [hst] at hk
  obtain ⟨t2, a1, b1⟩ := hk T' rfl X'
  exact ⟨t2, stp t2 a1, b1⟩
/-- behind a call that throws -/
theorem gm_afterX {E : String} {h1 : pH} {c1 s1 : Nat} {ad : Nat → Nat} {H : Heap} {locs : List Loc} {lsA : Array Slot} {rest st0 : List Value} {aA : Array Value}
    (hr : vx_Run p l e R s m args below meth c H locs cl sl c1 s1 (F0 m pc lsA st0) rest ((fun _ _ _ _ => False : Array Value → State → Outcome → State → Prop) aA) (gm_XC E dC dI cy ad h h1 H.size) (va_A (gm_W cy ad 0 h) H.size))
    (hA : ∀ q, s.heap.size ≤ q → A q) (hlen : h1.length = h.length) (hag : gm_ag n0 ad0 ad h) (hD : va_D A (gm_W cy ad 0 h)) (hS : va_S A s.heap H locs) (hL : gm_hL lsA nL ad ls)
    (hG : gm_GX p l e R s m args below meth c Q dC dI cy A ad0 n0 nL pc ls E h1 (cl + c1) (sl + s1)) : W p l e R s m args below meth c H locs cl sl Q (F0 m pc lsA st0) := by
  intro T hT X
  rcases hr T hT X with ⟨v, st₀, t, T', L, e0, X', hL2, e1, e2, hF, stp⟩ | ⟨q, st₀, t, T', L, E2, ce, e0, X', hL2, e1, e2, ⟨rfl, hP1, hD1, hF⟩, hce, hcv, hcl, stp⟩
  · exact hF.elim
  · have hA1 : ∀ q, va_A (gm_W cy ad 0 h) H.size q → A q := va_free hD hS hA (List.range (gm_W cy ad 0 h).length) (by
      apply List.ext_getElem?
      intro i
      simp only [List.getElem?_map]
      by_cases hi : i < (gm_W cy ad 0 h).length
      · simp [List.getElem?_range hi, hi]
      · simp only [Nat.not_lt] at hi
        rw [List.getElem?_eq_none (by simpa using hi), List.getElem?_eq_none hi]
        rfl)
    obtain ⟨k1, k2, k3⟩ := vx_keep (A1 := va_A (gm_W cy ad 0 h) H.size) e0 e1 hS (fun q _ hq => hA1 q hq) hA1 hL2 hF
    have hag1 : gm_ag n0 ad0 ad h1 := by
      unfold gm_ag
      rw [hlen]
      exact hag
    obtain ⟨t2, a1, b1⟩ := hG.2 ad T'.heap (locs ++ L) lsA rest q ce hag1 (by rw [e1]; exact hP1) (hD1.weaken (fun k q _ hq => hA1 q.1 hq)) k3 hL (by rw [e1]; exact hce) hcv hcl T' rfl X'
    exact ⟨t2, stp.trans a1, b1⟩
end GM
end
section
/-! SOUNDNESS, 4: calls, and the whole method -/
theorem gm_pop_of : ∀ {n : Nat} {acc st : List Value} {z : List Value × List Value}, gm_pop n acc st = some z → ∃ as : List Value, z.1 = as ++ acc ∧ as.length = n ∧ st = as.reverse ++ z.2
  | 0, acc, st, z, h => by
    simp only [gm_pop, Option.some.injEq] at h
    subst h
    exact ⟨[], rfl, rfl, rfl⟩
  | n + 1, acc, [], z, h => by simp [gm_pop] at h
  | n + 1, acc, v :: st, z, h => by
    simp only [gm_pop] at h
    obtain ⟨as, h1, h2, h3⟩ := gm_pop_of h
    refine ⟨as ++ [v], by rw [h1]; simp, by simp [h2], by rw [h3]; simp⟩
def gm_pd (y : MethodName) : Option Nat := (parseMethodDescriptor y.desc).map (fun d => d.parameters.length)
/-- what the tables say of a method -/
def gm_Mok (M : pM) : Prop := gm_cw M ∈ gm_U ∧ plainFor M.2.1 = true ∧ M.2.1.cls ≠ "java/lang/invoke/MethodHandle" ∧ M.2.1.cls ≠ "java/lang/invoke/VarHandle" ∧ M.2.2.2.1 ≤ 41 ∧ Cond.initialized M.2.1.cls ∈ gm_U ∧ M.1 = M.2.1.cls
/-- what the tables say of a call, by the place of the constant pool -/
def gm_mok (MT : Nat → Option pM) (own : String) (k : Nat) (q : Nat × Nat) : Prop :=
  (q.1 = 0 ∧ q.2 = 200 ∧ Cond.methodLink own k objectInit ∈ gm_U ∧ Cond.instanceMethod objectInit ∈ gm_U ∧ Cond.code objectInit ⟨#[0xb1]⟩ 1 none ∈ gm_U) ∨
  (∃ M2 : pM, MT q.1 = some M2 ∧ q.1 ≠ 0 ∧ (Cond.methodLink own k M2.2.1 ∈ gm_U ∨ ((50 ≤ q.2 ∧ q.2 < 100 ∨ 200 ≤ q.2) ∧ (own, k, M2.2.1) ∈ gm_nests)) ∧
    ((50 ≤ q.2 ∧ q.2 < 100 ∧ (own, k, M2.2.1) ∈ gm_nests ∧ M2.2.1.name ≠ "<init>" ∧ Cond.static M2.2.1 ∈ gm_U ∧ gm_pd M2.2.1 = some (q.2 - 50) ∧ M2.2.2.2.2.2.2.1 = []) ∨ (q.2 < 50 ∧ M2.2.1.name ≠ "<init>" ∧ Cond.static M2.2.1 ∈ gm_U ∧ gm_pd M2.2.1 = some q.2) ∨
     (100 ≤ q.2 ∧ q.2 < 200 ∧ M2.2.1.name ≠ "<init>" ∧ Cond.instanceMethod M2.2.1 ∈ gm_U ∧ Cond.selects M2.2.1.cls M2.2.1 M2.2.1 ∈ gm_U ∧ gm_pd M2.2.1 = some (q.2 - 100) ∧ (∃ (ci : Nat) (r : vw_C), q.1 / 1000 = ci + 1 ∧ vwCl[ci]? = some r ∧ r.1 = M2.2.1.cls) ∧ M2.2.2.2.2.2.2.1 = []) ∨
     (200 ≤ q.2 ∧ Cond.instanceMethod M2.2.1 ∈ gm_U ∧ M2.2.1.name = "<init>" ∧ gm_pd M2.2.1 = some (q.2 - 200) ∧ M2.2.2.2.2.1 = none ∧ M2.2.2.2.2.2.2.1 = [])))
section GM
variable {p : Program} {l : Launch} {e : Env} {R : Room} {s : State} {m : MethodId} {args : Array Value} {below : List Frame} {meth : Method} {c : Code} {Q : State → Prop} {dC : Nat → ClassId} {dI : Nat → Nat → Nat} {cy : Nat → ClassId} {A : Nat → Prop} {ad0 : Nat → Nat} {n0 nL : Nat}
variable {pc n : Nat} {ls : pL} {st : List Value} {h : pH} {cl sl : Nat} {cc : ByteArray}
theorem gm_free (hA : ∀ q, s.heap.size ≤ q → A q) {ad : Nat → Nat} {H : Heap} {locs : List Loc} (hD : va_D A (gm_W cy ad 0 h)) (hS : va_S A s.heap H locs) : ∀ q, va_A (gm_W cy ad 0 h) H.size q → A q :=
  va_free hD hS hA (List.range (gm_W cy ad 0 h).length) (by
    apply List.ext_getElem?
    intro i
    simp only [List.getElem?_map]
    by_cases hi : i < (gm_W cy ad 0 h).length
    · simp [List.getElem?_range hi, hi]
    · simp only [Nat.not_lt] at hi
      rw [List.getElem?_eq_none (by simpa using hi), List.getElem?_eq_none hi]
      rfl)
theorem gm_pre (hK : va_K (dC, dI) vwCl (gm_tys cy) s) (hA : ∀ q, s.heap.size ≤ q → A q) (hEx : gm_Ex A s) {ad : Nat → Nat} {H : Heap} {locs : List Loc} {av : List Value} (hP : va_P (dC, dI) vwCl (gm_W cy ad 0 h) H) (hD : va_D A (gm_W cy ad 0 h)) (hS : va_S A s.heap H locs) :
    ∀ U : State, U.heap = H → s.WarmedH U.vm → gm_Pc dC dI cy ad h av H.size (av.map (gm_v ad)).toArray U :=
  fun U hU hW => ⟨rfl, by rw [hU], by rw [hU]; exact hP, va_K.moved hW.alike hK, hD.weaken (fun _ _ _ _ => trivial), hEx.next hS hW hU (gm_free hA hD hS)⟩
theorem gm_ws_cons (M : pM) (hn : M.2.2.2.2.2.2.1 = []) : gm_ws M = Cond.code M.2.1 M.2.2.1 M.2.2.2.1 M.2.2.2.2.1 :: gm_U := by
  unfold gm_ws gm_cw
  rw [hn]
theorem gm_ws_consW (M : pM) {q : Nat × Nat × Nat × Nat} {r : List (Nat × Nat × Nat × Nat)} (hn : M.2.2.2.2.2.2.1 = q :: r) : gm_ws M = Cond.codeWith M.2.1 M.2.2.1 M.2.2.2.1 M.2.2.2.2.1 (q :: r) :: gm_U := by
  unfold gm_ws gm_cw
  rw [hn]
theorem gm_ws_in {M : pM} (hM : gm_Mok M) : ∀ w ∈ gm_ws M, w ∈ gm_U := fun w hw => (List.mem_cons.mp hw).elim (fun z => z ▸ hM.1) id
theorem gm_s_static {own : String} {k : Nat} {q : Nat × Nat} {M2 : pM} {d : Nat} {z : List Value × List Value} {v : Option Value} {h1 : pH} {c1 s1 : Nat} (hx : p.tables.exec = Jvm.exec) (hb : c.code = cc) (hml : c.maxLocals = nL) (hown : s.vm.findClass own = some m.cls) (hts : ∀ w ∈ gm_U, w.before args s = true) (hK : va_K (dC, dI) vwCl (gm_tys cy) s) (hA : ∀ q, s.heap.size ≤ q → A q) (hEx : gm_Ex A s) (hR : d + 13 ≤ R.frames ∧ 60 * d + 210 ≤ R.locals)
    (hM : gm_Mok M2) (hl : Cond.methodLink own k M2.2.1 ∈ gm_U) (hstt : Cond.static M2.2.1 ∈ gm_U) (hpd : gm_pd M2.2.1 = some q.2)
    (hMet : gm_Met1 l d M2 z.1 h v h1 c1 s1) (hlen : h1.length = h.length) (hd : decode cc pc = .ok (.invokestatic k, 3)) (hpop : gm_pop q.2 [] st = some z) (hsum : Nat.ble (gm_sum z.2) 8 = true) (hG : gm_G p l e R s m args below meth c Q dC dI cy A ad0 n0 nL (pc + 3) ls (gm_vl v z.2) h1 (cl + c1) (sl + s1)) : gm_G p l e R s m args below meth c Q dC dI cy A ad0 n0 nL pc ls st h cl sl := by
  have hbd := hG.1
  obtain ⟨as, e1, e2, e3⟩ := gm_pop_of hpop
  rw [List.append_nil] at e1
  refine ⟨⟨by omega, by omega⟩, fun ad H locs lsA hag hP hD hS hL => ?_⟩
  have hpre := gm_pre (av := z.1) hK hA hEx hP hD hS
  have hin : ∀ w ∈ va_wsS own k M2.2.1 (gm_ws M2), w ∈ gm_U := by
    intro w hw
    unfold va_wsS at hw
    rcases List.mem_append.mp hw with h9 | h9
    · simp only [List.mem_cons, List.not_mem_nil, or_false] at h9
      rcases h9 with rfl | rfl | rfl
      · exact hl
      · exact hstt
      · exact hM.2.2.2.2.2.1
    · exact gm_ws_in hM w h9
  have hstk : st.map (gm_v ad) = (z.1.map (gm_v ad)).reverse ++ z.2.map (gm_v ad) := by rw [e3, e1]; simp
  have hnn : (z.1.map (gm_v ad)).length = q.2 := by rw [List.length_map, e1, e2]
  have hrm : (gm_rm d c1 s1).frames + 1 ≤ R.frames ∧ 8 + (M2.2.2.2.1 + 11) + (gm_rm d c1 s1).locals ≤ R.locals := by
    have := hM.2.2.2.2.1
    exact ⟨by show d + 12 + 1 ≤ R.frames; omega, by show 8 + (M2.2.2.2.1 + 11) + (60 * d + 150) ≤ R.locals; omega⟩
  have hroom : ((z.2.map (gm_v ad)).map fun v => v.category).sum ≤ 8 := by rw [gm_v_sum]; exact Nat.le_of_ble_eq_true hsum
  refine gm_after (rest := z.2) (v := v) (h1 := h1) (c1 := c1) (s1 := s1) (aA := (z.1.map (gm_v ad)).toArray) ?_ hA hag hD hS hL hG (Or.inl hlen)
  cases hh : M2.2.2.2.2.2.2.1 with
  | nil =>
    exact va_runS (As := z.1.map (gm_v ad)) (rest := z.2.map (gm_v ad)) ⟨hx, hb, hml, hown, hts⟩ (hMet dC dI cy ad H.size) (va_cwS q.2 hts (gm_U_good hin) (gm_ws_cons M2 hh) rfl rfl ⟨hM.2.2.1, hM.2.2.2.1, hpd⟩ hrm) ⟨gm_Pc_blind, hpre⟩ rfl hnn hL.1 hstk (lv_room hroom) hd hbd
  | cons a r =>
    exact vx_runSW (As := z.1.map (gm_v ad)) (rest := z.2.map (gm_v ad)) ⟨hx, hb, hml, hown, hts⟩ (hMet dC dI cy ad H.size) (vx_cwSW q.2 hts (gm_U_good hin) (gm_ws_consW M2 hh) rfl rfl ⟨hM.2.2.1, hM.2.2.2.1, hpd⟩ hrm) ⟨gm_Pc_blind, hpre⟩ rfl hnn hL.1 hstk (lv_room hroom) hd hbd
theorem gm_s_staticN {own : String} {k : Nat} {q : Nat × Nat} {M2 : pM} {d : Nat} {z : List Value × List Value} {v : Option Value} {h1 : pH} {c1 s1 : Nat} (hx : p.tables.exec = Jvm.exec) (hb : c.code = cc) (hml : c.maxLocals = nL) (hown : s.vm.findClass own = some m.cls) (hts : ∀ w ∈ gm_U, w.before args s = true) (hK : va_K (dC, dI) vwCl (gm_tys cy) s) (hA : ∀ q, s.heap.size ≤ q → A q) (hEx : gm_Ex A s) (hR : d + 13 ≤ R.frames ∧ 60 * d + 210 ≤ R.locals)
    (hM : gm_Mok M2) (hl : (own, k, M2.2.1) ∈ gm_nests) (hstt : Cond.static M2.2.1 ∈ gm_U) (hpd : gm_pd M2.2.1 = some (q.2 - 50)) (hh : M2.2.2.2.2.2.2.1 = [])
    (hMet : gm_Met1 l d M2 z.1 h v h1 c1 s1) (hlen : h1.length = h.length) (hd : decode cc pc = .ok (.invokestatic k, 3)) (hpop : gm_pop (q.2 - 50) [] st = some z) (hsum : Nat.ble (gm_sum z.2) 8 = true) (hG : gm_G p l e R s m args below meth c Q dC dI cy A ad0 n0 nL (pc + 3) ls (gm_vl v z.2) h1 (cl + c1) (sl + s1)) : gm_G p l e R s m args below meth c Q dC dI cy A ad0 n0 nL pc ls st h cl sl := by
  have hbd := hG.1
  obtain ⟨as, e1, e2, e3⟩ := gm_pop_of hpop
  rw [List.append_nil] at e1
  refine ⟨⟨by omega, by omega⟩, fun ad H locs lsA hag hP hD hS hL => ?_⟩
  have hpre := gm_pre (av := z.1) hK hA hEx hP hD hS
  have hstk : st.map (gm_v ad) = (z.1.map (gm_v ad)).reverse ++ z.2.map (gm_v ad) := by rw [e3, e1]; simp
  have hnn : (z.1.map (gm_v ad)).length = q.2 - 50 := by rw [List.length_map, e1, e2]
  have hrm : (gm_rm d c1 s1).frames + 1 ≤ R.frames ∧ 8 + (M2.2.2.2.1 + 11) + (gm_rm d c1 s1).locals ≤ R.locals := by
    have := hM.2.2.2.2.1
    exact ⟨by show d + 12 + 1 ≤ R.frames; omega, by show 8 + (M2.2.2.2.1 + 11) + (60 * d + 150) ≤ R.locals; omega⟩
  have hroom : ((z.2.map (gm_v ad)).map fun v => v.category).sum ≤ 8 := by rw [gm_v_sum]; exact Nat.le_of_ble_eq_true hsum
  refine gm_after (rest := z.2) (v := v) (h1 := h1) (c1 := c1) (s1 := s1) (aA := (z.1.map (gm_v ad)).toArray) ?_ hA hag hD hS hL hG (Or.inl hlen)
  exact va_runSN (As := z.1.map (gm_v ad)) (rest := z.2.map (gm_v ad)) ⟨hx, hb, hml, hown, hts⟩ (hMet dC dI cy ad H.size) ⟨va_cnB (q.2 - 50) hts (gm_U_good (gm_ws_in hM)) (gm_ws_cons M2 hh) rfl rfl (hEx.2.2.2.2.2 _ hl) (hts _ hM.2.2.2.2.2.1) ⟨hM.2.2.1, hM.2.2.2.1, hpd⟩ hrm, hts _ hstt, trivial⟩ ⟨gm_Pc_blind, hpre⟩ rfl hnn hL.1 hstk (lv_room hroom) hd hbd
theorem gm_s_staticX {own : String} {k : Nat} {q : Nat × Nat} {M2 : pM} {d : Nat} {z : List Value × List Value} {E : String} {h1 : pH} {c1 s1 : Nat} (hx : p.tables.exec = Jvm.exec) (hb : c.code = cc) (hml : c.maxLocals = nL) (hown : s.vm.findClass own = some m.cls) (hts : ∀ w ∈ gm_U, w.before args s = true) (hK : va_K (dC, dI) vwCl (gm_tys cy) s) (hA : ∀ q, s.heap.size ≤ q → A q) (hEx : gm_Ex A s) (hR : d + 13 ≤ R.frames ∧ 60 * d + 210 ≤ R.locals)
    (hM : gm_Mok M2) (hl : Cond.methodLink own k M2.2.1 ∈ gm_U) (hstt : Cond.static M2.2.1 ∈ gm_U) (hpd : gm_pd M2.2.1 = some q.2) (hh : M2.2.2.2.2.2.2.1 = [])
    (hMet : gm_Met2 l d M2 z.1 h E h1 c1 s1) (hlen : h1.length = h.length) (hd : decode cc pc = .ok (.invokestatic k, 3)) (hpop : gm_pop q.2 [] st = some z) (hsum : Nat.ble (gm_sum z.2) 8 = true) (hG : gm_GX p l e R s m args below meth c Q dC dI cy A ad0 n0 nL pc ls E h1 (cl + c1) (sl + s1)) : gm_G p l e R s m args below meth c Q dC dI cy A ad0 n0 nL pc ls st h cl sl := by
  have hbd := hG.1
  obtain ⟨as, e1, e2, e3⟩ := gm_pop_of hpop
  rw [List.append_nil] at e1
  refine ⟨⟨by omega, by omega⟩, fun ad H locs lsA hag hP hD hS hL => ?_⟩
  have hpre := gm_pre (av := z.1) hK hA hEx hP hD hS
  have hin : ∀ w ∈ va_wsS own k M2.2.1 (gm_ws M2), w ∈ gm_U := by
    intro w hw
    unfold va_wsS at hw
    rcases List.mem_append.mp hw with h9 | h9
    · simp only [List.mem_cons, List.not_mem_nil, or_false] at h9
      rcases h9 with rfl | rfl | rfl
      · exact hl
      · exact hstt
      · exact hM.2.2.2.2.2.1
    · exact gm_ws_in hM w h9
  have hstk : st.map (gm_v ad) = (z.1.map (gm_v ad)).reverse ++ z.2.map (gm_v ad) := by rw [e3, e1]; simp
  have hnn : (z.1.map (gm_v ad)).length = q.2 := by rw [List.length_map, e1, e2]
  have hrm : (gm_rm d c1 s1).frames + 1 ≤ R.frames ∧ 8 + (M2.2.2.2.1 + 11) + (gm_rm d c1 s1).locals ≤ R.locals := by
    have := hM.2.2.2.2.1
    exact ⟨by show d + 12 + 1 ≤ R.frames; omega, by show 8 + (M2.2.2.2.1 + 11) + (60 * d + 150) ≤ R.locals; omega⟩
  have hroom : ((z.2.map (gm_v ad)).map fun v => v.category).sum ≤ 8 := by rw [gm_v_sum]; exact Nat.le_of_ble_eq_true hsum
  refine gm_afterX (rest := z.2.map (gm_v ad)) (E := E) (h1 := h1) (c1 := c1) (s1 := s1) (aA := (z.1.map (gm_v ad)).toArray) ?_ hA hlen hag hD hS hL hG
  exact vx_runS (As := z.1.map (gm_v ad)) (rest := z.2.map (gm_v ad)) ⟨hx, hb, hml, hown, hts⟩ (hMet dC dI cy ad H.size) (va_cwS q.2 hts (gm_U_good hin) (gm_ws_cons M2 hh) rfl rfl ⟨hM.2.2.1, hM.2.2.2.1, hpd⟩ hrm) ⟨gm_Pc_blind, hpre⟩ rfl hnn hL.1 hstk (lv_room hroom) hd hbd

theorem gm_s_virtual {own : String} {k ci a : Nat} {q : Nat × Nat} {M2 : pM} {d : Nat} {z : List Value × List Value} {r : List Value} {fs : List Value} {rc : vw_C} {v : Option Value} {h1 : pH} {c1 s1 : Nat} (hx : p.tables.exec = Jvm.exec) (hb : c.code = cc) (hml : c.maxLocals = nL) (hown : s.vm.findClass own = some m.cls) (hts : ∀ w ∈ gm_U, w.before args s = true) (hK : va_K (dC, dI) vwCl (gm_tys cy) s) (hA : ∀ q, s.heap.size ≤ q → A q) (hEx : gm_Ex A s) (hR : d + 13 ≤ R.frames ∧ 60 * d + 210 ≤ R.locals)
    (hM : gm_Mok M2) (hl : Cond.methodLink own k M2.2.1 ∈ gm_U) (hins : Cond.instanceMethod M2.2.1 ∈ gm_U) (hsel : Cond.selects M2.2.1.cls M2.2.1 M2.2.1 ∈ gm_U) (hpd : gm_pd M2.2.1 = some (q.2 - 100)) (hh : M2.2.2.2.2.2.2.1 = []) (hrc : vwCl[ci]? = some rc) (hrn : rc.1 = M2.2.1.cls) (hcell : gm_nth h a = some (.inr (ci, fs)))
    (hMet : gm_Met1 l d M2 (.ref a :: z.1) h v h1 c1 s1) (hlen : h1.length = h.length) (hd : decode cc pc = .ok (.invokevirtual k, 3)) (hpop : gm_pop (q.2 - 100) [] st = some z) (hz : z.2 = .ref a :: r) (hsum : Nat.ble (gm_sum r) 8 = true) (hG : gm_G p l e R s m args below meth c Q dC dI cy A ad0 n0 nL (pc + 3) ls (gm_vl v r) h1 (cl + c1) (sl + s1)) : gm_G p l e R s m args below meth c Q dC dI cy A ad0 n0 nL pc ls st h cl sl := by
  have hbd := hG.1
  obtain ⟨as, e1, e2, e3⟩ := gm_pop_of hpop
  rw [List.append_nil] at e1
  refine ⟨⟨by omega, by omega⟩, fun ad H locs lsA hag hP hD hS hL => ?_⟩
  have hpre := gm_pre (av := .ref a :: z.1) hK hA hEx hP hD hS
  have hin : ∀ w ∈ wsV own k M2.2.1.cls M2.2.1 (gm_ws M2), w ∈ gm_U := by
    intro w hw
    unfold wsV at hw
    rcases List.mem_append.mp hw with h9 | h9
    · simp only [List.mem_cons, List.not_mem_nil, or_false] at h9
      rcases h9 with rfl | rfl | rfl | rfl
      · exact hl
      · exact hins
      · exact hsel
      · exact hM.2.2.2.2.2.1
    · exact gm_ws_in hM w h9
  have hstk : st.map (gm_v ad) = (z.1.map (gm_v ad)).reverse ++ .ref (ad a) :: r.map (gm_v ad) := by
    rw [e3, e1, hz]
    simp [gm_v]
  have hnn : (z.1.map (gm_v ad)).length = q.2 - 100 := by rw [List.length_map, e1, e2]
  have hrm : (gm_rm d c1 s1).frames + 1 ≤ R.frames ∧ 8 + (M2.2.2.2.1 + 11) + (gm_rm d c1 s1).locals ≤ R.locals := by
    have := hM.2.2.2.2.1
    exact ⟨by show d + 12 + 1 ≤ R.frames; omega, by show 8 + (M2.2.2.2.1 + 11) + (60 * d + 150) ≤ R.locals; omega⟩
  have hroom : ((r.map (gm_v ad)).map fun v => v.category).sum ≤ 8 := by rw [gm_v_sum]; exact Nat.le_of_ble_eq_true hsum
  have hrecv : ∃ cellB : Cell, H[ad a]? = some cellB ∧ cellB.vm.isStatics = false ∧ s.vm.findClass M2.2.1.cls = some cellB.cls := by
    rw [← hrn]
    exact va_recv hK hP hrc (gm_W_at hcell)
  refine gm_after (rest := r) (v := v) (h1 := h1) (c1 := c1) (s1 := s1) (aA := ((Value.ref a :: z.1).map (gm_v ad)).toArray) ?_ hA hag hD hS hL hG (Or.inl hlen)
  exact va_runV (As := z.1.map (gm_v ad)) (rest := r.map (gm_v ad)) (b := ad a) (C := M2.2.1.cls) ⟨hx, hb, hml, hown, hts⟩ (hMet dC dI cy ad H.size) (cwV (q.2 - 100) hts (gm_U_good hin) (gm_ws_cons M2 hh) rfl rfl ⟨rfl, hM.2.2.1, hM.2.2.2.1, hpd⟩ hrm) ⟨gm_Pc_blind, hrecv, hpre⟩ rfl hnn hL.1 hstk (lv_room hroom) hd hbd

theorem gm_s_virtualX {own : String} {k ci a : Nat} {q : Nat × Nat} {M2 : pM} {d : Nat} {z : List Value × List Value} {r : List Value} {fs : List Value} {rc : vw_C} {E : String} {h1 : pH} {c1 s1 : Nat} (hx : p.tables.exec = Jvm.exec) (hb : c.code = cc) (hml : c.maxLocals = nL) (hown : s.vm.findClass own = some m.cls) (hts : ∀ w ∈ gm_U, w.before args s = true) (hK : va_K (dC, dI) vwCl (gm_tys cy) s) (hA : ∀ q, s.heap.size ≤ q → A q) (hEx : gm_Ex A s) (hR : d + 13 ≤ R.frames ∧ 60 * d + 210 ≤ R.locals)
    (hM : gm_Mok M2) (hl : Cond.methodLink own k M2.2.1 ∈ gm_U) (hins : Cond.instanceMethod M2.2.1 ∈ gm_U) (hsel : Cond.selects M2.2.1.cls M2.2.1 M2.2.1 ∈ gm_U) (hpd : gm_pd M2.2.1 = some (q.2 - 100)) (hh : M2.2.2.2.2.2.2.1 = []) (hrc : vwCl[ci]? = some rc) (hrn : rc.1 = M2.2.1.cls) (hcell : gm_nth h a = some (.inr (ci, fs)))
    (hMet : gm_Met2 l d M2 (.ref a :: z.1) h E h1 c1 s1) (hlen : h1.length = h.length) (hd : decode cc pc = .ok (.invokevirtual k, 3)) (hpop : gm_pop (q.2 - 100) [] st = some z) (hz : z.2 = .ref a :: r) (hsum : Nat.ble (gm_sum r) 8 = true) (hG : gm_GX p l e R s m args below meth c Q dC dI cy A ad0 n0 nL pc ls E h1 (cl + c1) (sl + s1)) : gm_G p l e R s m args below meth c Q dC dI cy A ad0 n0 nL pc ls st h cl sl := by
  have hbd := hG.1
  obtain ⟨as, e1, e2, e3⟩ := gm_pop_of hpop
  rw [List.append_nil] at e1
  refine ⟨⟨by omega, by omega⟩, fun ad H locs lsA hag hP hD hS hL => ?_⟩
  have hpre := gm_pre (av := .ref a :: z.1) hK hA hEx hP hD hS
  have hin : ∀ w ∈ wsV own k M2.2.1.cls M2.2.1 (gm_ws M2), w ∈ gm_U := by
    intro w hw
    unfold wsV at hw
    rcases List.mem_append.mp hw with h9 | h9
    · simp only [List.mem_cons, List.not_mem_nil, or_false] at h9
      rcases h9 with rfl | rfl | rfl | rfl
      · exact hl
      · exact hins
      · exact hsel
      · exact hM.2.2.2.2.2.1
    · exact gm_ws_in hM w h9
  have hstk : st.map (gm_v ad) = (z.1.map (gm_v ad)).reverse ++ .ref (ad a) :: r.map (gm_v ad) := by
    rw [e3, e1, hz]
    simp [gm_v]
  have hnn : (z.1.map (gm_v ad)).length = q.2 - 100 := by rw [List.length_map, e1, e2]
  have hrm : (gm_rm d c1 s1).frames + 1 ≤ R.frames ∧ 8 + (M2.2.2.2.1 + 11) + (gm_rm d c1 s1).locals ≤ R.locals := by
    have := hM.2.2.2.2.1
    exact ⟨by show d + 12 + 1 ≤ R.frames; omega, by show 8 + (M2.2.2.2.1 + 11) + (60 * d + 150) ≤ R.locals; omega⟩
  have hroom : ((r.map (gm_v ad)).map fun v => v.category).sum ≤ 8 := by rw [gm_v_sum]; exact Nat.le_of_ble_eq_true hsum
  have hrecv : ∃ cellB : Cell, H[ad a]? = some cellB ∧ cellB.vm.isStatics = false ∧ s.vm.findClass M2.2.1.cls = some cellB.cls := by
    rw [← hrn]
    exact va_recv hK hP hrc (gm_W_at hcell)
  refine gm_afterX (rest := r.map (gm_v ad)) (E := E) (h1 := h1) (c1 := c1) (s1 := s1) (aA := ((Value.ref a :: z.1).map (gm_v ad)).toArray) ?_ hA hlen hag hD hS hL hG
  exact vx_runV (As := z.1.map (gm_v ad)) (rest := r.map (gm_v ad)) (b := ad a) (C := M2.2.1.cls) ⟨hx, hb, hml, hown, hts⟩ (hMet dC dI cy ad H.size) (cwV (q.2 - 100) hts (gm_U_good hin) (gm_ws_cons M2 hh) rfl rfl ⟨rfl, hM.2.2.1, hM.2.2.2.1, hpd⟩ hrm) ⟨gm_Pc_blind, hrecv, hpre⟩ rfl hnn hL.1 hstk (lv_room hroom) hd hbd

theorem gm_s_init {own : String} {k a : Nat} {q : Nat × Nat} {M2 : pM} {d : Nat} {z : List Value × List Value} {r : List Value} {h1 : pH} {c1 s1 : Nat} (hx : p.tables.exec = Jvm.exec) (hb : c.code = cc) (hml : c.maxLocals = nL) (hown : s.vm.findClass own = some m.cls) (hts : ∀ w ∈ gm_U, w.before args s = true) (hK : va_K (dC, dI) vwCl (gm_tys cy) s) (hA : ∀ q, s.heap.size ≤ q → A q) (hEx : gm_Ex A s) (hR : d + 13 ≤ R.frames ∧ 60 * d + 210 ≤ R.locals)
    (hM : gm_Mok M2) (hl : Cond.methodLink own k M2.2.1 ∈ gm_U ∨ (own, k, M2.2.1) ∈ gm_nests) (hins : Cond.instanceMethod M2.2.1 ∈ gm_U) (hname : M2.2.1.name = "<init>") (hpd : gm_pd M2.2.1 = some (q.2 - 200)) (hret : M2.2.2.2.2.1 = none) (hh : M2.2.2.2.2.2.2.1 = [])
    (hMet : gm_Met1 l d M2 (.ref a :: z.1) h none h1 c1 s1) (hd : decode cc pc = .ok (.invokespecial k, 3)) (hpop : gm_pop (q.2 - 200) [] st = some z) (hz : z.2 = .ref a :: r) (hsum : Nat.ble (gm_sum r) 6 = true) (hfr : (gm_frs h.length r && gm_frl h.length ls) = true) (hG : gm_G p l e R s m args below meth c Q dC dI cy A ad0 n0 nL (pc + 3) ls r h1 (cl + c1) (sl + s1)) : gm_G p l e R s m args below meth c Q dC dI cy A ad0 n0 nL pc ls st h cl sl := by
  have hbd := hG.1
  obtain ⟨as, e1, e2, e3⟩ := gm_pop_of hpop
  rw [List.append_nil] at e1
  refine ⟨⟨by omega, by omega⟩, fun ad H locs lsA hag hP hD hS hL => ?_⟩
  have hpre := gm_pre (av := .ref a :: z.1) hK hA hEx hP hD hS
  have hstk : st.map (gm_v ad) = (z.1.map (gm_v ad)).reverse ++ .ref (ad a) :: r.map (gm_v ad) := by
    rw [e3, e1, hz]
    simp [gm_v]
  have hnn : (z.1.map (gm_v ad)).length = q.2 - 200 := by rw [List.length_map, e1, e2]
  have hrm : (gm_rm d c1 s1).frames + 1 ≤ R.frames ∧ 8 + (M2.2.2.2.1 + 11) + (gm_rm d c1 s1).locals ≤ R.locals := by
    have := hM.2.2.2.2.1
    exact ⟨by show d + 12 + 1 ≤ R.frames; omega, by show 8 + (M2.2.2.2.1 + 11) + (60 * d + 150) ≤ R.locals; omega⟩
  have hroom : ((r.map (gm_v ad)).map fun v => v.category).sum ≤ 8 := by
    rw [gm_v_sum]
    have := Nat.le_of_ble_eq_true hsum
    omega
  refine gm_after (rest := r) (v := none) (h1 := h1) (c1 := c1) (s1 := s1) (aA := ((Value.ref a :: z.1).map (gm_v ad)).toArray) ?_ hA hag hD hS hL hG (Or.inr hfr)
  have hw : gm_ws M2 = Cond.code M2.2.1 M2.2.2.1 M2.2.2.2.1 none :: gm_U := by rw [gm_ws_cons M2 hh, hret]
  rcases hl with hl | hl
  · exact va_runI (As := z.1.map (gm_v ad)) (rest := r.map (gm_v ad)) (b := ad a) ⟨hx, hb, hml, hown, hts⟩ (hMet dC dI cy ad H.size) (cwI (q.2 - 200) hts (gm_U_good (gm_ws_in hM)) hw rfl rfl (hts _ hM.2.2.2.2.2.1) (hts _ hl) (hts _ hins) hname ⟨hM.2.2.1, hM.2.2.2.1, hpd⟩ hrm) ⟨gm_Pc_blind, hpre⟩ rfl hnn hL.1 hstk (lv_room hroom) hd hbd
  · exact va_runIN (As := z.1.map (gm_v ad)) (rest := r.map (gm_v ad)) (b := ad a) ⟨hx, hb, hml, hown, hts⟩ (hMet dC dI cy ad H.size) ⟨va_cnB (q.2 - 200) hts (gm_U_good (gm_ws_in hM)) hw rfl rfl (hEx.2.2.2.2.2 _ hl) (hts _ hM.2.2.2.2.2.1) ⟨hM.2.2.1, hM.2.2.2.1, hpd⟩ hrm, hname, hts _ hins⟩ ⟨gm_Pc_blind, hpre⟩ rfl hnn hL.1 hstk (lv_room hroom) hd hbd
theorem gm_s_obj {own : String} {k a : Nat} {r : List Value} (hx : p.tables.exec = Jvm.exec) (hb : c.code = cc) (hml : c.maxLocals = nL) (hown : s.vm.findClass own = some m.cls) (hts : ∀ w ∈ gm_U, w.before args s = true) (hR : 1 ≤ R.frames ∧ 60 ≤ R.locals) (hl : Cond.methodLink own k objectInit ∈ gm_U) (hins : Cond.instanceMethod objectInit ∈ gm_U) (hcode : Cond.code objectInit ⟨#[0xb1]⟩ 1 none ∈ gm_U)
    (hd : decode cc pc = .ok (.invokespecial k, 3)) (hsum : Nat.ble (gm_sum r) 6 = true) (hG : gm_G p l e R s m args below meth c Q dC dI cy A ad0 n0 nL (pc + 3) ls r h cl sl) : gm_G p l e R s m args below meth c Q dC dI cy A ad0 n0 nL pc ls (.ref a :: r) h cl sl := by
  refine gm_lift hG fun ad H locs lsA hag hP hD hS hL kk => ?_
  refine W.objInit hx hb hown (hts _ hl) (hts _ hins) (hts _ hcode) rfl (by rw [hml]; exact hL.1) (a := ad a) (rest := r.map (gm_v ad)) rfl hd hR.1 ?_ (kk lsA hL)
  have h1 : ((r.map (gm_v ad)).map fun v => v.category).sum ≤ 6 := by
    rw [gm_v_sum]
    exact Nat.le_of_ble_eq_true hsum
  have h2 : 2 * (F0 m pc lsA (.ref (ad a) :: r.map (gm_v ad))).monitorRoom + ((r.map (gm_v ad)).map fun v => v.category).sum ≤ 8 := lv_room (by omega)
  show 2 * (F0 m pc lsA (.ref (ad a) :: r.map (gm_v ad))).monitorRoom + ((r.map (gm_v ad)).map fun v => v.category).sum + 12 ≤ R.locals
  omega
end GM
end
section
/-! SOUNDNESS, 5: an instruction's length and numbers; the machine's predicate goes back along the code -/
def gm_lenok : Instr → Nat → Bool
  | .iconst _, n => Nat.beq n 1
  | .lconst _, n => Nat.beq n 1
  | .fconst _, n => Nat.beq n 1
  | .iload_n _, n => Nat.beq n 1
  | .lload_n _, n => Nat.beq n 1
  | .aload_n _, n => Nat.beq n 1
  | .istore_n _, n => Nat.beq n 1
  | .lstore_n _, n => Nat.beq n 1
  | .astore_n _, n => Nat.beq n 1
  | .iadd, n => Nat.beq n 1
  | .isub, n => Nat.beq n 1
  | .imul, n => Nat.beq n 1
  | .iand, n => Nat.beq n 1
  | .ior, n => Nat.beq n 1
  | .ixor, n => Nat.beq n 1
  | .ineg, n => Nat.beq n 1
  | .idiv, n => Nat.beq n 1
  | .irem, n => Nat.beq n 1
  | .ishl, n => Nat.beq n 1
  | .ishr, n => Nat.beq n 1
  | .iushr, n => Nat.beq n 1
  | .ladd, n => Nat.beq n 1
  | .lsub, n => Nat.beq n 1
  | .lmul, n => Nat.beq n 1
  | .land, n => Nat.beq n 1
  | .lor, n => Nat.beq n 1
  | .lxor, n => Nat.beq n 1
  | .lshl, n => Nat.beq n 1
  | .lshr, n => Nat.beq n 1
  | .lneg, n => Nat.beq n 1
  | .lcmp, n => Nat.beq n 1
  | .i2l, n => Nat.beq n 1
  | .l2i, n => Nat.beq n 1
  | .i2c, n => Nat.beq n 1
  | .i2f, n => Nat.beq n 1
  | .f2d, n => Nat.beq n 1
  | .fdiv, n => Nat.beq n 1
  | .fcmp _, n => Nat.beq n 1
  | .dcmp _, n => Nat.beq n 1
  | .dup, n => Nat.beq n 1
  | .dup_x1, n => Nat.beq n 1
  | .dup2, n => Nat.beq n 1
  | .pop, n => Nat.beq n 1
  | .iaload, n => Nat.beq n 1
  | .caload, n => Nat.beq n 1
  | .baload, n => Nat.beq n 1
  | .laload, n => Nat.beq n 1
  | .daload, n => Nat.beq n 1
  | .iastore, n => Nat.beq n 1
  | .castore, n => Nat.beq n 1
  | .bastore, n => Nat.beq n 1
  | .lastore, n => Nat.beq n 1
  | .dastore, n => Nat.beq n 1
  | .arraylength, n => Nat.beq n 1
  | .ireturn, n => Nat.beq n 1
  | .lreturn, n => Nat.beq n 1
  | .freturn, n => Nat.beq n 1
  | .areturn, n => Nat.beq n 1
  | .return_, n => Nat.beq n 1
  | .athrow, n => Nat.beq n 1
  | .iload _, n => Nat.beq n 2
  | .lload _, n => Nat.beq n 2
  | .fload _, n => Nat.beq n 2
  | .aload _, n => Nat.beq n 2
  | .istore _, n => Nat.beq n 2
  | .lstore _, n => Nat.beq n 2
  | .fstore _, n => Nat.beq n 2
  | .astore _, n => Nat.beq n 2
  | .ldc _, n => Nat.beq n 2
  | .newarray _, n => Nat.beq n 2
  | .iinc _ _, n => Nat.beq n 3
  | .ldc_w _, n => Nat.beq n 3
  | .ldc2_w _, n => Nat.beq n 3
  | .goto _, n => Nat.beq n 3
  | .ifCond _ _, n => Nat.beq n 3
  | .if_icmp _ _, n => Nat.beq n 3
  | .getfield _, n => Nat.beq n 3
  | .putfield _, n => Nat.beq n 3
  | .new _, n => Nat.beq n 3
  | .invokestatic _, n => Nat.beq n 3
  | .invokevirtual _, n => Nat.beq n 3
  | .invokespecial _, n => Nat.beq n 3
  | .bipush k, n => Nat.beq n 2 && decide ((Int8.ofInt k).toInt32 = gm_lit k)
  | .sipush k, n => Nat.beq n 3 && decide ((Int16.ofInt k).toInt32 = gm_lit k)
  | .lookupswitch _ ps, _ => (ps.toList.zip (ps.toList.drop 1)).all (fun (a, next) => a.1 < next.1) && ps.toList.all (fun q => decide ((gm_lit q.1).toInt = q.1))
  | .tableswitch _ lo hi os, _ => decide (hi + 1 = lo + os.size) && (List.range os.toList.length).all (fun j => decide ((gm_lit (lo + (j : Int))).toInt = lo + (j : Int)))
  | _, _ => false
def gm_rt : Instr → List Value → Option (Option Value)
  | .ireturn, [.int x] => some (some (.int x))
  | .lreturn, [.long x] => some (some (.long x))
  | .freturn, [.float x] => some (some (.float x))
  | .areturn, [.ref x] => some (some (.ref x))
  | .return_, [] => some none
  | _, _ => none
def gm_arrs : List FieldType := [.int, .char, .boolean, .long, .double]
/-- what a method's class tables say -/
def gm_Kok (MT : Nat → Option pM) (own : String) (K : pK) : Prop :=
  (∀ k f, gm_asc K.1 k = some f → ∃ r : vw_C, vwCl[f.1]? = some r ∧ f.2 < r.2.2 ∧ Cond.fieldLink own k (r.2.1 f.2).1 (r.2.1 f.2).2.1 (r.2.1 f.2).2.2.1 ∈ gm_U) ∧
  (∀ k q, gm_asc K.2.1 k = some q → gm_mok MT own k q) ∧
  (∀ k v, gm_asc K.2.2.1 k = some v → (∃ x, v = .int x ∧ Cond.constant own k x ∈ gm_U) ∨ (∃ x, v = .long x ∧ Cond.constantLong own k x ∈ gm_U) ∨ (∃ x, v = .float x ∧ Cond.constantFloat own k x ∈ gm_U)) ∧
  (∀ k q, gm_asc K.2.2.2.1 k = some q → ∃ r : vw_C, vwCl[q.1]? = some r ∧ q.2.length = r.2.2 ∧ gm_nr q.2 = true ∧ Cond.classLink own k r.1 ∈ gm_U ∧ Cond.instantiable r.1 r.2.2 ∈ gm_U ∧ Cond.initialized r.1 ∈ gm_U ∧ ∀ j, j < r.2.2 → defaultValue (gm_tyf q.1 j) = vp_V q.2 j)
/-- what a method's code is -/
def gm_Cok (M : pM) : Prop :=
  (∀ pc i len, gm_asc M.2.2.2.2.2.1 pc = some (i, len) → decode M.2.2.1 pc = .ok (i, len) ∧ gm_lenok i len = true) ∧
  (∀ pc k len, gm_asc M.2.2.2.2.2.1 pc = some (.putfield k, len) → ∀ f r, gm_asc M.2.2.2.2.2.2.2.1 k = some f → vwCl[f.1]? = some r → (r.2.1 f.2).2.2.2 = false ∨ ((r.2.1 f.2).2.2.2 = true ∧ M.2.1.name = "<init>" ∧ (r.2.1 f.2).1 = M.1))
section GM
variable {p : Program} {l : Launch} {e : Env} {R : Room} {s : State} {m : MethodId} {args : Array Value} {below : List Frame} {meth : Method} {c : Code} {Q : State → Prop} {dC : Nat → ClassId} {dI : Nat → Nat → Nat} {cy : Nat → ClassId} {A : Nat → Prop} {ad0 : Nat → Nat} {n0 nL : Nat}
theorem gm_ldcwF {T : State} {locs : List Loc} {cells slots : Nat} (X : Stand p l e R s m args below meth c T locs cells slots) (hexec : p.tables.exec = Jvm.exec) {own : String} {index : Nat} {v : UInt32} (hown : s.vm.findClass own = some m.cls)
    (hconst : (Cond.constantFloat own index v).before args s = true) {g : JFrame} (hg : g.method = m) (hdg : decode c.code g.pc = .ok (.ldc_w index, 3)) :
    ∀ target, Steps p.tables e below (T.setTop { g with pc := g.pc + 3, stack := .float v :: g.stack }) target → Steps p.tables e below (T.setTop g) target := by
  obtain ⟨k, cf, hk, hcf, hcp⟩ := Cond.constantFloat_spec hown hconst
  obtain ⟨k', hk', he⟩ := X.warmed.alike.2.2 _ _ hk
  intro target hrest
  subst hg
  jvm_step X.here [hexec, hdg, ldc_w.wp_float (s := T) (f := g) X.here.top hk' (by rw [he]; exact hcf) hcp]
  exact hrest
theorem gm_ldcwf {cc : ByteArray} {pc : Nat} {H : Heap} {locs : List Loc} {cells slots : Nat} {ls : Array Slot} {rest : List Value} (hexec : p.tables.exec = Jvm.exec) (hb : c.code = cc) {own : String} {index : Nat} {v : UInt32} (hown : s.vm.findClass own = some m.cls) (hconst : (Jvm.Cond.constantFloat own index v).before args s = true) (hdg : decode cc pc = .ok (.ldc_w index, 3)) (k : W p l e R s m args below meth c H locs cells slots Q (F0 m (pc + 3) ls (.float v :: rest))) : W p l e R s m args below meth c H locs cells slots Q (F0 m pc ls rest) := by
  intro T hT X
  obtain ⟨t, a, b⟩ := k T hT X
  exact ⟨t, gm_ldcwF X hexec hown hconst (g := F0 m pc ls rest) rfl (by rw [hb]; exact hdg) t a, b⟩
set_option maxHeartbeats 4000000 in
theorem gm_closed {M : pM} {MT : Nat → Option pM} {sq : pQ} {Sp : pS} {X : pX} {d : Nat}
    (hx : p.tables.exec = Jvm.exec) (hb : c.code = M.2.2.1) (hml : c.maxLocals = nL) (hown : s.vm.findClass M.1 = some m.cls) (hts : ∀ w ∈ gm_U, w.before args s = true) (hcu : ∀ (ci : Nat) (r : vw_C), vwCl[ci]? = some r → ∀ w ∈ u_ws r.1 r.2.1 r.2.2, w ∈ gm_U) (hK : va_K (dC, dI) vwCl (gm_tys cy) s) (hA : ∀ q, s.heap.size ≤ q → A q) (hEx : gm_Ex A s) (hR : d + 13 ≤ R.frames ∧ 60 * d + 210 ≤ R.locals)
    (hC : gm_Cok M) (hKK : gm_Kok MT M.1 M.2.2.2.2.2.2.2) (hMok : ∀ mid M2, MT mid = some M2 → gm_Mok M2) (harr : ∀ t ∈ gm_arrs, Cond.arrayClass t ∈ gm_U)
    (hscr : ∀ q, sq = some q → va_X (ad0 88888) q.1 q.2 s s.heap ∧ ad0 88888 < s.heap.size ∧ ¬ A (ad0 88888)) (hinit : M.2.1.name = "<init>" → meth.name = "<init>")
    (hS1 : ∀ mid M2 av h v h1 c1 s1, MT mid = some M2 → Sp mid av h (.inl v) h1 c1 s1 → gm_Met1 l d M2 av h v h1 c1 s1 ∧ (M2.2.1.name = "<init>" ∨ h1.length = h.length))
    (hS2 : ∀ mid M2 av h E h1 c1 s1, MT mid = some M2 → Sp mid av h (.inr E) h1 c1 s1 → gm_Met2 l d M2 av h E h1 c1 s1 ∧ h1.length = h.length ∧ M2.2.2.2.2.2.2.1 = [])
    (hret : ∀ pc i len ls st h cl sl v, gm_asc M.2.2.2.2.2.1 pc = some (i, len) → gm_rt i st = some v → gm_okr M.2.2.2.2.1 v → X (.inl v) h cl sl → gm_G p l e R s m args below meth c Q dC dI cy A ad0 n0 nL pc ls st h cl sl)
    (hthr : ∀ pc k len E ls st h cl sl, gm_asc M.2.2.2.2.2.1 pc = some (.new k, len) → gm_asc M.2.2.2.2.2.2.2.2.2.2.2 k = some E → gm_sum st ≤ 8 → X (.inr E) h (cl + 1) (sl + 6) → gm_G p l e R s m args below meth c Q dC dI cy A ad0 n0 nL pc ls st h cl sl)
    (hgx : ∀ pc ls E h cl sl, gm_thr M (gm_G p l e R s m args below meth c Q dC dI cy A ad0 n0 nL) X pc ls E h cl sl → gm_GX p l e R s m args below meth c Q dC dI cy A ad0 n0 nL pc ls E h cl sl) : gm_cl M gm_tyf sq Sp (gm_G p l e R s m args below meth c Q dC dI cy A ad0 n0 nL) X := by
  intro pc i len hasc ls st h cl sl hw
  obtain ⟨hd, hlen⟩ := hC.1 pc i len hasc
  obtain ⟨hKF, hKM, hKC, hKN⟩ := hKK
  have one : ∀ {n : Nat}, Nat.beq len n = true → len = n := fun h => Nat.eq_of_beq_eq_true h
  cases i with
  | iconst k => have hl := one hlen; subst hl; exact gm_s_iconst hx hb hd hw
  | bipush k =>
    have h9 := Bool.and_eq_true_iff.mp hlen
    have hl := one h9.1; subst hl
    exact gm_s_bipush (of_decide_eq_true h9.2) hx hb hd hw
  | sipush k =>
    have h9 := Bool.and_eq_true_iff.mp hlen
    have hl := one h9.1; subst hl
    exact gm_s_sipush (of_decide_eq_true h9.2) hx hb hd hw
  | lconst k => have hl := one hlen; subst hl; exact gm_s_lconst hx hb hd hw
  | fconst k =>
    have hl := one hlen; subst hl
    match k, hd, hw with
    | 0, hd, hw => exact gm_s_fconst0 hx hb hd hw
    | 1, hd, hw => exact False.elim hw
    | 2, hd, hw => exact False.elim hw
  | ldc k =>
    have hl := one hlen; subst hl
    obtain ⟨v, hv, h0⟩ := gm_op_of hw
    rcases hKC k v hv with ⟨x, rfl, hc⟩ | ⟨x, rfl, hc⟩ | ⟨x, rfl, hc⟩
    · exact gm_lift0 h0 fun _ _ _ _ _ kk => lv_ldc hx hb hown (hts _ hc) hd kk
    · exact False.elim h0
    · exact gm_lift0 h0 fun _ _ _ _ _ kk => lv_ldcf hx hb hown (hts _ hc) hd kk
  | ldc_w k =>
    have hl := one hlen; subst hl
    obtain ⟨v, hv, h0⟩ := gm_op_of hw
    rcases hKC k v hv with ⟨x, rfl, hc⟩ | ⟨x, rfl, hc⟩ | ⟨x, rfl, hc⟩
    · exact gm_lift0 h0 fun _ _ _ _ _ kk => lv_ldcw hx hb hown (hts _ hc) hd kk
    · exact False.elim h0
    · exact gm_lift0 h0 fun _ _ _ _ _ kk => gm_ldcwf hx hb hown (hts _ hc) hd kk
  | ldc2_w k =>
    have hl := one hlen; subst hl
    obtain ⟨v, hv, h0⟩ := gm_op_of hw
    rcases hKC k v hv with ⟨x, rfl, hc⟩ | ⟨x, rfl, hc⟩ | ⟨x, rfl, hc⟩
    · exact False.elim h0
    · exact gm_lift0 h0 fun _ _ _ _ _ kk => lv_ldc2 hx hb hown (hts _ hc) hd kk
    · exact False.elim h0
  | iload_n k => have hl := one hlen; subst hl; exact gm_s_iload_n hx hb hd hw
  | lload_n k => have hl := one hlen; subst hl; exact gm_s_lload_n hx hb hd hw
  | aload_n k => have hl := one hlen; subst hl; exact gm_s_aload_n hx hb hd hw
  | istore_n k => have hl := one hlen; subst hl; exact gm_s_istore_n hx hb hd hw
  | lstore_n k => have hl := one hlen; subst hl; exact gm_s_lstore_n hx hb hd hw
  | astore_n k => have hl := one hlen; subst hl; exact gm_s_astore_n hx hb hd hw
  | iload k => have hl := one hlen; subst hl; exact gm_s_iload hx hb hd hw
  | lload k => have hl := one hlen; subst hl; exact gm_s_lload hx hb hd hw
  | fload k => have hl := one hlen; subst hl; exact gm_s_fload hx hb hd hw
  | aload k => have hl := one hlen; subst hl; exact gm_s_aload hx hb hd hw
  | istore k => have hl := one hlen; subst hl; exact gm_s_istore hx hb hd hw
  | lstore k => have hl := one hlen; subst hl; exact gm_s_lstore hx hb hd hw
  | fstore k => have hl := one hlen; subst hl; exact gm_s_fstore hx hb hd hw
  | astore k => have hl := one hlen; subst hl; exact gm_s_astore hx hb hd hw
  | goto k => have hl := one hlen; subst hl; exact gm_s_goto hx hb hd hw
  | iinc k dd => have hl := one hlen; subst hl; exact gm_s_iinc hx hb hd hw
  | iadd => have hl := one hlen; subst hl; exact gm_s_iadd hx hb hd hw
  | isub => have hl := one hlen; subst hl; exact gm_s_isub hx hb hd hw
  | imul => have hl := one hlen; subst hl; exact gm_s_imul hx hb hd hw
  | iand => have hl := one hlen; subst hl; exact gm_s_iand hx hb hd hw
  | ior => have hl := one hlen; subst hl; exact gm_s_ior hx hb hd hw
  | ixor => have hl := one hlen; subst hl; exact gm_s_ixor hx hb hd hw
  | ishl => have hl := one hlen; subst hl; exact gm_s_ishl hx hb hd hw
  | ishr => have hl := one hlen; subst hl; exact gm_s_ishr hx hb hd hw
  | iushr => have hl := one hlen; subst hl; exact gm_s_iushr hx hb hd hw
  | idiv => have hl := one hlen; subst hl; exact gm_s_idiv hx hb hd hw
  | irem => have hl := one hlen; subst hl; exact gm_s_irem hx hb hd hw
  | ladd => have hl := one hlen; subst hl; exact gm_s_ladd hx hb hd hw
  | lsub => have hl := one hlen; subst hl; exact gm_s_lsub hx hb hd hw
  | lmul => have hl := one hlen; subst hl; exact gm_s_lmul hx hb hd hw
  | land => have hl := one hlen; subst hl; exact gm_s_land hx hb hd hw
  | lor => have hl := one hlen; subst hl; exact gm_s_lor hx hb hd hw
  | lxor => have hl := one hlen; subst hl; exact gm_s_lxor hx hb hd hw
  | lshl => have hl := one hlen; subst hl; exact gm_s_lshl hx hb hd hw
  | lshr => have hl := one hlen; subst hl; exact gm_s_lshr hx hb hd hw
  | lcmp => have hl := one hlen; subst hl; exact gm_s_lcmp hx hb hd hw
  | ineg => have hl := one hlen; subst hl; exact gm_s_ineg hx hb hd hw
  | lneg => have hl := one hlen; subst hl; exact gm_s_lneg hx hb hd hw
  | i2l => have hl := one hlen; subst hl; exact gm_s_i2l hx hb hd hw
  | l2i => have hl := one hlen; subst hl; exact gm_s_l2i hx hb hd hw
  | i2c => have hl := one hlen; subst hl; exact gm_s_i2c hx hb hd hw
  | i2f => have hl := one hlen; subst hl; exact gm_s_i2f hx hb hd hw
  | f2d => have hl := one hlen; subst hl; exact gm_s_f2d hx hb hd hw
  | caload => have hl := one hlen; subst hl; exact gm_s_caload hx hb hK hd hw
  | baload => have hl := one hlen; subst hl; exact gm_s_baload hx hb hK hd hw
  | laload => have hl := one hlen; subst hl; exact gm_s_laload hx hb hK hd hw
  | daload => have hl := one hlen; subst hl; exact gm_s_daload hx hb hK hd hw
  | iastore => have hl := one hlen; subst hl; exact gm_s_iastore hx hb hK hd hw
  | castore => have hl := one hlen; subst hl; exact gm_s_castore hx hb hK hd hw
  | bastore => have hl := one hlen; subst hl; exact gm_s_bastore hx hb hK hd hw
  | lastore => have hl := one hlen; subst hl; exact gm_s_lastore hx hb hK hd hw
  | dastore => have hl := one hlen; subst hl; exact gm_s_dastore hx hb hK hd hw
  | iaload => have hl := one hlen; subst hl; exact gm_s_iaload hx hb hK hscr hd hw
  | arraylength => have hl := one hlen; subst hl; exact gm_s_arraylength hx hb hscr hd hw
  | fdiv =>
    have hl := one hlen; subst hl
    match st, hw with
    | .float y :: .float x :: r, hw => exact gm_s_fdiv hx hb hd hw
  | fcmp op =>
    have hl := one hlen; subst hl
    match st, hw with
    | .float y :: .float x :: r, hw => exact gm_s_fcmp hx hb hd hw
  | dcmp op =>
    have hl := one hlen; subst hl
    match st, hw with
    | .double y :: .double x :: r, hw => exact gm_s_dcmp hx hb hd hw
  | dup =>
    have hl := one hlen; subst hl
    match st, hw with
    | v :: r, hw => exact gm_s_dup hx hb hd hw
  | dup_x1 =>
    have hl := one hlen; subst hl
    match st, hw with
    | v :: w :: r, hw => exact gm_s_dup_x1 hx hb hd hw
  | dup2 =>
    have hl := one hlen; subst hl
    match st, hw with
    | v :: w :: r, hw => exact gm_s_dup2 hx hb hd hw
  | pop =>
    have hl := one hlen; subst hl
    match st, hw with
    | v :: r, hw => exact gm_s_pop hx hb hd hw
  | ifCond cd o =>
    have hl := one hlen; subst hl
    obtain ⟨x, r, rfl, h0⟩ := gm_i1_of hw
    cases cd with
    | eq => exact gm_s_if_eq hx hb hd h0
    | ne => exact gm_s_if_ne hx hb hd h0
    | lt => exact gm_s_if_lt hx hb hd h0
    | ge => exact gm_s_if_ge hx hb hd h0
    | gt => exact gm_s_if_gt hx hb hd h0
    | le => exact gm_s_if_le hx hb hd h0
  | if_icmp cd o =>
    have hl := one hlen; subst hl
    obtain ⟨x, y, r, rfl, h0⟩ := gm_i2_of hw
    cases cd with
    | eq => exact gm_s_icmp_eq hx hb hd h0
    | ne => exact gm_s_icmp_ne hx hb hd h0
    | lt => exact gm_s_icmp_lt hx hb hd h0
    | ge => exact gm_s_icmp_ge hx hb hd h0
    | gt => exact gm_s_icmp_gt hx hb hd h0
    | le => exact gm_s_icmp_le hx hb hd h0
  | lookupswitch dd ps =>
    obtain ⟨x, r, rfl, h0⟩ := gm_i1_of hw
    have h9 := Bool.and_eq_true_iff.mp hlen
    exact gm_s_look hx hb hd h9.1 (fun q hq => of_decide_eq_true (List.all_eq_true.mp h9.2 q hq)) h0
  | tableswitch dd lo hi os =>
    obtain ⟨x, r, rfl, h0⟩ := gm_i1_of hw
    have h9 := Bool.and_eq_true_iff.mp hlen
    exact gm_s_tab hx hb hd (of_decide_eq_true h9.1) (fun j hj => of_decide_eq_true (List.all_eq_true.mp h9.2 j (List.mem_range.mpr hj))) h0
  | getfield k => have hl := one hlen; subst hl; exact gm_s_getfield hx hb hown hts hcu hK hKF hd hw
  | putfield k =>
    have hl := one hlen; subst hl
    match st, hw with
    | v :: .ref a :: r, hw => exact gm_s_putfield hx hb hown hts hcu hK hKF (fun f r hf hr => (hC.2 pc k _ hasc f r hf hr).imp id (fun z => ⟨z.1, hinit z.2.1, z.2.2⟩)) hd hw
  | newarray t =>
    have hl := one hlen; subst hl
    obtain ⟨x, r, rfl, h1, hw2⟩ := gm_i1_of hw
    obtain ⟨h2, hw3⟩ := gm_if_of hw2
    obtain ⟨h3, h4⟩ := gm_if_of hw3
    obtain ⟨E, hE, h5⟩ := gm_op_of h4
    refine gm_s_newarray hx hb hts (harr _ ?_) hK hA hd h1 h2 h3 hE h5
    cases t <;> first | exact (by decide) | cases hE
  | new k =>
    have hl := one hlen; subst hl
    have hw2 : (match gm_asc M.2.2.2.2.2.2.2.2.2.2.2 k with
      | some E => gm_if (Nat.ble (gm_sum st) 8) (X (.inr E) h (cl + 1) (sl + 6))
      | none => gm_op (gm_asc M.2.2.2.2.2.2.2.2.2.2.1 k) fun q => gm_if (gm_frs h.length st && (gm_frl h.length ls && gm_frh h.length h) && (gm_frs h.length q.2 && Nat.blt h.length 88888)) (gm_G p l e R s m args below meth c Q dC dI cy A ad0 n0 nL (pc + 3) ls (.ref h.length :: st) (h ++ [.inr q]) (cl + 1) (sl + q.2.length))) := hw
    split at hw2
    · rename_i E h1
      obtain ⟨h2, h3⟩ := gm_if_of hw2
      exact hthr pc k _ E ls st h cl sl hasc h1 (Nat.le_of_ble_eq_true h2) h3
    · obtain ⟨q, h1, hq2⟩ := gm_op_of hw2
      obtain ⟨h2, h3⟩ := gm_if_of hq2
      exact gm_s_new hx hb hown hts hcu hK hA (hKN k q h1) hd h2 h3
  | invokestatic k =>
    have hl := one hlen; subst hl
    obtain ⟨q, hq, h0⟩ := gm_op_of hw
    cases hk : Nat.ble 100 q.2 with
    | true => rw [hk] at h0; exact False.elim h0
    | false =>
      rw [hk, cond_false] at h0
      have hlt : q.2 < 100 := by
        rcases Nat.lt_or_ge q.2 100 with z | z
        · exact z
        · rw [Nat.ble_eq_true_of_le z] at hk; cases hk
      cases hk5 : Nat.ble 50 q.2 with
      | true =>
        rw [hk5, cond_true] at h0
        have hge : 50 ≤ q.2 := Nat.le_of_ble_eq_true hk5
        generalize hn9 : q.2 - 50 = n9 at h0
        obtain ⟨z, hz, hq2⟩ := gm_op_of h0
        obtain ⟨hsum, v, h1, c1, s1, hSp, hG⟩ := gm_if_of hq2
        rcases hKM k q hq with ⟨_, z1, _⟩ | ⟨M2, hM2, _, _, ⟨_, _, hns, hnm, hstt, hpd, hhh⟩ | ⟨z1, _⟩ | ⟨z1, _⟩ | ⟨z1, _⟩⟩
        · omega
        · obtain ⟨hm1, hm2⟩ := hS1 _ M2 _ _ _ _ _ _ hM2 hSp
          exact gm_s_staticN (q := q) hx hb hml hown hts hK hA hEx hR (hMok _ _ hM2) hns hstt hpd hhh hm1 (hm2.resolve_left hnm) hd (by rw [hn9]; exact hz) hsum hG
        · omega
        · omega
        · omega
      | false =>
        rw [hk5, cond_false] at h0
        have hlt5 : q.2 < 50 := by
          rcases Nat.lt_or_ge q.2 50 with z | z
          · exact z
          · rw [Nat.ble_eq_true_of_le z] at hk5; cases hk5
        obtain ⟨z, hz, hq2⟩ := gm_op_of h0
        obtain ⟨hsum, hcall⟩ := gm_if_of hq2
        rcases hKM k q hq with ⟨_, z1, _⟩ | ⟨M2, hM2, _, hlk, ⟨z1, _⟩ | ⟨_, hnm, hstt, hpd⟩ | ⟨z1, _⟩ | ⟨z1, _⟩⟩
        · omega
        · omega
        · have hlk := hlk.resolve_right (fun z => by omega)
          rcases hcall with ⟨v, h1, c1, s1, hSp, hG⟩ | ⟨E, h1, c1, s1, hSp, hG⟩
          · obtain ⟨hm1, hm2⟩ := hS1 _ M2 _ _ _ _ _ _ hM2 hSp
            exact gm_s_static (q := q) hx hb hml hown hts hK hA hEx hR (hMok _ _ hM2) hlk hstt hpd hm1 (hm2.resolve_left hnm) hd hz hsum hG
          · obtain ⟨hm1, hm2, hm3⟩ := hS2 _ M2 _ _ _ _ _ _ hM2 hSp
            exact gm_s_staticX (q := q) hx hb hml hown hts hK hA hEx hR (hMok _ _ hM2) hlk hstt hpd hm3 hm1 hm2 hd hz hsum (hgx _ _ _ _ _ _ hG)
        · omega
        · omega
  | invokevirtual k =>
    have hl := one hlen; subst hl
    obtain ⟨q, hq, h0⟩ := gm_op_of hw
    cases hk : (Nat.blt q.2 100 || Nat.ble 200 q.2) with
    | true => rw [hk] at h0; exact False.elim h0
    | false =>
      rw [hk] at h0
      have hk2 := Bool.or_eq_false_iff.mp hk
      have hge : 100 ≤ q.2 := by
        rcases Nat.lt_or_ge q.2 100 with z | z
        · rw [Nat.blt_eq.mpr z] at hk2; cases hk2.1
        · exact z
      have hlt : q.2 < 200 := by
        rcases Nat.lt_or_ge q.2 200 with z | z
        · exact z
        · rw [Nat.ble_eq_true_of_le z] at hk2; cases hk2.2
      obtain ⟨z, hz, h2⟩ := gm_op_of h0
      obtain ⟨a, r, hzr, h3⟩ := gm_sa_of h2
      unfold gm_ob at h3
      split at h3
      · rename_i ci fs hcell
        cases hk3 : Nat.beq (q.1 / 1000) (ci + 1) with
        | false => rw [hk3] at h3; exact False.elim h3
        | true =>
          rw [hk3] at h3
          obtain ⟨hsum, hcall⟩ := gm_if_of h3
          rcases hKM k q hq with ⟨_, z1, _⟩ | ⟨M2, hM2, _, hlk, ⟨_, z1, _⟩ | ⟨z1, _⟩ | ⟨_, _, hnm, hins, hsel, hpd, hrc, hhh⟩ | ⟨z1, _⟩⟩
          · omega
          · omega
          · omega
          · obtain ⟨ci9, rc, hci9, hrc1, hrn⟩ := hrc
            have hlk := hlk.resolve_right (fun z => by omega)
            have hci : ci9 = ci := by
              have := Nat.eq_of_beq_eq_true hk3
              omega
            subst hci
            rcases hcall with ⟨v, h1, c1, s1, hSp, hG⟩ | ⟨E, h1, c1, s1, hSp, hG⟩
            · obtain ⟨hm1, hm2⟩ := hS1 _ M2 _ _ _ _ _ _ hM2 hSp
              exact gm_s_virtual (q := q) hx hb hml hown hts hK hA hEx hR (hMok _ _ hM2) hlk hins hsel hpd hhh hrc1 hrn hcell hm1 (hm2.resolve_left hnm) hd hz hzr hsum hG
            · obtain ⟨hm1, hm2, hm3⟩ := hS2 _ M2 _ _ _ _ _ _ hM2 hSp
              exact gm_s_virtualX (q := q) hx hb hml hown hts hK hA hEx hR (hMok _ _ hM2) hlk hins hsel hpd hhh hrc1 hrn hcell hm1 hm2 hd hz hzr hsum (hgx _ _ _ _ _ _ hG)
          · omega
      · exact False.elim h3
  | invokespecial k =>
    have hl := one hlen; subst hl
    obtain ⟨q, hq, h0⟩ := gm_op_of hw
    cases hk : Nat.blt q.2 200 with
    | true => rw [hk] at h0; exact False.elim h0
    | false =>
      rw [hk, cond_false] at h0
      have hge : 200 ≤ q.2 := by
        rcases Nat.lt_or_ge q.2 200 with z | z
        · rw [Nat.blt_eq.mpr z] at hk; cases hk
        · exact z
      generalize hn9 : q.2 - 200 = n9 at h0
      obtain ⟨z, hz, h2⟩ := gm_op_of h0
      obtain ⟨a, r, hzr, hq2⟩ := gm_sa_of h2
      obtain ⟨hsum, h3⟩ := gm_if_of hq2
      rcases hKM k q hq with ⟨z0, z1, hl1, hl2, hl3⟩ | ⟨M2, hM2, hne, hlk, ⟨_, z1, _⟩ | ⟨z1, _⟩ | ⟨_, z1, _⟩ | ⟨_, hins, hnm, hpd, hrt, hhh⟩⟩
      · rw [z0] at h3
        have hst : st = .ref a :: r := by
          have h00 : n9 = 0 := by omega
          rw [h00] at hz
          simp only [gm_pop, Option.some.injEq] at hz
          subst hz
          exact hzr
        subst hst
        exact gm_s_obj hx hb hml hown hts ⟨by omega, by omega⟩ hl1 hl2 hl3 hd hsum h3
      · omega
      · omega
      · omega
      · obtain ⟨n1, hn1⟩ := Nat.exists_eq_succ_of_ne_zero hne
        rw [hn1] at h3
        obtain ⟨h1, c1, s1, hSp, hq3⟩ := h3
        obtain ⟨hfr, hG⟩ := gm_if_of hq3
        rw [hn1] at hM2
        obtain ⟨hm1, hm2⟩ := hS1 _ M2 _ _ _ _ _ _ hM2 hSp
        exact gm_s_init (q := q) hx hb hml hown hts hK hA hEx hR (hMok _ _ hM2) (hlk.imp id (fun z => z.2)) hins hnm hpd hrt hhh hm1 hd (by rw [hn9]; exact hz) hzr hsum hfr hG
  | ireturn =>
    match st, hw with
    | [.int x], hw => exact hret pc _ len ls _ h cl sl _ hasc rfl (gm_okrx_of hw).1 (gm_okrx_of hw).2
  | lreturn =>
    match st, hw with
    | [.long x], hw => exact hret pc _ len ls _ h cl sl _ hasc rfl (gm_okrx_of hw).1 (gm_okrx_of hw).2
  | freturn =>
    match st, hw with
    | [.float x], hw => exact hret pc _ len ls _ h cl sl _ hasc rfl (gm_okrx_of hw).1 (gm_okrx_of hw).2
  | areturn =>
    match st, hw with
    | [.ref x], hw => exact hret pc _ len ls _ h cl sl _ hasc rfl (gm_okrx_of hw).1 (gm_okrx_of hw).2
  | return_ =>
    match st, hw with
    | [], hw => exact hret pc _ len ls _ h cl sl _ hasc rfl (gm_okrx_of hw).1 (gm_okrx_of hw).2
  | _ => exact False.elim hw
end GM
end
section
/-! SOUNDNESS, 6: a method, from its abstract run -/
def gm_c2 : Value → Bool
  | .long _ => true
  | .double _ => true
  | _ => false
/-- the locals of arguments: a long takes two -/
def gm_sl : List Value → pL
  | [] => []
  | v :: r => some v :: (bif gm_c2 v then none :: gm_sl r else gm_sl r)
def gm_args (n : Nat) (av : List Value) : pL := gm_sl av ++ List.replicate (n - gm_sum av) none
/-- sides of a run: nothing is made but by constructors, the arguments fit into the locals, only methods without handlers throw -/
def gm_sd (M : pM) (av : List Value) (h : pH) (o : pO) (h1 : pH) : Prop := (M.2.1.name = "<init>" ∨ h1.length = h.length) ∧ Nat.ble av.length (gm_sum av) = true ∧ Nat.ble (gm_sum av) M.2.2.2.1 = true ∧ match o with
  | .inl _ => True
  | .inr _ => M.2.2.2.2.2.2.1 = [] ∧ h1.length = h.length ∧ plainName M.2.1.cls = true
/-- the abstract run of a method, calls at most d deep -/
def gm_Sp (MT : Nat → Option pM) : Nat → pS
  | 0 => fun _ _ _ _ _ _ _ => False
  | d + 1 => fun mid av h o h1 c1 s1 => ∃ M : pM, MT mid = some M ∧ gm_sd M av h o h1 ∧ ∀ (G : pG) (X : pX), gm_cl M gm_tyf none (gm_Sp MT d) G X → X o h1 c1 s1 → G 0 (gm_args M.2.2.2.1 av) [] h 0 0
def gm_names : List String := ["java/lang/RuntimeException", "java/lang/Exception"]
/-- what the tables say of an exception class made by Gimlet -/
def gm_Eok (k ic : Nat) (E : String) : Prop := E ∈ gm_exs ∧ Bundle.fit E = true ∧ Cond.classLink RX6 k E ∈ gm_U ∧ Cond.initialized E ∈ gm_U ∧ Cond.castable E E ∈ lw_tbl ∧ ∃ (ix : Nat) (rx : ByteArray), decode rx 0 = .ok (.aload_n 0, 1) ∧ decode rx 1 = .ok (.aload_n 1, 1) ∧ decode rx 2 = .ok (.invokespecial ix, 3) ∧ decode rx 5 = .ok (.return_, 1) ∧ ∀ w ∈ gx_at RX6 ic E ix rx gm_names, w ∈ lw_tbl ∧ (goodWord w || gm_isn w) = true
/-- the places where a method throws, and its handlers -/
def gm_Tok (M : pM) : Prop :=
  (∀ pc k len E, gm_asc M.2.2.2.2.2.1 pc = some (.new k, len) → gm_asc M.2.2.2.2.2.2.2.2.2.2.2 k = some E → ∃ (ic : Nat) (q : Nat × String), q ∈ gm_strs ∧ M.1 = RX6 ∧ gm_Eok k ic E ∧ decode M.2.2.1 pc = .ok (.new k, 3) ∧ decode M.2.2.1 (pc + 3) = .ok (.dup, 1) ∧
    ((decode M.2.2.1 (pc + 4) = .ok (.ldc q.1, 2) ∧ decode M.2.2.1 (pc + 6) = .ok (.invokespecial ic, 3) ∧ decode M.2.2.1 (pc + 9) = .ok (.athrow, 1)) ∨
     (decode M.2.2.1 (pc + 4) = .ok (.ldc_w q.1, 3) ∧ decode M.2.2.1 (pc + 7) = .ok (.invokespecial ic, 3) ∧ decode M.2.2.1 (pc + 10) = .ok (.athrow, 1)))) ∧
  (∀ q ∈ M.2.2.2.2.2.2.1, ∃ E, gm_asc M.2.2.2.2.2.2.2.2.2.2.2 q.2.2.2 = some E ∧ E ∈ gm_exs ∧ Cond.classLink M.1 q.2.2.2 E ∈ gm_U ∧ q.2.2.2 ≠ 0 ∧ Cond.castable E E ∈ lw_tbl) ∧ (M.2.2.2.2.2.2.1 ≠ [] → plainName M.2.1.cls = true)
/-- all that the tables say -/
def gm_Aok (MT : Nat → Option pM) : Prop :=
  (∀ (ci : Nat) (r : vw_C), vwCl[ci]? = some r → ∀ w ∈ u_ws r.1 r.2.1 r.2.2, w ∈ gm_U) ∧ (∀ t ∈ gm_arrs, Cond.arrayClass t ∈ gm_U) ∧ (∀ mid M, MT mid = some M → gm_Mok M ∧ gm_Cok M ∧ gm_Kok MT M.1 M.2.2.2.2.2.2.2 ∧ gm_Tok M)
theorem gm_hL.st1n {lsA lsB : Array Slot} {nL : Nat} {ad : Nat → Nat} {ls : pL} {i : Nat} {v V : Value} (h : gm_hL lsA nL ad ls) (hi : i < nL)
    (hB : lv_has lsB nL ((i, V) :: (gm_lv ad 0 ls).filter (fun q => !(q.1 == i) && !(q.1 + 1 == i && q.2.category == 2)))) : gm_hL lsB nL ad (gm_set (gm_st1 ls i v) i none) := by
  obtain ⟨b1, b2, b3⟩ := hB
  have hlen : (gm_set (gm_st1 ls i v) i none).length = nL := by
    cases i with
    | zero => simp [gm_st1, gm_set_eq, h.2.1]
    | succ i =>
      simp only [gm_st1, gm_set_eq]
      cases gm_cat2 (gm_nth ls i) <;> simp [h.2.1]
  refine ⟨b1, hlen, b2, fun j w hj => ?_⟩
  have rest : j ≠ i → ls[j]? = some (some w) → ¬ (j + 1 = i ∧ w.category = 2) → lsB[j]? = some (.val (gm_v ad w)) := by
    intro h1 h2 h3
    refine b3 (j, gm_v ad w) (List.mem_cons_of_mem _ (List.mem_filter.mpr ⟨(gm_lv_mem ad ls 0 _).mpr ⟨j, w, h2, by simp⟩, ?_⟩))
    simp only [Bool.and_eq_true, Bool.not_eq_true', beq_eq_false_iff_ne, ne_eq, Bool.and_eq_false_iff, gm_v_cat]
    refine ⟨h1, ?_⟩
    by_cases h4 : j + 1 = i
    · exact Or.inr fun h5 => h3 ⟨h4, h5⟩
    · exact Or.inl h4
  have hil : i < ls.length := by rw [h.2.1]; exact hi
  rw [gm_set_eq] at hj
  by_cases hj0 : j = i
  · subst hj0
    rw [List.getElem?_set_self (by
      cases j with
      | zero => simp [gm_st1, gm_set_eq]; omega
      | succ j =>
        simp only [gm_st1, gm_set_eq]
        cases gm_cat2 (gm_nth ls j) <;> simp <;> omega)] at hj
    cases hj
  · rw [List.getElem?_set_ne (Ne.symm hj0)] at hj
    cases i with
    | zero =>
      simp only [gm_st1, gm_set_eq] at hj
      rw [List.getElem?_set_ne (Ne.symm hj0)] at hj
      exact rest hj0 hj (by omega)
    | succ i =>
      simp only [gm_st1, gm_set_eq] at hj
      rw [List.getElem?_set_ne (Ne.symm hj0)] at hj
      cases hc : gm_cat2 (gm_nth ls i) with
      | false =>
        rw [hc] at hj
        simp only [cond_false] at hj
        refine rest hj0 hj (fun hz => ?_)
        have hji : j = i := by omega
        subst hji
        rw [gm_cat2_of hj, hz.2] at hc
        simp at hc
      | true =>
        rw [hc] at hj
        simp only [cond_true] at hj
        by_cases hji : j = i
        · subst hji
          rw [List.getElem?_set_self (by omega)] at hj
          cases hj
        · rw [List.getElem?_set_ne (Ne.symm hji)] at hj
          exact rest hj0 hj (fun hz => hji (by omega))
theorem gm_c2_cat (v : Value) : gm_c2 v = true ↔ v.category = 2 := by cases v <;> simp [gm_c2, Value.category]
theorem gm_sum_s (v : Value) (r : List Value) : gm_sum (v :: r) = (bif gm_c2 v then 2 else 1) + gm_sum r := by cases v <;> rfl
theorem gm_sl_n : ∀ av : List Value, (gm_sl av).length = gm_sum av
  | [] => rfl
  | v :: r => by
    rw [gm_sum_s, ← gm_sl_n r]
    show (some v :: (bif gm_c2 v then none :: gm_sl r else gm_sl r)).length = _
    cases gm_c2 v
    · show (gm_sl r).length + 1 = 1 + (gm_sl r).length
      omega
    · show (gm_sl r).length + 1 + 1 = 2 + (gm_sl r).length
      omega
theorem gm_lg_n (ad : Nat → Nat) : ∀ av : List Value, (lg_sl (av.map (gm_v ad))).length = gm_sum av
  | [] => rfl
  | v :: r => by
    have ih := gm_lg_n ad r
    rw [gm_sum_s, ← ih]
    simp only [lg_sl, List.map_cons, List.flatMap_cons, List.length_append, gm_v_cat]
    cases v <;> simp [gm_c2, Value.category]
theorem gm_lv_args (ad : Nat → Nat) : ∀ (av : List Value) (k i : Nat) (v : Value), (gm_sl av)[i]? = some (some v) → (k + i, gm_v ad v) ∈ lv_args k (av.map (gm_v ad))
  | [], k, i, v, h => by simp [gm_sl] at h
  | w :: r, k, i, v, h => by
    have e : lv_args k ((w :: r).map (gm_v ad)) = (k, gm_v ad w) :: lv_args (if w.category = 2 then k + 2 else k + 1) (r.map (gm_v ad)) := by
      rw [List.map_cons, ← gm_v_cat ad w]
      rfl
    rw [e]
    cases i with
    | zero =>
      have h0 : some (some w) = some (some v) := h
      cases h0
      exact List.mem_cons_self
    | succ i =>
      refine List.mem_cons_of_mem _ ?_
      have h' : (bif gm_c2 w then none :: gm_sl r else gm_sl r)[i]? = some (some v) := h
      cases hc : gm_c2 w with
      | true =>
        rw [hc] at h'
        rw [if_pos ((gm_c2_cat w).mp hc)]
        cases i with
        | zero =>
          have h2 : (some none : Option (Option Value)) = some (some v) := h'
          cases h2
        | succ i =>
          have h2 : (gm_sl r)[i]? = some (some v) := h'
          have := gm_lv_args ad r (k + 2) i v h2
          rw [show k + (i + 1 + 1) = k + 2 + i by omega]
          exact this
      | false =>
        rw [hc] at h'
        rw [if_neg (fun z => by rw [(gm_c2_cat w).mpr z] at hc; cases hc)]
        have := gm_lv_args ad r (k + 1) i v h'
        rw [show k + (i + 1) = k + 1 + i by omega]
        exact this
theorem gm_entry {av : List Value} {ad : Nat → Nat} {n : Nat} (_hs : Nat.ble av.length (gm_sum av) = true) (hn : gm_sum av ≤ n) : gm_hL ((lg_sl (av.map (gm_v ad)) ++ List.replicate (n - (lg_sl (av.map (gm_v ad))).length) Slot.unset).toArray) n ad (gm_args n av) := by
  have hl := lv_entry (av.map (gm_v ad)) (n := n) (by rw [gm_lg_n]; exact hn)
  refine ⟨hl.1, by simp [gm_args, gm_sl_n]; omega, hl.2.1, fun i v hv => ?_⟩
  have hi : i < (gm_sl av).length := by
    rcases Nat.lt_or_ge i (gm_sl av).length with z | z
    · exact z
    · exfalso
      simp only [gm_args] at hv
      rw [List.getElem?_append_right z] at hv
      have := List.mem_of_getElem? hv
      simp at this
  have hv2 : (gm_sl av)[i]? = some (some v) := by
    simp only [gm_args] at hv
    rw [List.getElem?_append_left hi] at hv
    exact hv
  have := hl.2.2 (0 + i, gm_v ad v) (gm_lv_args ad av 0 i v hv2)
  simpa using this
theorem gm_hd_of {tn : List (Nat × String)} {E : String} {pc : Nat} : ∀ {hh : List (Nat × Nat × Nat × Nat)} {t : Nat}, gm_hd tn E pc hh = some t → ∃ pre x suf, hh = pre ++ x :: suf ∧ x.2.2.1 = t ∧ x.1 ≤ pc ∧ pc < x.2.1 ∧ gm_asc tn x.2.2.2 = some E ∧ ∀ z ∈ pre, ¬ (z.1 ≤ pc ∧ pc < z.2.1) ∨ gm_asc tn z.2.2.2 ≠ some E
  | [], t, h => by simp [gm_hd] at h
  | (a, b, t0, k) :: r, t, h => by
    simp only [gm_hd] at h
    cases hb : (Nat.ble a pc && Nat.blt pc b && (gm_asc tn k == some E)) with
    | true =>
      rw [hb] at h
      simp only [cond_true, Option.some.injEq] at h
      have h9 := Bool.and_eq_true_iff.mp hb
      have h8 := Bool.and_eq_true_iff.mp h9.1
      exact ⟨[], (a, b, t0, k), r, rfl, h, Nat.le_of_ble_eq_true h8.1, Nat.blt_eq.mp h8.2, by simpa using h9.2, fun z hz => by simp at hz⟩
    | false =>
      rw [hb] at h
      simp only [cond_false] at h
      obtain ⟨pre, x, suf, e1, e2, e3, e4, e5, e6⟩ := gm_hd_of h
      refine ⟨(a, b, t0, k) :: pre, x, suf, by rw [e1]; rfl, e2, e3, e4, e5, fun z hz => ?_⟩
      rcases List.mem_cons.mp hz with rfl | hz
      · by_cases g1 : a ≤ pc ∧ pc < b
        · refine Or.inr fun g2 => ?_
          rw [Nat.ble_eq_true_of_le g1.1, Nat.blt_eq.mpr g1.2, g2] at hb
          simp at hb
        · exact Or.inl g1
      · exact e6 z hz
section GM
variable {p : Program} {l : Launch} {e : Env} {R : Room} {s : State} {m : MethodId} {args : Array Value} {below : List Frame} {meth : Method} {c : Code} {Q : State → Prop} {dC : Nat → ClassId} {dI : Nat → Nat → Nat} {cy : Nat → ClassId} {A : Nat → Prop} {ad0 : Nat → Nat} {n0 nL : Nat}
/-- a handler of this method takes the exception -/
theorem gm_catch {M : pM} {X : pX} {pc t : Nat} {ls : pL} {E : String} {h : pH} {cl sl : Nat} (hx : p.tables.exec = Jvm.exec) (hb : c.code = M.2.2.1) (hown : s.vm.findClass M.1 = some m.cls) (hts : ∀ w ∈ gm_U, w.before args s = true) (hEx : gm_Ex A s) (hC : gm_Cok M) (hT : gm_Tok M) (htab : c.exceptionTable.toList = tableOf M.2.2.2.2.2.2.1)
    (ht : gm_hd M.2.2.2.2.2.2.2.2.2.2.2 E pc M.2.2.2.2.2.2.1 = some t) (hG : gm_thr M (gm_G p l e R s m args below meth c Q dC dI cy A ad0 n0 nL) X pc ls E h cl sl) : gm_GX p l e R s m args below meth c Q dC dI cy A ad0 n0 nL pc ls E h cl sl := by
  obtain ⟨pre, x, suf, e1, e2, e3, e4, e5, e6⟩ := gm_hd_of ht
  have hxin : x ∈ M.2.2.2.2.2.2.1 := by rw [e1]; exact List.mem_append_right _ List.mem_cons_self
  obtain ⟨E1, g1, g2, g3, g4, g5⟩ := hT.2.1 x hxin
  cases Option.some.inj (g1.symm.trans e5)
  unfold gm_thr at hG
  rw [ht] at hG
  dsimp only at hG
  have key : ∀ (k : Nat) (n2 : Nat), Nat.blt k ls.length = true → gm_G p l e R s m args below meth c Q dC dI cy A ad0 n0 nL (t + n2) (gm_set (gm_st1 ls k (.int 0)) k none) [] h cl sl → (∀ (H : Heap) (locs : List Loc) (lsA : Array Slot) (q : Addr) (lv : List (Nat × Value)), lv_has lsA nL lv → k < nL → (∀ lsB : Array Slot, lv_has lsB nL ((k, .ref q) :: lv.filter (fun q => !(q.1 == k) && !(q.1 + 1 == k && q.2.category == 2))) → W p l e R s m args below meth c H locs cl sl Q (F0 m (t + n2) lsB [])) → W p l e R s m args below meth c H locs cl sl Q (F0 m t lsA [.ref q])) → gm_GX p l e R s m args below meth c Q dC dI cy A ad0 n0 nL pc ls E h cl sl := by
    intro k n2 hk hG2 hrow
    refine ⟨hG2.1, fun ad H locs lsA rest q ce hag hP hD hS hL hce hcv hcl => ?_⟩
    have hkn : k < nL := by rw [← hL.2.1]; exact Nat.blt_eq.mp hk
    refine vx_catch (own := M.1) (name := E) (E := E) hown (tableOf pre) ⟨x.1, x.2.1, x.2.2.1, x.2.2.2⟩ (tableOf suf) (by rw [htab, e1]; simp [tableOf]) (fun z hz => ?_) (by simp [covers, e3, e4]) g4 (hts _ g3) (va_Nw.use rfl (hEx.2.2.1 _ g5 rfl)) hce hcv hcl ?_
    · obtain ⟨z0, hz0, rfl⟩ := List.mem_map.mp hz
      rcases e6 z0 hz0 with g | g
      · refine Or.inl ?_
        simp only [covers]
        by_cases w1 : z0.1 ≤ pc
        · by_cases w2 : pc < z0.2.1
          · exact absurd ⟨w1, w2⟩ g
          · simp [w2]
        · simp [w1]
      · have hz0in : z0 ∈ M.2.2.2.2.2.2.1 := by rw [e1]; exact List.mem_append_left _ hz0
        obtain ⟨E3, f1, f2, f3, f4, f5⟩ := hT.2.1 z0 hz0in
        refine Or.inr ⟨f4, E3, hts _ f3, hEx.2.2.2.2.1 E g2 E3 f2 (fun hz => g (by rw [f1, hz]))⟩
    · rw [e2]
      exact hrow H locs lsA q (gm_lv ad 0 ls) hL.has hkn (fun lsB hB => hG2.2 ad H locs lsB hag hP hD hS (hL.st1n hkn hB))
  split at hG
  · rename_i k len hk
    obtain ⟨hd, hlen⟩ := hC.1 _ _ _ hk
    have hl := Nat.eq_of_beq_eq_true hlen
    subst hl
    exact key k.val 1 (gm_if_of hG).1 (gm_if_of hG).2 (fun H locs lsA q lv h1 h2 h3 => lv_astore_n hx hb hd rfl h1 h2 rfl h3)
  · rename_i k len hk
    obtain ⟨hd, hlen⟩ := hC.1 _ _ _ hk
    have hl := Nat.eq_of_beq_eq_true hlen
    subst hl
    exact key k 2 (gm_if_of hG).1 (gm_if_of hG).2 (fun H locs lsA q lv h1 h2 h3 => lv_astore hx hb hd h1 h2 rfl h3)
  · exact hG.elim
end GM
end
section
/-! SOUNDNESS, 7: by induction on the depth of calls -/
section GM
variable {l : Launch}
theorem gm_hts {M : pM} {y : MethodName} {rm : Room} {cc : ByteArray} {maxL : Nat} {ret : Option FieldType} {p : Program} {e : Env} {s : State} {m : MethodId} {args : Array Value} {below : List Frame} {meth : Method} {c : Code} {s₁ : State} (B : BodyLoose p l y (headSpec (gm_ws M) rm) cc maxL ret e s m args below meth c s₁) : ∀ w ∈ gm_ws M, w.before args s = true := atoms_spec (ws := gm_ws M) B.pre
/-- the walk of a body that returns -/
theorem gm_body1 {M : pM} {MT : Nat → Option pM} {d : Nat} {av : List Value} {h h1 : pH} {v : Option Value} {c1 s1 : Nat} {p : Program} {e : Env} {s : State} {m : MethodId} {args : Array Value} {below : List Frame} {meth : Method} {c : Code} {dC : Nat → ClassId} {dI : Nat → Nat → Nat} {cy : Nat → ClassId} {ad : Nat → Nat} {sz : Nat} {R : Room}
    (hall : gm_Aok MT) (hRr : R = gm_rm (d + 1) c1 s1)
    (hx : p.tables.exec = Jvm.exec) (hb : c.code = M.2.2.1) (hml : c.maxLocals = M.2.2.2.1) (hown : s.vm.findClass M.2.1.cls = some m.cls) (hts : ∀ w ∈ gm_U, w.before args s = true) (hrt : meth.sig.returnType = M.2.2.2.2.1) (hlocks : meth.locks = false) (hinit : M.2.1.name = "<init>" → meth.name = "<init>")
    (htab : c.exceptionTable.toList = tableOf M.2.2.2.2.2.2.1)
    (hpc : gm_Pc dC dI cy ad h av sz args s) {mid : Nat} (hMT : MT mid = some M)
    (hS1 : ∀ mid M2 av h v h1 c1 s1, MT mid = some M2 → gm_Sp MT d mid av h (.inl v) h1 c1 s1 → gm_Met1 l d M2 av h v h1 c1 s1 ∧ (M2.2.1.name = "<init>" ∨ h1.length = h.length))
    (hS2 : ∀ mid M2 av h E h1 c1 s1, MT mid = some M2 → gm_Sp MT d mid av h (.inr E) h1 c1 s1 → gm_Met2 l d M2 av h E h1 c1 s1 ∧ h1.length = h.length ∧ M2.2.2.2.2.2.2.1 = [])
    (hsd : gm_sd M av h (.inl v) h1) (hrun : ∀ (G : pG) (X : pX), gm_cl M gm_tyf none (gm_Sp MT d) G X → X (.inl v) h1 c1 s1 → G 0 (gm_args M.2.2.2.1 av) [] h 0 0) :
    W p l e R s m args below meth c s.heap [] 0 0 (MQ below (gm_Q dC dI cy ad h h1 v sz) args s c1 s1 (va_A (gm_W cy ad 0 h) sz)) (entryFrame m args M.2.2.2.1) := by
  obtain ⟨hM, hC, hKK, hT⟩ := hall.2.2 mid M hMT
  obtain ⟨rfl, hsz, hP, hK, hD0, hEx⟩ := hpc
  subst hsz
  subst hRr
  have hD : va_D (va_A (gm_W cy ad 0 h) s.heap.size) (gm_W cy ad 0 h) := hD0.self
  have hA : ∀ q : Nat, s.heap.size ≤ q → va_A (gm_W cy ad 0 h) s.heap.size q := fun q h => Or.inr h
  have hS : va_S (va_A (gm_W cy ad 0 h) s.heap.size) s.heap s.heap [] := va_S.rf
  have hown2 : s.vm.findClass M.1 = some m.cls := by rw [hM.2.2.2.2.2.2]; exact hown
  let Q := MQ below (gm_Q dC dI cy ad h h1 v s.heap.size) (av.map (gm_v ad)).toArray s c1 s1 (va_A (gm_W cy ad 0 h) s.heap.size)
  let G := gm_G p l e (gm_rm (d + 1) c1 s1) s m (av.map (gm_v ad)).toArray below meth c Q dC dI cy (va_A (gm_W cy ad 0 h) s.heap.size) ad h.length M.2.2.2.1
  let X : pX := fun o9 h9 c9 s9 => o9 = .inl v ∧ h9 = h1 ∧ c9 = c1 ∧ s9 = s1
  have hcl : gm_cl M gm_tyf none (gm_Sp MT d) G X := by
    refine gm_closed (MT := MT) (d := d) hx hb hml hown2 hts hall.1 hK hA hEx ⟨by show d + 13 ≤ d + 1 + 12; omega, by show 60 * d + 210 ≤ 60 * (d + 1) + 150; omega⟩ hC hKK (fun mid M2 h => (hall.2.2 mid M2 h).1) hall.2.1 (fun q hq => by cases hq) hinit hS1 hS2 ?_ ?_ ?_
    · intro pc i len ls st h9 cl sl v9 hasc hrtv hokr hX
      obtain ⟨hv, rfl, rfl, rfl⟩ := hX
      cases hv
      obtain ⟨hd, hlen⟩ := hC.1 pc i len hasc
      refine ⟨⟨Nat.le_refl _, Nat.le_refl _⟩, fun ad2 H locs lsA hag hP2 hD2 hS2 hL => ?_⟩
      have hq : ∀ t : State, t.heap = H → s.WarmedH t.vm → gm_Q dC dI cy ad h h9 v s.heap.size (av.map (gm_v ad)).toArray s (.returned (v.map (gm_v ad2))) t := fun t ht hW => ⟨⟨ad2, hag, rfl, by rw [ht]; exact hP2, hD2⟩, hS2.F ht⟩
      unfold gm_rt at hrtv
      split at hrtv
      · cases hrtv
        have hl := Nat.eq_of_beq_eq_true hlen
        subst hl
        cases hr9 : M.2.2.2.2.1 with
        | none => rw [hr9] at hokr; exact False.elim hokr
        | some ty =>
          rw [hr9] at hokr
          exact W.zret hx hb (hrt.trans hr9) (gm_ok_nf ad2 hokr).1 hq hS2.2.2 hd hlocks
      · cases hrtv
        have hl := Nat.eq_of_beq_eq_true hlen
        subst hl
        cases hr9 : M.2.2.2.2.1 with
        | none => rw [hr9] at hokr; exact False.elim hokr
        | some ty =>
          rw [hr9] at hokr
          have hty : ty = .long := by
            cases ty <;> first | rfl | exact False.elim hokr
          subst hty
          exact W.lret hx hb (hrt.trans hr9) hq hS2.2.2 hd hlocks
      · cases hrtv
        have hl := Nat.eq_of_beq_eq_true hlen
        subst hl
        cases hr9 : M.2.2.2.2.1 with
        | none => rw [hr9] at hokr; exact False.elim hokr
        | some ty =>
          rw [hr9] at hokr
          have hty : ty = .float := by
            cases ty <;> first | rfl | exact False.elim hokr
          subst hty
          exact W.fret hx hb (hrt.trans hr9) hq hS2.2.2 hd hlocks
      · cases hrtv
        have hl := Nat.eq_of_beq_eq_true hlen
        subst hl
        rename_i x9
        cases hr9 : M.2.2.2.2.1 with
        | none => rw [hr9] at hokr; exact False.elim hokr
        | some ty =>
          rw [hr9] at hokr
          refine W.aret (v := .ref (ad2 x9)) hx hb (hrt.trans hr9) ?_ (Or.inr ⟨_, rfl⟩) hq hS2.2.2 hd hlocks
          cases ty <;> first | exact Or.inl ⟨_, rfl⟩ | exact Or.inr ⟨_, rfl⟩ | exact False.elim hokr
      · cases hrtv
        have hl := Nat.eq_of_beq_eq_true hlen
        subst hl
        cases hr9 : M.2.2.2.2.1 with
        | none => exact W.vret hx hb (hrt.trans hr9) hq hS2.2.2 hd hlocks
        | some ty => rw [hr9] at hokr; exact False.elim hokr
      · cases hrtv
    · intro pc k len E ls st h9 cl sl _ _ _ hX
      exact False.elim (by have := hX.1; cases this)
    · intro pc ls E h9 cl sl hthr
      cases ht : gm_hd M.2.2.2.2.2.2.2.2.2.2.2 E pc M.2.2.2.2.2.2.1 with
      | none =>
        unfold gm_thr at hthr
        rw [ht] at hthr
        exact False.elim (by have := hthr.1; cases this)
      | some t => exact gm_catch hx hb hown2 hts hEx hC hT htab ht hthr
  have hG := hrun G X hcl ⟨rfl, rfl, rfl, rfl⟩
  rw [lg_entry_eq]
  have hag0 : gm_ag h.length ad ad h := ⟨Nat.le_refl _, fun _ => rfl, fun _ _ => rfl, rfl⟩
  exact hG.2 ad s.heap [] _ hag0 hP hD hS (gm_entry hsd.2.1 (Nat.le_of_ble_eq_true hsd.2.2.1))
/-- the walk of a body that throws -/
theorem gm_body2 (hl : l.stackTraces = false) {M : pM} {MT : Nat → Option pM} {d : Nat} {av : List Value} {h h1 : pH} {E : String} {c1 s1 : Nat} {p : Program} {e : Env} {s : State} {m : MethodId} {args : Array Value} {below : List Frame} {meth : Method} {c : Code} {dC : Nat → ClassId} {dI : Nat → Nat → Nat} {cy : Nat → ClassId} {ad : Nat → Nat} {sz : Nat} {R : Room}
    (hall : gm_Aok MT) (hRr : R = gm_rm (d + 1) c1 s1)
    (hx : p.tables.exec = Jvm.exec) (hb : c.code = M.2.2.1) (hml : c.maxLocals = M.2.2.2.1) (hown : s.vm.findClass M.2.1.cls = some m.cls) (hts : ∀ w ∈ gm_U, w.before args s = true) (hlocks : meth.locks = false) (hinit : M.2.1.name = "<init>" → meth.name = "<init>")
    (htab : ∀ x ∈ c.exceptionTable.toList, False)
    (hpc : gm_Pc dC dI cy ad h av sz args s) {mid : Nat} (hMT : MT mid = some M)
    (hS1 : ∀ mid M2 av h v h1 c1 s1, MT mid = some M2 → gm_Sp MT d mid av h (.inl v) h1 c1 s1 → gm_Met1 l d M2 av h v h1 c1 s1 ∧ (M2.2.1.name = "<init>" ∨ h1.length = h.length))
    (hS2 : ∀ mid M2 av h E h1 c1 s1, MT mid = some M2 → gm_Sp MT d mid av h (.inr E) h1 c1 s1 → gm_Met2 l d M2 av h E h1 c1 s1 ∧ h1.length = h.length ∧ M2.2.2.2.2.2.2.1 = [])
    (hsd : gm_sd M av h (.inr E) h1) (hrun : ∀ (G : pG) (X : pX), gm_cl M gm_tyf none (gm_Sp MT d) G X → X (.inr E) h1 c1 s1 → G 0 (gm_args M.2.2.2.1 av) [] h 0 0) :
    W p l e R s m args below meth c s.heap [] 0 0 (vx_MQ below (fun _ _ _ _ => False) (gm_XC E dC dI cy ad h h1 sz) args s c1 s1 (va_A (gm_W cy ad 0 h) sz)) (entryFrame m args M.2.2.2.1) := by
  obtain ⟨hM, hC, hKK, hT⟩ := hall.2.2 mid M hMT
  obtain ⟨rfl, hsz, hP, hK, hD0, hEx⟩ := hpc
  subst hsz
  subst hRr
  have hlen : h1.length = h.length := hsd.2.2.2.2.1
  have hhn : M.2.2.2.2.2.2.1 = [] := hsd.2.2.2.1
  have hD : va_D (va_A (gm_W cy ad 0 h) s.heap.size) (gm_W cy ad 0 h) := hD0.self
  have hA : ∀ q : Nat, s.heap.size ≤ q → va_A (gm_W cy ad 0 h) s.heap.size q := fun q h => Or.inr h
  have hS : va_S (va_A (gm_W cy ad 0 h) s.heap.size) s.heap s.heap [] := va_S.rf
  have hown2 : s.vm.findClass M.1 = some m.cls := by rw [hM.2.2.2.2.2.2]; exact hown
  let Q := vx_MQ below (fun _ _ _ _ => False) (gm_XC E dC dI cy ad h h1 s.heap.size) (av.map (gm_v ad)).toArray s c1 s1 (va_A (gm_W cy ad 0 h) s.heap.size)
  let G := gm_G p l e (gm_rm (d + 1) c1 s1) s m (av.map (gm_v ad)).toArray below meth c Q dC dI cy (va_A (gm_W cy ad 0 h) s.heap.size) ad h.length M.2.2.2.1
  let X : pX := fun o9 h9 c9 s9 => o9 = .inr E ∧ h9 = h1 ∧ c9 = c1 ∧ s9 = s1
  have hcl : gm_cl M gm_tyf none (gm_Sp MT d) G X := by
    refine gm_closed (MT := MT) (d := d) hx hb hml hown2 hts hall.1 hK hA hEx ⟨by show d + 13 ≤ d + 1 + 12; omega, by show 60 * d + 210 ≤ 60 * (d + 1) + 150; omega⟩ hC hKK (fun mid M2 h => (hall.2.2 mid M2 h).1) hall.2.1 (fun q hq => by cases hq) hinit hS1 hS2 ?_ ?_ ?_
    · intro pc i len ls st h9 cl sl v9 hasc hrtv hokr hX
      exact False.elim (by have := hX.1; cases this)
    · intro pc k len E9 ls st h9 cl sl hasc hexc hsum hX
      obtain ⟨hE, rfl, hc1, hs1⟩ := hX
      cases hE
      obtain ⟨ic, q, hq, hRX, hEok, d0, d3, hdd⟩ := hT.1 pc k len E hasc hexc
      obtain ⟨g1, g2, g3, g4, g6, ix, rx, x0, x1, x2, x5, g5⟩ := hEok
      obtain ⟨sa, hsa⟩ := hEx.2.2.2.1 q hq
      have hown3 : s.vm.findClass RX6 = some m.cls := by rw [← hRX]; exact hown2
      refine ⟨⟨by show cl ≤ c1; omega, by show sl ≤ s1; omega⟩, fun ad2 H locs lsA hag hP2 hD2 hS2 hL => ?_⟩
      have had : ad2 = ad := hag.2.1 hlen
      subst had
      have hat : ∀ w ∈ gx_at RX6 ic E ix rx gm_names, w.before (av.map (gm_v ad2)).toArray s = true := fun w hw => (Bool.or_eq_true_iff.mp (g5 w hw).2).elim (fun z => hts w (gm_U_in (g5 w hw).1 z)) (fun z => va_Nw.use (gm_isn_tab z) (hEx.2.2.1 w (g5 w hw).1 z))
      have hgood : ∀ w ∈ Cond.classLink RX6 k E :: Cond.initialized E :: gx_at RX6 ic E ix rx gm_names, vx_ot w = true := by
        have hu : ∀ w ∈ gm_U, vx_ot w = true := fun w hw => by
          unfold vx_ot
          rw [(List.mem_filter.mp hw).2, Bool.or_true]
        intro w hw
        rcases List.mem_cons.mp hw with rfl | hw
        · exact hu _ g3
        rcases List.mem_cons.mp hw with rfl | hw
        · exact hu _ g4
        · exact (Bool.or_eq_true_iff.mp (g5 w hw).2).elim (fun z => hu w (gm_U_in (g5 w hw).1 z)) (fun z => by unfold vx_ot; rw [gm_isn_tab z]; rfl)
      have hnames : ∀ n ∈ gm_names, Bundle.fit n = true := by decide +kernel
      have hxc : ∀ t : State, s.vm.Alike t.vm → H.size ≤ t.heap.size → (∀ q : Nat, q < H.size → t.heap[q]? = H[q]?) → gm_XC E dC dI cy ad2 h h9 s.heap.size E s t := by
        intro t _ ht1 ht2
        refine ⟨rfl, hP2.kept (fun k q hk => ht2 q.1 (hP2 k q hk).lt), hD2, Nat.le_trans hS2.1 ht1, fun q h1 h2 => ?_⟩
        rw [ht2 q (Nat.lt_of_lt_of_le h1 hS2.1)]
        exact hS2.2.1 q h1 h2
      have hrl : ((st.map (gm_v ad2)).map fun v => v.category).sum + (13 * (gm_names.length + 1) + 43) ≤ (gm_rm (d + 1) c1 s1).locals := by
        rw [gm_v_sum]
        show gm_sum st + (13 * (2 + 1) + 43) ≤ 60 * (d + 1) + 150
        omega
      have hrf : gm_names.length + 3 < (gm_rm (d + 1) c1 s1).frames := by
        show 2 + 3 < d + 1 + 12
        omega
      have hc1' : cl + 1 = c1 := hc1
      have hs1' : sl + 6 = s1 := hs1
      rcases hdd with ⟨d4, d6, d9⟩ | ⟨d4, d7, d10⟩
      · exact gx_throwS hx hb hl x0 x1 x2 x5 hown3 g2 hnames (hts _ g3) (hts _ g4) hsa hat hgood hEx.1 hEx.2.1 hS2 (by rw [hml]; exact hL.1) d0 d3 d4 d6 d9 (fun x hx => (htab x hx).elim) hrf hrl (by show cl + 1 ≤ c1; omega) (by show sl + 6 ≤ s1; omega) hlocks hxc hS2.2.2 (by omega) (by omega)
      · exact gx_throwSW hx hb hl x0 x1 x2 x5 hown3 g2 hnames (hts _ g3) (hts _ g4) hsa hat hgood hEx.1 hEx.2.1 hS2 (by rw [hml]; exact hL.1) d0 d3 d4 d7 d10 (fun x hx => (htab x hx).elim) hrf hrl (by show cl + 1 ≤ c1; omega) (by show sl + 6 ≤ s1; omega) hlocks hxc hS2.2.2 (by omega) (by omega)
    · intro pc ls E9 h9 cl sl hthr
      unfold gm_thr at hthr
      rw [hhn] at hthr
      simp only [gm_hd] at hthr
      obtain ⟨hE, rfl, rfl, rfl⟩ := hthr
      cases hE
      refine ⟨⟨Nat.le_refl _, Nat.le_refl _⟩, fun ad2 H locs lsA rest q ce hag hP2 hD2 hS2 hL hce hcv hcl => ?_⟩
      have had : ad2 = ad := hag.2.1 hlen
      subst had
      exact vx_out (fun x hx => (htab x hx).elim) hlocks hce hcv hcl (fun t ht _ => ⟨rfl, by rw [ht]; exact hP2, hD2, hS2.F ht⟩) hS2.2.2 (Nat.le_refl _) (Nat.le_refl _)
  have hG := hrun G X hcl ⟨rfl, rfl, rfl, rfl⟩
  rw [lg_entry_eq]
  have hag0 : gm_ag h.length ad ad h := ⟨Nat.le_refl _, fun _ => rfl, fun _ _ => rfl, rfl⟩
  exact hG.2 ad s.heap [] _ hag0 hP hD hS (gm_entry hsd.2.1 (Nat.le_of_ble_eq_true hsd.2.2.1))
theorem gm_sound (hl : l.stackTraces = false) {MT : Nat → Option pM} (hall : gm_Aok MT) : ∀ (d mid : Nat) (M : pM) (av : List Value) (h : pH) (o : pO) (h1 : pH) (c1 s1 : Nat), MT mid = some M → gm_Sp MT d mid av h o h1 c1 s1 → match o with
    | .inl v => gm_Met1 l d M av h v h1 c1 s1 ∧ (M.2.1.name = "<init>" ∨ h1.length = h.length)
    | .inr E => gm_Met2 l d M av h E h1 c1 s1 ∧ h1.length = h.length ∧ M.2.2.2.2.2.2.1 = [] := by
  intro d
  induction d with
  | zero => intro mid M av h o h1 c1 s1 _ hSp; exact False.elim hSp
  | succ d ih =>
    intro mid M av h o h1 c1 s1 hMT hSp
    have hS1 : ∀ mid M2 av h v h1 c1 s1, MT mid = some M2 → gm_Sp MT d mid av h (.inl v) h1 c1 s1 → gm_Met1 l d M2 av h v h1 c1 s1 ∧ (M2.2.1.name = "<init>" ∨ h1.length = h.length) := fun mid M2 av h v h1 c1 s1 g1 g2 => ih mid M2 av h (.inl v) h1 c1 s1 g1 g2
    have hS2 : ∀ mid M2 av h E h1 c1 s1, MT mid = some M2 → gm_Sp MT d mid av h (.inr E) h1 c1 s1 → gm_Met2 l d M2 av h E h1 c1 s1 ∧ h1.length = h.length ∧ M2.2.2.2.2.2.2.1 = [] := fun mid M2 av h E h1 c1 s1 g1 g2 => ih mid M2 av h (.inr E) h1 c1 s1 g1 g2
    obtain ⟨M9, hM9, hsd, hrun⟩ := hSp
    cases Option.some.inj (hM9.symm.trans hMT)
    obtain ⟨hM, hC, hKK, hT⟩ := hall.2.2 mid M hMT
    cases o with
    | inl v =>
      refine ⟨fun dC dI cy ad sz => ?_, hsd.1⟩
      cases hh : M.2.2.2.2.2.2.1 with
      | nil =>
        refine va_MetF (cc := M.2.2.1) (maxL := M.2.2.2.1) (ret := M.2.2.2.2.1) hM.2.1 (gm_ws_cons M hh) ?_
        intro p e s m args below meth c s₁ B hml hpc
        have hts := gm_hts B
        have htab : c.exceptionTable.toList = tableOf M.2.2.2.2.2.2.1 := by
          obtain ⟨meth9, c9, h1, h2, -, -, -, -, h7, -⟩ := Cond.code_spec B.named (hts _ (by rw [gm_ws_cons M hh]; exact List.mem_cons_self))
          cases Option.some.inj (h1.symm.trans B.method)
          cases Option.some.inj (h2.symm.trans (Stand.of_body B).code)
          rw [hh, Array.isEmpty_iff.mp h7]
          rfl
        exact gm_body1 hall rfl B.exec B.bytes hml (findClass_of_methodNamed B.named) (fun w hw => hts w (List.mem_cons_of_mem _ hw)) B.returns B.notSynchronized (fun hn => ((name_of_methodNamed B.named B.method).1).trans hn) htab hpc hMT hS1 hS2 hsd hrun
      | cons a r =>
        refine va_MetW (cc := M.2.2.1) (maxL := M.2.2.2.1) (ret := M.2.2.2.2.1) (hh := a :: r) (hT.2.2 (by rw [hh]; exact fun z => by cases z)) (gm_ws_consW M hh) ?_
        intro p e s m args below meth c s₁ B hml hpc
        have hts := gm_hts B
        have htab : c.exceptionTable.toList = tableOf M.2.2.2.2.2.2.1 := by
          rw [hh]
          exact vx_table (x := M.2.1) B (hts _ (by rw [gm_ws_consW M hh]; exact List.mem_cons_self))
        exact gm_body1 hall rfl B.exec B.bytes hml (findClass_of_methodNamed B.named) (fun w hw => hts w (List.mem_cons_of_mem _ hw)) B.returns B.notSynchronized (fun hn => ((name_of_methodNamed B.named B.method).1).trans hn) htab hpc hMT hS1 hS2 hsd hrun
    | inr E =>
      have hh : M.2.2.2.2.2.2.1 = [] := hsd.2.2.2.1
      refine ⟨fun dC dI cy ad sz => ?_, hsd.2.2.2.2.1, hh⟩
      refine vx_ofW (cc := M.2.2.1) (maxL := M.2.2.2.1) (ret := M.2.2.2.2.1) hsd.2.2.2.2.2 (gm_ws_cons M hh) ?_
      intro p e s m args below meth c s₁ B hml htab hpc
      have hts := gm_hts B
      exact gm_body2 hl hall rfl B.exec B.bytes hml (findClass_of_methodNamed B.named) (fun w hw => hts w (List.mem_cons_of_mem _ hw)) B.notSynchronized (fun hn => ((name_of_methodNamed B.named B.method).1).trans hn) htab hpc hMT hS1 hS2 hsd hrun
end GM
end
