section
-- ===== PART A: goes FIRST, ahead of the names: the tables' words, and 'selects' of the private methods out of them =====
/-- a private method of a class that the tables say can be made, by its rows of tables_1 -/
def lw_okq (q : MethodName × Nat) : Prop := (q.1.cls ≠ "java/lang/invoke/MethodHandle" ∧ q.1.cls ≠ "java/lang/invoke/VarHandle") ∧ Cond.instantiable q.1.cls q.2 ∈ tables_1 ∧ Cond.privateMethod q.1 ∈ tables_1 ∧ Cond.instanceMethod q.1 ∈ tables_1
theorem lw_p0 : lw_okq (⟨"VersionSolver", "countWanted", "()I"⟩, 7) := ⟨⟨by decide +kernel, by decide +kernel⟩, List.mem_of_getElem? (i := 33) (by decide +kernel), List.mem_of_getElem? (i := 150) (by decide +kernel), List.mem_of_getElem? (i := 151) (by decide +kernel)⟩
theorem lw_p1 : lw_okq (⟨"VersionSolver", "writeLine", "(LVersionSolver$Release;)V"⟩, 7) := ⟨⟨by decide +kernel, by decide +kernel⟩, List.mem_of_getElem? (i := 33) (by decide +kernel), List.mem_of_getElem? (i := 162) (by decide +kernel), List.mem_of_getElem? (i := 163) (by decide +kernel)⟩
theorem lw_p2 : lw_okq (⟨"java/lang/Throwable", "fillInStackTrace", "(I)Ljava/lang/Throwable;"⟩, 6) := ⟨⟨by decide +kernel, by decide +kernel⟩, List.mem_of_getElem? (i := 218) (by decide +kernel), List.mem_of_getElem? (i := 216) (by decide +kernel), List.mem_of_getElem? (i := 217) (by decide +kernel)⟩
theorem lw_p3 : lw_okq (⟨"VersionSolver", "useUpText", "()LVersionSolver$Reader;"⟩, 7) := ⟨⟨by decide +kernel, by decide +kernel⟩, List.mem_of_getElem? (i := 33) (by decide +kernel), List.mem_of_getElem? (i := 268) (by decide +kernel), List.mem_of_getElem? (i := 269) (by decide +kernel)⟩
theorem lw_p4 : lw_okq (⟨"VersionSolver$Reader", "release", "(I)LVersionSolver$Release;"⟩, 4) := ⟨⟨by decide +kernel, by decide +kernel⟩, List.mem_of_getElem? (i := 272) (by decide +kernel), List.mem_of_getElem? (i := 316) (by decide +kernel), List.mem_of_getElem? (i := 317) (by decide +kernel)⟩
theorem lw_p5 : lw_okq (⟨"VersionSolver$Reader", "numbers", "()I"⟩, 4) := ⟨⟨by decide +kernel, by decide +kernel⟩, List.mem_of_getElem? (i := 272) (by decide +kernel), List.mem_of_getElem? (i := 320) (by decide +kernel), List.mem_of_getElem? (i := 321) (by decide +kernel)⟩
theorem lw_p6 : lw_okq (⟨"VersionSolver$Reader", "number", "()I"⟩, 4) := ⟨⟨by decide +kernel, by decide +kernel⟩, List.mem_of_getElem? (i := 272) (by decide +kernel), List.mem_of_getElem? (i := 325) (by decide +kernel), List.mem_of_getElem? (i := 326) (by decide +kernel)⟩
theorem lw_p7 : lw_okq (⟨"VersionSolver$Reader", "isAt", "(IC)Z"⟩, 4) := ⟨⟨by decide +kernel, by decide +kernel⟩, List.mem_of_getElem? (i := 272) (by decide +kernel), List.mem_of_getElem? (i := 329) (by decide +kernel), List.mem_of_getElem? (i := 330) (by decide +kernel)⟩
theorem lw_p8 : lw_okq (⟨"VersionSolver$Reader", "words", "()[LVersionSolver$Word;"⟩, 4) := ⟨⟨by decide +kernel, by decide +kernel⟩, List.mem_of_getElem? (i := 272) (by decide +kernel), List.mem_of_getElem? (i := 333) (by decide +kernel), List.mem_of_getElem? (i := 334) (by decide +kernel)⟩
theorem lw_p9 : lw_okq (⟨"VersionSolver$Reader", "take", "(C)Z"⟩, 4) := ⟨⟨by decide +kernel, by decide +kernel⟩, List.mem_of_getElem? (i := 272) (by decide +kernel), List.mem_of_getElem? (i := 337) (by decide +kernel), List.mem_of_getElem? (i := 338) (by decide +kernel)⟩
theorem lw_p10 : lw_okq (⟨"VersionSolver$Reader", "countWords", "()I"⟩, 4) := ⟨⟨by decide +kernel, by decide +kernel⟩, List.mem_of_getElem? (i := 272) (by decide +kernel), List.mem_of_getElem? (i := 341) (by decide +kernel), List.mem_of_getElem? (i := 342) (by decide +kernel)⟩
theorem lw_p11 : lw_okq (⟨"VersionSolver$Reader", "skipWord", "()V"⟩, 4) := ⟨⟨by decide +kernel, by decide +kernel⟩, List.mem_of_getElem? (i := 272) (by decide +kernel), List.mem_of_getElem? (i := 345) (by decide +kernel), List.mem_of_getElem? (i := 346) (by decide +kernel)⟩
theorem lw_p12 : lw_okq (⟨"VersionSolver$Reader", "word", "()LVersionSolver$Word;"⟩, 4) := ⟨⟨by decide +kernel, by decide +kernel⟩, List.mem_of_getElem? (i := 272) (by decide +kernel), List.mem_of_getElem? (i := 351) (by decide +kernel), List.mem_of_getElem? (i := 352) (by decide +kernel)⟩
theorem lw_p13 : lw_okq (⟨"VersionSolver$Reader", "skipBuild", "()Z"⟩, 4) := ⟨⟨by decide +kernel, by decide +kernel⟩, List.mem_of_getElem? (i := 272) (by decide +kernel), List.mem_of_getElem? (i := 614) (by decide +kernel), List.mem_of_getElem? (i := 615) (by decide +kernel)⟩
theorem lw_p14 : lw_okq (⟨"VersionSolver$Reader", "digitOfPack", "()I"⟩, 4) := ⟨⟨by decide +kernel, by decide +kernel⟩, List.mem_of_getElem? (i := 272) (by decide +kernel), List.mem_of_getElem? (i := 677) (by decide +kernel), List.mem_of_getElem? (i := 678) (by decide +kernel)⟩
theorem lw_p15 : lw_okq (⟨"VersionSolver$Reader", "requirement", "()LVersionSolver$Requirement;"⟩, 4) := ⟨⟨by decide +kernel, by decide +kernel⟩, List.mem_of_getElem? (i := 272) (by decide +kernel), List.mem_of_getElem? (i := 682) (by decide +kernel), List.mem_of_getElem? (i := 683) (by decide +kernel)⟩
def lw_privs_1 : List (MethodName × Nat) := [(⟨"VersionSolver", "countWanted", "()I"⟩, 7), (⟨"VersionSolver", "writeLine", "(LVersionSolver$Release;)V"⟩, 7), (⟨"java/lang/Throwable", "fillInStackTrace", "(I)Ljava/lang/Throwable;"⟩, 6), (⟨"VersionSolver", "useUpText", "()LVersionSolver$Reader;"⟩, 7), (⟨"VersionSolver$Reader", "release", "(I)LVersionSolver$Release;"⟩, 4), (⟨"VersionSolver$Reader", "numbers", "()I"⟩, 4), (⟨"VersionSolver$Reader", "number", "()I"⟩, 4), (⟨"VersionSolver$Reader", "isAt", "(IC)Z"⟩, 4), (⟨"VersionSolver$Reader", "words", "()[LVersionSolver$Word;"⟩, 4), (⟨"VersionSolver$Reader", "take", "(C)Z"⟩, 4), (⟨"VersionSolver$Reader", "countWords", "()I"⟩, 4), (⟨"VersionSolver$Reader", "skipWord", "()V"⟩, 4), (⟨"VersionSolver$Reader", "word", "()LVersionSolver$Word;"⟩, 4), (⟨"VersionSolver$Reader", "skipBuild", "()Z"⟩, 4), (⟨"VersionSolver$Reader", "digitOfPack", "()I"⟩, 4), (⟨"VersionSolver$Reader", "requirement", "()LVersionSolver$Requirement;"⟩, 4)]
theorem lw_r1 : ∀ q ∈ lw_privs_1, lw_okq q := List.forall_mem_cons.mpr ⟨lw_p0, List.forall_mem_cons.mpr ⟨lw_p1, List.forall_mem_cons.mpr ⟨lw_p2, List.forall_mem_cons.mpr ⟨lw_p3, List.forall_mem_cons.mpr ⟨lw_p4, List.forall_mem_cons.mpr ⟨lw_p5, List.forall_mem_cons.mpr ⟨lw_p6, List.forall_mem_cons.mpr ⟨lw_p7, List.forall_mem_cons.mpr ⟨lw_p8, List.forall_mem_cons.mpr ⟨lw_p9, List.forall_mem_cons.mpr ⟨lw_p10, List.forall_mem_cons.mpr ⟨lw_p11, List.forall_mem_cons.mpr ⟨lw_p12, List.forall_mem_cons.mpr ⟨lw_p13, List.forall_mem_cons.mpr ⟨lw_p14, List.forall_mem_cons.mpr ⟨lw_p15, fun _ h => absurd h List.not_mem_nil⟩⟩⟩⟩⟩⟩⟩⟩⟩⟩⟩⟩⟩⟩⟩⟩
theorem lw_p16 : lw_okq (⟨"VersionSolver$Reader", "skipBlanks", "()V"⟩, 4) := ⟨⟨by decide +kernel, by decide +kernel⟩, List.mem_of_getElem? (i := 272) (by decide +kernel), List.mem_of_getElem? (i := 701) (by decide +kernel), List.mem_of_getElem? (i := 702) (by decide +kernel)⟩
theorem lw_p17 : lw_okq (⟨"VersionSolver$Reader", "comparator", "()LVersionSolver$Span;"⟩, 4) := ⟨⟨by decide +kernel, by decide +kernel⟩, List.mem_of_getElem? (i := 272) (by decide +kernel), List.mem_of_getElem? (i := 705) (by decide +kernel), List.mem_of_getElem? (i := 706) (by decide +kernel)⟩
theorem lw_p18 : lw_okq (⟨"VersionSolver$Reader", "sign", "()I"⟩, 4) := ⟨⟨by decide +kernel, by decide +kernel⟩, List.mem_of_getElem? (i := 272) (by decide +kernel), List.mem_of_getElem? (i := 734) (by decide +kernel), List.mem_of_getElem? (i := 735) (by decide +kernel)⟩
theorem lw_p19 : lw_okq (⟨"VersionSolver$Span", "from", "(LVersionSolver$Version;Z)V"⟩, 5) := ⟨⟨by decide +kernel, by decide +kernel⟩, List.mem_of_getElem? (i := 712) (by decide +kernel), List.mem_of_getElem? (i := 748) (by decide +kernel), List.mem_of_getElem? (i := 749) (by decide +kernel)⟩
theorem lw_p20 : lw_okq (⟨"VersionSolver$Span", "to", "(LVersionSolver$Version;Z)V"⟩, 5) := ⟨⟨by decide +kernel, by decide +kernel⟩, List.mem_of_getElem? (i := 712) (by decide +kernel), List.mem_of_getElem? (i := 755) (by decide +kernel), List.mem_of_getElem? (i := 756) (by decide +kernel)⟩
theorem lw_p21 : lw_okq (⟨"VersionSolver$Search", "setClash", "(II)V"⟩, 6) := ⟨⟨by decide +kernel, by decide +kernel⟩, List.mem_of_getElem? (i := 74) (by decide +kernel), List.mem_of_getElem? (i := 825) (by decide +kernel), List.mem_of_getElem? (i := 826) (by decide +kernel)⟩
theorem lw_p22 : lw_okq (⟨"VersionSolver$Search", "openOptions", "([LVersionSolver$Requirement;[I)J"⟩, 6) := ⟨⟨by decide +kernel, by decide +kernel⟩, List.mem_of_getElem? (i := 74) (by decide +kernel), List.mem_of_getElem? (i := 886) (by decide +kernel), List.mem_of_getElem? (i := 887) (by decide +kernel)⟩
theorem lw_p23 : lw_okq (⟨"VersionSolver$Search", "isPossible", "(JI)Z"⟩, 6) := ⟨⟨by decide +kernel, by decide +kernel⟩, List.mem_of_getElem? (i := 74) (by decide +kernel), List.mem_of_getElem? (i := 891) (by decide +kernel), List.mem_of_getElem? (i := 892) (by decide +kernel)⟩
theorem lw_p24 : lw_okq (⟨"VersionSolver$Search", "narrowed", "(J)J"⟩, 6) := ⟨⟨by decide +kernel, by decide +kernel⟩, List.mem_of_getElem? (i := 74) (by decide +kernel), List.mem_of_getElem? (i := 895) (by decide +kernel), List.mem_of_getElem? (i := 896) (by decide +kernel)⟩
theorem lw_p25 : lw_okq (⟨"VersionSolver$Search", "gatherPartners", "(J)V"⟩, 6) := ⟨⟨by decide +kernel, by decide +kernel⟩, List.mem_of_getElem? (i := 74) (by decide +kernel), List.mem_of_getElem? (i := 899) (by decide +kernel), List.mem_of_getElem? (i := 900) (by decide +kernel)⟩
theorem lw_p26 : lw_okq (⟨"VersionSolver$Search", "mostPressing", "(J)I"⟩, 6) := ⟨⟨by decide +kernel, by decide +kernel⟩, List.mem_of_getElem? (i := 74) (by decide +kernel), List.mem_of_getElem? (i := 910) (by decide +kernel), List.mem_of_getElem? (i := 911) (by decide +kernel)⟩
theorem lw_p27 : lw_okq (⟨"VersionSolver$Search", "withNoneWherePossible", "(J)J"⟩, 6) := ⟨⟨by decide +kernel, by decide +kernel⟩, List.mem_of_getElem? (i := 74) (by decide +kernel), List.mem_of_getElem? (i := 920) (by decide +kernel), List.mem_of_getElem? (i := 921) (by decide +kernel)⟩
theorem lw_p28 : lw_okq (⟨"VersionSolver$Search", "settled", "(JII)J"⟩, 6) := ⟨⟨by decide +kernel, by decide +kernel⟩, List.mem_of_getElem? (i := 74) (by decide +kernel), List.mem_of_getElem? (i := 924) (by decide +kernel), List.mem_of_getElem? (i := 925) (by decide +kernel)⟩
theorem lw_p29 : lw_okq (⟨"VersionSolver$Search", "isPossibleWithOneOf", "(IJI)Z"⟩, 6) := ⟨⟨by decide +kernel, by decide +kernel⟩, List.mem_of_getElem? (i := 74) (by decide +kernel), List.mem_of_getElem? (i := 928) (by decide +kernel), List.mem_of_getElem? (i := 929) (by decide +kernel)⟩
theorem lw_p30 : lw_okq (⟨"VersionSolver$Search", "firstPossible", "(JII)I"⟩, 6) := ⟨⟨by decide +kernel, by decide +kernel⟩, List.mem_of_getElem? (i := 74) (by decide +kernel), List.mem_of_getElem? (i := 932) (by decide +kernel), List.mem_of_getElem? (i := 933) (by decide +kernel)⟩
theorem lw_p31 : lw_okq (⟨"VersionSolver$Search", "foremost", "(JII)I"⟩, 6) := ⟨⟨by decide +kernel, by decide +kernel⟩, List.mem_of_getElem? (i := 74) (by decide +kernel), List.mem_of_getElem? (i := 936) (by decide +kernel), List.mem_of_getElem? (i := 937) (by decide +kernel)⟩
def lw_privs_2 : List (MethodName × Nat) := [(⟨"VersionSolver$Reader", "skipBlanks", "()V"⟩, 4), (⟨"VersionSolver$Reader", "comparator", "()LVersionSolver$Span;"⟩, 4), (⟨"VersionSolver$Reader", "sign", "()I"⟩, 4), (⟨"VersionSolver$Span", "from", "(LVersionSolver$Version;Z)V"⟩, 5), (⟨"VersionSolver$Span", "to", "(LVersionSolver$Version;Z)V"⟩, 5), (⟨"VersionSolver$Search", "setClash", "(II)V"⟩, 6), (⟨"VersionSolver$Search", "openOptions", "([LVersionSolver$Requirement;[I)J"⟩, 6), (⟨"VersionSolver$Search", "isPossible", "(JI)Z"⟩, 6), (⟨"VersionSolver$Search", "narrowed", "(J)J"⟩, 6), (⟨"VersionSolver$Search", "gatherPartners", "(J)V"⟩, 6), (⟨"VersionSolver$Search", "mostPressing", "(J)I"⟩, 6), (⟨"VersionSolver$Search", "withNoneWherePossible", "(J)J"⟩, 6), (⟨"VersionSolver$Search", "settled", "(JII)J"⟩, 6), (⟨"VersionSolver$Search", "isPossibleWithOneOf", "(IJI)Z"⟩, 6), (⟨"VersionSolver$Search", "firstPossible", "(JII)I"⟩, 6), (⟨"VersionSolver$Search", "foremost", "(JII)I"⟩, 6)]
theorem lw_r2 : ∀ q ∈ lw_privs_2, lw_okq q := List.forall_mem_cons.mpr ⟨lw_p16, List.forall_mem_cons.mpr ⟨lw_p17, List.forall_mem_cons.mpr ⟨lw_p18, List.forall_mem_cons.mpr ⟨lw_p19, List.forall_mem_cons.mpr ⟨lw_p20, List.forall_mem_cons.mpr ⟨lw_p21, List.forall_mem_cons.mpr ⟨lw_p22, List.forall_mem_cons.mpr ⟨lw_p23, List.forall_mem_cons.mpr ⟨lw_p24, List.forall_mem_cons.mpr ⟨lw_p25, List.forall_mem_cons.mpr ⟨lw_p26, List.forall_mem_cons.mpr ⟨lw_p27, List.forall_mem_cons.mpr ⟨lw_p28, List.forall_mem_cons.mpr ⟨lw_p29, List.forall_mem_cons.mpr ⟨lw_p30, List.forall_mem_cons.mpr ⟨lw_p31, fun _ h => absurd h List.not_mem_nil⟩⟩⟩⟩⟩⟩⟩⟩⟩⟩⟩⟩⟩⟩⟩⟩
theorem lw_p32 : lw_okq (⟨"VersionSolverModel", "publication", "()V"⟩, 30) := ⟨⟨by decide +kernel, by decide +kernel⟩, List.mem_of_getElem? (i := 1007) (by decide +kernel), List.mem_of_getElem? (i := 1121) (by decide +kernel), List.mem_of_getElem? (i := 1122) (by decide +kernel)⟩
theorem lw_p33 : lw_okq (⟨"VersionSolverModel", "begin", "()V"⟩, 30) := ⟨⟨by decide +kernel, by decide +kernel⟩, List.mem_of_getElem? (i := 1007) (by decide +kernel), List.mem_of_getElem? (i := 1125) (by decide +kernel), List.mem_of_getElem? (i := 1126) (by decide +kernel)⟩
theorem lw_p34 : lw_okq (⟨"VersionSolverModel", "version", "()V"⟩, 30) := ⟨⟨by decide +kernel, by decide +kernel⟩, List.mem_of_getElem? (i := 1007) (by decide +kernel), List.mem_of_getElem? (i := 1129) (by decide +kernel), List.mem_of_getElem? (i := 1130) (by decide +kernel)⟩
theorem lw_p35 : lw_okq (⟨"VersionSolverModel", "number", "()I"⟩, 30) := ⟨⟨by decide +kernel, by decide +kernel⟩, List.mem_of_getElem? (i := 1007) (by decide +kernel), List.mem_of_getElem? (i := 1133) (by decide +kernel), List.mem_of_getElem? (i := 1134) (by decide +kernel)⟩
theorem lw_p36 : lw_okq (⟨"VersionSolverModel", "ahead", "()I"⟩, 30) := ⟨⟨by decide +kernel, by decide +kernel⟩, List.mem_of_getElem? (i := 1007) (by decide +kernel), List.mem_of_getElem? (i := 1137) (by decide +kernel), List.mem_of_getElem? (i := 1138) (by decide +kernel)⟩
theorem lw_p37 : lw_okq (⟨"VersionSolverModel", "take", "(I)V"⟩, 30) := ⟨⟨by decide +kernel, by decide +kernel⟩, List.mem_of_getElem? (i := 1007) (by decide +kernel), List.mem_of_getElem? (i := 1144) (by decide +kernel), List.mem_of_getElem? (i := 1145) (by decide +kernel)⟩
theorem lw_p38 : lw_okq (⟨"VersionSolverModel", "beforeWords", "(I)V"⟩, 30) := ⟨⟨by decide +kernel, by decide +kernel⟩, List.mem_of_getElem? (i := 1007) (by decide +kernel), List.mem_of_getElem? (i := 1148) (by decide +kernel), List.mem_of_getElem? (i := 1149) (by decide +kernel)⟩
theorem lw_p39 : lw_okq (⟨"VersionSolverModel", "wordRow", "(Z)V"⟩, 30) := ⟨⟨by decide +kernel, by decide +kernel⟩, List.mem_of_getElem? (i := 1007) (by decide +kernel), List.mem_of_getElem? (i := 1152) (by decide +kernel), List.mem_of_getElem? (i := 1153) (by decide +kernel)⟩
theorem lw_p40 : lw_okq (⟨"VersionSolverModel", "requirement", "(I)V"⟩, 30) := ⟨⟨by decide +kernel, by decide +kernel⟩, List.mem_of_getElem? (i := 1007) (by decide +kernel), List.mem_of_getElem? (i := 1159) (by decide +kernel), List.mem_of_getElem? (i := 1160) (by decide +kernel)⟩
theorem lw_p41 : lw_okq (⟨"VersionSolverModel", "blanks", "()V"⟩, 30) := ⟨⟨by decide +kernel, by decide +kernel⟩, List.mem_of_getElem? (i := 1007) (by decide +kernel), List.mem_of_getElem? (i := 1163) (by decide +kernel), List.mem_of_getElem? (i := 1164) (by decide +kernel)⟩
theorem lw_p42 : lw_okq (⟨"VersionSolverModel", "comparator", "(I)V"⟩, 30) := ⟨⟨by decide +kernel, by decide +kernel⟩, List.mem_of_getElem? (i := 1007) (by decide +kernel), List.mem_of_getElem? (i := 1167) (by decide +kernel), List.mem_of_getElem? (i := 1168) (by decide +kernel)⟩
theorem lw_p43 : lw_okq (⟨"VersionSolverModel", "signAhead", "()I"⟩, 30) := ⟨⟨by decide +kernel, by decide +kernel⟩, List.mem_of_getElem? (i := 1007) (by decide +kernel), List.mem_of_getElem? (i := 1171) (by decide +kernel), List.mem_of_getElem? (i := 1172) (by decide +kernel)⟩
theorem lw_p44 : lw_okq (⟨"VersionSolverModel", "isRight", "()Z"⟩, 30) := ⟨⟨by decide +kernel, by decide +kernel⟩, List.mem_of_getElem? (i := 1007) (by decide +kernel), List.mem_of_getElem? (i := 1175) (by decide +kernel), List.mem_of_getElem? (i := 1176) (by decide +kernel)⟩
theorem lw_p45 : lw_okq (⟨"VersionSolverModel", "hasSame", "(I)Z"⟩, 30) := ⟨⟨by decide +kernel, by decide +kernel⟩, List.mem_of_getElem? (i := 1007) (by decide +kernel), List.mem_of_getElem? (i := 1179) (by decide +kernel), List.mem_of_getElem? (i := 1180) (by decide +kernel)⟩
theorem lw_p46 : lw_okq (⟨"VersionSolverModel", "order", "(II)I"⟩, 30) := ⟨⟨by decide +kernel, by decide +kernel⟩, List.mem_of_getElem? (i := 1007) (by decide +kernel), List.mem_of_getElem? (i := 1183) (by decide +kernel), List.mem_of_getElem? (i := 1184) (by decide +kernel)⟩
theorem lw_p47 : lw_okq (⟨"VersionSolverModel", "orderTo", "(IIII)I"⟩, 30) := ⟨⟨by decide +kernel, by decide +kernel⟩, List.mem_of_getElem? (i := 1007) (by decide +kernel), List.mem_of_getElem? (i := 1187) (by decide +kernel), List.mem_of_getElem? (i := 1188) (by decide +kernel)⟩
def lw_privs_3 : List (MethodName × Nat) := [(⟨"VersionSolverModel", "publication", "()V"⟩, 30), (⟨"VersionSolverModel", "begin", "()V"⟩, 30), (⟨"VersionSolverModel", "version", "()V"⟩, 30), (⟨"VersionSolverModel", "number", "()I"⟩, 30), (⟨"VersionSolverModel", "ahead", "()I"⟩, 30), (⟨"VersionSolverModel", "take", "(I)V"⟩, 30), (⟨"VersionSolverModel", "beforeWords", "(I)V"⟩, 30), (⟨"VersionSolverModel", "wordRow", "(Z)V"⟩, 30), (⟨"VersionSolverModel", "requirement", "(I)V"⟩, 30), (⟨"VersionSolverModel", "blanks", "()V"⟩, 30), (⟨"VersionSolverModel", "comparator", "(I)V"⟩, 30), (⟨"VersionSolverModel", "signAhead", "()I"⟩, 30), (⟨"VersionSolverModel", "isRight", "()Z"⟩, 30), (⟨"VersionSolverModel", "hasSame", "(I)Z"⟩, 30), (⟨"VersionSolverModel", "order", "(II)I"⟩, 30), (⟨"VersionSolverModel", "orderTo", "(IIII)I"⟩, 30)]
theorem lw_r3 : ∀ q ∈ lw_privs_3, lw_okq q := List.forall_mem_cons.mpr ⟨lw_p32, List.forall_mem_cons.mpr ⟨lw_p33, List.forall_mem_cons.mpr ⟨lw_p34, List.forall_mem_cons.mpr ⟨lw_p35, List.forall_mem_cons.mpr ⟨lw_p36, List.forall_mem_cons.mpr ⟨lw_p37, List.forall_mem_cons.mpr ⟨lw_p38, List.forall_mem_cons.mpr ⟨lw_p39, List.forall_mem_cons.mpr ⟨lw_p40, List.forall_mem_cons.mpr ⟨lw_p41, List.forall_mem_cons.mpr ⟨lw_p42, List.forall_mem_cons.mpr ⟨lw_p43, List.forall_mem_cons.mpr ⟨lw_p44, List.forall_mem_cons.mpr ⟨lw_p45, List.forall_mem_cons.mpr ⟨lw_p46, List.forall_mem_cons.mpr ⟨lw_p47, fun _ h => absurd h List.not_mem_nil⟩⟩⟩⟩⟩⟩⟩⟩⟩⟩⟩⟩⟩⟩⟩⟩
theorem lw_p48 : lw_okq (⟨"VersionSolverModel", "compareWords", "(IIII)I"⟩, 30) := ⟨⟨by decide +kernel, by decide +kernel⟩, List.mem_of_getElem? (i := 1007) (by decide +kernel), List.mem_of_getElem? (i := 1191) (by decide +kernel), List.mem_of_getElem? (i := 1192) (by decide +kernel)⟩
theorem lw_p49 : lw_okq (⟨"VersionSolverModel", "wordEnd", "(II)I"⟩, 30) := ⟨⟨by decide +kernel, by decide +kernel⟩, List.mem_of_getElem? (i := 1007) (by decide +kernel), List.mem_of_getElem? (i := 1195) (by decide +kernel), List.mem_of_getElem? (i := 1196) (by decide +kernel)⟩
theorem lw_p50 : lw_okq (⟨"VersionSolverModel", "isNumberWord", "(III)Z"⟩, 30) := ⟨⟨by decide +kernel, by decide +kernel⟩, List.mem_of_getElem? (i := 1007) (by decide +kernel), List.mem_of_getElem? (i := 1199) (by decide +kernel), List.mem_of_getElem? (i := 1200) (by decide +kernel)⟩
theorem lw_p51 : lw_okq (⟨"VersionSolverModel", "copyRow", "(II)V"⟩, 30) := ⟨⟨by decide +kernel, by decide +kernel⟩, List.mem_of_getElem? (i := 1007) (by decide +kernel), List.mem_of_getElem? (i := 1203) (by decide +kernel), List.mem_of_getElem? (i := 1204) (by decide +kernel)⟩
theorem lw_p52 : lw_okq (⟨"VersionSolverModel", "isVersion", "(I)Z"⟩, 30) := ⟨⟨by decide +kernel, by decide +kernel⟩, List.mem_of_getElem? (i := 1007) (by decide +kernel), List.mem_of_getElem? (i := 1211) (by decide +kernel), List.mem_of_getElem? (i := 1212) (by decide +kernel)⟩
theorem lw_p53 : lw_okq (⟨"VersionSolverModel", "asks", "()Z"⟩, 30) := ⟨⟨by decide +kernel, by decide +kernel⟩, List.mem_of_getElem? (i := 1007) (by decide +kernel), List.mem_of_getElem? (i := 1219) (by decide +kernel), List.mem_of_getElem? (i := 1220) (by decide +kernel)⟩
theorem lw_p54 : lw_okq (⟨"VersionSolverModel", "layFits", "()V"⟩, 30) := ⟨⟨by decide +kernel, by decide +kernel⟩, List.mem_of_getElem? (i := 1007) (by decide +kernel), List.mem_of_getElem? (i := 1231) (by decide +kernel), List.mem_of_getElem? (i := 1232) (by decide +kernel)⟩
theorem lw_p55 : lw_okq (⟨"VersionSolverModel", "meetsAll", "(II)Z"⟩, 30) := ⟨⟨by decide +kernel, by decide +kernel⟩, List.mem_of_getElem? (i := 1007) (by decide +kernel), List.mem_of_getElem? (i := 1235) (by decide +kernel), List.mem_of_getElem? (i := 1236) (by decide +kernel)⟩
theorem lw_p56 : lw_okq (⟨"VersionSolverModel", "isMet", "(II)Z"⟩, 30) := ⟨⟨by decide +kernel, by decide +kernel⟩, List.mem_of_getElem? (i := 1007) (by decide +kernel), List.mem_of_getElem? (i := 1239) (by decide +kernel), List.mem_of_getElem? (i := 1240) (by decide +kernel)⟩
theorem lw_p57 : lw_okq (⟨"VersionSolverModel", "isBelowNext", "(IIZ)Z"⟩, 30) := ⟨⟨by decide +kernel, by decide +kernel⟩, List.mem_of_getElem? (i := 1007) (by decide +kernel), List.mem_of_getElem? (i := 1243) (by decide +kernel), List.mem_of_getElem? (i := 1244) (by decide +kernel)⟩
theorem lw_p58 : lw_okq (⟨"VersionSolverModel", "layOut", "(I)V"⟩, 30) := ⟨⟨by decide +kernel, by decide +kernel⟩, List.mem_of_getElem? (i := 1007) (by decide +kernel), List.mem_of_getElem? (i := 1247) (by decide +kernel), List.mem_of_getElem? (i := 1248) (by decide +kernel)⟩
theorem lw_p59 : lw_okq (⟨"VersionSolverModel", "goesBefore", "(III)Z"⟩, 30) := ⟨⟨by decide +kernel, by decide +kernel⟩, List.mem_of_getElem? (i := 1007) (by decide +kernel), List.mem_of_getElem? (i := 1251) (by decide +kernel), List.mem_of_getElem? (i := 1252) (by decide +kernel)⟩
theorem lw_p60 : lw_okq (⟨"VersionSolverModel", "goesWell", "(I)Z"⟩, 30) := ⟨⟨by decide +kernel, by decide +kernel⟩, List.mem_of_getElem? (i := 1007) (by decide +kernel), List.mem_of_getElem? (i := 1255) (by decide +kernel), List.mem_of_getElem? (i := 1256) (by decide +kernel)⟩
theorem lw_p61 : lw_okq (⟨"VersionSolverModel", "given", "(I)I"⟩, 30) := ⟨⟨by decide +kernel, by decide +kernel⟩, List.mem_of_getElem? (i := 1007) (by decide +kernel), List.mem_of_getElem? (i := 1259) (by decide +kernel), List.mem_of_getElem? (i := 1260) (by decide +kernel)⟩
theorem lw_p62 : lw_okq (⟨"VersionSolverModel", "allows", "(II)Z"⟩, 30) := ⟨⟨by decide +kernel, by decide +kernel⟩, List.mem_of_getElem? (i := 1007) (by decide +kernel), List.mem_of_getElem? (i := 1263) (by decide +kernel), List.mem_of_getElem? (i := 1264) (by decide +kernel)⟩
theorem lw_p63 : lw_okq (⟨"VersionSolverModel", "isReached", "()Z"⟩, 30) := ⟨⟨by decide +kernel, by decide +kernel⟩, List.mem_of_getElem? (i := 1007) (by decide +kernel), List.mem_of_getElem? (i := 1267) (by decide +kernel), List.mem_of_getElem? (i := 1268) (by decide +kernel)⟩
def lw_privs_4 : List (MethodName × Nat) := [(⟨"VersionSolverModel", "compareWords", "(IIII)I"⟩, 30), (⟨"VersionSolverModel", "wordEnd", "(II)I"⟩, 30), (⟨"VersionSolverModel", "isNumberWord", "(III)Z"⟩, 30), (⟨"VersionSolverModel", "copyRow", "(II)V"⟩, 30), (⟨"VersionSolverModel", "isVersion", "(I)Z"⟩, 30), (⟨"VersionSolverModel", "asks", "()Z"⟩, 30), (⟨"VersionSolverModel", "layFits", "()V"⟩, 30), (⟨"VersionSolverModel", "meetsAll", "(II)Z"⟩, 30), (⟨"VersionSolverModel", "isMet", "(II)Z"⟩, 30), (⟨"VersionSolverModel", "isBelowNext", "(IIZ)Z"⟩, 30), (⟨"VersionSolverModel", "layOut", "(I)V"⟩, 30), (⟨"VersionSolverModel", "goesBefore", "(III)Z"⟩, 30), (⟨"VersionSolverModel", "goesWell", "(I)Z"⟩, 30), (⟨"VersionSolverModel", "given", "(I)I"⟩, 30), (⟨"VersionSolverModel", "allows", "(II)Z"⟩, 30), (⟨"VersionSolverModel", "isReached", "()Z"⟩, 30)]
theorem lw_r4 : ∀ q ∈ lw_privs_4, lw_okq q := List.forall_mem_cons.mpr ⟨lw_p48, List.forall_mem_cons.mpr ⟨lw_p49, List.forall_mem_cons.mpr ⟨lw_p50, List.forall_mem_cons.mpr ⟨lw_p51, List.forall_mem_cons.mpr ⟨lw_p52, List.forall_mem_cons.mpr ⟨lw_p53, List.forall_mem_cons.mpr ⟨lw_p54, List.forall_mem_cons.mpr ⟨lw_p55, List.forall_mem_cons.mpr ⟨lw_p56, List.forall_mem_cons.mpr ⟨lw_p57, List.forall_mem_cons.mpr ⟨lw_p58, List.forall_mem_cons.mpr ⟨lw_p59, List.forall_mem_cons.mpr ⟨lw_p60, List.forall_mem_cons.mpr ⟨lw_p61, List.forall_mem_cons.mpr ⟨lw_p62, List.forall_mem_cons.mpr ⟨lw_p63, fun _ h => absurd h List.not_mem_nil⟩⟩⟩⟩⟩⟩⟩⟩⟩⟩⟩⟩⟩⟩⟩⟩
theorem lw_p64 : lw_okq (⟨"VersionSolverModel", "pins", "()I"⟩, 30) := ⟨⟨by decide +kernel, by decide +kernel⟩, List.mem_of_getElem? (i := 1007) (by decide +kernel), List.mem_of_getElem? (i := 1279) (by decide +kernel), List.mem_of_getElem? (i := 1280) (by decide +kernel)⟩
theorem lw_p65 : lw_okq (⟨"VersionSolverModel", "put", "(I)V"⟩, 30) := ⟨⟨by decide +kernel, by decide +kernel⟩, List.mem_of_getElem? (i := 1007) (by decide +kernel), List.mem_of_getElem? (i := 1315) (by decide +kernel), List.mem_of_getElem? (i := 1316) (by decide +kernel)⟩
def lw_privs_5 : List (MethodName × Nat) := [(⟨"VersionSolverModel", "pins", "()I"⟩, 30), (⟨"VersionSolverModel", "put", "(I)V"⟩, 30)]
theorem lw_r5 : ∀ q ∈ lw_privs_5, lw_okq q := List.forall_mem_cons.mpr ⟨lw_p64, List.forall_mem_cons.mpr ⟨lw_p65, fun _ h => absurd h List.not_mem_nil⟩⟩
def lw_privs : List (MethodName × Nat) := lw_privs_1 ++ (lw_privs_2 ++ (lw_privs_3 ++ (lw_privs_4 ++ (lw_privs_5))))
def lw_tbl : List Cond := k2_sels lw_privs ++ tables_1
theorem lw_privs_ok : ∀ q ∈ lw_privs, lw_okq q := by
  show ∀ q ∈ lw_privs_1 ++ (lw_privs_2 ++ (lw_privs_3 ++ (lw_privs_4 ++ (lw_privs_5)))), lw_okq q
  exact List.forall_mem_append.mpr ⟨lw_r1, List.forall_mem_append.mpr ⟨lw_r2, List.forall_mem_append.mpr ⟨lw_r3, List.forall_mem_append.mpr ⟨lw_r4, lw_r5⟩⟩⟩⟩
-- ===== end of PART A; then your names; then what follows =====
end
section
/-! ===== BEGIN words of one list among another's, by their places ===== -/
theorem goodIn_r {big : List Cond} (ws : List Cond) (ps : List Nat) (hp : ws = ps.filterMap (fun i => big[i]?)) (h : ws.all goodWord = true) : GoodIn big ws := by
  intro w hw
  have h1 := List.all_eq_true.mp h w hw
  rw [hp] at hw
  obtain ⟨i, -, hi⟩ := List.mem_filterMap.mp hw
  have hm : w ∈ big := by first | exact List.mem_of_getElem? hi | exact List.getElem?_mem hi
  exact ⟨hm, good_of_word h1⟩
theorem goodIn_app {big a b : List Cond} (ha : GoodIn big a) (hb : GoodIn big b) : GoodIn big (a ++ b) := fun w h => (List.mem_append.mp h).elim (ha w) (hb w)
theorem goodIn_ca {big a b : List Cond} {c : Cond} (ha : GoodIn big (c :: a)) (hb : GoodIn big b) : GoodIn big (c :: (a ++ b)) := fun w h => (List.mem_cons.mp h).elim (fun e => ha w (List.mem_cons.mpr (Or.inl e))) (fun h => (List.mem_append.mp h).elim (fun h => ha w (List.mem_cons.mpr (Or.inr h))) (hb w))
theorem goodIn_sub {big ws : List Cond} (hm : ∀ w ∈ ws, w ∈ big) (h : ws.all goodWord = true) : GoodIn big ws := fun w hw => ⟨hm w hw, good_of_word (List.all_eq_true.mp h w hw)⟩
/-! ===== END ===== -/

/-! ===== BEGIN exceptions that leave a method, and their catching by the caller (launches without stack traces) ===== -/
section VXA
/-! The laws vx_back, vx_callV, vx_callS, vx_callSW, vx_throw0, vx_throwS follow proofs of the library, with one case more: JvmDerived/Free/Laws.lean (Back.of_free), Shelf42/LK1.lean (callV, callS), Shelf/KitTraced.lean (throwNew0V, throwNewS). -/
/-- where a method has thrown q: the class by its name, the cell, what was written, the world -/
def vx_T (XC : String → State → State → Prop) (st : State) (q : Addr) (t : State) (mc ms : Nat) (free : Addr → Prop) : Prop :=
  ∃ (E : String) (ce : Cell) (L : List Loc), XC E st t ∧ t.heap[q]? = some ce ∧ ce.vm = .none ∧ st.vm.findClass E = some ce.cls ∧ st.WarmedH t.vm ∧ st.sameButNew ({ t with vm := st.vm } : State) L mc ms ∧ ∀ z ∈ L, free z.base
def vx_Q (Qc : Array Value → State → Outcome → State → Prop) (XC : String → State → State → Prop) (mc ms : Nat) (free : Addr → Prop) : Array Value → State → Outcome → State → Prop := fun a st o t =>
  (Qc a st o t ∧ ∃ L, FrameEnd st o t L mc ms ∧ ∀ q ∈ L, free q.base) ∨ ∃ q, o = .threw q ∧ vx_T XC st q t mc ms free
/-- a callee that returns or throws -/
def vx_Met (l : Launch) (y : MethodName) (ws : List Cond) (rm : Room) (Pc : Array Value → State → Prop) (Qc : Array Value → State → Outcome → State → Prop) (XC : String → State → State → Prop) (mc ms : Nat) (free : Addr → Prop) : Prop :=
  MetFree l y (headSpec ws rm) Pc (fun _ _ _ _ _ => True) (vx_Q Qc XC mc ms free)
def vx_Post (XC : String → State → State → Prop) (mc ms : Nat) (free : Addr → Prop) : Pt → Array Value → Addr → Pt → Prop := fun A a q B =>
  ∃ (g : JFrame) (mk : MethodId) (t : State) (L : List Loc) (E : String) (ce : Cell), B.U.heap = t.heap ∧ B.U.vm = t.vm ∧ XC E (A.U.calling g mk a) t ∧ t.heap[q]? = some ce ∧ ce.vm = .none ∧ A.U.vm.findClass E = some ce.cls ∧ B.locs = A.locs ++ L ∧ (∀ z ∈ L, free z.base) ∧ B.cells = A.cells + mc ∧ B.slots = A.slots + ms
def vx_Back (l : Launch) (R : Room) (p : Program) (e : Env) (below : List Frame) (s : State) (sargs : Array Value) (y : MethodName) (len W9 : Nat)
    (Pre : Pt → Array Value → Prop) (Post : Pt → Array Value → Option Value → Pt → Prop) (PostX : Pt → Array Value → Addr → Pt → Prop) : Prop :=
  ∀ (m : MethodId) (meth : Method) (c : Code) (A : Pt) (g : JFrame) (ig : Instr) (mk : MethodId) (a : Array Value),
    Stand p l e R s m sargs below meth c A.U A.locs A.cells A.slots → g.method = m → g.locals.size = c.maxLocals → decode c.code g.pc = .ok (ig, len) →
    2 * g.monitorRoom + (g.stack.map fun v => v.category).sum ≤ W9 → A.U.methodNamed? y = some mk → Pre A a →
    (∃ (v : Option Value) (B : Pt), Stand p l e R s m sargs below meth c B.U B.locs B.cells B.slots ∧ Post A a v B ∧
      Steps p.tables e below (doInvoke e (A.U.setTop g) [] mk a).1 (B.U.setTop { g with pc := g.pc + len, stack := v.toList ++ g.stack })) ∨
    (∃ (q : Addr) (B : Pt), Stand p l e R s m sargs below meth c B.U B.locs B.cells B.slots ∧ PostX A a q B ∧
      Steps p.tables e below (doInvoke e (A.U.setTop g) [] mk a).1 ((B.U.setTop g).pushFrame (.throwing q)))
section Payer
variable {l : Launch} {R : Room} {p : Program} {e : Env} {below : List Frame} {s : State} {sargs : Array Value} {y : MethodName} {len W9 : Nat}
theorem vx_back {ws : List Cond} {rm : Room} {Pc : Array Value → State → Prop} {Qc : Array Value → State → Outcome → State → Prop} {XC : String → State → State → Prop} {mc ms : Nat} {free : Addr → Prop} {bytes : ByteArray} {maxL : Nat} {ret : Option FieldType}
    (hM : vx_Met l y ws rm Pc Qc XC mc ms free) (hblind : FrameBlind Pc) (hrc : rm.cells = mc) (hrs : rm.slots = ms)
    (hframes : rm.frames + 1 ≤ R.frames) (hlocals : W9 + (maxL + 11) + rm.locals ≤ R.locals)
    (hws : ∀ w ∈ ws, ∀ a' U, s.WarmedH U.vm → w.before a' U = true) (hcode : Cond.code y bytes maxL ret ∈ ws) (hinit : ∀ a' U, s.WarmedH U.vm → (Cond.initialized y.cls).before a' U = true) :
    vx_Back l R p e below s sargs y len W9 (PreOf R mc ms Pc) (PostOf Qc mc ms free) (vx_Post XC mc ms free) := by
  intro m meth c A g ig mk a X hg hsize hdg hW hn hp
  have h1 : (headSpec ws rm).pre.before a A.U = true := atoms_intro fun w hw => hws w hw _ _ X.warmed
  have h2 : (Cond.code y bytes maxL ret).before a A.U = true := hws _ hcode _ _ X.warmed
  have h3 : (Cond.initialized y.cls).before a A.U = true := hinit _ _ X.warmed
  have h4 : A.cells + (headSpec ws rm).room.cells ≤ R.cells := by rw [show (headSpec ws rm).room.cells = mc from hrc]; exact hp.1
  have h5 : A.slots + (headSpec ws rm).room.slots ≤ R.slots := by rw [show (headSpec ws rm).room.slots = ms from hrs]; exact hp.2.1
  have hPc : Pc a (A.U.calling g mk a) := hblind _ _ _ _ hp.2.2
  obtain ⟨U, Ls, c0, s0⟩ := A
  dsimp only [Pt.U, Pt.locs, Pt.cells, Pt.slots] at h1 h2 h3 h4 h5 X hn hPc ⊢
  obtain ⟨methY, cY, hmY, hcY, -, hlY, -, -, -, -⟩ := Cond.code_spec hn h2
  obtain ⟨kY, hkY, -⟩ := className_of_methodNamed hn
  have hinitY : kY.init = .initialized := Cond.initialized_spec (findClass_of_methodNamed hn) hkY h3
  have h : At U g.method c below := by rw [hg]; exact X.here
  have hlocals9 : W9 + (maxL + 11) + (headSpec ws rm).room.locals ≤ R.locals := hlocals
  have happ : (headSpec ws rm).appliesLoose y e.platform (U.calling g mk a) = true :=
    Spec.appliesLoose_calling (g := g) h hdg hn hkY hinitY
      (X.room_calling (g := g) (R' := (headSpec ws rm).room) hsize hmY hcY hframes (by rw [hlY]; omega) h4 h5) h1
  obtain ⟨mid, hmid⟩ := h.above
  have hfr : (U.setTop g).frames = (.java g :: mid) ++ below := by rw [State.frames_setTop' g h.top, hmid]; rfl
  obtain ⟨o, s₂, hsteps, -, hend, hq⟩ := Steps.callFree hM p X.admits X.cas X.clock (acts := []) hfr happ hPc trivial
  have hq' : vx_Q Qc XC mc ms free a (U.calling g mk a) o s₂ := hq
  rw [State.frames_setTop' g h.top] at hend
  obtain ⟨g₀, hg0⟩ := Option.isSome_iff_exists.mp h.top
  obtain ⟨r, hr⟩ := State.topJava?_eq_some.mp hg0
  have hr' : (({ U with heap := s₂.heap, slotsUsed := s₂.slotsUsed } : State).setVm s₂.vm).frames = .java g₀ :: r := hr
  rcases hq' with ⟨hqc, L, hfe, hL⟩ | ⟨q, rfl, E, ce, L, hx, hce, hcv, hcl, hW₂, hsm, hL⟩
  · obtain ⟨⟨v, rfl⟩, hW₂, e2, q2, q3, q4, q5, q6⟩ := id hfe
    have e3 : s₂ = ({ (U.calling g mk a).setFrames s₂.frames with heap := s₂.heap, slotsUsed := s₂.slotsUsed } : State).setVm s₂.vm := by
      have : s₂ = ({ s₂ with vm := (U.calling g mk a).vm } : State).setVm s₂.vm := rfl
      rw [e2] at this
      exact this
    obtain ⟨c₂, i₂, len₂, hc₂, hd₂, hf₂⟩ := hend
    have hW' : U.WarmedH s₂.vm := hW₂
    have hcc : c₂ = c := by
      have h1 : s₂.code? g.method = U.code? g.method := by
        rw [State.code?_eq, State.code?_eq, hW'.alike.method?]
      exact Option.some.inj (hc₂.symm.trans (h1.trans h.code))
    subst hcc
    have hlen : len₂ = len := by rw [hdg] at hd₂; cases hd₂; rfl
    subst hlen
    have hs₂ : s₂ = (({ U with heap := s₂.heap, slotsUsed := s₂.slotsUsed } : State).setVm s₂.vm).setTop { g with pc := g.pc + len₂, stack := v.toList ++ g.stack } := by
      refine e3.trans ?_
      rw [hf₂, State.calling_eq h.top, State.setFrames_setFrames, State.setTop_of_frames _ hr', hr]
      rfl
    have hsame : U.sameButNew ({ U with heap := s₂.heap, slotsUsed := s₂.slotsUsed } : State) L mc ms := by
      refine ⟨?_, q2, q3, q4, q5, q6⟩
      obtain ⟨t, ht, -⟩ := State.frames_cons hr
      show ({ U with heap := s₂.heap, slotsUsed := s₂.slotsUsed } : State) = { U.setFrames U.frames with heap := s₂.heap, slotsUsed := s₂.slotsUsed }
      rw [State.setFrames_self ht]
    subst hg
    refine Or.inl ⟨v, ⟨(({ U with heap := s₂.heap, slotsUsed := s₂.slotsUsed } : State).setVm s₂.vm), Ls ++ L, c0 + mc, s0 + ms⟩,
      ⟨X.admits, X.cas, X.clock, X.frames, X.room, X.hears, X.method, X.code, (X.here.setHeapUsed s₂.heap s₂.slotsUsed).setVm hW'.alike, X.tail, State.WarmedH.trans X.warmed hW', X.limits, X.bytes, X.same.trans (hsame.setVm s.vm)⟩,
      ⟨g, mk, s₂, L, rfl, rfl, hqc, rfl, hL, rfl, rfl⟩, ?_⟩
    show Steps p.tables e below _ ((({ U with heap := s₂.heap, slotsUsed := s₂.slotsUsed } : State).setVm s₂.vm).setTop { g with pc := g.pc + len₂, stack := v.toList ++ g.stack })
    rw [← hs₂]
    exact hsteps
  · obtain ⟨e2, q2, q3, q4, q5, q6⟩ := id hsm
    have e3 : s₂ = ({ (U.calling g mk a).setFrames s₂.frames with heap := s₂.heap, slotsUsed := s₂.slotsUsed } : State).setVm s₂.vm := by
      have : s₂ = ({ s₂ with vm := (U.calling g mk a).vm } : State).setVm s₂.vm := rfl
      rw [e2] at this
      exact this
    have hf₂ : s₂.frames = .throwing q :: .java g :: U.frames.tail := hend
    have hW' : U.WarmedH s₂.vm := hW₂
    have hs₂ : s₂ = ((({ U with heap := s₂.heap, slotsUsed := s₂.slotsUsed } : State).setVm s₂.vm).setTop g).pushFrame (.throwing q) := by
      refine e3.trans ?_
      rw [hf₂, State.calling_eq h.top, State.setFrames_setFrames, State.pushFrame, State.frames_setTop _ hr', State.setTop_of_frames _ hr', State.setFrames_setFrames, hr]
      rfl
    have hsame : U.sameButNew ({ U with heap := s₂.heap, slotsUsed := s₂.slotsUsed } : State) L mc ms := by
      refine ⟨?_, q2, q3, q4, q5, q6⟩
      obtain ⟨t, ht, -⟩ := State.frames_cons hr
      show ({ U with heap := s₂.heap, slotsUsed := s₂.slotsUsed } : State) = { U.setFrames U.frames with heap := s₂.heap, slotsUsed := s₂.slotsUsed }
      rw [State.setFrames_self ht]
    subst hg
    refine Or.inr ⟨q, ⟨(({ U with heap := s₂.heap, slotsUsed := s₂.slotsUsed } : State).setVm s₂.vm), Ls ++ L, c0 + mc, s0 + ms⟩,
      ⟨X.admits, X.cas, X.clock, X.frames, X.room, X.hears, X.method, X.code, (X.here.setHeapUsed s₂.heap s₂.slotsUsed).setVm hW'.alike, X.tail, State.WarmedH.trans X.warmed hW', X.limits, X.bytes, X.same.trans (hsame.setVm s.vm)⟩,
      ⟨g, mk, s₂, L, E, ce, rfl, rfl, hx, hce, hcv, hcl, rfl, hL, rfl, rfl⟩, ?_⟩
    show Steps p.tables e below _ (((({ U with heap := s₂.heap, slotsUsed := s₂.slotsUsed } : State).setVm s₂.vm).setTop g).pushFrame (.throwing q))
    rw [← hs₂]
    exact hsteps
end Payer
section Calls
variable {p : Program} {l : Launch} {e : Env} {R : Room} {s : State} {m : MethodId} {args : Array Value} {below : List Frame} {meth : Method} {c : Code} {T : State} {locs : List Loc} {cells slots : Nat}
theorem vx_callV (X : Stand p l e R s m args below meth c T locs cells slots) (hexec : p.tables.exec = Jvm.exec) {own C : String} {index : Nat} {y : MethodName} {bytes : ByteArray} {maxL : Nat} {ret : Option FieldType}
    (hown : s.vm.findClass own = some m.cls) (hlink : (Cond.methodLink own index y).before args s = true) (hinst : (Cond.instanceMethod y).before args s = true) (hsel : (Cond.selects C y y).before args s = true)
    (hcode : (Cond.code y bytes maxL ret).before args s = true) (hy : y.cls ≠ "java/lang/invoke/MethodHandle" ∧ y.cls ≠ "java/lang/invoke/VarHandle")
    {W9 : Nat} {Pre : Pt → Array Value → Prop} {Post : Pt → Array Value → Option Value → Pt → Prop} {PostX : Pt → Array Value → Addr → Pt → Prop} (hK : vx_Back l R p e below s args y 3 W9 Pre Post PostX)
    {b : Addr} {cellB : Cell} (hcell : T.heap[b]? = some cellB) (hobj : cellB.vm.isStatics = false) (hcls : s.vm.findClass C = some cellB.cls)
    {g : JFrame} (hg : g.method = m) (hsize : g.locals.size = c.maxLocals) {argsL rest : List Value} (hlen : ∀ sig, parseMethodDescriptor y.desc = some sig → argsL.length = sig.parameters.length)
    (hstack : g.stack = argsL.reverse ++ .ref b :: rest) (hW : 2 * g.monitorRoom + (rest.map fun v => v.category).sum ≤ W9) (hdg : decode c.code g.pc = .ok (.invokevirtual index, 3))
    (hpre : ∀ vm₁, s.WarmedH vm₁ → Pre ⟨T.setVm vm₁, locs, cells, slots⟩ (Value.ref b :: argsL).toArray) :
    (∃ (v : Option Value) (vm₁ : Vm) (B : Pt), s.WarmedH vm₁ ∧ Stand p l e R s m args below meth c B.U B.locs B.cells B.slots ∧ Post ⟨T.setVm vm₁, locs, cells, slots⟩ (Value.ref b :: argsL).toArray v B ∧
      ∀ target, Steps p.tables e below (B.U.setTop { g with pc := g.pc + 3, stack := v.toList ++ rest }) target → Steps p.tables e below (T.setTop g) target) ∨
    (∃ (q : Addr) (vm₁ : Vm) (B : Pt), s.WarmedH vm₁ ∧ Stand p l e R s m args below meth c B.U B.locs B.cells B.slots ∧ PostX ⟨T.setVm vm₁, locs, cells, slots⟩ (Value.ref b :: argsL).toArray q B ∧
      Steps p.tables e below (T.setTop g) ((B.U.setTop { g with stack := rest }).pushFrame (.throwing q))) := by
  obtain ⟨mk, methM, hnamed, hmethM, hstM, habM⟩ := Cond.instanceMethod_spec hinst
  obtain ⟨methM', cM, hmethM', -, -, -, -, -, -, hsigM⟩ := Cond.code_spec hnamed hcode
  cases hmethM.symm.trans hmethM'
  obtain ⟨c2, r2, m2, q1, q2, q3, q4, kP, hkP, hkPi⟩ := Cond.selects_spec hsel
  cases hcls.symm.trans q1
  cases (State.methodFound?_of_named hnamed hy).symm.trans q2
  cases hnamed.symm.trans q3
  have hselP : selectMethod e.platform s.vm cellB.cls mk = .method mk := by rw [Launch.admits_selectMethod X.admits]; exact q4
  obtain ⟨vm₁, X₁, hstep₁⟩ := X.invokevirtual hexec hown hlink hnamed hmethM hstM hkP hkPi hy (a := b) (cell := cellB) hcell
    (fun z h => by rw [h] at hobj; cases hobj) hselP hmethM habM hkP hkPi (g := g) hg (argsL := argsL) (rest := rest) (hlen _ hsigM) hstack hdg
  rcases hK m meth c ⟨T.setVm vm₁, locs, cells, slots⟩ { g with stack := rest } (.invokevirtual index) mk (Value.ref b :: argsL).toArray X₁ hg hsize hdg hW (X₁.named hnamed) (hpre vm₁ X₁.warmed) with ⟨v, B, X', hpost, hsteps⟩ | ⟨q, B, X', hpost, hsteps⟩
  · exact Or.inl ⟨v, vm₁, B, X₁.warmed, X', hpost, fun target h => hstep₁ _ fun acts => by rw [doInvoke_state]; exact hsteps.trans h⟩
  · exact Or.inr ⟨q, vm₁, B, X₁.warmed, X', hpost, hstep₁ _ fun acts => by rw [doInvoke_state]; exact hsteps⟩
theorem vx_callS (X : Stand p l e R s m args below meth c T locs cells slots) (hexec : p.tables.exec = Jvm.exec) {own : String} {index : Nat} {y : MethodName} {bytes : ByteArray} {maxL : Nat} {ret : Option FieldType}
    (hown : s.vm.findClass own = some m.cls) (hlink : (Cond.methodLink own index y).before args s = true) (hstat : (Cond.static y).before args s = true) (hinit : (Cond.initialized y.cls).before args s = true)
    (hcode : (Cond.code y bytes maxL ret).before args s = true) (hy : y.cls ≠ "java/lang/invoke/MethodHandle" ∧ y.cls ≠ "java/lang/invoke/VarHandle")
    {W9 : Nat} {Pre : Pt → Array Value → Prop} {Post : Pt → Array Value → Option Value → Pt → Prop} {PostX : Pt → Array Value → Addr → Pt → Prop} (hK : vx_Back l R p e below s args y 3 W9 Pre Post PostX)
    {g : JFrame} (hg : g.method = m) (hsize : g.locals.size = c.maxLocals) {argsL rest : List Value} (hlen : ∀ sig, parseMethodDescriptor y.desc = some sig → argsL.length = sig.parameters.length)
    (hstack : g.stack = argsL.reverse ++ rest) (hW : 2 * g.monitorRoom + (rest.map fun v => v.category).sum ≤ W9) (hdg : decode c.code g.pc = .ok (.invokestatic index, 3))
    (hpre : ∀ vm₁, s.WarmedH vm₁ → Pre ⟨T.setVm vm₁, locs, cells, slots⟩ argsL.toArray) :
    (∃ (v : Option Value) (vm₁ : Vm) (B : Pt), s.WarmedH vm₁ ∧ Stand p l e R s m args below meth c B.U B.locs B.cells B.slots ∧ Post ⟨T.setVm vm₁, locs, cells, slots⟩ argsL.toArray v B ∧
      ∀ target, Steps p.tables e below (B.U.setTop { g with pc := g.pc + 3, stack := v.toList ++ rest }) target → Steps p.tables e below (T.setTop g) target) ∨
    (∃ (q : Addr) (vm₁ : Vm) (B : Pt), s.WarmedH vm₁ ∧ Stand p l e R s m args below meth c B.U B.locs B.cells B.slots ∧ PostX ⟨T.setVm vm₁, locs, cells, slots⟩ argsL.toArray q B ∧
      Steps p.tables e below (T.setTop g) ((B.U.setTop { g with stack := rest }).pushFrame (.throwing q))) := by
  obtain ⟨mk, hnamed⟩ := Cond.code_named hcode
  obtain ⟨methM, cM, hmethM, -, -, -, -, -, -, hsigM⟩ := Cond.code_spec hnamed hcode
  have hstatic : methM.isStatic = true := Cond.static_spec hnamed hmethM hstat
  obtain ⟨kP, hkP, -⟩ := className_of_methodNamed hnamed
  have hinitP : kP.init = .initialized := Cond.initialized_spec (findClass_of_methodNamed hnamed) hkP hinit
  obtain ⟨vm₁, X₁, hstep₁⟩ := X.invokestatic hexec hown hlink hnamed hmethM hstatic hkP hinitP hy (g := g) hg (argsL := argsL) (rest := rest) (hlen _ hsigM) hstack hdg
  rcases hK m meth c ⟨T.setVm vm₁, locs, cells, slots⟩ { g with stack := rest } (.invokestatic index) mk argsL.toArray X₁ hg hsize hdg hW (X₁.named hnamed) (hpre vm₁ X₁.warmed) with ⟨v, B, X', hpost, hsteps⟩ | ⟨q, B, X', hpost, hsteps⟩
  · exact Or.inl ⟨v, vm₁, B, X₁.warmed, X', hpost, fun target h => hstep₁ _ fun acts => by rw [doInvoke_state]; exact hsteps.trans h⟩
  · exact Or.inr ⟨q, vm₁, B, X₁.warmed, X', hpost, hstep₁ _ fun acts => by rw [doInvoke_state]; exact hsteps⟩
end Calls
theorem vx_cls {s : State} {T : State} {vm₁ : Vm} {E : String} {k : ClassId} (hW : s.WarmedH vm₁) (h : (T.setVm vm₁).vm.findClass E = some k) : s.vm.findClass E = some k := by
  have h1 : vm₁.findClass E = some k := h
  rw [hW.alike.findClass] at h1
  exact h1
/-- the method's frame g, with q thrown over it -/
def vx_W (p : Program) (l : Launch) (e : Env) (R : Room) (s : State) (m : MethodId) (args : Array Value) (below : List Frame) (meth : Method) (c : Code) (H : Heap) (locs : List Loc) (cells slots : Nat) (Q : State → Prop) (g : JFrame) (q : Addr) : Prop :=
  ∀ T : State, T.heap = H → Stand p l e R s m args below meth c T locs cells slots → ∃ t, Steps p.tables e below ((T.setTop g).pushFrame (.throwing q)) t ∧ Q t
def vx_Run (p : Program) (l : Launch) (e : Env) (R : Room) (s : State) (m : MethodId) (args : Array Value) (below : List Frame) (meth : Method) (c : Code) (H : Heap) (locs : List Loc) (cells slots mc ms : Nat) (g : JFrame) (rest : List Value) (Qa : State → Outcome → State → Prop) (XC : String → State → State → Prop) (free : Addr → Prop) : Prop :=
  ∀ T : State, T.heap = H → Stand p l e R s m args below meth c T locs cells slots →
    (∃ (v : Option Value) (st₀ t T' : State) (L : List Loc), st₀.heap = H ∧ Stand p l e R s m args below meth c T' (locs ++ L) (cells + mc) (slots + ms) ∧ (∀ q ∈ L, free q.base) ∧ T'.heap = t.heap ∧ T'.vm = t.vm ∧ Qa st₀ (.returned v) t ∧
      Goes p e below T g T' { g with pc := g.pc + 3, stack := v.toList ++ rest }) ∨
    (∃ (q : Addr) (st₀ t T' : State) (L : List Loc) (E : String) (ce : Cell), st₀.heap = H ∧ Stand p l e R s m args below meth c T' (locs ++ L) (cells + mc) (slots + ms) ∧ (∀ z ∈ L, free z.base) ∧ T'.heap = t.heap ∧ T'.vm = t.vm ∧ XC E st₀ t ∧ t.heap[q]? = some ce ∧ ce.vm = .none ∧ s.vm.findClass E = some ce.cls ∧
      Steps p.tables e below (T.setTop g) ((T'.setTop { g with stack := rest }).pushFrame (.throwing q)))
def vx_X {S : Type} (px : S → Prop) (B : String → S → State → Prop) (A : Nat → Prop) : String → State → State → Prop := fun E st t => ∃ u : S, px u ∧ B E u t ∧ va_F A st t
section Runs
variable {p : Program} {l : Launch} {e : Env} {R : Room} {s : State} {m : MethodId} {args : Array Value} {below : List Frame} {meth : Method} {c : Code} {H : Heap} {locs : List Loc} {cells slots : Nat}
variable {y : MethodName} {bytes cc : ByteArray} {maxL nL mc ms n index : Nat} {ret : Option FieldType} {ws : List Cond} {rm : Room} {Pc : Array Value → State → Prop} {Qc : Array Value → State → Outcome → State → Prop} {XC : String → State → State → Prop} {free : Addr → Prop} {Ts : List Cond} {own C : String} {b : Addr} {As rest : List Value} {g : JFrame}
theorem vx_callBack (cb : CallB R s args own index y bytes maxL ret ws rm mc ms n) (hM : vx_Met l y ws rm Pc Qc XC mc ms free) (hbl : FrameBlind Pc) : vx_Back l R p e below s args y 3 8 (PreOf R mc ms Pc) (PostOf Qc mc ms free) (vx_Post XC mc ms free) := by
  obtain ⟨hrc, hrs, hfr, hlo, hws, hcw, -, hini, -⟩ := cb
  exact vx_back (bytes := bytes) (maxL := maxL) (ret := ret) hM hbl hrc hrs hfr hlo hws hcw (fun a' U hW => word_at hW (Or.inl (by first | rfl | simp [Cond.onTables, Cond.keeps, Cond.steady])) hini)
theorem vx_runV (S : CallFix p m c cc nL s args Ts own) (hM : vx_Met l y ws rm Pc Qc XC mc ms free) (cw : CallW R s args own C index y bytes maxL ret ws rm mc ms n) (hp : PreV s H C b Pc As)
    (hg : g.method = m) (hn : As.length = n) (hsize : g.locals.size = nL) (hstack : g.stack = As.reverse ++ .ref b :: rest) (hW : 2 * g.monitorRoom + (rest.map fun v => v.category).sum ≤ 8) (hdg : decode cc g.pc = .ok (.invokevirtual index, 3)) (hf : cells + mc ≤ R.cells ∧ slots + ms ≤ R.slots) :
    vx_Run p l e R s m args below meth c H locs cells slots mc ms g rest (Qc (Value.ref b :: As).toArray) XC free := by
  have hK : vx_Back l R p e below s args y 3 8 (PreOf R mc ms Pc) (PostOf Qc mc ms free) (vx_Post XC mc ms free) := vx_callBack cw.1 hM hp.1
  obtain ⟨⟨-, -, -, -, -, -, hcode, -, hy, hlen, hl⟩, hin, hse⟩ := cw
  obtain ⟨hx, hb, hml, ho, -⟩ := S
  obtain ⟨-, ⟨cellB, hcB, hoB, hclB⟩, hPc⟩ := hp
  intro T hT X
  rcases vx_callV X hx (C := C) (bytes := bytes) (maxL := maxL) (ret := ret) ho hl hin hse hcode hy hK (by rw [hT]; exact hcB) hoB hclB hg (hsize.trans hml.symm) (argsL := As) (rest := rest) (fun sig h => hn.trans (hlen sig h)) hstack hW (by rw [hb]; exact hdg)
    (fun vm₁ hW₁ => ⟨hf.1, hf.2, hPc (T.setVm vm₁) hT hW₁⟩) with ⟨v, vm₁, ⟨U', l2, c2, s2⟩, hW₁, X', ⟨g', mk, t, L, e1, e2, hq, h1, hL, h2, h3⟩, st⟩ | ⟨q, vm₁, ⟨U', l2, c2, s2⟩, hW₁, X', ⟨g', mk, t, L, E, ce, e1, e2, hq, hce, hcv, hcl, h1, hL, h2, h3⟩, st⟩
  · dsimp only [Pt.U, Pt.locs, Pt.cells, Pt.slots] at X' e1 e2 h1 h2 h3 st
    subst h1; subst h2; subst h3
    exact Or.inl ⟨v, (T.setVm vm₁).calling g' mk (Value.ref b :: As).toArray, t, U', L, hT, X', hL, e1, e2, hq, st⟩
  · dsimp only [Pt.U, Pt.locs, Pt.cells, Pt.slots] at X' e1 e2 h1 h2 h3 st hcl
    subst h1; subst h2; subst h3
    exact Or.inr ⟨q, (T.setVm vm₁).calling g' mk (Value.ref b :: As).toArray, t, U', L, E, ce, hT, X', hL, e1, e2, hq, hce, hcv, vx_cls hW₁ hcl, st⟩
theorem vx_runS (S : CallFix p m c cc nL s args Ts own) (hM : vx_Met l y ws rm Pc Qc XC mc ms free) (cw : CallB R s args own index y bytes maxL ret ws rm mc ms n ∧ (Cond.static y).before args s = true) (hp : PreS s H Pc As)
    (hg : g.method = m) (hn : As.length = n) (hsize : g.locals.size = nL) (hstack : g.stack = As.reverse ++ rest) (hW : 2 * g.monitorRoom + (rest.map fun v => v.category).sum ≤ 8) (hdg : decode cc g.pc = .ok (.invokestatic index, 3)) (hf : cells + mc ≤ R.cells ∧ slots + ms ≤ R.slots) :
    vx_Run p l e R s m args below meth c H locs cells slots mc ms g rest (Qc As.toArray) XC free := by
  have hK : vx_Back l R p e below s args y 3 8 (PreOf R mc ms Pc) (PostOf Qc mc ms free) (vx_Post XC mc ms free) := vx_callBack cw.1 hM hp.1
  obtain ⟨⟨-, -, -, -, -, -, hcode, hini, hy, hlen, hl⟩, hstt⟩ := cw
  obtain ⟨hx, hb, hml, ho, -⟩ := S
  intro T hT X
  rcases vx_callS X hx (bytes := bytes) (maxL := maxL) (ret := ret) ho hl hstt hini hcode hy hK hg (hsize.trans hml.symm) (argsL := As) (rest := rest) (fun sig h => hn.trans (hlen sig h)) hstack hW (by rw [hb]; exact hdg)
    (fun vm₁ hW₁ => ⟨hf.1, hf.2, hp.2 (T.setVm vm₁) hT hW₁⟩) with ⟨v, vm₁, ⟨U', l2, c2, s2⟩, hW₁, X', ⟨g', mk, t, L, e1, e2, hq, h1, hL, h2, h3⟩, st⟩ | ⟨q, vm₁, ⟨U', l2, c2, s2⟩, hW₁, X', ⟨g', mk, t, L, E, ce, e1, e2, hq, hce, hcv, hcl, h1, hL, h2, h3⟩, st⟩
  · dsimp only [Pt.U, Pt.locs, Pt.cells, Pt.slots] at X' e1 e2 h1 h2 h3 st
    subst h1; subst h2; subst h3
    exact Or.inl ⟨v, (T.setVm vm₁).calling g' mk As.toArray, t, U', L, hT, X', hL, e1, e2, hq, st⟩
  · dsimp only [Pt.U, Pt.locs, Pt.cells, Pt.slots] at X' e1 e2 h1 h2 h3 st hcl
    subst h1; subst h2; subst h3
    exact Or.inr ⟨q, (T.setVm vm₁).calling g' mk As.toArray, t, U', L, E, ce, hT, X', hL, e1, e2, hq, hce, hcv, vx_cls hW₁ hcl, st⟩
end Runs
section Rows
variable {p : Program} {l : Launch} {e : Env} {R : Room} {s : State} {m : MethodId} {args : Array Value} {below : List Frame} {meth : Method} {c : Code} {H : Heap} {locs : List Loc} {cells slots : Nat} {Q : State → Prop}
variable {mc ms : Nat} {free : Addr → Prop} {A0 A1 : Nat → Prop} {H0 : Heap} {a : Array Value} {pc : Nat} {ls : Array Slot} {st0 rest : List Value}
theorem vx_keep {st₀ t T' : State} {L : List Loc} (h0 : st₀.heap = H) (e1 : T'.heap = t.heap) (hS : va_S A0 H0 H locs) (hA : ∀ q, q < H.size → A1 q → A0 q) (hf : ∀ q, free q → A0 q) (hL : ∀ q ∈ L, free q.base) (hF : va_F A1 st₀ t) :
    H.size ≤ T'.heap.size ∧ (∀ q : Nat, q < H.size → ¬ A1 q → T'.heap[q]? = H[q]?) ∧ va_S A0 H0 T'.heap (locs ++ L) := by
  obtain ⟨hz, hk⟩ := hF
  rw [h0] at hz hk
  exact ⟨by rw [e1]; exact hz, fun q h1 h2 => by rw [e1]; exact hk q h1 h2,
    ⟨Nat.le_trans hS.1 (by rw [e1]; exact hz), fun q h1 h2 => by rw [e1, hk q (Nat.lt_of_lt_of_le h1 hS.1) (fun z => h2 (hA q (Nat.lt_of_lt_of_le h1 hS.1) z))]; exact hS.2.1 q h1 h2, fun q hq => by
      rcases List.mem_append.mp hq with h | h
      · exact hS.2.2 q h
      · exact hf _ (hL q h)⟩⟩
theorem vx_calli {S SX : Type} {post : Int32 → S → Prop} {px : SX → Prop} {B : S → State → Prop} {BX : String → SX → State → Prop} {AX : Nat → Prop} (hr : vx_Run p l e R s m args below meth c H locs cells slots mc ms (F0 m pc ls st0) rest (va_Qi post B A1 a) (vx_X px BX AX) free) (hS : va_S A0 H0 H locs) (hA : ∀ q, q < H.size → A1 q → A0 q) (hf : ∀ q, free q → A0 q) (hAX : ∀ q, q < H.size → AX q → A0 q)
    (kx : ∀ (E : String) (ce : Cell) (q9 : Addr) (u : SX) (t : State) (H1 : Heap) (locs1 : List Loc), t.heap = H1 → s.vm.Alike t.vm → px u → BX E u t → H.size ≤ H1.size → (∀ q : Nat, q < H.size → ¬ AX q → H1[q]? = H[q]?) → va_S A0 H0 H1 locs1 → H1[q9]? = some ce → ce.vm = .none → s.vm.findClass E = some ce.cls → vx_W p l e R s m args below meth c H1 locs1 (cells + mc) (slots + ms) Q (F0 m pc ls rest) q9)
    (kk : ∀ (r : Int32) (u : S) (t : State) (H1 : Heap) (locs1 : List Loc), t.heap = H1 → s.vm.Alike t.vm → post r u → B u t → H.size ≤ H1.size → (∀ q : Nat, q < H.size → ¬ A1 q → H1[q]? = H[q]?) → va_S A0 H0 H1 locs1 → W p l e R s m args below meth c H1 locs1 (cells + mc) (slots + ms) Q (F0 m (pc + 3) ls (.int r :: rest))) : W p l e R s m args below meth c H locs cells slots Q (F0 m pc ls st0) := by
  intro T hT X
  rcases hr T hT X with ⟨v, st₀, t, T', L, h0, X', hL, e1, e2, ⟨⟨r, u, hv, hp, hb⟩, hF⟩, st⟩ | ⟨q, st₀, t, T', L, E, ce, h0, X', hL, e1, e2, ⟨u, hp, hb, hF⟩, hce, hcv, hcl, st⟩
  · cases hv
    obtain ⟨k1, k2, k3⟩ := vx_keep h0 e1 hS hA hf hL hF
    obtain ⟨t2, a1, b1⟩ := kk r u t T'.heap (locs ++ L) e1.symm (by rw [← e2]; exact X'.warmed.alike) hp hb k1 k2 k3 T' rfl X'
    exact ⟨t2, st t2 a1, b1⟩
  · obtain ⟨k1, k2, k3⟩ := vx_keep h0 e1 hS hAX hf hL hF
    obtain ⟨t2, a1, b1⟩ := kx E ce q u t T'.heap (locs ++ L) e1.symm (by rw [← e2]; exact X'.warmed.alike) hp hb k1 k2 k3 (by rw [e1]; exact hce) hcv hcl T' rfl X'
    exact ⟨t2, st.trans a1, b1⟩
theorem vx_calll {S SX : Type} {post : Int64 → S → Prop} {px : SX → Prop} {B : S → State → Prop} {BX : String → SX → State → Prop} {AX : Nat → Prop} (hr : vx_Run p l e R s m args below meth c H locs cells slots mc ms (F0 m pc ls st0) rest (va_Ql post B A1 a) (vx_X px BX AX) free) (hS : va_S A0 H0 H locs) (hA : ∀ q, q < H.size → A1 q → A0 q) (hf : ∀ q, free q → A0 q) (hAX : ∀ q, q < H.size → AX q → A0 q)
    (kx : ∀ (E : String) (ce : Cell) (q9 : Addr) (u : SX) (t : State) (H1 : Heap) (locs1 : List Loc), t.heap = H1 → s.vm.Alike t.vm → px u → BX E u t → H.size ≤ H1.size → (∀ q : Nat, q < H.size → ¬ AX q → H1[q]? = H[q]?) → va_S A0 H0 H1 locs1 → H1[q9]? = some ce → ce.vm = .none → s.vm.findClass E = some ce.cls → vx_W p l e R s m args below meth c H1 locs1 (cells + mc) (slots + ms) Q (F0 m pc ls rest) q9)
    (kk : ∀ (r : Int64) (u : S) (t : State) (H1 : Heap) (locs1 : List Loc), t.heap = H1 → s.vm.Alike t.vm → post r u → B u t → H.size ≤ H1.size → (∀ q : Nat, q < H.size → ¬ A1 q → H1[q]? = H[q]?) → va_S A0 H0 H1 locs1 → W p l e R s m args below meth c H1 locs1 (cells + mc) (slots + ms) Q (F0 m (pc + 3) ls (.long r :: rest))) : W p l e R s m args below meth c H locs cells slots Q (F0 m pc ls st0) := by
  intro T hT X
  rcases hr T hT X with ⟨v, st₀, t, T', L, h0, X', hL, e1, e2, ⟨⟨r, u, hv, hp, hb⟩, hF⟩, st⟩ | ⟨q, st₀, t, T', L, E, ce, h0, X', hL, e1, e2, ⟨u, hp, hb, hF⟩, hce, hcv, hcl, st⟩
  · cases hv
    obtain ⟨k1, k2, k3⟩ := vx_keep h0 e1 hS hA hf hL hF
    obtain ⟨t2, a1, b1⟩ := kk r u t T'.heap (locs ++ L) e1.symm (by rw [← e2]; exact X'.warmed.alike) hp hb k1 k2 k3 T' rfl X'
    exact ⟨t2, st t2 a1, b1⟩
  · obtain ⟨k1, k2, k3⟩ := vx_keep h0 e1 hS hAX hf hL hF
    obtain ⟨t2, a1, b1⟩ := kx E ce q u t T'.heap (locs ++ L) e1.symm (by rw [← e2]; exact X'.warmed.alike) hp hb k1 k2 k3 (by rw [e1]; exact hce) hcv hcl T' rfl X'
    exact ⟨t2, st.trans a1, b1⟩
theorem vx_callf {S SX : Type} {post : UInt32 → S → Prop} {px : SX → Prop} {B : S → State → Prop} {BX : String → SX → State → Prop} {AX : Nat → Prop} (hr : vx_Run p l e R s m args below meth c H locs cells slots mc ms (F0 m pc ls st0) rest (va_Qf post B A1 a) (vx_X px BX AX) free) (hS : va_S A0 H0 H locs) (hA : ∀ q, q < H.size → A1 q → A0 q) (hf : ∀ q, free q → A0 q) (hAX : ∀ q, q < H.size → AX q → A0 q)
    (kx : ∀ (E : String) (ce : Cell) (q9 : Addr) (u : SX) (t : State) (H1 : Heap) (locs1 : List Loc), t.heap = H1 → s.vm.Alike t.vm → px u → BX E u t → H.size ≤ H1.size → (∀ q : Nat, q < H.size → ¬ AX q → H1[q]? = H[q]?) → va_S A0 H0 H1 locs1 → H1[q9]? = some ce → ce.vm = .none → s.vm.findClass E = some ce.cls → vx_W p l e R s m args below meth c H1 locs1 (cells + mc) (slots + ms) Q (F0 m pc ls rest) q9)
    (kk : ∀ (r : UInt32) (u : S) (t : State) (H1 : Heap) (locs1 : List Loc), t.heap = H1 → s.vm.Alike t.vm → post r u → B u t → H.size ≤ H1.size → (∀ q : Nat, q < H.size → ¬ A1 q → H1[q]? = H[q]?) → va_S A0 H0 H1 locs1 → W p l e R s m args below meth c H1 locs1 (cells + mc) (slots + ms) Q (F0 m (pc + 3) ls (.float r :: rest))) : W p l e R s m args below meth c H locs cells slots Q (F0 m pc ls st0) := by
  intro T hT X
  rcases hr T hT X with ⟨v, st₀, t, T', L, h0, X', hL, e1, e2, ⟨⟨r, u, hv, hp, hb⟩, hF⟩, st⟩ | ⟨q, st₀, t, T', L, E, ce, h0, X', hL, e1, e2, ⟨u, hp, hb, hF⟩, hce, hcv, hcl, st⟩
  · cases hv
    obtain ⟨k1, k2, k3⟩ := vx_keep h0 e1 hS hA hf hL hF
    obtain ⟨t2, a1, b1⟩ := kk r u t T'.heap (locs ++ L) e1.symm (by rw [← e2]; exact X'.warmed.alike) hp hb k1 k2 k3 T' rfl X'
    exact ⟨t2, st t2 a1, b1⟩
  · obtain ⟨k1, k2, k3⟩ := vx_keep h0 e1 hS hAX hf hL hF
    obtain ⟨t2, a1, b1⟩ := kx E ce q u t T'.heap (locs ++ L) e1.symm (by rw [← e2]; exact X'.warmed.alike) hp hb k1 k2 k3 (by rw [e1]; exact hce) hcv hcl T' rfl X'
    exact ⟨t2, st.trans a1, b1⟩
theorem vx_calld {S SX : Type} {post : UInt64 → S → Prop} {px : SX → Prop} {B : S → State → Prop} {BX : String → SX → State → Prop} {AX : Nat → Prop} (hr : vx_Run p l e R s m args below meth c H locs cells slots mc ms (F0 m pc ls st0) rest (va_Qd post B A1 a) (vx_X px BX AX) free) (hS : va_S A0 H0 H locs) (hA : ∀ q, q < H.size → A1 q → A0 q) (hf : ∀ q, free q → A0 q) (hAX : ∀ q, q < H.size → AX q → A0 q)
    (kx : ∀ (E : String) (ce : Cell) (q9 : Addr) (u : SX) (t : State) (H1 : Heap) (locs1 : List Loc), t.heap = H1 → s.vm.Alike t.vm → px u → BX E u t → H.size ≤ H1.size → (∀ q : Nat, q < H.size → ¬ AX q → H1[q]? = H[q]?) → va_S A0 H0 H1 locs1 → H1[q9]? = some ce → ce.vm = .none → s.vm.findClass E = some ce.cls → vx_W p l e R s m args below meth c H1 locs1 (cells + mc) (slots + ms) Q (F0 m pc ls rest) q9)
    (kk : ∀ (r : UInt64) (u : S) (t : State) (H1 : Heap) (locs1 : List Loc), t.heap = H1 → s.vm.Alike t.vm → post r u → B u t → H.size ≤ H1.size → (∀ q : Nat, q < H.size → ¬ A1 q → H1[q]? = H[q]?) → va_S A0 H0 H1 locs1 → W p l e R s m args below meth c H1 locs1 (cells + mc) (slots + ms) Q (F0 m (pc + 3) ls (.double r :: rest))) : W p l e R s m args below meth c H locs cells slots Q (F0 m pc ls st0) := by
  intro T hT X
  rcases hr T hT X with ⟨v, st₀, t, T', L, h0, X', hL, e1, e2, ⟨⟨r, u, hv, hp, hb⟩, hF⟩, st⟩ | ⟨q, st₀, t, T', L, E, ce, h0, X', hL, e1, e2, ⟨u, hp, hb, hF⟩, hce, hcv, hcl, st⟩
  · cases hv
    obtain ⟨k1, k2, k3⟩ := vx_keep h0 e1 hS hA hf hL hF
    obtain ⟨t2, a1, b1⟩ := kk r u t T'.heap (locs ++ L) e1.symm (by rw [← e2]; exact X'.warmed.alike) hp hb k1 k2 k3 T' rfl X'
    exact ⟨t2, st t2 a1, b1⟩
  · obtain ⟨k1, k2, k3⟩ := vx_keep h0 e1 hS hAX hf hL hF
    obtain ⟨t2, a1, b1⟩ := kx E ce q u t T'.heap (locs ++ L) e1.symm (by rw [← e2]; exact X'.warmed.alike) hp hb k1 k2 k3 (by rw [e1]; exact hce) hcv hcl T' rfl X'
    exact ⟨t2, st.trans a1, b1⟩
theorem vx_callv {S SX : Type} {post : S → Prop} {px : SX → Prop} {B : S → State → Prop} {BX : String → SX → State → Prop} {AX : Nat → Prop} (hr : vx_Run p l e R s m args below meth c H locs cells slots mc ms (F0 m pc ls st0) rest (va_Qv post B A1 a) (vx_X px BX AX) free) (hS : va_S A0 H0 H locs) (hA : ∀ q, q < H.size → A1 q → A0 q) (hf : ∀ q, free q → A0 q) (hAX : ∀ q, q < H.size → AX q → A0 q)
    (kx : ∀ (E : String) (ce : Cell) (q9 : Addr) (u : SX) (t : State) (H1 : Heap) (locs1 : List Loc), t.heap = H1 → s.vm.Alike t.vm → px u → BX E u t → H.size ≤ H1.size → (∀ q : Nat, q < H.size → ¬ AX q → H1[q]? = H[q]?) → va_S A0 H0 H1 locs1 → H1[q9]? = some ce → ce.vm = .none → s.vm.findClass E = some ce.cls → vx_W p l e R s m args below meth c H1 locs1 (cells + mc) (slots + ms) Q (F0 m pc ls rest) q9)
    (kk : ∀ (u : S) (t : State) (H1 : Heap) (locs1 : List Loc), t.heap = H1 → s.vm.Alike t.vm → post u → B u t → H.size ≤ H1.size → (∀ q : Nat, q < H.size → ¬ A1 q → H1[q]? = H[q]?) → va_S A0 H0 H1 locs1 → W p l e R s m args below meth c H1 locs1 (cells + mc) (slots + ms) Q (F0 m (pc + 3) ls (rest))) : W p l e R s m args below meth c H locs cells slots Q (F0 m pc ls st0) := by
  intro T hT X
  rcases hr T hT X with ⟨v, st₀, t, T', L, h0, X', hL, e1, e2, ⟨⟨u, hv, hp, hb⟩, hF⟩, st⟩ | ⟨q, st₀, t, T', L, E, ce, h0, X', hL, e1, e2, ⟨u, hp, hb, hF⟩, hce, hcv, hcl, st⟩
  · cases hv
    obtain ⟨k1, k2, k3⟩ := vx_keep h0 e1 hS hA hf hL hF
    obtain ⟨t2, a1, b1⟩ := kk u t T'.heap (locs ++ L) e1.symm (by rw [← e2]; exact X'.warmed.alike) hp hb k1 k2 k3 T' rfl X'
    exact ⟨t2, st t2 a1, b1⟩
  · obtain ⟨k1, k2, k3⟩ := vx_keep h0 e1 hS hAX hf hL hF
    obtain ⟨t2, a1, b1⟩ := kx E ce q u t T'.heap (locs ++ L) e1.symm (by rw [← e2]; exact X'.warmed.alike) hp hb k1 k2 k3 (by rw [e1]; exact hce) hcv hcl T' rfl X'
    exact ⟨t2, st.trans a1, b1⟩
/-- caught by the row x of this method's table; the rows ahead don't take it -/
theorem vx_catch {own name : String} {E : String} {ce : Cell} {q : Addr} (hown : s.vm.findClass own = some m.cls) (pre : List ExceptionTableEntry) (x : ExceptionTableEntry) (suf : List ExceptionTableEntry) (hsplit : c.exceptionTable.toList = pre ++ x :: suf)
    (hpass : ∀ z ∈ pre, covers z pc = false ∨ (z.catchType ≠ 0 ∧ ∃ nm : String, (Cond.classLink own z.catchType nm).before args s = true ∧ va_Nc E nm s)) (hx : covers x pc = true) (h0 : x.catchType ≠ 0)
    (hlink : (Cond.classLink own x.catchType name).before args s = true) (hcast : (Cond.castable E name).before args s = true) (hcell : H[q]? = some ce) (hv : ce.vm = .none) (hcl : s.vm.findClass E = some ce.cls)
    (kk : W p l e R s m args below meth c H locs cells slots Q (F0 m x.handlerPc ls [.ref q])) : vx_W p l e R s m args below meth c H locs cells slots Q (F0 m pc ls rest) q := by
  intro T hT X
  have hpl : e.platform.magicAccessors = ({} : Platform).magicAccessors := by rw [X.admits.platform]
  obtain ⟨c3, c4, hc3, hc4, hasg⟩ := Cond.castable_spec hcast
  cases Option.some.inj (hc3.symm.trans hcl)
  obtain ⟨c5, hc5, hcl5⟩ := Cond.classLink_spec hown hlink e.platform hpl
  cases Option.some.inj (hc4.symm.trans hc5)
  obtain ⟨vm', X', st⟩ := Jvm.Stand.thenCaughtThrough X q (g := F0 m pc ls rest) rfl (Steps.refl _) (by rw [hT]; exact hcell) (by rw [hv]; rfl) (by obtain ⟨k9, h9, -⟩ := Vm.findClass_spec hcl; exact ⟨k9, h9⟩) pre x suf hsplit
    (fun z hz => by
      rcases hpass z hz with h | ⟨hz0, nm, hl1, hn1⟩
      · exact Or.inl h
      · obtain ⟨c6, hc6, hcl6⟩ := Cond.classLink_spec hown hl1 e.platform hpl
        obtain ⟨a8, b8, h1, h2, h3⟩ := hn1
        cases Option.some.inj (h1.symm.trans hcl)
        cases Option.some.inj (h2.symm.trans hc6)
        exact Or.inr ⟨hz0, _, hcl6, h3⟩) hx (Or.inr ⟨h0, c4, hcl5, hasg⟩)
  obtain ⟨t, a1, b1⟩ := kk (T.setVm vm') hT X'
  exact ⟨t, st.trans a1, b1⟩
end Rows
section Ends
variable {p : Program} {l : Launch} {e : Env} {R : Room} {s : State} {m : MethodId} {args : Array Value} {below : List Frame} {meth : Method} {c : Code} {H : Heap} {locs : List Loc} {cells slots : Nat} {Q : State → Prop}
variable {mc ms : Nat} {free : Addr → Prop} {A0 A1 : Nat → Prop} {H0 : Heap} {a : Array Value} {ls : Array Slot} {st0 rest : List Value}
variable {Qc : Array Value → State → Outcome → State → Prop} {XC : String → State → State → Prop}
/-- what a body that may throw owes at its end -/
def vx_MQ (below : List Frame) (Qc : Array Value → State → Outcome → State → Prop) (XC : String → State → State → Prop) (a : Array Value) (s : State) (mc ms : Nat) (free : Addr → Prop) : State → Prop := fun t =>
  ∃ o, t.status = .running ∧ Ended t below o ∧ vx_Q Qc XC mc ms free a s o t
theorem vx_ret {g : JFrame} {mc ms : Nat} (k : W p l e R s m args below meth c H locs cells slots (MQ below Qc args s mc ms free) g) : W p l e R s m args below meth c H locs cells slots (vx_MQ below Qc XC args s mc ms free) g := by
  intro T hT X
  obtain ⟨t, a1, o, b1, b2, b3, b4⟩ := k T hT X
  exact ⟨t, a1, o, b1, b2, Or.inl ⟨b3, b4⟩⟩
/-- not caught here: it goes on to the caller -/
theorem vx_widen {g : JFrame} {q : Addr} {k n : Nat} (h1 : cells ≤ k) (h2 : slots ≤ n) (kk : vx_W p l e R s m args below meth c H locs k n Q g q) : vx_W p l e R s m args below meth c H locs cells slots Q g q := fun T hT X => kk T hT (stand_widen X h1 h2)
theorem vx_out {pc : Nat} {E : String} {ce : Cell} {q : Addr} {mc ms : Nat} (hout : ∀ x ∈ c.exceptionTable.toList, covers x pc = false) (hlocks : meth.locks = false) (hcell : H[q]? = some ce) (hv : ce.vm = .none) (hcl : s.vm.findClass E = some ce.cls)
    (hx : ∀ t : State, t.heap = H → s.vm.Alike t.vm → XC E s t) (hf : ∀ z ∈ locs, free z.base) (hc : cells ≤ mc) (hs : slots ≤ ms) :
    vx_W p l e R s m args below meth c H locs cells slots (vx_MQ below Qc XC args s mc ms free) (F0 m pc ls rest) q := by
  intro T hT X
  obtain ⟨st1, hrun, hend, hW, hsm⟩ := X.leaveThrown q (g := F0 m pc ls rest) rfl rfl rfl hout hlocks
  have hcell9 : (T.setFrames (.throwing q :: below)).heap[q]? = some ce := by
    show T.heap[q]? = some ce
    rw [hT]; exact hcell
  exact ⟨_, st1, .threw q, hrun, hend, Or.inr ⟨q, rfl, E, ce, locs, hx _ hT hW.alike, hcell9, hv, hcl, hW, hsm.mono hc hs, hf⟩⟩
theorem vx_frame {U : State} {k n : Nat} (h : s.sameButNew ({ U with vm := s.vm } : State) locs k n) : s.heap.size ≤ U.heap.size ∧ ∀ q : Nat, q < s.heap.size → (∀ z ∈ locs, z.base ≠ q) → U.heap[q]? = s.heap[q]? := by
  obtain ⟨-, h2, -, -, -, h6⟩ := h
  refine ⟨h2, fun q hq hz => ?_⟩
  obtain ⟨c9, e1, e2, e3, e4⟩ := h6 q _ (Array.getElem?_eq_getElem hq)
  have hs : c9.slots = (s.heap[q]).slots := Array.ext_getElem? fun i => e4 i fun hm => hz _ hm rfl
  have h9 : c9 = s.heap[q] := by
    rw [hs] at e2
    exact e2
  have e5 : U.heap[q]? = some c9 := e1
  rw [e5, h9, Array.getElem?_eq_getElem hq]
/-- the words of a throw but the four that speak of the heap -/
def vx_no (w : Cond) : Bool := decide (w ≠ .isRef (.static Bundle.tN "UNASSIGNED_STACK" Bundle.steD)) && decide (w ≠ .isRef (.static Bundle.tN "SUPPRESSED_SENTINEL" Bundle.listD)) && decide (w ≠ .laysStatic Bundle.tN "UNASSIGNED_STACK" Bundle.steD) && decide (w ≠ .laysStatic Bundle.tN "SUPPRESSED_SENTINEL" Bundle.listD)
def vx_at0 (own : String) (ic : Nat) (X : String) (names : List String) : List Cond := (Bundle.ownAtoms0 own ic X names).filter vx_no
def vx_atS (own : String) (ic : Nat) (X : String) (names : List String) : List Cond := (Bundle.ownAtoms own ic X names).filter vx_no
/-- a word that the tables alone decide, or a good one -/
def vx_ot (w : Cond) : Bool := w.onTables || goodWord w
theorem vx_ot_at {args a' : Array Value} {s U : State} {w : Cond} (hW : s.WarmedH U.vm) (hvm : s.vm = U.vm) (hg : vx_ot w = true) (h : w.before args s = true) : w.before a' U = true := by
  simp only [vx_ot, Bool.or_eq_true] at hg
  rcases hg with hg | hg
  · exact va_tabs hg hvm h
  · exact word_at hW (good_of_word hg) h
/-- a list's words: the good ones out of the method's own list, the others by premises of their own -/
theorem vx_hat {args : Array Value} {s : State} {L B : List Cond} (h1 : ∀ w ∈ L.filter goodWord, w.before args s = true) (h2 : ∀ w ∈ L.filter (fun w => !goodWord w), w ∈ B) (h3 : ∀ w ∈ B, w.before args s = true) : ∀ w ∈ L, w.before args s = true := by
  intro w hw
  by_cases g : goodWord w = true
  · exact h1 w (List.mem_filter.mpr ⟨hw, g⟩)
  · refine h3 w (h2 w (List.mem_filter.mpr ⟨hw, ?_⟩))
    show (!goodWord w) = true
    cases hgw : goodWord w
    · rfl
    · exact absurd hgw g
theorem vx_c {args : Array Value} {s : State} {w : Cond} {B : List Cond} (h : w.before args s = true) (t : ∀ w ∈ B, w.before args s = true) : ∀ w' ∈ w :: B, w'.before args s = true := fun w' h' => (List.mem_cons.mp h').elim (fun e => by rw [e]; exact h) (t w')
theorem vx_n {args : Array Value} {s : State} : ∀ w ∈ ([] : List Cond), w.before args s = true := fun _ h => nomatch h
theorem vx_own {args : Array Value} {s : State} {L : List Cond} (h1 : ∀ w ∈ L.filter vx_no, w.before args s = true)
    (hU : (Cond.isRef (.static Bundle.tN "UNASSIGNED_STACK" Bundle.steD)).before args s = true) (hN : (Cond.isRef (.static Bundle.tN "SUPPRESSED_SENTINEL" Bundle.listD)).before args s = true)
    (lU : (Cond.laysStatic Bundle.tN "UNASSIGNED_STACK" Bundle.steD).before args s = true) (lN : (Cond.laysStatic Bundle.tN "SUPPRESSED_SENTINEL" Bundle.listD).before args s = true) : ∀ w ∈ L, w.before args s = true := by
  intro w hw
  by_cases e1 : w = .isRef (.static Bundle.tN "UNASSIGNED_STACK" Bundle.steD)
  · rw [e1]; exact hU
  · by_cases e2 : w = .isRef (.static Bundle.tN "SUPPRESSED_SENTINEL" Bundle.listD)
    · rw [e2]; exact hN
    · by_cases e3 : w = .laysStatic Bundle.tN "UNASSIGNED_STACK" Bundle.steD
      · rw [e3]; exact lU
      · by_cases e4 : w = .laysStatic Bundle.tN "SUPPRESSED_SENTINEL" Bundle.listD
        · rw [e4]; exact lN
        · exact h1 w (List.mem_filter.mpr ⟨hw, by unfold vx_no; rw [decide_eq_true e1, decide_eq_true e2, decide_eq_true e3, decide_eq_true e4]; rfl⟩)
/-- where a static field lies, its class's statics cell in H -/
def vx_L (C n d : String) (A : Nat → Prop) (U : State) (H : Heap) : Prop := ∃ (c : ClassId) (k : Class) (i : Nat) (f : Field) (a : Nat) (cell : Cell), U.vm.findClass C = some c ∧ U.fieldFound? C n d = some (c, k, i, f) ∧ f.isStatic = true ∧ k.statics = some a ∧ H[a]? = some cell ∧ cell.vm.isStatics = true ∧ cell.cls = c ∧ f.slot < cell.slots.size ∧ k.staticTypes[f.slot]? = some f.type ∧ ¬ A a
theorem vx_L.moved {C n d : String} {A : Nat → Prop} {u U : State} {H : Heap} (hvm : u.vm.Alike U.vm) (h : vx_L C n d A u H) : vx_L C n d A U H := by
  obtain ⟨c, k, i, f, a, cell, h1, h2, h3, h4, h5, h6, h7, h8, h9, h10⟩ := h
  obtain ⟨k', hi', he⟩ := State.fieldFound?_setVm hvm h2
  exact ⟨c, k', i, f, a, cell, by rw [hvm.findClass]; exact h1, hi', h3, by rw [he]; exact h4, h5, h6, h7, h8, by rw [he]; exact h9, h10⟩
theorem vx_L.kept {C n d : String} {A : Nat → Prop} {U : State} {H H1 : Heap} (h : vx_L C n d A U H) (hq : ∀ a : Nat, a < H.size → ¬ A a → H1[a]? = H[a]?) : vx_L C n d A U H1 := by
  obtain ⟨c, k, i, f, a, cell, h1, h2, h3, h4, h5, h6, h7, h8, h9, h10⟩ := h
  exact ⟨c, k, i, f, a, cell, h1, h2, h3, h4, by rw [hq a (Array.getElem?_eq_some_iff.mp h5).1 h10]; exact h5, h6, h7, h8, h9, h10⟩
theorem vx_L.narrow {C n d : String} {A B : Nat → Prop} {U : State} {H : Heap} (h : vx_L C n d A U H) (hAB : ∀ q, B q → A q) : vx_L C n d B U H := by
  obtain ⟨c, k, i, f, a, cell, h1, h2, h3, h4, h5, h6, h7, h8, h9, h10⟩ := h
  exact ⟨c, k, i, f, a, cell, h1, h2, h3, h4, h5, h6, h7, h8, h9, fun z => h10 (hAB _ z)⟩
theorem vx_L.word {C n d : String} {A : Nat → Prop} {s : State} {args : Array Value} (h : vx_L C n d A s s.heap) : (Cond.laysStatic C n d).before args s = true := by
  obtain ⟨c, k, i, f, a, cell, h1, h2, h3, h4, h5, h6, h7, h8, h9, -⟩ := h
  show (Cond.laysStatic C n d).holds args s none s [] = true
  exact Cond.laysStatic_of h1 h2 h3 h4 h5 h6 h7 h8 h9
/-- .. and what it holds: null or some reference -/
def vx_Zq (C n d : String) (A : Nat → Prop) (U : State) (H : Heap) : Prop := va_Zq C n d A U H ∧ vx_L C n d A U H
theorem vx_Zq.moved {C n d : String} {A : Nat → Prop} {u U : State} {H : Heap} (hvm : u.vm.Alike U.vm) (h : vx_Zq C n d A u H) : vx_Zq C n d A U H := ⟨va_Zq.moved hvm h.1, vx_L.moved hvm h.2⟩
theorem vx_Zq.kept {C n d : String} {A : Nat → Prop} {U : State} {H H1 : Heap} (h : vx_Zq C n d A U H) (hq : ∀ a : Nat, a < H.size → ¬ A a → H1[a]? = H[a]?) : vx_Zq C n d A U H1 := ⟨va_Zq.kept h.1 hq, vx_L.kept h.2 hq⟩
theorem vx_Zq.narrow {C n d : String} {A B : Nat → Prop} {U : State} {H : Heap} (h : vx_Zq C n d A U H) (hAB : ∀ q, B q → A q) : vx_Zq C n d B U H := ⟨va_Zq.narrow h.1 hAB, vx_L.narrow h.2 hAB⟩
theorem vx_Zqof {args : Array Value} {s : State} {C n d : String} {A : Nat → Prop} (hl : (Cond.laysStatic C n d).before args s = true) (hini : (Cond.initialized C).before args s = true) (h : (Cond.isRef (.static C n d)).before args s = true) (hA : ∀ a : Nat, a < s.heap.size → ¬ A a) : vx_Zq C n d A s s.heap := by
  refine ⟨va_Zqof hl hini h hA, ?_⟩
  obtain ⟨c, k, i, f, a, cell, h1, h2, h3, h4, h5, h6, h7, h8, h9⟩ := Cond.laysStatic_spec hl
  exact ⟨c, k, i, f, a, cell, h1, h2, h3, h4, h5, h6, h7, h8, h9, hA a (Array.getElem?_eq_some_iff.mp h5).1⟩
theorem vx_isRef {C n d : String} {v : Value} {A : Nat → Prop} {s : State} {args : Array Value} (h : va_Z C n d v A s s.heap) (hv : v.isRef = true) : (Cond.isRef (.static C n d)).before args s = true := by
  obtain ⟨cf, kf, fi, f, a, cell, h1, h2, h3, h4, h5, h6, h7, -⟩ := h
  have he : (Term.static C n d).eval args s none [] s = some v := by
    simp [Term.eval, State.fieldNamed?, h1, h2, h4, h5, h6, h7]
  simp only [Cond.before, Cond.holds, Cond.value, he]
  cases v <;> simp_all [Value.isRef]
theorem vx_isRefq {C n d : String} {A : Nat → Prop} {s : State} {args : Array Value} (h : va_Zq C n d A s s.heap) : (Cond.isRef (.static C n d)).before args s = true := by
  rcases h with h | ⟨t, h⟩
  · exact vx_isRef h rfl
  · exact vx_isRef h rfl
/-- the same frame, seen from here: as if the method were called anew in this heap -/
theorem vx_rebase {T : State} (X : Stand p l e R s m args below meth c T locs cells slots) {R' : Room} (hf : R'.frames ≤ R.frames) (hl : R'.locals ≤ R.locals) (hc : cells + R'.cells ≤ R.cells) (hs : slots + R'.slots ≤ R.slots) :
    Stand p l e R' ((T.setVm s.vm).setFrames (.invoking m args :: below)) m args below meth c T [] 0 0 := by
  have htop : (T.setVm s.vm).topJava?.isSome := X.here.top
  have hF : ((T.setVm s.vm).setFrames (.invoking m args :: below)).frames = .invoking m args :: below := State.frames_setFrames _ (State.cur_lt_of_top htop)
  obtain ⟨g₀, hg0⟩ := Option.isSome_iff_exists.mp htop
  obtain ⟨r, hr⟩ := State.topJava?_eq_some.mp hg0
  have hl9 : e.platform.stackLimits (T.setVm s.vm).me = e.platform.stackLimits s.me := X.limits
  have hb9 : (T.setVm s.vm).me.stackBytes = s.me.stackBytes := X.bytes
  refine ⟨X.admits, X.cas, X.clock, hF, ?_, X.hears, X.method, X.code, X.here, X.tail, X.warmed, ?_, ?_, ?_⟩
  · have h := X.room
    have hU : ((T.setVm s.vm).setFrames (.invoking m args :: below)).localsInUse = s.localsInUse := by
      rw [State.localsInUse_invoking hF (meth := meth) (c := c) X.method X.code, State.localsInUse_invoking X.frames X.method X.code]
    simp only [State.hasRoom, Bool.and_eq_true, decide_eq_true_eq] at h ⊢
    obtain ⟨⟨⟨⟨h1, h2, h3, h4, h5, h6⟩, h7⟩, h8⟩, h9⟩ := h
    rw [X.frames, List.length_cons] at h2 h3
    have q1 := X.heapSize
    have q2 := X.used
    simp only [hF, hU, List.length_cons, State.stackLimits_setFrames, State.stackBytes_setFrames, hl9, hb9]
    refine ⟨⟨⟨⟨by omega, by omega, by omega, by omega, by omega, h6⟩, ?_⟩, ?_⟩, X.book⟩
    · show T.heap.size + R'.cells ≤ e.platform.maxCells
      omega
    · show T.slotsUsed + R'.slots ≤ e.platform.maxSlots
      omega
  · rw [State.stackLimits_setFrames]; rfl
  · rw [State.stackBytes_setFrames]; rfl
  · refine ⟨?_, Nat.le_refl _, Nat.le_refl _, ?_, ?_, fun a c9 h9 => ⟨c9, h9, rfl, rfl, fun _ _ => rfl⟩⟩
    · obtain ⟨t, ht, -⟩ := State.frames_cons hr
      show T.setVm s.vm = { ((T.setVm s.vm).setFrames (.invoking m args :: below)).setFrames (T.setVm s.vm).frames with heap := T.heap, slotsUsed := T.slotsUsed }
      rw [State.setFrames_setFrames, State.setFrames_self ht]
      rfl
    · show T.slotsUsed = T.slotsUsed + ((T.heap.toList.drop T.heap.size).map (·.slots.size)).sum
      rw [List.drop_eq_nil_of_le (Nat.le_of_eq Array.length_toList)]
      rfl
    · show ((T.heap.toList.drop T.heap.size).map (·.slots.size)).sum ≤ 0
      rw [List.drop_eq_nil_of_le (Nat.le_of_eq Array.length_toList)]
      exact Nat.le_refl _
/-- 'throw new E()': new; dup; invokespecial; athrow -/
theorem vx_throw0 {cc : ByteArray} {pc : Nat} (hexec : p.tables.exec = Jvm.exec) (hb : c.code = cc) (hl : l.stackTraces = false) {own cls : String} {names : List String} {ik ic mc ms : Nat} {A : Nat → Prop}
    (hown : s.vm.findClass own = some m.cls) (hcls : Bundle.fit cls = true) (hnames : ∀ n ∈ names, Bundle.fit n = true)
    (hk : (Cond.classLink own ik cls).before args s = true) (hini : (Cond.initialized cls).before args s = true) (hat : ∀ w ∈ vx_at0 own ic cls names, w.before args s = true)
    (hgood : ∀ w ∈ Cond.classLink own ik cls :: Cond.initialized cls :: vx_at0 own ic cls names, vx_ot w = true)
    (hU : vx_Zq Bundle.tN "UNASSIGNED_STACK" Bundle.steD A s s.heap) (hN : vx_Zq Bundle.tN "SUPPRESSED_SENTINEL" Bundle.listD A s s.heap) (hS : va_S A s.heap H locs) (hsize : ls.size = c.maxLocals)
    (d0 : decode cc pc = .ok (.new ik, 3)) (d3 : decode cc (pc + 3) = .ok (.dup, 1)) (d4 : decode cc (pc + 4) = .ok (.invokespecial ic, 3)) (d7 : decode cc (pc + 7) = .ok (.athrow, 1))
    (hout : ∀ x ∈ c.exceptionTable.toList, covers x (pc + 7) = false)
    (hRframes : names.length + 3 < R.frames) (hRlocals : (rest.map fun v => v.category).sum + (13 * (names.length + 1) + 42) ≤ R.locals) (hRcells : cells + 1 ≤ R.cells) (hRslots : slots + 6 ≤ R.slots) (hlocks : meth.locks = false)
    (hx : ∀ t : State, s.vm.Alike t.vm → H.size ≤ t.heap.size → (∀ q : Nat, q < H.size → t.heap[q]? = H[q]?) → XC cls s t)
    (hf : ∀ z ∈ locs, free z.base) (hc : cells + 1 ≤ mc) (hs : slots + 6 ≤ ms) :
    W p l e R s m args below meth c H locs cells slots (vx_MQ below Qc XC args s mc ms free) (F0 m pc ls rest) := by
  intro T hT X
  have htr : e.platform.stackTraces = false := (show e.platform.stackTraces = l.stackTraces by rw [X.admits.platform]).trans hl
  have Y := vx_rebase X (R' := { frames := R.frames, locals := R.locals, cells := 1, slots := 6 }) (Nat.le_refl _) (Nat.le_refl _) hRcells hRslots
  obtain ⟨s', hA⟩ : ∃ z, z = (T.setVm s.vm).setFrames (.invoking m args :: below) := ⟨_, rfl⟩
  rw [← hA] at Y
  have hvm : s'.vm = s.vm := by rw [hA]; rfl
  have hhp : s'.heap = H := by rw [hA]; exact hT
  have hW0 : s.WarmedH s'.vm := by rw [hvm]; exact State.WarmedH.refl s
  have hat' : ∀ w ∈ vx_at0 own ic cls names, w.before args s' = true := fun w hw => vx_ot_at hW0 hvm.symm (hgood w (List.mem_cons_of_mem _ (List.mem_cons_of_mem _ hw))) (hat w hw)
  have hk' : (Cond.classLink own ik cls).before args s' = true := vx_ot_at hW0 hvm.symm (hgood _ List.mem_cons_self) hk
  have hini' : (Cond.initialized cls).before args s' = true := vx_ot_at hW0 hvm.symm (hgood _ (List.mem_cons_of_mem _ List.mem_cons_self)) hini
  have hU' : vx_Zq Bundle.tN "UNASSIGNED_STACK" Bundle.steD A s' s'.heap := by rw [hhp]; exact vx_Zq.moved hW0.alike (hU.kept hS.2.1)
  have hN' : vx_Zq Bundle.tN "SUPPRESSED_SENTINEL" Bundle.listD A s' s'.heap := by rw [hhp]; exact vx_Zq.moved hW0.alike (hN.kept hS.2.1)
  have h : ∀ w ∈ Bundle.ownAtoms0 own ic cls names, w.before args s' = true := vx_own hat' (vx_isRefq hU'.1) (vx_isRefq hN'.1) hU'.2.word hN'.2.word
  have hown' : s'.vm.findClass own = some m.cls := by rw [hvm]; exact hown
  have hins : (Cond.instantiable cls 6).before args s' = true := h _ (by simp [Bundle.ownAtoms0])
  obtain ⟨vm₁, cX, kX, hfX, hkX, -, -, X₁, st1⟩ := Y.newCold hexec (own := own) (C := cls) (index := ik) (n := 6) hown' hk' hins hini'
    (g := F0 m pc ls rest) rfl (by rw [hb]; exact d0) (Nat.le_refl _) (Nat.le_refl _)
  generalize hT1 : (T.setVm vm₁).pushCell { cls := cX, slots := kX.instanceTypes.map defaultValue, vm := .none } = T1 at X₁ st1
  have hcat : (Value.ref T.heap.size).category = 1 := rfl
  have hcellA : T1.heap[T.heap.size]? = some (freshCell cX kX) := by rw [← hT1]; exact State.heap_pushCell_size _ _
  have d3' : decode c.code (pc + 3) = .ok (.dup, 1) := by rw [hb]; exact d3
  obtain ⟨U, hsteps, hrun, hend, hW, hsame, ce, hce, hO⟩ := X₁.ctorThrow0 hexec htr (own := own) (cls := cls) (names := names) (ic := ic) hown' hcls hnames h (fun x hx => nomatch hx) hfX hkX hcellA (by rw [hhp, hT]; exact Nat.le_refl _)
    (g := { method := m, pc := pc + 4, locals := ls, stack := .ref T.heap.size :: .ref T.heap.size :: rest, locked := none }) rfl hsize rfl rfl (rest := rest) rfl
    (by rw [hb]; exact d4) (by rw [hb]; exact d7) hout hRframes (by simp only [List.map_cons, List.sum_cons, hcat]; omega) hlocks
  obtain ⟨f1, f2⟩ := vx_frame hsame
  rw [hhp] at f1 f2
  have hWs : s.WarmedH U.vm := State.WarmedH.trans hW0 hW
  have hcl : s.vm.findClass cls = some ce.cls := by
    have h9 := hO.cls
    rw [hvm] at h9
    exact h9
  have hall : s.sameButNew ({ U with vm := s.vm } : State) locs mc ms := by
    subst hA
    obtain ⟨e1, e2⟩ := hsame
    rw [State.setFrames_setFrames] at e1
    have h2 : (T.setVm s.vm).sameButNew ({ U with vm := s.vm } : State) [] (0 + 1) (0 + 6) := ⟨e1, e2⟩
    have h3 := X.same.trans h2
    rw [List.append_nil] at h3
    exact h3.mono hc hs
  refine ⟨U, ?_, .threw T.heap.size, hrun, hend, Or.inr ⟨T.heap.size, rfl, cls, ce, locs, hx U hWs.alike f1 (fun q hq => f2 q hq (fun z hz => nomatch hz)), hce, hO.vm, hcl, hWs, hall, hf⟩⟩
  refine st1 _ ?_
  show Steps p.tables e below (T1.setTop { method := m, pc := pc + 3, locals := ls, stack := .ref T.heap.size :: rest, locked := none }) _
  jvm_step X₁.here [X₁.here.top, hexec, d3', Value.category]
  exact hsteps
/-- 'throw new E("text")': new; dup; ldc; invokespecial; athrow -/
theorem vx_throwS {cc : ByteArray} {pc : Nat} (hexec : p.tables.exec = Jvm.exec) (hb : c.code = cc) (hl : l.stackTraces = false) {own cls text : String} {names : List String} {ik is ic mc ms sa : Nat} {A : Nat → Prop}
    (hown : s.vm.findClass own = some m.cls) (hcls : Bundle.fit cls = true) (hnames : ∀ n ∈ names, Bundle.fit n = true)
    (hk : (Cond.classLink own ik cls).before args s = true) (hini : (Cond.initialized cls).before args s = true) (hstr : vk_R own is text sa s) (hat : ∀ w ∈ vx_atS own ic cls names, w.before args s = true)
    (hgood : ∀ w ∈ Cond.classLink own ik cls :: Cond.initialized cls :: vx_atS own ic cls names, vx_ot w = true)
    (hU : vx_Zq Bundle.tN "UNASSIGNED_STACK" Bundle.steD A s s.heap) (hN : vx_Zq Bundle.tN "SUPPRESSED_SENTINEL" Bundle.listD A s s.heap) (hS : va_S A s.heap H locs) (hsize : ls.size = c.maxLocals)
    (d0 : decode cc pc = .ok (.new ik, 3)) (d3 : decode cc (pc + 3) = .ok (.dup, 1)) (d4 : decode cc (pc + 4) = .ok (.ldc is, 2)) (d6 : decode cc (pc + 6) = .ok (.invokespecial ic, 3)) (d9 : decode cc (pc + 9) = .ok (.athrow, 1))
    (hout : ∀ x ∈ c.exceptionTable.toList, covers x (pc + 9) = false)
    (hRframes : names.length + 3 < R.frames) (hRlocals : (rest.map fun v => v.category).sum + (13 * (names.length + 1) + 43) ≤ R.locals) (hRcells : cells + 1 ≤ R.cells) (hRslots : slots + 6 ≤ R.slots) (hlocks : meth.locks = false)
    (hx : ∀ t : State, s.vm.Alike t.vm → H.size ≤ t.heap.size → (∀ q : Nat, q < H.size → t.heap[q]? = H[q]?) → XC cls s t)
    (hf : ∀ z ∈ locs, free z.base) (hc : cells + 1 ≤ mc) (hs : slots + 6 ≤ ms) :
    W p l e R s m args below meth c H locs cells slots (vx_MQ below Qc XC args s mc ms free) (F0 m pc ls rest) := by
  intro T hT X
  have htr : e.platform.stackTraces = false := (show e.platform.stackTraces = l.stackTraces by rw [X.admits.platform]).trans hl
  have Y := vx_rebase X (R' := { frames := R.frames, locals := R.locals, cells := 1, slots := 6 }) (Nat.le_refl _) (Nat.le_refl _) hRcells hRslots
  obtain ⟨s', hA⟩ : ∃ z, z = (T.setVm s.vm).setFrames (.invoking m args :: below) := ⟨_, rfl⟩
  rw [← hA] at Y
  have hvm : s'.vm = s.vm := by rw [hA]; rfl
  have hhp : s'.heap = H := by rw [hA]; exact hT
  have hW0 : s.WarmedH s'.vm := by rw [hvm]; exact State.WarmedH.refl s
  have hat' : ∀ w ∈ vx_atS own ic cls names, w.before args s' = true := fun w hw => vx_ot_at hW0 hvm.symm (hgood w (List.mem_cons_of_mem _ (List.mem_cons_of_mem _ hw))) (hat w hw)
  have hk' : (Cond.classLink own ik cls).before args s' = true := vx_ot_at hW0 hvm.symm (hgood _ List.mem_cons_self) hk
  have hini' : (Cond.initialized cls).before args s' = true := vx_ot_at hW0 hvm.symm (hgood _ (List.mem_cons_of_mem _ List.mem_cons_self)) hini
  have hU' : vx_Zq Bundle.tN "UNASSIGNED_STACK" Bundle.steD A s' s'.heap := by rw [hhp]; exact vx_Zq.moved hW0.alike (hU.kept hS.2.1)
  have hN' : vx_Zq Bundle.tN "SUPPRESSED_SENTINEL" Bundle.listD A s' s'.heap := by rw [hhp]; exact vx_Zq.moved hW0.alike (hN.kept hS.2.1)
  have h : ∀ w ∈ Bundle.ownAtoms own ic cls names, w.before args s' = true := vx_own hat' (vx_isRefq hU'.1) (vx_isRefq hN'.1) hU'.2.word hN'.2.word
  have hown' : s'.vm.findClass own = some m.cls := by rw [hvm]; exact hown
  have hins : (Cond.instantiable cls 6).before args s' = true := h _ (by simp [Bundle.ownAtoms])
  obtain ⟨vm₁, cX, kX, hfX, hkX, -, -, X₁, st1⟩ := Y.newCold hexec (own := own) (C := cls) (index := ik) (n := 6) hown' hk' hins hini'
    (g := F0 m pc ls rest) rfl (by rw [hb]; exact d0) (Nat.le_refl _) (Nat.le_refl _)
  generalize hT1 : (T.setVm vm₁).pushCell { cls := cX, slots := kX.instanceTypes.map defaultValue, vm := .none } = T1 at X₁ st1
  have hcat : (Value.ref T.heap.size).category = 1 := rfl
  have hcellA : T1.heap[T.heap.size]? = some (freshCell cX kX) := by rw [← hT1]; exact State.heap_pushCell_size _ _
  have d3' : decode c.code (pc + 3) = .ok (.dup, 1) := by rw [hb]; exact d3
  have d4' : decode c.code (pc + 4) = .ok (.ldc is, 2) := by rw [hb]; exact d4
  have hstr' : vk_R own is text sa s' := vk_R.warm hW0 hstr
  obtain ⟨U, hsteps, hrun, hend, hW, hsame, ce, hce, hO⟩ := X₁.ctorThrowS hexec htr (own := own) (cls := cls) (names := names) (ic := ic) hown' hcls hnames h (fun x hx => nomatch hx) hfX hkX hcellA (by rw [hhp, hT]; exact Nat.le_refl _) (msg := .ref sa) rfl
    (g := { method := m, pc := pc + 6, locals := ls, stack := .ref sa :: .ref T.heap.size :: .ref T.heap.size :: rest, locked := none }) rfl hsize rfl rfl (rest := rest) rfl
    (by rw [hb]; exact d6) (by rw [hb]; exact d9) hout hRframes (by simp only [List.map_cons, List.sum_cons, hcat]; omega) hlocks
  obtain ⟨f1, f2⟩ := vx_frame hsame
  rw [hhp] at f1 f2
  have hWs : s.WarmedH U.vm := State.WarmedH.trans hW0 hW
  have hcl : s.vm.findClass cls = some ce.cls := by
    have h9 := hO.cls
    rw [hvm] at h9
    exact h9
  have hall : s.sameButNew ({ U with vm := s.vm } : State) locs mc ms := by
    subst hA
    obtain ⟨e1, e2⟩ := hsame
    rw [State.setFrames_setFrames] at e1
    have h2 : (T.setVm s.vm).sameButNew ({ U with vm := s.vm } : State) [] (0 + 1) (0 + 6) := ⟨e1, e2⟩
    have h3 := X.same.trans h2
    rw [List.append_nil] at h3
    exact h3.mono hc hs
  refine ⟨U, ?_, .threw T.heap.size, hrun, hend, Or.inr ⟨T.heap.size, rfl, cls, ce, locs, hx U hWs.alike f1 (fun q hq => f2 q hq (fun z hz => nomatch hz)), hce, hO.vm, hcl, hWs, hall, hf⟩⟩
  refine st1 _ ?_
  show Steps p.tables e below (T1.setTop { method := m, pc := pc + 3, locals := ls, stack := .ref T.heap.size :: rest, locked := none }) _
  jvm_step X₁.here [X₁.here.top, hexec, d3', Value.category]
  exact X₁.ldcString hexec (own := own) (text := text) (index := is) (a := sa) hown' hstr'.1 hstr'.2
    (g := { method := m, pc := pc + 4, locals := ls, stack := .ref T.heap.size :: .ref T.heap.size :: rest, locked := none }) rfl d4' _ hsteps
/-- 'throw new E("text")', the text by a wide index -/
theorem vx_throwSW {cc : ByteArray} {pc : Nat} (hexec : p.tables.exec = Jvm.exec) (hb : c.code = cc) (hl : l.stackTraces = false) {own cls text : String} {names : List String} {ik is ic mc ms sa : Nat} {A : Nat → Prop}
    (hown : s.vm.findClass own = some m.cls) (hcls : Bundle.fit cls = true) (hnames : ∀ n ∈ names, Bundle.fit n = true)
    (hk : (Cond.classLink own ik cls).before args s = true) (hini : (Cond.initialized cls).before args s = true) (hstr : vk_R own is text sa s) (hat : ∀ w ∈ vx_atS own ic cls names, w.before args s = true)
    (hgood : ∀ w ∈ Cond.classLink own ik cls :: Cond.initialized cls :: vx_atS own ic cls names, vx_ot w = true)
    (hU : vx_Zq Bundle.tN "UNASSIGNED_STACK" Bundle.steD A s s.heap) (hN : vx_Zq Bundle.tN "SUPPRESSED_SENTINEL" Bundle.listD A s s.heap) (hS : va_S A s.heap H locs) (hsize : ls.size = c.maxLocals)
    (d0 : decode cc pc = .ok (.new ik, 3)) (d3 : decode cc (pc + 3) = .ok (.dup, 1)) (d4 : decode cc (pc + 4) = .ok (.ldc_w is, 3)) (d7 : decode cc (pc + 7) = .ok (.invokespecial ic, 3)) (d10 : decode cc (pc + 10) = .ok (.athrow, 1))
    (hout : ∀ x ∈ c.exceptionTable.toList, covers x (pc + 10) = false)
    (hRframes : names.length + 3 < R.frames) (hRlocals : (rest.map fun v => v.category).sum + (13 * (names.length + 1) + 43) ≤ R.locals) (hRcells : cells + 1 ≤ R.cells) (hRslots : slots + 6 ≤ R.slots) (hlocks : meth.locks = false)
    (hx : ∀ t : State, s.vm.Alike t.vm → H.size ≤ t.heap.size → (∀ q : Nat, q < H.size → t.heap[q]? = H[q]?) → XC cls s t)
    (hf : ∀ z ∈ locs, free z.base) (hc : cells + 1 ≤ mc) (hs : slots + 6 ≤ ms) :
    W p l e R s m args below meth c H locs cells slots (vx_MQ below Qc XC args s mc ms free) (F0 m pc ls rest) := by
  intro T hT X
  have htr : e.platform.stackTraces = false := (show e.platform.stackTraces = l.stackTraces by rw [X.admits.platform]).trans hl
  have Y := vx_rebase X (R' := { frames := R.frames, locals := R.locals, cells := 1, slots := 6 }) (Nat.le_refl _) (Nat.le_refl _) hRcells hRslots
  obtain ⟨s', hA⟩ : ∃ z, z = (T.setVm s.vm).setFrames (.invoking m args :: below) := ⟨_, rfl⟩
  rw [← hA] at Y
  have hvm : s'.vm = s.vm := by rw [hA]; rfl
  have hhp : s'.heap = H := by rw [hA]; exact hT
  have hW0 : s.WarmedH s'.vm := by rw [hvm]; exact State.WarmedH.refl s
  have hat' : ∀ w ∈ vx_atS own ic cls names, w.before args s' = true := fun w hw => vx_ot_at hW0 hvm.symm (hgood w (List.mem_cons_of_mem _ (List.mem_cons_of_mem _ hw))) (hat w hw)
  have hk' : (Cond.classLink own ik cls).before args s' = true := vx_ot_at hW0 hvm.symm (hgood _ List.mem_cons_self) hk
  have hini' : (Cond.initialized cls).before args s' = true := vx_ot_at hW0 hvm.symm (hgood _ (List.mem_cons_of_mem _ List.mem_cons_self)) hini
  have hU' : vx_Zq Bundle.tN "UNASSIGNED_STACK" Bundle.steD A s' s'.heap := by rw [hhp]; exact vx_Zq.moved hW0.alike (hU.kept hS.2.1)
  have hN' : vx_Zq Bundle.tN "SUPPRESSED_SENTINEL" Bundle.listD A s' s'.heap := by rw [hhp]; exact vx_Zq.moved hW0.alike (hN.kept hS.2.1)
  have h : ∀ w ∈ Bundle.ownAtoms own ic cls names, w.before args s' = true := vx_own hat' (vx_isRefq hU'.1) (vx_isRefq hN'.1) hU'.2.word hN'.2.word
  have hown' : s'.vm.findClass own = some m.cls := by rw [hvm]; exact hown
  have hins : (Cond.instantiable cls 6).before args s' = true := h _ (by simp [Bundle.ownAtoms])
  obtain ⟨vm₁, cX, kX, hfX, hkX, -, -, X₁, st1⟩ := Y.newCold hexec (own := own) (C := cls) (index := ik) (n := 6) hown' hk' hins hini'
    (g := F0 m pc ls rest) rfl (by rw [hb]; exact d0) (Nat.le_refl _) (Nat.le_refl _)
  generalize hT1 : (T.setVm vm₁).pushCell { cls := cX, slots := kX.instanceTypes.map defaultValue, vm := .none } = T1 at X₁ st1
  have hcat : (Value.ref T.heap.size).category = 1 := rfl
  have hcellA : T1.heap[T.heap.size]? = some (freshCell cX kX) := by rw [← hT1]; exact State.heap_pushCell_size _ _
  have d3' : decode c.code (pc + 3) = .ok (.dup, 1) := by rw [hb]; exact d3
  have d4' : decode c.code (pc + 4) = .ok (.ldc_w is, 3) := by rw [hb]; exact d4
  have hstr' : vk_R own is text sa s' := vk_R.warm hW0 hstr
  obtain ⟨U, hsteps, hrun, hend, hW, hsame, ce, hce, hO⟩ := X₁.ctorThrowS hexec htr (own := own) (cls := cls) (names := names) (ic := ic) hown' hcls hnames h (fun x hx => nomatch hx) hfX hkX hcellA (by rw [hhp, hT]; exact Nat.le_refl _) (msg := .ref sa) rfl
    (g := { method := m, pc := pc + 7, locals := ls, stack := .ref sa :: .ref T.heap.size :: .ref T.heap.size :: rest, locked := none }) rfl hsize rfl rfl (rest := rest) rfl
    (by rw [hb]; exact d7) (by rw [hb]; exact d10) hout hRframes (by simp only [List.map_cons, List.sum_cons, hcat]; omega) hlocks
  obtain ⟨f1, f2⟩ := vx_frame hsame
  rw [hhp] at f1 f2
  have hWs : s.WarmedH U.vm := State.WarmedH.trans hW0 hW
  have hcl : s.vm.findClass cls = some ce.cls := by
    have h9 := hO.cls
    rw [hvm] at h9
    exact h9
  have hall : s.sameButNew ({ U with vm := s.vm } : State) locs mc ms := by
    subst hA
    obtain ⟨e1, e2⟩ := hsame
    rw [State.setFrames_setFrames] at e1
    have h2 : (T.setVm s.vm).sameButNew ({ U with vm := s.vm } : State) [] (0 + 1) (0 + 6) := ⟨e1, e2⟩
    have h3 := X.same.trans h2
    rw [List.append_nil] at h3
    exact h3.mono hc hs
  refine ⟨U, ?_, .threw T.heap.size, hrun, hend, Or.inr ⟨T.heap.size, rfl, cls, ce, locs, hx U hWs.alike f1 (fun q hq => f2 q hq (fun z hz => nomatch hz)), hce, hO.vm, hcl, hWs, hall, hf⟩⟩
  refine st1 _ ?_
  show Steps p.tables e below (T1.setTop { method := m, pc := pc + 3, locals := ls, stack := .ref T.heap.size :: rest, locked := none }) _
  jvm_step X₁.here [X₁.here.top, hexec, d3', Value.category]
  exact X₁.ldcStringW hexec (own := own) (text := text) (index := is) (a := sa) hown' hstr'.1 hstr'.2
    (g := { method := m, pc := pc + 4, locals := ls, stack := .ref T.heap.size :: .ref T.heap.size :: rest, locked := none }) rfl d4' _ hsteps
end Ends
section Bodies
variable {l : Launch}
theorem vx_ofW {y : MethodName} {ws ws' : List Cond} {rm : Room} {Pc : Array Value → State → Prop} {Qc : Array Value → State → Outcome → State → Prop} {XC : String → State → State → Prop} {mc ms : Nat} {free : Addr → Prop} {cc : ByteArray} {maxL : Nat} {ret : Option FieldType}
    (hy : plainName y.cls = true) (hw : ws = Cond.code y cc maxL ret :: ws')
    (body : ∀ p e s m args below meth c s₁, BodyLoose p l y (headSpec ws rm) cc maxL ret e s m args below meth c s₁ → c.maxLocals = maxL → (∀ x ∈ c.exceptionTable.toList, False) → Pc args s →
      W p l e (headSpec ws rm).room s m args below meth c s.heap [] 0 0 (vx_MQ below Qc XC args s mc ms free) (entryFrame m args maxL)) : vx_Met l y ws rm Pc Qc XC mc ms free := by
  refine MetFree.of_bodyS (code := cc) (maxLocals := maxL) (ret := ret) hy ?_ ?_
  · intro args s m h hn
    obtain ⟨meth, c, h1, h2, h3, h4, h5, h6, -, -⟩ := Cond.code_spec hn (atoms_spec (ws := ws) h _ (by rw [hw]; exact List.mem_cons_self))
    exact ⟨meth, c, h1, h2, h3, h4, h5, h6⟩
  · intro p e s m args below meth c s₁ B hml hP _
    have hh0 : s₁.heap = s.heap := by rw [B.state]; rfl
    have ht : ∀ x ∈ c.exceptionTable.toList, False := by
      obtain ⟨meth9, c9, h1, h2, -, -, -, -, h7, -⟩ := Cond.code_spec B.named (atoms_spec (ws := ws) B.pre _ (by rw [hw]; exact List.mem_cons_self))
      cases Option.some.inj (h1.symm.trans B.method)
      cases Option.some.inj (h2.symm.trans (Stand.of_body B).code)
      intro x hx
      rw [Array.isEmpty_iff.mp h7] at hx
      cases hx
    obtain ⟨t, a1, o, b1, b2, b3⟩ := body p e s m args below meth c s₁ B hml ht hP s₁ hh0 (Stand.of_body B)
    exact ⟨t, o, a1, b1, b2, b3⟩
/-- the table of a body with handlers -/
theorem vx_table {p : Program} {x y : MethodName} {S : Spec} {cc bytes : ByteArray} {maxL maxL' : Nat} {ret ret' : Option FieldType} {e : Env} {s s₁ : State} {m : MethodId} {args : Array Value} {below : List Frame} {meth : Method} {c : Code} {hh : List (Nat × Nat × Nat × Nat)}
    (B : BodyLoose p l y S cc maxL ret e s m args below meth c s₁) (h : (Cond.codeWith y bytes maxL' ret' hh).before args s = true) : c.exceptionTable.toList = tableOf hh := by
  obtain ⟨m9, meth9, c9, hn9, h1, h2, -, -, h6, -⟩ := Cond.codeWith_spec h
  cases Option.some.inj (hn9.symm.trans B.named)
  cases Option.some.inj (h1.symm.trans B.method)
  cases Option.some.inj (h2.symm.trans (Stand.of_body B).code)
  rw [← h6, table_eq]
end Bodies
end VXA
/-! ===== END ===== -/
/-! ===== BEGIN a static call of a method with an exception table ===== -/
section VXS
variable {p : Program} {l : Launch} {e : Env} {R : Room} {s : State} {m : MethodId} {args : Array Value} {below : List Frame} {meth : Method} {c : Code} {T : State} {H : Heap} {locs : List Loc} {cells slots : Nat}
abbrev vx_CSW (R : Room) (s : State) (args : Array Value) (own : String) (index : Nat) (y : MethodName) (bytes : ByteArray) (maxL : Nat) (ret : Option FieldType) (hh : List (Nat × Nat × Nat × Nat)) (ws : List Cond) (rm : Room) (mc ms n : Nat) : Prop :=
  (rm.cells = mc ∧ rm.slots = ms ∧ rm.frames + 1 ≤ R.frames ∧ 8 + (maxL + 11) + rm.locals ≤ R.locals ∧ (∀ w ∈ ws, ∀ (a' : Array Value) (U : State), s.WarmedH U.vm → w.before a' U = true) ∧ Cond.codeWith y bytes maxL ret hh ∈ ws) ∧
  (Cond.codeWith y bytes maxL ret hh).before args s = true ∧ (Cond.initialized y.cls).before args s = true ∧ (y.cls ≠ "java/lang/invoke/MethodHandle" ∧ y.cls ≠ "java/lang/invoke/VarHandle") ∧
  (∀ sig, parseMethodDescriptor y.desc = some sig → n = sig.parameters.length) ∧ (Cond.methodLink own index y).before args s = true ∧ (Cond.static y).before args s = true
theorem vx_cwSW {own : String} {index maxL mc ms : Nat} {y : MethodName} {bytes : ByteArray} {ret : Option FieldType} {hh : List (Nat × Nat × Nat × Nat)} {Ts ws ws' : List Cond} {rm : Room} (n : Nat) (ht : ∀ w ∈ Ts, w.before args s = true) (hT : GoodIn Ts (va_wsS own index y ws)) (hw : ws = Cond.codeWith y bytes maxL ret hh :: ws') (hrc : rm.cells = mc) (hrs : rm.slots = ms)
    (hd : y.cls ≠ "java/lang/invoke/MethodHandle" ∧ y.cls ≠ "java/lang/invoke/VarHandle" ∧ (parseMethodDescriptor y.desc).map (fun d => d.parameters.length) = some n) (hR : rm.frames + 1 ≤ R.frames ∧ 8 + (maxL + 11) + rm.locals ≤ R.locals) :
    vx_CSW R s args own index y bytes maxL ret hh ws rm mc ms n := by
  have ok : ∀ w ∈ va_wsS own index y ws, w.before args s = true := fun w h => ht w (hT w h).1
  have hG : GoodIn Ts ws := fun w h => hT w (by unfold va_wsS; exact List.mem_append_right _ h)
  have hc : Cond.codeWith y bytes maxL ret hh ∈ ws := by rw [hw]; exact List.mem_cons_self
  refine ⟨⟨hrc, hrs, hR.1, hR.2, pay_in ht hG, hc⟩, ht _ (hG _ hc).1, ok _ (by simp [va_wsS]), ⟨hd.1, hd.2.1⟩, fun sig h => ?_, ok _ (by simp [va_wsS]), ok _ (by simp [va_wsS])⟩
  have h2 := hd.2.2
  rw [h] at h2
  exact (Option.some.inj h2).symm
theorem vx_callSW (X : Stand p l e R s m args below meth c T locs cells slots) (hexec : p.tables.exec = Jvm.exec) {own : String} {index : Nat} {y : MethodName} {bytes : ByteArray} {maxL : Nat} {ret : Option FieldType} {hh : List (Nat × Nat × Nat × Nat)}
    (hown : s.vm.findClass own = some m.cls) (hlink : (Cond.methodLink own index y).before args s = true) (hstat : (Cond.static y).before args s = true) (hinit : (Cond.initialized y.cls).before args s = true)
    (hcode : (Cond.codeWith y bytes maxL ret hh).before args s = true) (hy : y.cls ≠ "java/lang/invoke/MethodHandle" ∧ y.cls ≠ "java/lang/invoke/VarHandle")
    {W9 : Nat} {Pre : Pt → Array Value → Prop} {Post : Pt → Array Value → Option Value → Pt → Prop} (hK : Back l R p e below s args y 3 W9 Pre Post)
    {g : JFrame} (hg : g.method = m) (hsize : g.locals.size = c.maxLocals) {argsL rest : List Value} (hlen : ∀ sig, parseMethodDescriptor y.desc = some sig → argsL.length = sig.parameters.length)
    (hstack : g.stack = argsL.reverse ++ rest) (hW : 2 * g.monitorRoom + (rest.map fun v => v.category).sum ≤ W9) (hdg : decode c.code g.pc = .ok (.invokestatic index, 3))
    (hpre : ∀ vm₁, s.WarmedH vm₁ → Pre ⟨T.setVm vm₁, locs, cells, slots⟩ argsL.toArray) :
    ∃ (v : Option Value) (vm₁ : Vm) (B : Pt), s.WarmedH vm₁ ∧ Stand p l e R s m args below meth c B.U B.locs B.cells B.slots ∧ Post ⟨T.setVm vm₁, locs, cells, slots⟩ argsL.toArray v B ∧
      ∀ target, Steps p.tables e below (B.U.setTop { g with pc := g.pc + 3, stack := v.toList ++ rest }) target → Steps p.tables e below (T.setTop g) target := by
  obtain ⟨mk, methM, cM, hnamed, hmethM, -, -, -, -, -, -, hsigM⟩ := Cond.codeWith_spec hcode
  have hstatic : methM.isStatic = true := Cond.static_spec hnamed hmethM hstat
  obtain ⟨kP, hkP, -⟩ := className_of_methodNamed hnamed
  have hinitP : kP.init = .initialized := Cond.initialized_spec (findClass_of_methodNamed hnamed) hkP hinit
  obtain ⟨vm₁, X₁, hstep₁⟩ := X.invokestatic hexec hown hlink hnamed hmethM hstatic hkP hinitP hy (g := g) hg (argsL := argsL) (rest := rest) (hlen _ hsigM) hstack hdg
  obtain ⟨v, B, X', hpost, hsteps⟩ := hK m meth c ⟨T.setVm vm₁, locs, cells, slots⟩ { g with stack := rest } (.invokestatic index) mk argsL.toArray X₁ hg hsize hdg hW (X₁.named hnamed) (hpre vm₁ X₁.warmed)
  exact ⟨v, vm₁, B, X₁.warmed, X', hpost, fun target h => hstep₁ _ fun acts => by rw [doInvoke_state]; exact hsteps.trans h⟩
theorem vx_runSW {y : MethodName} {bytes cc : ByteArray} {maxL nL mc ms n index : Nat} {ret : Option FieldType} {hh : List (Nat × Nat × Nat × Nat)} {ws : List Cond} {rm : Room} {Pc : Array Value → State → Prop} {Qc : Array Value → State → Outcome → State → Prop} {free : Addr → Prop} {Ts : List Cond} {own : String} {As rest : List Value} {g : JFrame}
    (S : CallFix p m c cc nL s args Ts own) (hM : Met l y ws rm Pc Qc mc ms free) (cw : vx_CSW R s args own index y bytes maxL ret hh ws rm mc ms n) (hp : PreS s H Pc As)
    (hg : g.method = m) (hn : As.length = n) (hsize : g.locals.size = nL) (hstack : g.stack = As.reverse ++ rest) (hW : 2 * g.monitorRoom + (rest.map fun v => v.category).sum ≤ 8) (hdg : decode cc g.pc = .ok (.invokestatic index, 3)) (hf : cells + mc ≤ R.cells ∧ slots + ms ≤ R.slots) :
    va_Run p l e R s m args below meth c H locs cells slots mc ms g rest (Qc As.toArray) (free) := by
  obtain ⟨⟨hrc, hrs, hfr, hlo, hws, hcw⟩, hcode, hini, hy, hlen, hl, hstt⟩ := cw
  have hK : Back l R p e below s args y 3 8 (PreOf R mc ms Pc) (PostOf Qc mc ms free) := va_backW (hh := hh) (bytes := bytes) (maxL := maxL) (ret := ret) hM hp.1 hrc hrs hfr hlo hws hcw (fun a' U hW => word_at hW (Or.inl (by first | rfl | simp [Cond.onTables, Cond.keeps, Cond.steady])) hini)
  obtain ⟨hx, hb, hml, ho, -⟩ := S
  intro T hT X
  obtain ⟨v, vm₁, ⟨U', l2, c2, s2⟩, hW₁, X', ⟨g', mk, t, L, e1, e2, hq, h1, hL, h2, h3⟩, st⟩ := vx_callSW X hx (hh := hh) (bytes := bytes) (maxL := maxL) (ret := ret) ho hl hstt hini hcode hy hK hg (hsize.trans hml.symm) (argsL := As) (rest := rest) (fun sig h => hn.trans (hlen sig h)) hstack hW (by rw [hb]; exact hdg)
    (fun vm₁ hW₁ => ⟨hf.1, hf.2, hp.2 (T.setVm vm₁) hT hW₁⟩)
  dsimp only [Pt.U, Pt.locs, Pt.cells, Pt.slots] at X' e1 e2 h1 h2 h3 st
  subst h1; subst h2; subst h3
  exact ⟨v, (T.setVm vm₁).calling g' mk As.toArray, t, U', L, hT, X', hL, e1, e2, hq, st⟩
/-- not caught here, past rows that name other classes: it goes on to the caller -/
theorem vx_outP {p : Program} {l : Launch} {e : Env} {R : Room} {s : State} {m : MethodId} {args : Array Value} {below : List Frame} {meth : Method} {c : Code} {H : Heap} {locs : List Loc} {cells slots : Nat} {free : Addr → Prop} {ls : Array Slot} {rest : List Value} {Qc : Array Value → State → Outcome → State → Prop} {XC : String → State → State → Prop}
    {pc : Nat} {own E : String} {ce : Cell} {q : Addr} {mc ms : Nat} (hown : s.vm.findClass own = some m.cls) (hlocks : meth.locks = false)
    (hpass : ∀ z ∈ c.exceptionTable.toList, covers z pc = false ∨ (z.catchType ≠ 0 ∧ ∃ nm : String, (Cond.classLink own z.catchType nm).before args s = true ∧ va_Nc E nm s)) (hcell : H[q]? = some ce) (hv : ce.vm = .none) (hcl : s.vm.findClass E = some ce.cls)
    (hx : ∀ t : State, t.heap = H → s.vm.Alike t.vm → XC E s t) (hf : ∀ z ∈ locs, free z.base) (hc : cells ≤ mc) (hs : slots ≤ ms) :
    vx_W p l e R s m args below meth c H locs cells slots (vx_MQ below Qc XC args s mc ms free) (F0 m pc ls rest) q := by
  intro T hT X
  have hpl : e.platform.magicAccessors = ({} : Platform).magicAccessors := by rw [X.admits.platform]
  obtain ⟨vm', hW', X', st⟩ := Jvm.Stand.outThrough X hlocks q (g := F0 m pc ls rest) rfl rfl rfl (cell := ce) (by rw [hT]; exact hcell) (by rw [hv]; rfl)
    (by obtain ⟨k9, h9, -⟩ := Vm.findClass_spec hcl; exact ⟨k9, h9⟩) (fun z hz => by
      rcases hpass z hz with h | ⟨hz0, nm, hl1, hn1⟩
      · exact Or.inl h
      · obtain ⟨c6, hc6, hcl6⟩ := Cond.classLink_spec hown hl1 e.platform hpl
        obtain ⟨a8, b8, h1, h2, h3⟩ := hn1
        cases Option.some.inj (h1.symm.trans hcl)
        cases Option.some.inj (h2.symm.trans hc6)
        exact Or.inr ⟨hz0, _, hcl6, h3⟩)
  obtain ⟨g₀, hfr⟩ := X'.frames_eq
  have hcell9 : ((T.setVm vm').setFrames (.throwing q :: below)).heap[q]? = some ce := by
    show T.heap[q]? = some ce
    rw [hT]; exact hcell
  have hend : Ended ((T.setVm vm').setFrames (.throwing q :: below)) below (.threw q) := State.frames_setFrames _ (State.cur_lt_of_frames hfr)
  refine ⟨(T.setVm vm').setFrames (.throwing q :: below), ?_, .threw q, X'.here.running, hend, Or.inr ⟨q, rfl, E, ce, locs, hx _ hT (X'.ends _).1.alike, hcell9, hv, hcl, (X'.ends _).1, (X'.ends _).2.mono hc hs, hf⟩⟩
  rw [X.pushThrowing_eq]
  exact st
/-- a thing of a world lies in the heap -/
theorem vx_lt {D : va_G} {cl : List vw_C} {ws : va_W} {H1 : Heap} (h : va_P D cl ws H1) {k : Nat} {q : Nat × va_E} (hk : ws[k]? = some q) : q.1 < H1.size := (h k q hk).lt
end VXS
/-! ===== END ===== -/
/-! ===== BEGIN methods with a table of their own: called by a name, returning or throwing ===== -/
section VXH
/-! vx_backW, vx_callVX, vx_callSX, vx_callVW, vx_runVW, vx_runVX, vx_runSX, vx_ofWH follow the same proofs as their sisters above (Free/Laws.lean, Shelf42/LK1.lean); vx_outP calls Shelf42/NT130.lean (outThrough). -/
section
variable {l : Launch} {R : Room} {p : Program} {e : Env} {below : List Frame} {s : State} {sargs : Array Value} {y : MethodName} {len W9 : Nat}
theorem vx_backW {ws : List Cond} {rm : Room} {Pc : Array Value → State → Prop} {Qc : Array Value → State → Outcome → State → Prop} {XC : String → State → State → Prop} {mc ms : Nat} {free : Addr → Prop} {bytes : ByteArray} {maxL : Nat} {ret : Option FieldType} {hh : List (Nat × Nat × Nat × Nat)}
    (hM : vx_Met l y ws rm Pc Qc XC mc ms free) (hblind : FrameBlind Pc) (hrc : rm.cells = mc) (hrs : rm.slots = ms)
    (hframes : rm.frames + 1 ≤ R.frames) (hlocals : W9 + (maxL + 11) + rm.locals ≤ R.locals)
    (hws : ∀ w ∈ ws, ∀ a' U, s.WarmedH U.vm → w.before a' U = true) (hcode : Cond.codeWith y bytes maxL ret hh ∈ ws) (hinit : ∀ a' U, s.WarmedH U.vm → (Cond.initialized y.cls).before a' U = true) :
    vx_Back l R p e below s sargs y len W9 (PreOf R mc ms Pc) (PostOf Qc mc ms free) (vx_Post XC mc ms free) := by
  intro m meth c A g ig mk a X hg hsize hdg hW hn hp
  have h1 : (headSpec ws rm).pre.before a A.U = true := atoms_intro fun w hw => hws w hw _ _ X.warmed
  have h2 : (Cond.codeWith y bytes maxL ret hh).before a A.U = true := hws _ hcode _ _ X.warmed
  have h3 : (Cond.initialized y.cls).before a A.U = true := hinit _ _ X.warmed
  have h4 : A.cells + (headSpec ws rm).room.cells ≤ R.cells := by rw [show (headSpec ws rm).room.cells = mc from hrc]; exact hp.1
  have h5 : A.slots + (headSpec ws rm).room.slots ≤ R.slots := by rw [show (headSpec ws rm).room.slots = ms from hrs]; exact hp.2.1
  have hPc : Pc a (A.U.calling g mk a) := hblind _ _ _ _ hp.2.2
  obtain ⟨U, Ls, c0, s0⟩ := A
  dsimp only [Pt.U, Pt.locs, Pt.cells, Pt.slots] at h1 h2 h3 h4 h5 X hn hPc ⊢
  obtain ⟨m9, methY, cY, hn9, hmY, hcY, -, hlY, -⟩ := Cond.codeWith_spec h2
  cases Option.some.inj (hn9.symm.trans hn)
  obtain ⟨kY, hkY, -⟩ := className_of_methodNamed hn
  have hinitY : kY.init = .initialized := Cond.initialized_spec (findClass_of_methodNamed hn) hkY h3
  have h : At U g.method c below := by rw [hg]; exact X.here
  have hlocals9 : W9 + (maxL + 11) + (headSpec ws rm).room.locals ≤ R.locals := hlocals
  have happ : (headSpec ws rm).appliesLoose y e.platform (U.calling g mk a) = true :=
    Spec.appliesLoose_calling (g := g) h hdg hn hkY hinitY
      (X.room_calling (g := g) (R' := (headSpec ws rm).room) hsize hmY hcY hframes (by rw [hlY]; omega) h4 h5) h1
  obtain ⟨mid, hmid⟩ := h.above
  have hfr : (U.setTop g).frames = (.java g :: mid) ++ below := by rw [State.frames_setTop' g h.top, hmid]; rfl
  obtain ⟨o, s₂, hsteps, -, hend, hq⟩ := Steps.callFree hM p X.admits X.cas X.clock (acts := []) hfr happ hPc trivial
  have hq' : vx_Q Qc XC mc ms free a (U.calling g mk a) o s₂ := hq
  rw [State.frames_setTop' g h.top] at hend
  obtain ⟨g₀, hg0⟩ := Option.isSome_iff_exists.mp h.top
  obtain ⟨r, hr⟩ := State.topJava?_eq_some.mp hg0
  have hr' : (({ U with heap := s₂.heap, slotsUsed := s₂.slotsUsed } : State).setVm s₂.vm).frames = .java g₀ :: r := hr
  rcases hq' with ⟨hqc, L, hfe, hL⟩ | ⟨q, rfl, E, ce, L, hx, hce, hcv, hcl, hW₂, hsm, hL⟩
  · obtain ⟨⟨v, rfl⟩, hW₂, e2, q2, q3, q4, q5, q6⟩ := id hfe
    have e3 : s₂ = ({ (U.calling g mk a).setFrames s₂.frames with heap := s₂.heap, slotsUsed := s₂.slotsUsed } : State).setVm s₂.vm := by
      have : s₂ = ({ s₂ with vm := (U.calling g mk a).vm } : State).setVm s₂.vm := rfl
      rw [e2] at this
      exact this
    obtain ⟨c₂, i₂, len₂, hc₂, hd₂, hf₂⟩ := hend
    have hW' : U.WarmedH s₂.vm := hW₂
    have hcc : c₂ = c := by
      have h1 : s₂.code? g.method = U.code? g.method := by
        rw [State.code?_eq, State.code?_eq, hW'.alike.method?]
      exact Option.some.inj (hc₂.symm.trans (h1.trans h.code))
    subst hcc
    have hlen : len₂ = len := by rw [hdg] at hd₂; cases hd₂; rfl
    subst hlen
    have hs₂ : s₂ = (({ U with heap := s₂.heap, slotsUsed := s₂.slotsUsed } : State).setVm s₂.vm).setTop { g with pc := g.pc + len₂, stack := v.toList ++ g.stack } := by
      refine e3.trans ?_
      rw [hf₂, State.calling_eq h.top, State.setFrames_setFrames, State.setTop_of_frames _ hr', hr]
      rfl
    have hsame : U.sameButNew ({ U with heap := s₂.heap, slotsUsed := s₂.slotsUsed } : State) L mc ms := by
      refine ⟨?_, q2, q3, q4, q5, q6⟩
      obtain ⟨t, ht, -⟩ := State.frames_cons hr
      show ({ U with heap := s₂.heap, slotsUsed := s₂.slotsUsed } : State) = { U.setFrames U.frames with heap := s₂.heap, slotsUsed := s₂.slotsUsed }
      rw [State.setFrames_self ht]
    subst hg
    refine Or.inl ⟨v, ⟨(({ U with heap := s₂.heap, slotsUsed := s₂.slotsUsed } : State).setVm s₂.vm), Ls ++ L, c0 + mc, s0 + ms⟩,
      ⟨X.admits, X.cas, X.clock, X.frames, X.room, X.hears, X.method, X.code, (X.here.setHeapUsed s₂.heap s₂.slotsUsed).setVm hW'.alike, X.tail, State.WarmedH.trans X.warmed hW', X.limits, X.bytes, X.same.trans (hsame.setVm s.vm)⟩,
      ⟨g, mk, s₂, L, rfl, rfl, hqc, rfl, hL, rfl, rfl⟩, ?_⟩
    show Steps p.tables e below _ ((({ U with heap := s₂.heap, slotsUsed := s₂.slotsUsed } : State).setVm s₂.vm).setTop { g with pc := g.pc + len₂, stack := v.toList ++ g.stack })
    rw [← hs₂]
    exact hsteps
  · obtain ⟨e2, q2, q3, q4, q5, q6⟩ := id hsm
    have e3 : s₂ = ({ (U.calling g mk a).setFrames s₂.frames with heap := s₂.heap, slotsUsed := s₂.slotsUsed } : State).setVm s₂.vm := by
      have : s₂ = ({ s₂ with vm := (U.calling g mk a).vm } : State).setVm s₂.vm := rfl
      rw [e2] at this
      exact this
    have hf₂ : s₂.frames = .throwing q :: .java g :: U.frames.tail := hend
    have hW' : U.WarmedH s₂.vm := hW₂
    have hs₂ : s₂ = ((({ U with heap := s₂.heap, slotsUsed := s₂.slotsUsed } : State).setVm s₂.vm).setTop g).pushFrame (.throwing q) := by
      refine e3.trans ?_
      rw [hf₂, State.calling_eq h.top, State.setFrames_setFrames, State.pushFrame, State.frames_setTop _ hr', State.setTop_of_frames _ hr', State.setFrames_setFrames, hr]
      rfl
    have hsame : U.sameButNew ({ U with heap := s₂.heap, slotsUsed := s₂.slotsUsed } : State) L mc ms := by
      refine ⟨?_, q2, q3, q4, q5, q6⟩
      obtain ⟨t, ht, -⟩ := State.frames_cons hr
      show ({ U with heap := s₂.heap, slotsUsed := s₂.slotsUsed } : State) = { U.setFrames U.frames with heap := s₂.heap, slotsUsed := s₂.slotsUsed }
      rw [State.setFrames_self ht]
    subst hg
    refine Or.inr ⟨q, ⟨(({ U with heap := s₂.heap, slotsUsed := s₂.slotsUsed } : State).setVm s₂.vm), Ls ++ L, c0 + mc, s0 + ms⟩,
      ⟨X.admits, X.cas, X.clock, X.frames, X.room, X.hears, X.method, X.code, (X.here.setHeapUsed s₂.heap s₂.slotsUsed).setVm hW'.alike, X.tail, State.WarmedH.trans X.warmed hW', X.limits, X.bytes, X.same.trans (hsame.setVm s.vm)⟩,
      ⟨g, mk, s₂, L, E, ce, rfl, rfl, hx, hce, hcv, hcl, rfl, hL, rfl, rfl⟩, ?_⟩
    show Steps p.tables e below _ (((({ U with heap := s₂.heap, slotsUsed := s₂.slotsUsed } : State).setVm s₂.vm).setTop g).pushFrame (.throwing q))
    rw [← hs₂]
    exact hsteps
end
variable {p : Program} {l : Launch} {e : Env} {R : Room} {s : State} {m : MethodId} {args : Array Value} {below : List Frame} {meth : Method} {c : Code} {T : State} {H : Heap} {locs : List Loc} {cells slots : Nat}
theorem vx_callVX (X : Stand p l e R s m args below meth c T locs cells slots) (hexec : p.tables.exec = Jvm.exec) {own C : String} {index : Nat} {y : MethodName} {bytes : ByteArray} {maxL : Nat} {ret : Option FieldType} {hh : List (Nat × Nat × Nat × Nat)}
    (hown : s.vm.findClass own = some m.cls) (hlink : (Cond.methodLink own index y).before args s = true) (hinst : (Cond.instanceMethod y).before args s = true) (hsel : (Cond.selects C y y).before args s = true)
    (hcode : (Cond.codeWith y bytes maxL ret hh).before args s = true) (hy : y.cls ≠ "java/lang/invoke/MethodHandle" ∧ y.cls ≠ "java/lang/invoke/VarHandle")
    {W9 : Nat} {Pre : Pt → Array Value → Prop} {Post : Pt → Array Value → Option Value → Pt → Prop} {PostX : Pt → Array Value → Addr → Pt → Prop} (hK : vx_Back l R p e below s args y 3 W9 Pre Post PostX)
    {b : Addr} {cellB : Cell} (hcell : T.heap[b]? = some cellB) (hobj : cellB.vm.isStatics = false) (hcls : s.vm.findClass C = some cellB.cls)
    {g : JFrame} (hg : g.method = m) (hsize : g.locals.size = c.maxLocals) {argsL rest : List Value} (hlen : ∀ sig, parseMethodDescriptor y.desc = some sig → argsL.length = sig.parameters.length)
    (hstack : g.stack = argsL.reverse ++ .ref b :: rest) (hW : 2 * g.monitorRoom + (rest.map fun v => v.category).sum ≤ W9) (hdg : decode c.code g.pc = .ok (.invokevirtual index, 3))
    (hpre : ∀ vm₁, s.WarmedH vm₁ → Pre ⟨T.setVm vm₁, locs, cells, slots⟩ (Value.ref b :: argsL).toArray) :
    (∃ (v : Option Value) (vm₁ : Vm) (B : Pt), s.WarmedH vm₁ ∧ Stand p l e R s m args below meth c B.U B.locs B.cells B.slots ∧ Post ⟨T.setVm vm₁, locs, cells, slots⟩ (Value.ref b :: argsL).toArray v B ∧
      ∀ target, Steps p.tables e below (B.U.setTop { g with pc := g.pc + 3, stack := v.toList ++ rest }) target → Steps p.tables e below (T.setTop g) target) ∨
    (∃ (q : Addr) (vm₁ : Vm) (B : Pt), s.WarmedH vm₁ ∧ Stand p l e R s m args below meth c B.U B.locs B.cells B.slots ∧ PostX ⟨T.setVm vm₁, locs, cells, slots⟩ (Value.ref b :: argsL).toArray q B ∧
      Steps p.tables e below (T.setTop g) ((B.U.setTop { g with stack := rest }).pushFrame (.throwing q))) := by
  obtain ⟨mk, methM, hnamed, hmethM, hstM, habM⟩ := Cond.instanceMethod_spec hinst
  obtain ⟨m8, methM', cM, hn8, hmethM', -, -, -, -, -, -, hsigM⟩ := Cond.codeWith_spec hcode
  cases Option.some.inj (hn8.symm.trans hnamed)
  cases hmethM.symm.trans hmethM'
  obtain ⟨c2, r2, m2, q1, q2, q3, q4, kP, hkP, hkPi⟩ := Cond.selects_spec hsel
  cases hcls.symm.trans q1
  cases (State.methodFound?_of_named hnamed hy).symm.trans q2
  cases hnamed.symm.trans q3
  have hselP : selectMethod e.platform s.vm cellB.cls mk = .method mk := by rw [Launch.admits_selectMethod X.admits]; exact q4
  obtain ⟨vm₁, X₁, hstep₁⟩ := X.invokevirtual hexec hown hlink hnamed hmethM hstM hkP hkPi hy (a := b) (cell := cellB) hcell
    (fun z h => by rw [h] at hobj; cases hobj) hselP hmethM habM hkP hkPi (g := g) hg (argsL := argsL) (rest := rest) (hlen _ hsigM) hstack hdg
  rcases hK m meth c ⟨T.setVm vm₁, locs, cells, slots⟩ { g with stack := rest } (.invokevirtual index) mk (Value.ref b :: argsL).toArray X₁ hg hsize hdg hW (X₁.named hnamed) (hpre vm₁ X₁.warmed) with ⟨v, B, X', hpost, hsteps⟩ | ⟨q, B, X', hpost, hsteps⟩
  · exact Or.inl ⟨v, vm₁, B, X₁.warmed, X', hpost, fun target h => hstep₁ _ fun acts => by rw [doInvoke_state]; exact hsteps.trans h⟩
  · exact Or.inr ⟨q, vm₁, B, X₁.warmed, X', hpost, hstep₁ _ fun acts => by rw [doInvoke_state]; exact hsteps⟩
theorem vx_callSX (X : Stand p l e R s m args below meth c T locs cells slots) (hexec : p.tables.exec = Jvm.exec) {own : String} {index : Nat} {y : MethodName} {bytes : ByteArray} {maxL : Nat} {ret : Option FieldType} {hh : List (Nat × Nat × Nat × Nat)}
    (hown : s.vm.findClass own = some m.cls) (hlink : (Cond.methodLink own index y).before args s = true) (hstat : (Cond.static y).before args s = true) (hinit : (Cond.initialized y.cls).before args s = true)
    (hcode : (Cond.codeWith y bytes maxL ret hh).before args s = true) (hy : y.cls ≠ "java/lang/invoke/MethodHandle" ∧ y.cls ≠ "java/lang/invoke/VarHandle")
    {W9 : Nat} {Pre : Pt → Array Value → Prop} {Post : Pt → Array Value → Option Value → Pt → Prop} {PostX : Pt → Array Value → Addr → Pt → Prop} (hK : vx_Back l R p e below s args y 3 W9 Pre Post PostX)
    {g : JFrame} (hg : g.method = m) (hsize : g.locals.size = c.maxLocals) {argsL rest : List Value} (hlen : ∀ sig, parseMethodDescriptor y.desc = some sig → argsL.length = sig.parameters.length)
    (hstack : g.stack = argsL.reverse ++ rest) (hW : 2 * g.monitorRoom + (rest.map fun v => v.category).sum ≤ W9) (hdg : decode c.code g.pc = .ok (.invokestatic index, 3))
    (hpre : ∀ vm₁, s.WarmedH vm₁ → Pre ⟨T.setVm vm₁, locs, cells, slots⟩ argsL.toArray) :
    (∃ (v : Option Value) (vm₁ : Vm) (B : Pt), s.WarmedH vm₁ ∧ Stand p l e R s m args below meth c B.U B.locs B.cells B.slots ∧ Post ⟨T.setVm vm₁, locs, cells, slots⟩ argsL.toArray v B ∧
      ∀ target, Steps p.tables e below (B.U.setTop { g with pc := g.pc + 3, stack := v.toList ++ rest }) target → Steps p.tables e below (T.setTop g) target) ∨
    (∃ (q : Addr) (vm₁ : Vm) (B : Pt), s.WarmedH vm₁ ∧ Stand p l e R s m args below meth c B.U B.locs B.cells B.slots ∧ PostX ⟨T.setVm vm₁, locs, cells, slots⟩ argsL.toArray q B ∧
      Steps p.tables e below (T.setTop g) ((B.U.setTop { g with stack := rest }).pushFrame (.throwing q))) := by
  obtain ⟨mk, methM, cM, hnamed, hmethM, -, -, -, -, -, -, hsigM⟩ := Cond.codeWith_spec hcode
  have hstatic : methM.isStatic = true := Cond.static_spec hnamed hmethM hstat
  obtain ⟨kP, hkP, -⟩ := className_of_methodNamed hnamed
  have hinitP : kP.init = .initialized := Cond.initialized_spec (findClass_of_methodNamed hnamed) hkP hinit
  obtain ⟨vm₁, X₁, hstep₁⟩ := X.invokestatic hexec hown hlink hnamed hmethM hstatic hkP hinitP hy (g := g) hg (argsL := argsL) (rest := rest) (hlen _ hsigM) hstack hdg
  rcases hK m meth c ⟨T.setVm vm₁, locs, cells, slots⟩ { g with stack := rest } (.invokestatic index) mk argsL.toArray X₁ hg hsize hdg hW (X₁.named hnamed) (hpre vm₁ X₁.warmed) with ⟨v, B, X', hpost, hsteps⟩ | ⟨q, B, X', hpost, hsteps⟩
  · exact Or.inl ⟨v, vm₁, B, X₁.warmed, X', hpost, fun target h => hstep₁ _ fun acts => by rw [doInvoke_state]; exact hsteps.trans h⟩
  · exact Or.inr ⟨q, vm₁, B, X₁.warmed, X', hpost, hstep₁ _ fun acts => by rw [doInvoke_state]; exact hsteps⟩
theorem vx_callVW (X : Stand p l e R s m args below meth c T locs cells slots) (hexec : p.tables.exec = Jvm.exec) {own C : String} {index : Nat} {y : MethodName} {bytes : ByteArray} {maxL : Nat} {ret : Option FieldType} {hh : List (Nat × Nat × Nat × Nat)}
    (hown : s.vm.findClass own = some m.cls) (hlink : (Cond.methodLink own index y).before args s = true) (hinst : (Cond.instanceMethod y).before args s = true) (hsel : (Cond.selects C y y).before args s = true)
    (hcode : (Cond.codeWith y bytes maxL ret hh).before args s = true) (hy : y.cls ≠ "java/lang/invoke/MethodHandle" ∧ y.cls ≠ "java/lang/invoke/VarHandle")
    {W9 : Nat} {Pre : Pt → Array Value → Prop} {Post : Pt → Array Value → Option Value → Pt → Prop} (hK : Back l R p e below s args y 3 W9 Pre Post)
    {b : Addr} {cellB : Cell} (hcell : T.heap[b]? = some cellB) (hobj : cellB.vm.isStatics = false) (hcls : s.vm.findClass C = some cellB.cls)
    {g : JFrame} (hg : g.method = m) (hsize : g.locals.size = c.maxLocals) {argsL rest : List Value} (hlen : ∀ sig, parseMethodDescriptor y.desc = some sig → argsL.length = sig.parameters.length)
    (hstack : g.stack = argsL.reverse ++ .ref b :: rest) (hW : 2 * g.monitorRoom + (rest.map fun v => v.category).sum ≤ W9) (hdg : decode c.code g.pc = .ok (.invokevirtual index, 3))
    (hpre : ∀ vm₁, s.WarmedH vm₁ → Pre ⟨T.setVm vm₁, locs, cells, slots⟩ (Value.ref b :: argsL).toArray) :
    ∃ (v : Option Value) (vm₁ : Vm) (B : Pt), s.WarmedH vm₁ ∧ Stand p l e R s m args below meth c B.U B.locs B.cells B.slots ∧ Post ⟨T.setVm vm₁, locs, cells, slots⟩ (Value.ref b :: argsL).toArray v B ∧
      ∀ target, Steps p.tables e below (B.U.setTop { g with pc := g.pc + 3, stack := v.toList ++ rest }) target → Steps p.tables e below (T.setTop g) target := by
  obtain ⟨mk, methM, hnamed, hmethM, hstM, habM⟩ := Cond.instanceMethod_spec hinst
  obtain ⟨m8, methM', cM, hn8, hmethM', -, -, -, -, -, -, hsigM⟩ := Cond.codeWith_spec hcode
  cases Option.some.inj (hn8.symm.trans hnamed)
  cases hmethM.symm.trans hmethM'
  obtain ⟨c2, r2, m2, q1, q2, q3, q4, kP, hkP, hkPi⟩ := Cond.selects_spec hsel
  cases hcls.symm.trans q1
  cases (State.methodFound?_of_named hnamed hy).symm.trans q2
  cases hnamed.symm.trans q3
  have hselP : selectMethod e.platform s.vm cellB.cls mk = .method mk := by rw [Launch.admits_selectMethod X.admits]; exact q4
  obtain ⟨vm₁, X₁, hstep₁⟩ := X.invokevirtual hexec hown hlink hnamed hmethM hstM hkP hkPi hy (a := b) (cell := cellB) hcell
    (fun z h => by rw [h] at hobj; cases hobj) hselP hmethM habM hkP hkPi (g := g) hg (argsL := argsL) (rest := rest) (hlen _ hsigM) hstack hdg
  obtain ⟨v, B, X', hpost, hsteps⟩ := hK m meth c ⟨T.setVm vm₁, locs, cells, slots⟩ { g with stack := rest } (.invokevirtual index) mk (Value.ref b :: argsL).toArray X₁ hg hsize hdg hW (X₁.named hnamed) (hpre vm₁ X₁.warmed)
  exact ⟨v, vm₁, B, X₁.warmed, X', hpost, fun target h => hstep₁ _ fun acts => by rw [doInvoke_state]; exact hsteps.trans h⟩
abbrev vx_CVW (R : Room) (s : State) (args : Array Value) (own C : String) (index : Nat) (y : MethodName) (bytes : ByteArray) (maxL : Nat) (ret : Option FieldType) (hh : List (Nat × Nat × Nat × Nat)) (ws : List Cond) (rm : Room) (mc ms n : Nat) : Prop :=
  (rm.cells = mc ∧ rm.slots = ms ∧ rm.frames + 1 ≤ R.frames ∧ 8 + (maxL + 11) + rm.locals ≤ R.locals ∧ (∀ w ∈ ws, ∀ (a' : Array Value) (U : State), s.WarmedH U.vm → w.before a' U = true) ∧ Cond.codeWith y bytes maxL ret hh ∈ ws) ∧
  (Cond.codeWith y bytes maxL ret hh).before args s = true ∧ (Cond.initialized y.cls).before args s = true ∧ (y.cls ≠ "java/lang/invoke/MethodHandle" ∧ y.cls ≠ "java/lang/invoke/VarHandle") ∧
  (∀ sig, parseMethodDescriptor y.desc = some sig → n = sig.parameters.length) ∧ (Cond.methodLink own index y).before args s = true ∧ (Cond.instanceMethod y).before args s = true ∧ (Cond.selects C y y).before args s = true
theorem vx_cwVW {own C : String} {index maxL mc ms : Nat} {y : MethodName} {bytes : ByteArray} {ret : Option FieldType} {hh : List (Nat × Nat × Nat × Nat)} {Ts ws ws' : List Cond} {rm : Room} (n : Nat) (ht : ∀ w ∈ Ts, w.before args s = true) (hT : GoodIn Ts (wsV own index C y ws)) (hw : ws = Cond.codeWith y bytes maxL ret hh :: ws') (hrc : rm.cells = mc) (hrs : rm.slots = ms)
    (hd : y.cls = C ∧ y.cls ≠ "java/lang/invoke/MethodHandle" ∧ y.cls ≠ "java/lang/invoke/VarHandle" ∧ (parseMethodDescriptor y.desc).map (fun d => d.parameters.length) = some n) (hR : rm.frames + 1 ≤ R.frames ∧ 8 + (maxL + 11) + rm.locals ≤ R.locals) :
    vx_CVW R s args own C index y bytes maxL ret hh ws rm mc ms n := by
  obtain ⟨hC, hd⟩ := hd
  subst hC
  have ok : ∀ w ∈ wsV own index y.cls y ws, w.before args s = true := fun w h => ht w (hT w h).1
  have hG : GoodIn Ts ws := fun w h => hT w (by unfold wsV; exact List.mem_append_right _ h)
  have hc : Cond.codeWith y bytes maxL ret hh ∈ ws := by rw [hw]; exact List.mem_cons_self
  refine ⟨⟨hrc, hrs, hR.1, hR.2, pay_in ht hG, hc⟩, ht _ (hG _ hc).1, ok _ (by simp [wsV]), ⟨hd.1, hd.2.1⟩, fun sig h => ?_, ok _ (by simp [wsV]), ok _ (by simp [wsV]), ok _ (by simp [wsV])⟩
  have h2 := hd.2.2
  rw [h] at h2
  exact (Option.some.inj h2).symm
theorem vx_runVW {y : MethodName} {bytes cc : ByteArray} {maxL nL mc ms n index : Nat} {ret : Option FieldType} {hh : List (Nat × Nat × Nat × Nat)} {ws : List Cond} {rm : Room} {Pc : Array Value → State → Prop} {Qc : Array Value → State → Outcome → State → Prop} {free : Addr → Prop} {Ts : List Cond} {own C : String} {b : Addr} {As rest : List Value} {g : JFrame}
    (S : CallFix p m c cc nL s args Ts own) (hM : Met l y ws rm Pc Qc mc ms free) (cw : vx_CVW R s args own C index y bytes maxL ret hh ws rm mc ms n) (hp : PreV s H C b Pc As)
    (hg : g.method = m) (hn : As.length = n) (hsize : g.locals.size = nL) (hstack : g.stack = As.reverse ++ .ref b :: rest) (hW : 2 * g.monitorRoom + (rest.map fun v => v.category).sum ≤ 8) (hdg : decode cc g.pc = .ok (.invokevirtual index, 3)) (hf : cells + mc ≤ R.cells ∧ slots + ms ≤ R.slots) :
    va_Run p l e R s m args below meth c H locs cells slots mc ms g rest (Qc (Value.ref b :: As).toArray) free := by
  obtain ⟨⟨hrc, hrs, hfr, hlo, hws, hcw⟩, hcode, hini, hy, hlen, hl, hin, hse⟩ := cw
  have hK : Back l R p e below s args y 3 8 (PreOf R mc ms Pc) (PostOf Qc mc ms free) := va_backW (hh := hh) (bytes := bytes) (maxL := maxL) (ret := ret) hM hp.1 hrc hrs hfr hlo hws hcw (fun a' U hW => word_at hW (Or.inl (by first | rfl | simp [Cond.onTables, Cond.keeps, Cond.steady])) hini)
  obtain ⟨hx, hb, hml, ho, -⟩ := S
  obtain ⟨-, ⟨cellB, hcB, hoB, hclB⟩, hPc⟩ := hp
  intro T hT X
  obtain ⟨v, vm₁, ⟨U', l2, c2, s2⟩, hW₁, X', ⟨g', mk, t, L, e1, e2, hq, h1, hL, h2, h3⟩, st⟩ := vx_callVW X hx (C := C) (hh := hh) (bytes := bytes) (maxL := maxL) (ret := ret) ho hl hin hse hcode hy hK (by rw [hT]; exact hcB) hoB hclB hg (hsize.trans hml.symm) (argsL := As) (rest := rest) (fun sig h => hn.trans (hlen sig h)) hstack hW (by rw [hb]; exact hdg)
    (fun vm₁ hW₁ => ⟨hf.1, hf.2, hPc (T.setVm vm₁) hT hW₁⟩)
  dsimp only [Pt.U, Pt.locs, Pt.cells, Pt.slots] at X' e1 e2 h1 h2 h3 st
  subst h1; subst h2; subst h3
  exact ⟨v, (T.setVm vm₁).calling g' mk (Value.ref b :: As).toArray, t, U', L, hT, X', hL, e1, e2, hq, st⟩
section
variable {y : MethodName} {bytes cc : ByteArray} {maxL nL mc ms n index : Nat} {ret : Option FieldType} {ws : List Cond} {rm : Room} {Pc : Array Value → State → Prop} {Qc : Array Value → State → Outcome → State → Prop} {XC : String → State → State → Prop} {free : Addr → Prop} {Ts : List Cond} {own C : String} {b : Addr} {As rest : List Value} {g : JFrame}
theorem vx_runVX {hh : List (Nat × Nat × Nat × Nat)} (S : CallFix p m c cc nL s args Ts own) (hM : vx_Met l y ws rm Pc Qc XC mc ms free) (cw : vx_CVW R s args own C index y bytes maxL ret hh ws rm mc ms n) (hp : PreV s H C b Pc As)
    (hg : g.method = m) (hn : As.length = n) (hsize : g.locals.size = nL) (hstack : g.stack = As.reverse ++ .ref b :: rest) (hW : 2 * g.monitorRoom + (rest.map fun v => v.category).sum ≤ 8) (hdg : decode cc g.pc = .ok (.invokevirtual index, 3)) (hf : cells + mc ≤ R.cells ∧ slots + ms ≤ R.slots) :
    vx_Run p l e R s m args below meth c H locs cells slots mc ms g rest (Qc (Value.ref b :: As).toArray) XC free := by
  obtain ⟨⟨hrc, hrs, hfr, hlo, hws, hcw⟩, hcode, hini, hy, hlen, hl, hin, hse⟩ := cw
  have hK : vx_Back l R p e below s args y 3 8 (PreOf R mc ms Pc) (PostOf Qc mc ms free) (vx_Post XC mc ms free) := vx_backW (hh := hh) (bytes := bytes) (maxL := maxL) (ret := ret) hM hp.1 hrc hrs hfr hlo hws hcw (fun a' U hW => word_at hW (Or.inl (by first | rfl | simp [Cond.onTables, Cond.keeps, Cond.steady])) hini)
  obtain ⟨hx, hb, hml, ho, -⟩ := S
  obtain ⟨-, ⟨cellB, hcB, hoB, hclB⟩, hPc⟩ := hp
  intro T hT X
  rcases vx_callVX X hx (C := C) (hh := hh) (bytes := bytes) (maxL := maxL) (ret := ret) ho hl hin hse hcode hy hK (by rw [hT]; exact hcB) hoB hclB hg (hsize.trans hml.symm) (argsL := As) (rest := rest) (fun sig h => hn.trans (hlen sig h)) hstack hW (by rw [hb]; exact hdg)
    (fun vm₁ hW₁ => ⟨hf.1, hf.2, hPc (T.setVm vm₁) hT hW₁⟩) with ⟨v, vm₁, ⟨U', l2, c2, s2⟩, hW₁, X', ⟨g', mk, t, L, e1, e2, hq, h1, hL, h2, h3⟩, st⟩ | ⟨q, vm₁, ⟨U', l2, c2, s2⟩, hW₁, X', ⟨g', mk, t, L, E, ce, e1, e2, hq, hce, hcv, hcl, h1, hL, h2, h3⟩, st⟩
  · dsimp only [Pt.U, Pt.locs, Pt.cells, Pt.slots] at X' e1 e2 h1 h2 h3 st
    subst h1; subst h2; subst h3
    exact Or.inl ⟨v, (T.setVm vm₁).calling g' mk (Value.ref b :: As).toArray, t, U', L, hT, X', hL, e1, e2, hq, st⟩
  · dsimp only [Pt.U, Pt.locs, Pt.cells, Pt.slots] at X' e1 e2 h1 h2 h3 st hcl
    subst h1; subst h2; subst h3
    exact Or.inr ⟨q, (T.setVm vm₁).calling g' mk (Value.ref b :: As).toArray, t, U', L, E, ce, hT, X', hL, e1, e2, hq, hce, hcv, vx_cls hW₁ hcl, st⟩
theorem vx_runSX {hh : List (Nat × Nat × Nat × Nat)} (S : CallFix p m c cc nL s args Ts own) (hM : vx_Met l y ws rm Pc Qc XC mc ms free) (cw : vx_CSW R s args own index y bytes maxL ret hh ws rm mc ms n) (hp : PreS s H Pc As)
    (hg : g.method = m) (hn : As.length = n) (hsize : g.locals.size = nL) (hstack : g.stack = As.reverse ++ rest) (hW : 2 * g.monitorRoom + (rest.map fun v => v.category).sum ≤ 8) (hdg : decode cc g.pc = .ok (.invokestatic index, 3)) (hf : cells + mc ≤ R.cells ∧ slots + ms ≤ R.slots) :
    vx_Run p l e R s m args below meth c H locs cells slots mc ms g rest (Qc As.toArray) XC free := by
  obtain ⟨⟨hrc, hrs, hfr, hlo, hws, hcw⟩, hcode, hini, hy, hlen, hl, hstt⟩ := cw
  have hK : vx_Back l R p e below s args y 3 8 (PreOf R mc ms Pc) (PostOf Qc mc ms free) (vx_Post XC mc ms free) := vx_backW (hh := hh) (bytes := bytes) (maxL := maxL) (ret := ret) hM hp.1 hrc hrs hfr hlo hws hcw (fun a' U hW => word_at hW (Or.inl (by first | rfl | simp [Cond.onTables, Cond.keeps, Cond.steady])) hini)
  obtain ⟨hx, hb, hml, ho, -⟩ := S
  intro T hT X
  rcases vx_callSX X hx (hh := hh) (bytes := bytes) (maxL := maxL) (ret := ret) ho hl hstt hini hcode hy hK hg (hsize.trans hml.symm) (argsL := As) (rest := rest) (fun sig h => hn.trans (hlen sig h)) hstack hW (by rw [hb]; exact hdg)
    (fun vm₁ hW₁ => ⟨hf.1, hf.2, hp.2 (T.setVm vm₁) hT hW₁⟩) with ⟨v, vm₁, ⟨U', l2, c2, s2⟩, hW₁, X', ⟨g', mk, t, L, e1, e2, hq, h1, hL, h2, h3⟩, st⟩ | ⟨q, vm₁, ⟨U', l2, c2, s2⟩, hW₁, X', ⟨g', mk, t, L, E, ce, e1, e2, hq, hce, hcv, hcl, h1, hL, h2, h3⟩, st⟩
  · dsimp only [Pt.U, Pt.locs, Pt.cells, Pt.slots] at X' e1 e2 h1 h2 h3 st
    subst h1; subst h2; subst h3
    exact Or.inl ⟨v, (T.setVm vm₁).calling g' mk As.toArray, t, U', L, hT, X', hL, e1, e2, hq, st⟩
  · dsimp only [Pt.U, Pt.locs, Pt.cells, Pt.slots] at X' e1 e2 h1 h2 h3 st hcl
    subst h1; subst h2; subst h3
    exact Or.inr ⟨q, (T.setVm vm₁).calling g' mk As.toArray, t, U', L, E, ce, hT, X', hL, e1, e2, hq, hce, hcv, vx_cls hW₁ hcl, st⟩
end
end VXH
theorem vx_ofWH {l : Launch} {y : MethodName} {ws ws' : List Cond} {rm : Room} {Pc : Array Value → State → Prop} {Qc : Array Value → State → Outcome → State → Prop} {XC : String → State → State → Prop} {mc ms : Nat} {free : Addr → Prop} {cc : ByteArray} {maxL : Nat} {ret : Option FieldType} {hh : List (Nat × Nat × Nat × Nat)}
    (hy : plainName y.cls = true) (hw : ws = Cond.codeWith y cc maxL ret hh :: ws')
    (body : ∀ p e s m args below meth c s₁, BodyLoose p l y (headSpec ws rm) cc maxL ret e s m args below meth c s₁ → c.maxLocals = maxL → Pc args s →
      W p l e (headSpec ws rm).room s m args below meth c s.heap [] 0 0 (vx_MQ below Qc XC args s mc ms free) (entryFrame m args maxL)) : vx_Met l y ws rm Pc Qc XC mc ms free := by
  refine MetFree.of_bodyS (code := cc) (maxLocals := maxL) (ret := ret) hy ?_ ?_
  · intro args s m h hn
    obtain ⟨m9, meth, c, hn9, h1, h2, h3, h4, -, h5, h6, -⟩ := Cond.codeWith_spec (atoms_spec (ws := ws) h _ (by rw [hw]; exact List.mem_cons_self))
    cases hn.symm.trans hn9
    exact ⟨meth, c, h1, h2, h3, h4, h5, h6⟩
  · intro p e s m args below meth c s₁ B hml hP _
    have hh0 : s₁.heap = s.heap := by rw [B.state]; rfl
    obtain ⟨t, a1, o, b1, b2, b3⟩ := body p e s m args below meth c s₁ B hml hP s₁ hh0 (Stand.of_body B)
    exact ⟨t, o, a1, b1, b2, b3⟩
/-! ===== END ===== -/
end
section
def RX0 : String := "VersionSolver$Bytes"
def TX0 : u_T := fun k => match k with
  | 0 => ("VersionSolver$Bytes", "row", "[B", true)
  | _ => ("VersionSolver$Bytes", "length", "I", false)
def tyX0 : Nat → FieldType := fun k => match k with
  | 0 => .array .byte
  | _ => .int
abbrev wsX00 : List Cond := u_ws RX0 TX0 2
theorem nmX0 : ∀ a, a < 2 → ∀ b, b < 2 → a ≠ b → (TX0 a).2.1 ≠ (TX0 b).2.1 := by decide +kernel
theorem tyX0_ok : ∀ k, k < 2 → parseFieldDescriptor (TX0 k).2.2.1 = some (tyX0 k) := by decide +kernel
def RX1 : String := "VersionSolver$Reader"
def TX1 : u_T := fun k => match k with
  | 0 => ("VersionSolver$Reader", "bytes", "[B", true)
  | 1 => ("VersionSolver$Reader", "end", "I", true)
  | 2 => ("VersionSolver$Reader", "at", "I", false)
  | _ => ("VersionSolver$Reader", "numbers", "[I", true)
def tyX1 : Nat → FieldType := fun k => match k with
  | 0 => .array .byte
  | 1 => .int
  | 2 => .int
  | _ => .array .int
abbrev wsX10 : List Cond := u_ws RX1 TX1 4
theorem nmX1 : ∀ a, a < 4 → ∀ b, b < 4 → a ≠ b → (TX1 a).2.1 ≠ (TX1 b).2.1 := by decide +kernel
theorem tyX1_ok : ∀ k, k < 4 → parseFieldDescriptor (TX1 k).2.2.1 = some (tyX1 k) := by decide +kernel
def RX2 : String := "VersionSolver$Registry"
def TX2 : u_T := fun k => match k with
  | 0 => ("VersionSolver$Registry", "releases", "[LVersionSolver$Release;", true)
  | _ => ("VersionSolver$Registry", "count", "I", false)
def tyX2 : Nat → FieldType := fun k => match k with
  | 0 => .array (.object "VersionSolver$Release")
  | _ => .int
abbrev wsX20 : List Cond := u_ws RX2 TX2 2
theorem nmX2 : ∀ a, a < 2 → ∀ b, b < 2 → a ≠ b → (TX2 a).2.1 ≠ (TX2 b).2.1 := by decide +kernel
theorem tyX2_ok : ∀ k, k < 2 → parseFieldDescriptor (TX2 k).2.2.1 = some (tyX2 k) := by decide +kernel
def RX3 : String := "VersionSolver$Release"
def TX3 : u_T := fun k => match k with
  | 0 => ("VersionSolver$Release", "pack", "I", true)
  | 1 => ("VersionSolver$Release", "version", "LVersionSolver$Version;", true)
  | 2 => ("VersionSolver$Release", "written", "[B", true)
  | 3 => ("VersionSolver$Release", "requirements", "[LVersionSolver$Requirement;", true)
  | 4 => ("VersionSolver$Release", "needed", "[I", true)
  | 5 => ("VersionSolver$Release", "neededCount", "I", false)
  | _ => ("VersionSolver$Release", "yanked", "Z", false)
def tyX3 : Nat → FieldType := fun k => match k with
  | 0 => .int
  | 1 => .object "VersionSolver$Version"
  | 2 => .array .byte
  | 3 => .array (.object "VersionSolver$Requirement")
  | 4 => .array .int
  | 5 => .int
  | _ => .boolean
abbrev wsX30 : List Cond := u_ws RX3 TX3 7
theorem nmX3 : ∀ a, a < 7 → ∀ b, b < 7 → a ≠ b → (TX3 a).2.1 ≠ (TX3 b).2.1 := by decide +kernel
theorem tyX3_ok : ∀ k, k < 7 → parseFieldDescriptor (TX3 k).2.2.1 = some (tyX3 k) := by decide +kernel
def RX4 : String := "VersionSolver$Requirement"
def TX4 : u_T := fun k => match k with
  | 0 => ("VersionSolver$Requirement", "spans", "[LVersionSolver$Span;", true)
  | _ => ("VersionSolver$Requirement", "count", "I", false)
def tyX4 : Nat → FieldType := fun k => match k with
  | 0 => .array (.object "VersionSolver$Span")
  | _ => .int
abbrev wsX40 : List Cond := u_ws RX4 TX4 2
theorem nmX4 : ∀ a, a < 2 → ∀ b, b < 2 → a ≠ b → (TX4 a).2.1 ≠ (TX4 b).2.1 := by decide +kernel
theorem tyX4_ok : ∀ k, k < 2 → parseFieldDescriptor (TX4 k).2.2.1 = some (tyX4 k) := by decide +kernel
def RX5 : String := "VersionSolver$Search"
def TX5 : u_T := fun k => match k with
  | 0 => ("VersionSolver$Search", "registry", "LVersionSolver$Registry;", true)
  | 1 => ("VersionSolver$Search", "packOf", "[I", true)
  | 2 => ("VersionSolver$Search", "optionsOf", "[J", true)
  | 3 => ("VersionSolver$Search", "clashes", "[J", true)
  | 4 => ("VersionSolver$Search", "partners", "[J", true)
  | _ => ("VersionSolver$Search", "found", "J", false)
def tyX5 : Nat → FieldType := fun k => match k with
  | 0 => .object "VersionSolver$Registry"
  | 1 => .array .int
  | 2 => .array .long
  | 3 => .array .long
  | 4 => .array .long
  | _ => .long
abbrev wsX50 : List Cond := u_ws RX5 TX5 6
theorem nmX5 : ∀ a, a < 6 → ∀ b, b < 6 → a ≠ b → (TX5 a).2.1 ≠ (TX5 b).2.1 := by decide +kernel
theorem tyX5_ok : ∀ k, k < 6 → parseFieldDescriptor (TX5 k).2.2.1 = some (tyX5 k) := by decide +kernel
def RX6 : String := "VersionSolver$Span"
def TX6 : u_T := fun k => match k with
  | 0 => ("VersionSolver$Span", "named", "LVersionSolver$Version;", true)
  | 1 => ("VersionSolver$Span", "low", "LVersionSolver$Version;", false)
  | 2 => ("VersionSolver$Span", "withLow", "Z", false)
  | 3 => ("VersionSolver$Span", "high", "LVersionSolver$Version;", false)
  | _ => ("VersionSolver$Span", "withHigh", "Z", false)
def tyX6 : Nat → FieldType := fun k => match k with
  | 0 => .object "VersionSolver$Version"
  | 1 => .object "VersionSolver$Version"
  | 2 => .boolean
  | 3 => .object "VersionSolver$Version"
  | _ => .boolean
abbrev wsX60 : List Cond := u_ws RX6 TX6 5
theorem nmX6 : ∀ a, a < 5 → ∀ b, b < 5 → a ≠ b → (TX6 a).2.1 ≠ (TX6 b).2.1 := by decide +kernel
theorem tyX6_ok : ∀ k, k < 5 → parseFieldDescriptor (TX6 k).2.2.1 = some (tyX6 k) := by decide +kernel
def RX7 : String := "VersionSolver$Version"
def TX7 : u_T := fun k => match k with
  | 0 => ("VersionSolver$Version", "major", "I", true)
  | 1 => ("VersionSolver$Version", "minor", "I", true)
  | 2 => ("VersionSolver$Version", "patch", "I", true)
  | _ => ("VersionSolver$Version", "words", "[LVersionSolver$Word;", true)
def tyX7 : Nat → FieldType := fun k => match k with
  | 0 => .int
  | 1 => .int
  | 2 => .int
  | _ => .array (.object "VersionSolver$Word")
abbrev wsX70 : List Cond := u_ws RX7 TX7 4
theorem nmX7 : ∀ a, a < 4 → ∀ b, b < 4 → a ≠ b → (TX7 a).2.1 ≠ (TX7 b).2.1 := by decide +kernel
theorem tyX7_ok : ∀ k, k < 4 → parseFieldDescriptor (TX7 k).2.2.1 = some (tyX7 k) := by decide +kernel
def RX8 : String := "VersionSolver$Word"
def TX8 : u_T := fun k => match k with
  | 0 => ("VersionSolver$Word", "bytes", "[B", true)
  | _ => ("VersionSolver$Word", "number", "I", true)
def tyX8 : Nat → FieldType := fun k => match k with
  | 0 => .array .byte
  | _ => .int
abbrev wsX80 : List Cond := u_ws RX8 TX8 2
theorem nmX8 : ∀ a, a < 2 → ∀ b, b < 2 → a ≠ b → (TX8 a).2.1 ≠ (TX8 b).2.1 := by decide +kernel
theorem tyX8_ok : ∀ k, k < 2 → parseFieldDescriptor (TX8 k).2.2.1 = some (tyX8 k) := by decide +kernel
def RX9 : String := "VersionSolver"
def TX9 : u_T := fun k => match k with
  | 0 => ("VersionSolver", "text", "LVersionSolver$Bytes;", true)
  | 1 => ("VersionSolver", "file", "LVersionSolver$Bytes;", true)
  | 2 => ("VersionSolver", "registry", "LVersionSolver$Registry;", true)
  | 3 => ("VersionSolver", "search", "LVersionSolver$Search;", true)
  | 4 => ("VersionSolver", "root", "[LVersionSolver$Requirement;", true)
  | 5 => ("VersionSolver", "pins", "[I", true)
  | _ => ("VersionSolver", "choice", "[I", true)
def tyX9 : Nat → FieldType := fun k => match k with
  | 0 => .object "VersionSolver$Bytes"
  | 1 => .object "VersionSolver$Bytes"
  | 2 => .object "VersionSolver$Registry"
  | 3 => .object "VersionSolver$Search"
  | 4 => .array (.object "VersionSolver$Requirement")
  | 5 => .array .int
  | _ => .array .int
abbrev wsX90 : List Cond := u_ws RX9 TX9 7
theorem nmX9 : ∀ a, a < 7 → ∀ b, b < 7 → a ≠ b → (TX9 a).2.1 ≠ (TX9 b).2.1 := by decide +kernel
theorem tyX9_ok : ∀ k, k < 7 → parseFieldDescriptor (TX9 k).2.2.1 = some (tyX9 k) := by decide +kernel
def RX10 : String := "VersionSolverModel"
def TX10 : u_T := fun k => match k with
  | 0 => ("VersionSolverModel", "code", "I", false)
  | 1 => ("VersionSolverModel", "size", "I", false)
  | 2 => ("VersionSolverModel", "text", "[I", true)
  | 3 => ("VersionSolverModel", "at", "I", false)
  | 4 => ("VersionSolverModel", "bad", "Z", false)
  | 5 => ("VersionSolverModel", "one", "[I", true)
  | 6 => ("VersionSolverModel", "two", "[I", true)
  | 7 => ("VersionSolverModel", "three", "[I", true)
  | 8 => ("VersionSolverModel", "wordSize", "[I", true)
  | 9 => ("VersionSolverModel", "words", "[I", true)
  | 10 => ("VersionSolverModel", "sign", "[I", true)
  | 11 => ("VersionSolverModel", "parts", "[I", true)
  | 12 => ("VersionSolverModel", "comparators", "[I", true)
  | 13 => ("VersionSolverModel", "needPack", "[I", true)
  | 14 => ("VersionSolverModel", "needCount", "[I", true)
  | 15 => ("VersionSolverModel", "versions", "I", false)
  | 16 => ("VersionSolverModel", "packOf", "[I", true)
  | 17 => ("VersionSolverModel", "yanked", "[Z", true)
  | 18 => ("VersionSolverModel", "rawSize", "[I", true)
  | 19 => ("VersionSolverModel", "raw", "[I", true)
  | 20 => ("VersionSolverModel", "wanted", "[Z", true)
  | 21 => ("VersionSolverModel", "pinned", "[I", true)
  | 22 => ("VersionSolverModel", "chosenOf", "[I", true)
  | 23 => ("VersionSolverModel", "fileSize", "I", false)
  | 24 => ("VersionSolverModel", "file", "[I", true)
  | 25 => ("VersionSolverModel", "options", "[I", true)
  | 26 => ("VersionSolverModel", "optionCount", "[I", true)
  | 27 => ("VersionSolverModel", "tried", "[I", true)
  | 28 => ("VersionSolverModel", "fits", "[Z", true)
  | _ => ("VersionSolverModel", "reached", "[Z", true)
def tyX10 : Nat → FieldType := fun k => match k with
  | 0 => .int
  | 1 => .int
  | 2 => .array .int
  | 3 => .int
  | 4 => .boolean
  | 5 => .array .int
  | 6 => .array .int
  | 7 => .array .int
  | 8 => .array .int
  | 9 => .array .int
  | 10 => .array .int
  | 11 => .array .int
  | 12 => .array .int
  | 13 => .array .int
  | 14 => .array .int
  | 15 => .int
  | 16 => .array .int
  | 17 => .array .boolean
  | 18 => .array .int
  | 19 => .array .int
  | 20 => .array .boolean
  | 21 => .array .int
  | 22 => .array .int
  | 23 => .int
  | 24 => .array .int
  | 25 => .array .int
  | 26 => .array .int
  | 27 => .array .int
  | 28 => .array .boolean
  | _ => .array .boolean
abbrev wsX100 : List Cond := u_ws RX10 TX10 30
theorem nmX10 : ∀ a, a < 30 → ∀ b, b < 30 → a ≠ b → (TX10 a).2.1 ≠ (TX10 b).2.1 := by decide +kernel
theorem tyX10_ok : ∀ k, k < 30 → parseFieldDescriptor (TX10 k).2.2.1 = some (tyX10 k) := by decide +kernel
def RJ13 : String := "java/lang/Long"
def RJ6 : String := "java/lang/Integer"
def RJ7 : String := "java/util/Arrays"
def RL : String := "VersionSolverLaw"
abbrev cJ6_compare_7cf53 : ByteArray := prog_19_method_40_code
def yJ6_compare_7cf53 : MethodName := ⟨RJ6, "compare", "(II)I"⟩
abbrev cJ13_bitCount_95d88 : ByteArray := prog_20_method_50_code
def yJ13_bitCount_95d88 : MethodName := ⟨RJ13, "bitCount", "(J)I"⟩
abbrev cJ7_fill_53178 : ByteArray := prog_31_method_103_code
def yJ7_fill_53178 : MethodName := ⟨RJ7, "fill", "([II)V"⟩
abbrev cJ7_fill_d0a16 : ByteArray := prog_31_method_101_code
def yJ7_fill_d0a16 : MethodName := ⟨RJ7, "fill", "([JJ)V"⟩
abbrev cJ7_copyOfRange_39247 : ByteArray := prog_31_method_132_code
def yJ7_copyOfRange_39247 : MethodName := ⟨RJ7, "copyOfRange", "([BII)[B"⟩
abbrev cJ7_copyOfRangeByte_39247 : ByteArray := prog_31_method_133_code
def yJ7_copyOfRangeByte_39247 : MethodName := ⟨RJ7, "copyOfRangeByte", "([BII)[B"⟩
abbrev cJ7_checkLength_df160 : ByteArray := prog_31_method_131_code
def yJ7_checkLength_df160 : MethodName := ⟨RJ7, "checkLength", "(II)V"⟩
abbrev cX0_init : ByteArray := prog_2_method_1_code
def yX0_init : MethodName := ⟨RX0, "<init>", "(I)V"⟩
abbrev cX0_append : ByteArray := prog_2_method_2_code
def yX0_append : MethodName := ⟨RX0, "append", "(B)V"⟩
abbrev cX1_init : ByteArray := prog_3_method_1_code
def yX1_init : MethodName := ⟨RX1, "<init>", "([BI)V"⟩
abbrev cX1_publication : ByteArray := prog_3_method_2_code
def yX1_publication : MethodName := ⟨RX1, "publication", "(I)LVersionSolver$Release;"⟩
abbrev cX1_onlyRequirement : ByteArray := prog_3_method_3_code
def yX1_onlyRequirement : MethodName := ⟨RX1, "onlyRequirement", "()LVersionSolver$Requirement;"⟩
abbrev cX1_release : ByteArray := prog_3_method_4_code
def yX1_release : MethodName := ⟨RX1, "release", "(I)LVersionSolver$Release;"⟩
abbrev cX1_requirement : ByteArray := prog_3_method_5_code
def yX1_requirement : MethodName := ⟨RX1, "requirement", "()LVersionSolver$Requirement;"⟩
abbrev cX1_comparator : ByteArray := prog_3_method_6_code
def yX1_comparator : MethodName := ⟨RX1, "comparator", "()LVersionSolver$Span;"⟩
abbrev cX1_sign : ByteArray := prog_3_method_7_code
def yX1_sign : MethodName := ⟨RX1, "sign", "()I"⟩
abbrev cX1_numbers : ByteArray := prog_3_method_8_code
def yX1_numbers : MethodName := ⟨RX1, "numbers", "()I"⟩
abbrev cX1_number : ByteArray := prog_3_method_9_code
def yX1_number : MethodName := ⟨RX1, "number", "()I"⟩
abbrev cX1_words : ByteArray := prog_3_method_10_code
def yX1_words : MethodName := ⟨RX1, "words", "()[LVersionSolver$Word;"⟩
abbrev cX1_countWords : ByteArray := prog_3_method_11_code
def yX1_countWords : MethodName := ⟨RX1, "countWords", "()I"⟩
abbrev cX1_word : ByteArray := prog_3_method_12_code
def yX1_word : MethodName := ⟨RX1, "word", "()LVersionSolver$Word;"⟩
abbrev cX1_skipBuild : ByteArray := prog_3_method_13_code
def yX1_skipBuild : MethodName := ⟨RX1, "skipBuild", "()Z"⟩
abbrev cX1_skipWord : ByteArray := prog_3_method_14_code
def yX1_skipWord : MethodName := ⟨RX1, "skipWord", "()V"⟩
abbrev cX1_skipBlanks : ByteArray := prog_3_method_15_code
def yX1_skipBlanks : MethodName := ⟨RX1, "skipBlanks", "()V"⟩
abbrev cX1_digitOfPack : ByteArray := prog_3_method_16_code
def yX1_digitOfPack : MethodName := ⟨RX1, "digitOfPack", "()I"⟩
abbrev cX1_take : ByteArray := prog_3_method_17_code
def yX1_take : MethodName := ⟨RX1, "take", "(C)Z"⟩
abbrev cX1_isAt : ByteArray := prog_3_method_18_code
def yX1_isAt : MethodName := ⟨RX1, "isAt", "(IC)Z"⟩
abbrev cX2_init : ByteArray := prog_4_method_1_code
def yX2_init : MethodName := ⟨RX2, "<init>", "()V"⟩
abbrev cX2_at : ByteArray := prog_4_method_2_code
def yX2_at : MethodName := ⟨RX2, "at", "(I)LVersionSolver$Release;"⟩
abbrev cX2_isFull : ByteArray := prog_4_method_3_code
def yX2_isFull : MethodName := ⟨RX2, "isFull", "()Z"⟩
abbrev cX2_hasSame : ByteArray := prog_4_method_4_code
def yX2_hasSame : MethodName := ⟨RX2, "hasSame", "(LVersionSolver$Release;)Z"⟩
abbrev cX2_add : ByteArray := prog_4_method_5_code
def yX2_add : MethodName := ⟨RX2, "add", "(LVersionSolver$Release;)I"⟩
abbrev cX2_countYanked : ByteArray := prog_4_method_6_code
def yX2_countYanked : MethodName := ⟨RX2, "countYanked", "()I"⟩
abbrev cX2_highest : ByteArray := prog_4_method_7_code
def yX2_highest : MethodName := ⟨RX2, "highest", "(ILVersionSolver$Requirement;)I"⟩
abbrev cX2_higher : ByteArray := prog_4_method_8_code
def yX2_higher : MethodName := ⟨RX2, "higher", "(II)I"⟩
abbrev cX3_init : ByteArray := prog_5_method_1_code
def yX3_init : MethodName := ⟨RX3, "<init>", "(ILVersionSolver$Version;[B)V"⟩
abbrev cX3_add : ByteArray := prog_5_method_2_code
def yX3_add : MethodName := ⟨RX3, "add", "(ILVersionSolver$Requirement;)Z"⟩
abbrev cX3_neededPack : ByteArray := prog_5_method_3_code
def yX3_neededPack : MethodName := ⟨RX3, "neededPack", "(I)I"⟩
abbrev cX3_hasNeedOf : ByteArray := prog_5_method_4_code
def yX3_hasNeedOf : MethodName := ⟨RX3, "hasNeedOf", "(I)Z"⟩
abbrev cX3_excludes : ByteArray := prog_5_method_5_code
def yX3_excludes : MethodName := ⟨RX3, "excludes", "(LVersionSolver$Release;)Z"⟩
abbrev cX4_init : ByteArray := prog_6_method_1_code
def yX4_init : MethodName := ⟨RX4, "<init>", "()V"⟩
abbrev cX4_add : ByteArray := prog_6_method_2_code
def yX4_add : MethodName := ⟨RX4, "add", "(LVersionSolver$Span;)V"⟩
abbrev cX4_isMetBy : ByteArray := prog_6_method_3_code
def yX4_isMetBy : MethodName := ⟨RX4, "isMetBy", "(LVersionSolver$Version;)Z"⟩
abbrev cX5_init : ByteArray := prog_7_method_1_code
def yX5_init : MethodName := ⟨RX5, "<init>", "(LVersionSolver$Registry;)V"⟩
abbrev cX5_holds : ByteArray := prog_7_method_2_code
def yX5_holds : MethodName := ⟨RX5, "holds", "(JI)Z"⟩
abbrev cX5_learn : ByteArray := prog_7_method_3_code
def yX5_learn : MethodName := ⟨RX5, "learn", "(ILVersionSolver$Release;)V"⟩
abbrev cX5_setClash : ByteArray := prog_7_method_4_code
def yX5_setClash : MethodName := ⟨RX5, "setClash", "(II)V"⟩
abbrev cX5_first : ByteArray := prog_7_method_5_code
def yX5_first : MethodName := ⟨RX5, "first", "([LVersionSolver$Requirement;[I)J"⟩
abbrev cX5_openOptions : ByteArray := prog_7_method_6_code
def yX5_openOptions : MethodName := ⟨RX5, "openOptions", "([LVersionSolver$Requirement;[I)J"⟩
abbrev cX5_firstPossible : ByteArray := prog_7_method_7_code
def yX5_firstPossible : MethodName := ⟨RX5, "firstPossible", "(JII)I"⟩
abbrev cX5_foremost : ByteArray := prog_7_method_8_code
def yX5_foremost : MethodName := ⟨RX5, "foremost", "(JII)I"⟩
abbrev cX5_settled : ByteArray := prog_7_method_9_code
def yX5_settled : MethodName := ⟨RX5, "settled", "(JII)J"⟩
abbrev cX5_isPossible : ByteArray := prog_7_method_10_code
def yX5_isPossible : MethodName := ⟨RX5, "isPossible", "(JI)Z"⟩
abbrev cX5_isPossibleWithOneOf : ByteArray := prog_7_method_11_code
def yX5_isPossibleWithOneOf : MethodName := ⟨RX5, "isPossibleWithOneOf", "(IJI)Z"⟩
abbrev cX5_narrowed : ByteArray := prog_7_method_12_code
def yX5_narrowed : MethodName := ⟨RX5, "narrowed", "(J)J"⟩
abbrev cX5_gatherPartners : ByteArray := prog_7_method_13_code
def yX5_gatherPartners : MethodName := ⟨RX5, "gatherPartners", "(J)V"⟩
abbrev cX5_mostPressing : ByteArray := prog_7_method_14_code
def yX5_mostPressing : MethodName := ⟨RX5, "mostPressing", "(J)I"⟩
abbrev cX5_withNoneWherePossible : ByteArray := prog_7_method_15_code
def yX5_withNoneWherePossible : MethodName := ⟨RX5, "withNoneWherePossible", "(J)J"⟩
abbrev cX6_init : ByteArray := prog_8_method_1_code
def yX6_init : MethodName := ⟨RX6, "<init>", "(LVersionSolver$Version;)V"⟩
abbrev cX6_ofAll : ByteArray := prog_8_method_2_code
def yX6_ofAll : MethodName := ⟨RX6, "ofAll", "()LVersionSolver$Span;"⟩
abbrev cX6_of : ByteArray := prog_8_method_3_code
def yX6_of : MethodName := ⟨RX6, "of", "(ILVersionSolver$Version;I)LVersionSolver$Span;"⟩
abbrev cX6_keptByCaret : ByteArray := prog_8_method_4_code
def yX6_keptByCaret : MethodName := ⟨RX6, "keptByCaret", "(LVersionSolver$Version;I)I"⟩
abbrev cX6_from : ByteArray := prog_8_method_5_code
def yX6_from : MethodName := ⟨RX6, "from", "(LVersionSolver$Version;Z)V"⟩
abbrev cX6_to : ByteArray := prog_8_method_6_code
def yX6_to : MethodName := ⟨RX6, "to", "(LVersionSolver$Version;Z)V"⟩
abbrev cX6_covers : ByteArray := prog_8_method_7_code
def yX6_covers : MethodName := ⟨RX6, "covers", "(LVersionSolver$Version;)Z"⟩
abbrev cX6_namesWordsOf : ByteArray := prog_8_method_8_code
def yX6_namesWordsOf : MethodName := ⟨RX6, "namesWordsOf", "(LVersionSolver$Version;)Z"⟩
abbrev cX7_init : ByteArray := prog_9_method_1_code
def yX7_init : MethodName := ⟨RX7, "<init>", "(III[LVersionSolver$Word;)V"⟩
abbrev cX7_order : ByteArray := prog_9_method_2_code
def yX7_order : MethodName := ⟨RX7, "order", "(LVersionSolver$Version;)I"⟩
abbrev cX7_orderOfNumbers : ByteArray := prog_9_method_3_code
def yX7_orderOfNumbers : MethodName := ⟨RX7, "orderOfNumbers", "(LVersionSolver$Version;)I"⟩
abbrev cX7_hasWords : ByteArray := prog_9_method_4_code
def yX7_hasWords : MethodName := ⟨RX7, "hasWords", "()Z"⟩
abbrev cX7_raised : ByteArray := prog_9_method_5_code
def yX7_raised : MethodName := ⟨RX7, "raised", "(I)LVersionSolver$Version;"⟩
abbrev cX8_init : ByteArray := prog_10_method_1_code
def yX8_init : MethodName := ⟨RX8, "<init>", "([BI)V"⟩
abbrev cX8_order : ByteArray := prog_10_method_2_code
def yX8_order : MethodName := ⟨RX8, "order", "(LVersionSolver$Word;)I"⟩
abbrev cX9_init : ByteArray := prog_1_method_1_code
def yX9_init : MethodName := ⟨RX9, "<init>", "()V"⟩
abbrev cX9_feed : ByteArray := prog_1_method_2_code
def yX9_feed : MethodName := ⟨RX9, "feed", "(JI)I"⟩
abbrev cX9_publish : ByteArray := prog_1_method_3_code
def yX9_publish : MethodName := ⟨RX9, "publish", "(I)I"⟩
abbrev cX9_yank : ByteArray := prog_1_method_4_code
def yX9_yank : MethodName := ⟨RX9, "yank", "(IZ)Z"⟩
abbrev cX9_want : ByteArray := prog_1_method_5_code
def yX9_want : MethodName := ⟨RX9, "want", "(I)V"⟩
abbrev cX9_drop : ByteArray := prog_1_method_6_code
def yX9_drop : MethodName := ⟨RX9, "drop", "(I)Z"⟩
abbrev cX9_solve : ByteArray := prog_1_method_7_code
def yX9_solve : MethodName := ⟨RX9, "solve", "()I"⟩
abbrev cX9_chosen : ByteArray := prog_1_method_8_code
def yX9_chosen : MethodName := ⟨RX9, "chosen", "(I)I"⟩
abbrev cX9_lock : ByteArray := prog_1_method_9_code
def yX9_lock : MethodName := ⟨RX9, "lock", "()I"⟩
abbrev cX9_pin : ByteArray := prog_1_method_10_code
def yX9_pin : MethodName := ⟨RX9, "pin", "(I)I"⟩
abbrev cX9_unlock : ByteArray := prog_1_method_11_code
def yX9_unlock : MethodName := ⟨RX9, "unlock", "()I"⟩
abbrev cX9_meets : ByteArray := prog_1_method_12_code
def yX9_meets : MethodName := ⟨RX9, "meets", "(I)Z"⟩
abbrev cX9_best : ByteArray := prog_1_method_13_code
def yX9_best : MethodName := ⟨RX9, "best", "(I)I"⟩
abbrev cX9_compare : ByteArray := prog_1_method_14_code
def yX9_compare : MethodName := ⟨RX9, "compare", "(II)I"⟩
abbrev cX9_needs : ByteArray := prog_1_method_15_code
def yX9_needs : MethodName := ⟨RX9, "needs", "(II)I"⟩
abbrev cX9_told : ByteArray := prog_1_method_16_code
def yX9_told : MethodName := ⟨RX9, "told", "(I)I"⟩
abbrev cX9_write : ByteArray := prog_1_method_17_code
def yX9_write : MethodName := ⟨RX9, "write", "()I"⟩
abbrev cX9_fileByte : ByteArray := prog_1_method_18_code
def yX9_fileByte : MethodName := ⟨RX9, "fileByte", "(I)I"⟩
abbrev cX9_useUpText : ByteArray := prog_1_method_19_code
def yX9_useUpText : MethodName := ⟨RX9, "useUpText", "()LVersionSolver$Reader;"⟩
abbrev cX9_writeLine : ByteArray := prog_1_method_20_code
def yX9_writeLine : MethodName := ⟨RX9, "writeLine", "(LVersionSolver$Release;)V"⟩
abbrev cX9_countWanted : ByteArray := prog_1_method_21_code
def yX9_countWanted : MethodName := ⟨RX9, "countWanted", "()I"⟩
abbrev cX9_countGiven : ByteArray := prog_1_method_22_code
def yX9_countGiven : MethodName := ⟨RX9, "countGiven", "([I)I"⟩
abbrev cX9_isPack : ByteArray := prog_1_method_23_code
def yX9_isPack : MethodName := ⟨RX9, "isPack", "(I)Z"⟩
abbrev cX10_init : ByteArray := prog_12_method_1_code
def yX10_init : MethodName := ⟨RX10, "<init>", "()V"⟩
abbrev cX10_thrown : ByteArray := prog_12_method_2_code
def yX10_thrown : MethodName := ⟨RX10, "thrown", "()I"⟩
abbrev cX10_in : ByteArray := prog_12_method_3_code
def yX10_in : MethodName := ⟨RX10, "in", "(III)Z"⟩
abbrev cX10_feed : ByteArray := prog_12_method_4_code
def yX10_feed : MethodName := ⟨RX10, "feed", "(JI)I"⟩
abbrev cX10_ahead : ByteArray := prog_12_method_5_code
def yX10_ahead : MethodName := ⟨RX10, "ahead", "()I"⟩
abbrev cX10_isDigit : ByteArray := prog_12_method_6_code
def yX10_isDigit : MethodName := ⟨RX10, "isDigit", "(I)Z"⟩
abbrev cX10_isOfWord : ByteArray := prog_12_method_7_code
def yX10_isOfWord : MethodName := ⟨RX10, "isOfWord", "(I)Z"⟩
abbrev cX10_take : ByteArray := prog_12_method_8_code
def yX10_take : MethodName := ⟨RX10, "take", "(I)V"⟩
abbrev cX10_number : ByteArray := prog_12_method_9_code
def yX10_number : MethodName := ⟨RX10, "number", "()I"⟩
abbrev cX10_wordRow : ByteArray := prog_12_method_10_code
def yX10_wordRow : MethodName := ⟨RX10, "wordRow", "(Z)V"⟩
abbrev cX10_beforeWords : ByteArray := prog_12_method_11_code
def yX10_beforeWords : MethodName := ⟨RX10, "beforeWords", "(I)V"⟩
abbrev cX10_version : ByteArray := prog_12_method_12_code
def yX10_version : MethodName := ⟨RX10, "version", "()V"⟩
abbrev cX10_signAhead : ByteArray := prog_12_method_13_code
def yX10_signAhead : MethodName := ⟨RX10, "signAhead", "()I"⟩
abbrev cX10_comparator : ByteArray := prog_12_method_14_code
def yX10_comparator : MethodName := ⟨RX10, "comparator", "(I)V"⟩
abbrev cX10_blanks : ByteArray := prog_12_method_15_code
def yX10_blanks : MethodName := ⟨RX10, "blanks", "()V"⟩
abbrev cX10_requirement : ByteArray := prog_12_method_16_code
def yX10_requirement : MethodName := ⟨RX10, "requirement", "(I)V"⟩
abbrev cX10_begin : ByteArray := prog_12_method_17_code
def yX10_begin : MethodName := ⟨RX10, "begin", "()V"⟩
abbrev cX10_isRight : ByteArray := prog_12_method_18_code
def yX10_isRight : MethodName := ⟨RX10, "isRight", "()Z"⟩
abbrev cX10_wordEnd : ByteArray := prog_12_method_19_code
def yX10_wordEnd : MethodName := ⟨RX10, "wordEnd", "(II)I"⟩
abbrev cX10_isNumberWord : ByteArray := prog_12_method_20_code
def yX10_isNumberWord : MethodName := ⟨RX10, "isNumberWord", "(III)Z"⟩
abbrev cX10_compareWords : ByteArray := prog_12_method_21_code
def yX10_compareWords : MethodName := ⟨RX10, "compareWords", "(IIII)I"⟩
abbrev cX10_order : ByteArray := prog_12_method_22_code
def yX10_order : MethodName := ⟨RX10, "order", "(II)I"⟩
abbrev cX10_orderTo : ByteArray := prog_12_method_23_code
def yX10_orderTo : MethodName := ⟨RX10, "orderTo", "(IIII)I"⟩
abbrev cX10_isBelowNext : ByteArray := prog_12_method_24_code
def yX10_isBelowNext : MethodName := ⟨RX10, "isBelowNext", "(IIZ)Z"⟩
abbrev cX10_isMet : ByteArray := prog_12_method_25_code
def yX10_isMet : MethodName := ⟨RX10, "isMet", "(II)Z"⟩
abbrev cX10_meetsAll : ByteArray := prog_12_method_26_code
def yX10_meetsAll : MethodName := ⟨RX10, "meetsAll", "(II)Z"⟩
abbrev cX10_publication : ByteArray := prog_12_method_27_code
def yX10_publication : MethodName := ⟨RX10, "publication", "()V"⟩
abbrev cX10_copyRow : ByteArray := prog_12_method_28_code
def yX10_copyRow : MethodName := ⟨RX10, "copyRow", "(II)V"⟩
abbrev cX10_hasSame : ByteArray := prog_12_method_29_code
def yX10_hasSame : MethodName := ⟨RX10, "hasSame", "(I)Z"⟩
abbrev cX10_publish : ByteArray := prog_12_method_30_code
def yX10_publish : MethodName := ⟨RX10, "publish", "(I)I"⟩
abbrev cX10_isVersion : ByteArray := prog_12_method_31_code
def yX10_isVersion : MethodName := ⟨RX10, "isVersion", "(I)Z"⟩
abbrev cX10_yank : ByteArray := prog_12_method_32_code
def yX10_yank : MethodName := ⟨RX10, "yank", "(IZ)Z"⟩
abbrev cX10_asks : ByteArray := prog_12_method_33_code
def yX10_asks : MethodName := ⟨RX10, "asks", "()Z"⟩
abbrev cX10_want : ByteArray := prog_12_method_34_code
def yX10_want : MethodName := ⟨RX10, "want", "(I)V"⟩
abbrev cX10_drop : ByteArray := prog_12_method_35_code
def yX10_drop : MethodName := ⟨RX10, "drop", "(I)Z"⟩
abbrev cX10_layOut : ByteArray := prog_12_method_36_code
def yX10_layOut : MethodName := ⟨RX10, "layOut", "(I)V"⟩
abbrev cX10_goesBefore : ByteArray := prog_12_method_37_code
def yX10_goesBefore : MethodName := ⟨RX10, "goesBefore", "(III)Z"⟩
abbrev cX10_layFits : ByteArray := prog_12_method_38_code
def yX10_layFits : MethodName := ⟨RX10, "layFits", "()V"⟩
abbrev cX10_given : ByteArray := prog_12_method_39_code
def yX10_given : MethodName := ⟨RX10, "given", "(I)I"⟩
abbrev cX10_allows : ByteArray := prog_12_method_40_code
def yX10_allows : MethodName := ⟨RX10, "allows", "(II)Z"⟩
abbrev cX10_goesWell : ByteArray := prog_12_method_41_code
def yX10_goesWell : MethodName := ⟨RX10, "goesWell", "(I)Z"⟩
abbrev cX10_isReached : ByteArray := prog_12_method_42_code
def yX10_isReached : MethodName := ⟨RX10, "isReached", "()Z"⟩
abbrev cX10_solve : ByteArray := prog_12_method_43_code
def yX10_solve : MethodName := ⟨RX10, "solve", "()I"⟩
abbrev cX10_chosen : ByteArray := prog_12_method_44_code
def yX10_chosen : MethodName := ⟨RX10, "chosen", "(I)I"⟩
abbrev cX10_pins : ByteArray := prog_12_method_45_code
def yX10_pins : MethodName := ⟨RX10, "pins", "()I"⟩
abbrev cX10_lock : ByteArray := prog_12_method_46_code
def yX10_lock : MethodName := ⟨RX10, "lock", "()I"⟩
abbrev cX10_pin : ByteArray := prog_12_method_47_code
def yX10_pin : MethodName := ⟨RX10, "pin", "(I)I"⟩
abbrev cX10_unlock : ByteArray := prog_12_method_48_code
def yX10_unlock : MethodName := ⟨RX10, "unlock", "()I"⟩
abbrev cX10_meets : ByteArray := prog_12_method_49_code
def yX10_meets : MethodName := ⟨RX10, "meets", "(I)Z"⟩
abbrev cX10_best : ByteArray := prog_12_method_50_code
def yX10_best : MethodName := ⟨RX10, "best", "(I)I"⟩
abbrev cX10_compare : ByteArray := prog_12_method_51_code
def yX10_compare : MethodName := ⟨RX10, "compare", "(II)I"⟩
abbrev cX10_needs : ByteArray := prog_12_method_52_code
def yX10_needs : MethodName := ⟨RX10, "needs", "(II)I"⟩
abbrev cX10_told : ByteArray := prog_12_method_53_code
def yX10_told : MethodName := ⟨RX10, "told", "(I)I"⟩
abbrev cX10_put : ByteArray := prog_12_method_54_code
def yX10_put : MethodName := ⟨RX10, "put", "(I)V"⟩
abbrev cX10_write : ByteArray := prog_12_method_55_code
def yX10_write : MethodName := ⟨RX10, "write", "()I"⟩
abbrev cX10_fileByte : ByteArray := prog_12_method_56_code
def yX10_fileByte : MethodName := ⟨RX10, "fileByte", "(I)I"⟩
abbrev cL_feed : ByteArray := method_3_code
def yL_feed : MethodName := ⟨RL, "feed", "(LVersionSolver;JI[J)I"⟩
abbrev cL_publish : ByteArray := method_4_code
def yL_publish : MethodName := ⟨RL, "publish", "(LVersionSolver;I[J)I"⟩
abbrev cL_yank : ByteArray := method_5_code
def yL_yank : MethodName := ⟨RL, "yank", "(LVersionSolver;IZ[J)I"⟩
abbrev cL_want : ByteArray := method_6_code
def yL_want : MethodName := ⟨RL, "want", "(LVersionSolver;I)I"⟩
abbrev cL_drop : ByteArray := method_7_code
def yL_drop : MethodName := ⟨RL, "drop", "(LVersionSolver;I[J)I"⟩
abbrev cL_solve : ByteArray := method_8_code
def yL_solve : MethodName := ⟨RL, "solve", "(LVersionSolver;[J)I"⟩
abbrev cL_chosen : ByteArray := method_9_code
def yL_chosen : MethodName := ⟨RL, "chosen", "(LVersionSolver;I[J)I"⟩
abbrev cL_pin : ByteArray := method_10_code
def yL_pin : MethodName := ⟨RL, "pin", "(LVersionSolver;I[J)I"⟩
abbrev cL_meets : ByteArray := method_11_code
def yL_meets : MethodName := ⟨RL, "meets", "(LVersionSolver;I[J)I"⟩
abbrev cL_best : ByteArray := method_12_code
def yL_best : MethodName := ⟨RL, "best", "(LVersionSolver;I[J)I"⟩
abbrev cL_compare : ByteArray := method_13_code
def yL_compare : MethodName := ⟨RL, "compare", "(LVersionSolver;II[J)I"⟩
abbrev cL_needs : ByteArray := method_14_code
def yL_needs : MethodName := ⟨RL, "needs", "(LVersionSolver;II[J)I"⟩
abbrev cL_fileByte : ByteArray := method_15_code
def yL_fileByte : MethodName := ⟨RL, "fileByte", "(LVersionSolver;I[J)I"⟩
abbrev cL_law : ByteArray := code
def yL_law : MethodName := ⟨RL, "law", "([I)Z"⟩
/-- the words that go along into every callee -/
def zTBL : List Cond := lw_tbl.filter goodWord
set_option maxRecDepth 20000 in
theorem zin0 : ∀ w ∈ wsX00, w ∈ zTBL := by decide +kernel
set_option maxRecDepth 20000 in
theorem zin1 : ∀ w ∈ wsX10, w ∈ zTBL := by decide +kernel
set_option maxRecDepth 20000 in
theorem zin2 : ∀ w ∈ wsX20, w ∈ zTBL := by decide +kernel
set_option maxRecDepth 20000 in
theorem zin3 : ∀ w ∈ wsX30, w ∈ zTBL := by decide +kernel
set_option maxRecDepth 20000 in
theorem zin4 : ∀ w ∈ wsX40, w ∈ zTBL := by decide +kernel
set_option maxRecDepth 20000 in
theorem zin5 : ∀ w ∈ wsX50, w ∈ zTBL := by decide +kernel
set_option maxRecDepth 20000 in
theorem zin6 : ∀ w ∈ wsX60, w ∈ zTBL := by decide +kernel
set_option maxRecDepth 20000 in
theorem zin7 : ∀ w ∈ wsX70, w ∈ zTBL := by decide +kernel
set_option maxRecDepth 20000 in
theorem zin8 : ∀ w ∈ wsX80, w ∈ zTBL := by decide +kernel
set_option maxRecDepth 20000 in
theorem zin9 : ∀ w ∈ wsX90, w ∈ zTBL := by decide +kernel
set_option maxRecDepth 20000 in
theorem zin10 : ∀ w ∈ wsX100, w ∈ zTBL := by decide +kernel
abbrev zCL : List vw_C := [(RX0, TX0, 2), (RX1, TX1, 4), (RX2, TX2, 2), (RX3, TX3, 7), (RX4, TX4, 2), (RX5, TX5, 6), (RX6, TX6, 5), (RX7, TX7, 4), (RX8, TX8, 2), (RX9, TX9, 7), (RX10, TX10, 30)]
end
section
/-- an instruction as the table has it: code, length, a, b, pool index, word index, a number -/
abbrev zOp : Type := Nat × Nat × Nat × Nat × Nat × Nat × Int
def tb_0 : List (Nat × zOp) := [(0, (0, 1, 0, 1, 0, 0, 0)), (1, (0, 1, 1, 1, 0, 0, 0)), (2, (15, 3, 3, 9, 0, 0, 7)), (5, (6, 1, 0, 0, 0, 0, (-1))), (6, (16, 3, 0, 19, 0, 0, 13)), (9, (0, 1, 0, 1, 0, 0, 0)), (10, (0, 1, 1, 1, 0, 0, 0)), (11, (15, 3, 1, 18, 0, 0, 7)), (14, (6, 1, 0, 0, 0, 0, 0)), (15, (16, 3, 0, 19, 0, 0, 4)), (18, (6, 1, 0, 0, 0, 0, 1)), (19, (36, 1, 0, 0, 0, 0, 0))]
def tb_1 : List (Nat × zOp) := [(0, (2, 1, 0, 1, 0, 0, 0)), (1, (2, 1, 0, 1, 0, 0, 0)), (2, (6, 1, 0, 0, 0, 0, 1)), (3, (12, 1, 2, 0, 0, 0, 0)), (4, (7, 3, 0, 1, 314, 982, 6148914691236517205)), (7, (11, 1, 2, 0, 0, 0, 0)), (8, (11, 1, 1, 0, 0, 0, 0)), (9, (5, 1, 0, 1, 0, 0, 0)), (10, (2, 1, 0, 1, 0, 0, 0)), (11, (7, 3, 0, 1, 316, 983, 3689348814741910323)), (14, (11, 1, 2, 0, 0, 0, 0)), (15, (2, 1, 0, 1, 0, 0, 0)), (16, (6, 1, 0, 0, 0, 0, 2)), (17, (12, 1, 2, 0, 0, 0, 0)), (18, (7, 3, 0, 1, 316, 983, 3689348814741910323)), (21, (11, 1, 2, 0, 0, 0, 0)), (22, (11, 1, 0, 0, 0, 0, 0)), (23, (5, 1, 0, 1, 0, 0, 0)), (24, (2, 1, 0, 1, 0, 0, 0)), (25, (2, 1, 0, 1, 0, 0, 0)), (26, (6, 1, 0, 0, 0, 0, 4)), (27, (12, 1, 2, 0, 0, 0, 0)), (28, (11, 1, 0, 0, 0, 0, 0)), (29, (7, 3, 0, 1, 318, 984, 1085102592571150095)), (32, (11, 1, 2, 0, 0, 0, 0)), (33, (5, 1, 0, 1, 0, 0, 0)), (34, (2, 1, 0, 1, 0, 0, 0)), (35, (2, 1, 0, 1, 0, 0, 0)), (36, (6, 2, 0, 1, 0, 0, 8)), (38, (12, 1, 2, 0, 0, 0, 0)), (39, (11, 1, 0, 0, 0, 0, 0)), (40, (5, 1, 0, 1, 0, 0, 0)), (41, (2, 1, 0, 1, 0, 0, 0)), (42, (2, 1, 0, 1, 0, 0, 0)), (43, (6, 2, 0, 1, 0, 0, 16)), (45, (12, 1, 2, 0, 0, 0, 0)), (46, (11, 1, 0, 0, 0, 0, 0)), (47, (5, 1, 0, 1, 0, 0, 0)), (48, (2, 1, 0, 1, 0, 0, 0)), (49, (2, 1, 0, 1, 0, 0, 0)), (50, (6, 2, 0, 1, 0, 0, 32)), (52, (12, 1, 2, 0, 0, 0, 0)), (53, (11, 1, 0, 0, 0, 0, 0)), (54, (5, 1, 0, 1, 0, 0, 0)), (55, (2, 1, 0, 1, 0, 0, 0)), (56, (13, 1, 1, 0, 0, 0, 0)), (57, (6, 2, 0, 1, 0, 0, 127)), (59, (10, 1, 3, 0, 0, 0, 0)), (60, (36, 1, 0, 0, 0, 0, 0))]
def tb_2 : List (Nat × zOp) := [(0, (6, 1, 0, 0, 0, 0, 0)), (1, (3, 1, 2, 1, 0, 0, 0)), (2, (1, 1, 0, 1, 0, 0, 0)), (3, (31, 1, 0, 0, 0, 0, 0)), (4, (3, 1, 3, 1, 0, 0, 0)), (5, (0, 1, 2, 1, 0, 0, 0)), (6, (0, 1, 3, 1, 0, 0, 0)), (7, (15, 3, 3, 20, 0, 0, 13)), (10, (1, 1, 0, 1, 0, 0, 0)), (11, (0, 1, 2, 1, 0, 0, 0)), (12, (0, 1, 1, 1, 0, 0, 0)), (13, (26, 1, 1, 0, 0, 0, 0)), (14, (9, 3, 2, 0, 0, 0, 1)), (17, (16, 3, 0, 5, 0, 0, (-12))), (20, (37, 1, 0, 0, 0, 0, 0))]
def tb_3 : List (Nat × zOp) := [(0, (6, 1, 0, 0, 0, 0, 0)), (1, (3, 1, 3, 1, 0, 0, 0)), (2, (1, 1, 0, 1, 0, 0, 0)), (3, (31, 1, 0, 0, 0, 0, 0)), (4, (3, 2, 4, 0, 0, 0, 0)), (6, (0, 1, 3, 1, 0, 0, 0)), (7, (0, 2, 4, 0, 0, 0, 0)), (9, (15, 3, 3, 22, 0, 0, 13)), (12, (1, 1, 0, 1, 0, 0, 0)), (13, (0, 1, 3, 1, 0, 0, 0)), (14, (2, 1, 1, 1, 0, 0, 0)), (15, (28, 1, 0, 0, 0, 0, 0)), (16, (9, 3, 3, 0, 0, 0, 1)), (19, (16, 3, 0, 6, 0, 0, (-13))), (22, (37, 1, 0, 0, 0, 0, 0))]
def tb_4 : List (Nat × zOp) := [(0, (0, 1, 1, 1, 0, 0, 0)), (1, (14, 3, 1, 10, 0, 0, 9)), (4, (0, 1, 2, 1, 0, 0, 0)), (5, (1, 1, 0, 1, 0, 0, 0)), (6, (31, 1, 0, 0, 0, 0, 0)), (7, (15, 3, 0, 17, 0, 0, 10)), (10, (1, 1, 0, 1, 0, 0, 0)), (11, (0, 1, 1, 1, 0, 0, 0)), (12, (0, 1, 2, 1, 0, 0, 0)), (13, (35, 3, 5, 3, 339, 423, 1)), (16, (36, 1, 3, 0, 0, 0, 0)), (17, (1, 1, 0, 1, 0, 0, 0)), (24, (36, 1, 3, 0, 0, 0, 0))]
def tb_5 : List (Nat × zOp) := [(0, (0, 1, 1, 1, 0, 0, 0)), (1, (0, 1, 2, 1, 0, 0, 0)), (2, (35, 3, 6, 2, 343, 426, 1)), (5, (0, 1, 2, 1, 0, 0, 0)), (6, (0, 1, 1, 1, 0, 0, 0)), (7, (10, 1, 1, 0, 0, 0, 0)), (8, (3, 1, 3, 1, 0, 0, 0)), (9, (0, 1, 3, 1, 0, 0, 0)), (10, (33, 2, 0, 0, 0, 0, 0)), (12, (4, 2, 4, 0, 0, 0, 0)), (14, (1, 1, 0, 1, 0, 0, 0)), (15, (0, 1, 1, 1, 0, 0, 0)), (16, (1, 2, 4, 0, 0, 0, 0)), (18, (6, 1, 0, 0, 0, 0, 0)), (19, (1, 1, 0, 1, 0, 0, 0)), (20, (31, 1, 0, 0, 0, 0, 0)), (21, (0, 1, 1, 1, 0, 0, 0)), (22, (10, 1, 1, 0, 0, 0, 0)), (23, (0, 1, 3, 1, 0, 0, 0)), (24, (45, 3, 0, 0, 304, 500, 0)), (27, (44, 3, 0, 0, 150, 501, 0)), (30, (1, 2, 4, 0, 0, 0, 0)), (32, (36, 1, 3, 0, 0, 0, 0))]
def tb_6 : List (Nat × zOp) := [(0, (0, 1, 1, 1, 0, 0, 0)), (1, (0, 1, 0, 1, 0, 0, 0)), (2, (15, 3, 3, 37, 0, 0, 35)), (8, (20, 1, 0, 0, 0, 0, 0)), (12, (20, 1, 0, 0, 0, 0, 0)), (16, (0, 1, 0, 1, 0, 0, 0)), (26, (0, 1, 1, 1, 0, 0, 0)), (37, (37, 1, 0, 0, 0, 0, 0))]
def tb_7 : List (Nat × zOp) := [(0, (1, 1, 0, 1, 0, 0, 0)), (1, (40, 3, 0, 0, 1, 111, 0)), (4, (1, 1, 0, 1, 0, 0, 0)), (5, (0, 1, 1, 1, 0, 0, 0)), (6, (33, 2, 0, 0, 0, 0, 0)), (8, (24, 3, 0, 0, 7, 112, 3)), (11, (37, 1, 0, 0, 0, 0, 0))]
def tb_8 : List (Nat × zOp) := [(0, (1, 1, 0, 1, 0, 0, 0)), (1, (23, 3, 0, 1, 13, 114, 0)), (4, (1, 1, 0, 1, 0, 0, 0)), (5, (23, 3, 0, 0, 7, 112, 3)), (8, (31, 1, 0, 0, 0, 0, 0)), (9, (15, 3, 3, 32, 0, 0, 23)), (12, (1, 1, 0, 1, 0, 0, 0)), (13, (23, 3, 0, 0, 7, 112, 3)), (16, (1, 1, 0, 1, 0, 0, 0)), (17, (23, 3, 0, 1, 13, 114, 0)), (20, (0, 1, 1, 1, 0, 0, 0)), (21, (26, 1, 0, 0, 0, 0, 0)), (22, (1, 1, 0, 1, 0, 0, 0)), (23, (20, 1, 0, 0, 0, 0, 0)), (24, (23, 3, 0, 1, 13, 114, 0)), (27, (6, 1, 0, 0, 0, 0, 1)), (28, (10, 1, 0, 0, 0, 0, 0)), (29, (24, 3, 0, 1, 13, 114, 0)), (32, (37, 1, 0, 0, 0, 0, 0))]
def tb_9 : List (Nat × zOp) := [(0, (1, 1, 0, 1, 0, 0, 0)), (1, (40, 3, 0, 0, 3, 342, 0)), (4, (1, 1, 0, 1, 0, 0, 0)), (5, (6, 1, 0, 0, 0, 0, 3)), (6, (33, 2, 1, 0, 0, 0, 0)), (8, (24, 3, 1, 3, 9, 349, 3)), (11, (1, 1, 0, 1, 0, 0, 0)), (12, (1, 1, 1, 1, 0, 0, 0)), (13, (24, 3, 1, 0, 15, 346, 3)), (16, (1, 1, 0, 1, 0, 0, 0)), (17, (0, 1, 2, 1, 0, 0, 0)), (18, (1, 1, 1, 1, 0, 0, 0)), (19, (31, 1, 0, 0, 0, 0, 0)), (20, (45, 3, 0, 0, 19, 343, 0)), (23, (24, 3, 1, 1, 25, 347, 0)), (26, (37, 1, 0, 0, 0, 0, 0))]
def tb_10 : List (Nat × zOp) := [(0, (1, 1, 0, 1, 0, 0, 0)), (1, (0, 1, 1, 1, 0, 0, 0)), (2, (35, 3, 12, 2, 29, 381, 0)), (5, (4, 1, 2, 1, 0, 0, 0)), (6, (1, 1, 2, 1, 0, 0, 0)), (7, (18, 3, 0, 12, 0, 0, 5)), (10, (8, 1, 0, 0, 0, 0, 0)), (11, (36, 1, 3, 0, 0, 0, 0)), (12, (6, 1, 0, 0, 0, 0, 0)), (13, (3, 1, 3, 1, 0, 0, 0)), (14, (0, 1, 3, 1, 0, 0, 0)), (15, (6, 1, 0, 0, 0, 0, 5)), (16, (15, 3, 3, 75, 0, 0, 59)), (19, (1, 1, 0, 1, 0, 0, 0)), (20, (6, 2, 0, 1, 0, 0, 59)), (22, (35, 3, 25, 2, 33, 402, 0)), (25, (14, 3, 0, 75, 0, 0, 50)), (28, (1, 1, 0, 1, 0, 0, 0)), (29, (35, 3, 24, 1, 37, 742, 0)), (32, (3, 2, 4, 0, 0, 0, 0)), (34, (1, 1, 0, 1, 0, 0, 0)), (35, (6, 2, 0, 1, 0, 0, 32)), (37, (35, 3, 25, 2, 33, 402, 0)), (40, (14, 3, 1, 45, 0, 0, 5)), (43, (8, 1, 0, 0, 0, 0, 0)), (44, (36, 1, 3, 0, 0, 0, 0)), (45, (1, 1, 0, 1, 0, 0, 0)), (46, (35, 3, 13, 1, 41, 747, 0)), (49, (4, 2, 5, 0, 0, 0, 0)), (51, (1, 2, 5, 0, 0, 0, 0)), (53, (17, 3, 0, 67, 0, 0, 14)), (56, (1, 1, 2, 1, 0, 0, 0)), (57, (0, 2, 4, 0, 0, 0, 0)), (59, (1, 2, 5, 0, 0, 0, 0)), (61, (35, 3, 36, 3, 45, 829, 0)), (64, (14, 3, 1, 69, 0, 0, 5)), (67, (8, 1, 0, 0, 0, 0, 0)), (68, (36, 1, 3, 0, 0, 0, 0)), (69, (9, 3, 3, 0, 0, 0, 1)), (72, (16, 3, 0, 14, 0, 0, (-58))), (75, (1, 1, 0, 1, 0, 0, 0)), (76, (23, 3, 1, 2, 51, 348, 0)), (79, (1, 1, 0, 1, 0, 0, 0)), (80, (23, 3, 1, 1, 25, 347, 0)), (83, (15, 3, 1, 90, 0, 0, 7)), (86, (1, 1, 2, 1, 0, 0, 0)), (87, (16, 3, 0, 91, 0, 0, 4)), (90, (8, 1, 0, 0, 0, 0, 0)), (91, (36, 1, 3, 0, 0, 0, 0))]
def tb_11 : List (Nat × zOp) := [(0, (1, 1, 0, 1, 0, 0, 0)), (1, (35, 3, 13, 1, 41, 747, 0)), (4, (4, 1, 1, 1, 0, 0, 0)), (5, (1, 1, 0, 1, 0, 0, 0)), (6, (23, 3, 1, 2, 51, 348, 0)), (9, (1, 1, 0, 1, 0, 0, 0)), (10, (23, 3, 1, 1, 25, 347, 0)), (13, (15, 3, 1, 20, 0, 0, 7)), (16, (1, 1, 1, 1, 0, 0, 0)), (17, (16, 3, 0, 21, 0, 0, 4)), (20, (8, 1, 0, 0, 0, 0, 0)), (21, (36, 1, 3, 0, 0, 0, 0))]
def tb_12 : List (Nat × zOp) := [(0, (1, 1, 0, 1, 0, 0, 0)), (1, (23, 3, 1, 2, 51, 348, 0)), (4, (3, 1, 2, 1, 0, 0, 0)), (5, (1, 1, 0, 1, 0, 0, 0)), (6, (35, 3, 16, 1, 54, 385, 0)), (9, (6, 1, 0, 0, 0, 0, 3)), (10, (15, 3, 0, 15, 0, 0, 5)), (13, (8, 1, 0, 0, 0, 0, 0)), (14, (36, 1, 3, 0, 0, 0, 0)), (15, (1, 1, 0, 1, 0, 0, 0)), (16, (35, 3, 18, 1, 56, 398, 0)), (19, (4, 1, 3, 1, 0, 0, 0)), (20, (1, 1, 3, 1, 0, 0, 0)), (21, (17, 3, 0, 42, 0, 0, 21)), (24, (1, 1, 0, 1, 0, 0, 0)), (25, (35, 3, 21, 1, 60, 679, 0)), (28, (14, 3, 0, 42, 0, 0, 14)), (31, (1, 1, 0, 1, 0, 0, 0)), (32, (23, 3, 1, 2, 51, 348, 0)), (35, (0, 1, 2, 1, 0, 0, 0)), (36, (10, 1, 1, 0, 0, 0, 0)), (37, (6, 2, 0, 1, 0, 0, 24)), (39, (15, 3, 5, 44, 0, 0, 5)), (42, (8, 1, 0, 0, 0, 0, 0)), (43, (36, 1, 3, 0, 0, 0, 0)), (44, (32, 3, 7, 4, 64, 683, 0)), (47, (20, 1, 0, 0, 0, 0, 0)), (48, (1, 1, 0, 1, 0, 0, 0)), (49, (23, 3, 1, 3, 9, 349, 3)), (52, (6, 1, 0, 0, 0, 0, 0)), (53, (25, 1, 1, 0, 0, 0, 0)), (54, (1, 1, 0, 1, 0, 0, 0)), (55, (23, 3, 1, 3, 9, 349, 3)), (58, (6, 1, 0, 0, 0, 0, 1)), (59, (25, 1, 1, 0, 0, 0, 0)), (60, (1, 1, 0, 1, 0, 0, 0)), (61, (23, 3, 1, 3, 9, 349, 3)), (64, (6, 1, 0, 0, 0, 0, 2)), (65, (25, 1, 1, 0, 0, 0, 0)), (66, (1, 1, 3, 1, 0, 0, 0)), (67, (35, 3, 66, 5, 66, 685, 2)), (70, (4, 2, 4, 0, 0, 0, 0)), (72, (32, 3, 3, 7, 46, 704, 0)), (75, (20, 1, 0, 0, 0, 0, 0)), (76, (0, 1, 1, 1, 0, 0, 0)), (77, (1, 2, 4, 0, 0, 0, 0)), (79, (1, 1, 0, 1, 0, 0, 0)), (80, (23, 3, 1, 0, 15, 346, 3)), (83, (0, 1, 2, 1, 0, 0, 0)), (84, (1, 1, 0, 1, 0, 0, 0)), (85, (23, 3, 1, 2, 51, 348, 0)), (88, (35, 3, 4, 3, 69, 420, 1)), (91, (35, 3, 35, 4, 75, 706, 2)), (94, (36, 1, 3, 0, 0, 0, 0))]
def tb_13 : List (Nat × zOp) := [(0, (32, 3, 4, 2, 78, 751, 0)), (3, (20, 1, 0, 0, 0, 0, 0)), (4, (35, 3, 40, 1, 80, 753, 5)), (7, (4, 1, 1, 1, 0, 0, 0)), (8, (6, 1, 0, 0, 0, 0, 0)), (9, (3, 1, 2, 1, 0, 0, 0)), (10, (0, 1, 2, 1, 0, 0, 0)), (11, (6, 1, 0, 0, 0, 0, 4)), (12, (15, 3, 3, 56, 0, 0, 44)), (15, (1, 1, 0, 1, 0, 0, 0)), (16, (35, 3, 23, 1, 81, 766, 0)), (19, (1, 1, 0, 1, 0, 0, 0)), (20, (35, 3, 14, 1, 84, 770, 0)), (23, (4, 1, 3, 1, 0, 0, 0)), (24, (1, 1, 3, 1, 0, 0, 0)), (25, (18, 3, 0, 30, 0, 0, 5)), (28, (8, 1, 0, 0, 0, 0, 0)), (29, (36, 1, 3, 0, 0, 0, 0)), (30, (1, 1, 1, 1, 0, 0, 0)), (31, (1, 1, 3, 1, 0, 0, 0)), (32, (35, 3, 41, 2, 88, 825, 0)), (35, (1, 1, 0, 1, 0, 0, 0)), (36, (35, 3, 23, 1, 81, 766, 0)), (39, (1, 1, 0, 1, 0, 0, 0)), (40, (6, 2, 0, 1, 0, 0, 44)), (42, (35, 3, 25, 2, 33, 402, 0)), (45, (14, 3, 1, 50, 0, 0, 5)), (48, (1, 1, 1, 1, 0, 0, 0)), (49, (36, 1, 3, 0, 0, 0, 0)), (50, (9, 3, 2, 0, 0, 0, 1)), (53, (16, 3, 0, 10, 0, 0, (-43))), (56, (8, 1, 0, 0, 0, 0, 0)), (57, (36, 1, 3, 0, 0, 0, 0))]
def tb_14 : List (Nat × zOp) := [(0, (1, 1, 0, 1, 0, 0, 0)), (1, (6, 2, 0, 1, 0, 0, 42)), (3, (35, 3, 25, 2, 33, 402, 0)), (6, (14, 3, 0, 13, 0, 0, 7)), (9, (35, 3, 59, 0, 91, 774, 1)), (12, (36, 1, 3, 0, 0, 0, 0)), (13, (1, 1, 0, 1, 0, 0, 0)), (14, (23, 3, 1, 2, 51, 348, 0)), (17, (3, 1, 1, 1, 0, 0, 0)), (18, (1, 1, 0, 1, 0, 0, 0)), (19, (35, 3, 15, 1, 96, 799, 0)), (22, (3, 1, 2, 1, 0, 0, 0)), (23, (1, 1, 0, 1, 0, 0, 0)), (24, (23, 3, 1, 2, 51, 348, 0)), (27, (0, 1, 1, 1, 0, 0, 0)), (28, (15, 3, 5, 35, 0, 0, 7)), (31, (6, 1, 0, 0, 0, 0, 1)), (32, (16, 3, 0, 36, 0, 0, 4)), (35, (6, 1, 0, 0, 0, 0, 0)), (36, (3, 1, 3, 1, 0, 0, 0)), (37, (1, 1, 0, 1, 0, 0, 0)), (38, (23, 3, 1, 2, 51, 348, 0)), (41, (3, 1, 1, 1, 0, 0, 0)), (42, (1, 1, 0, 1, 0, 0, 0)), (43, (35, 3, 16, 1, 54, 385, 0)), (46, (3, 2, 4, 0, 0, 0, 0)), (48, (0, 2, 4, 0, 0, 0, 0)), (50, (14, 3, 1, 55, 0, 0, 5)), (53, (8, 1, 0, 0, 0, 0, 0)), (54, (36, 1, 3, 0, 0, 0, 0)), (55, (0, 2, 4, 0, 0, 0, 0)), (57, (6, 1, 0, 0, 0, 0, 3)), (58, (15, 3, 3, 85, 0, 0, 27)), (61, (0, 1, 3, 1, 0, 0, 0)), (62, (14, 3, 1, 85, 0, 0, 23)), (65, (1, 1, 0, 1, 0, 0, 0)), (66, (6, 2, 0, 1, 0, 0, 46)), (68, (35, 3, 25, 2, 33, 402, 0)), (71, (14, 3, 0, 85, 0, 0, 14)), (74, (1, 1, 0, 1, 0, 0, 0)), (75, (6, 2, 0, 1, 0, 0, 42)), (77, (35, 3, 25, 2, 33, 402, 0)), (80, (14, 3, 0, 85, 0, 0, 5)), (83, (6, 1, 0, 0, 0, 0, 1)), (84, (3, 1, 2, 1, 0, 0, 0)), (85, (0, 2, 4, 0, 0, 0, 0)), (87, (6, 1, 0, 0, 0, 0, 3)), (88, (15, 3, 1, 98, 0, 0, 10)), (91, (1, 1, 0, 1, 0, 0, 0)), (92, (35, 3, 18, 1, 56, 398, 0)), (95, (16, 3, 0, 102, 0, 0, 7)), (98, (6, 1, 0, 0, 0, 0, 0)), (99, (34, 3, 7, 0, 99, 414, 0)), (102, (4, 2, 5, 0, 0, 0, 0)), (104, (1, 2, 5, 0, 0, 0, 0)), (106, (17, 3, 0, 120, 0, 0, 14)), (109, (1, 1, 0, 1, 0, 0, 0)), (110, (23, 3, 1, 2, 51, 348, 0)), (113, (0, 1, 1, 1, 0, 0, 0)), (114, (10, 1, 1, 0, 0, 0, 0)), (115, (6, 2, 0, 1, 0, 0, 24)), (117, (15, 3, 5, 122, 0, 0, 5)), (120, (8, 1, 0, 0, 0, 0, 0)), (121, (36, 1, 3, 0, 0, 0, 0)), (122, (32, 3, 7, 4, 64, 683, 0)), (125, (20, 1, 0, 0, 0, 0, 0)), (126, (1, 1, 0, 1, 0, 0, 0)), (127, (23, 3, 1, 3, 9, 349, 3)), (130, (6, 1, 0, 0, 0, 0, 0)), (131, (25, 1, 1, 0, 0, 0, 0)), (132, (1, 1, 0, 1, 0, 0, 0)), (133, (23, 3, 1, 3, 9, 349, 3)), (136, (6, 1, 0, 0, 0, 0, 1)), (137, (25, 1, 1, 0, 0, 0, 0)), (138, (1, 1, 0, 1, 0, 0, 0)), (139, (23, 3, 1, 3, 9, 349, 3)), (142, (6, 1, 0, 0, 0, 0, 2)), (143, (25, 1, 1, 0, 0, 0, 0)), (144, (1, 2, 5, 0, 0, 0, 0)), (146, (35, 3, 66, 5, 66, 685, 2)), (149, (4, 2, 6, 0, 0, 0, 0)), (151, (0, 1, 2, 1, 0, 0, 0)), (152, (1, 2, 6, 0, 0, 0, 0)), (154, (0, 2, 4, 0, 0, 0, 0)), (156, (35, 3, 60, 3, 101, 803, 1)), (159, (36, 1, 3, 0, 0, 0, 0))]
def tb_15 : List (Nat × zOp) := [(0, (1, 1, 0, 1, 0, 0, 0)), (1, (6, 2, 0, 1, 0, 0, 126)), (3, (35, 3, 25, 2, 33, 402, 0)), (6, (14, 3, 0, 11, 0, 0, 5)), (9, (6, 1, 0, 0, 0, 0, 1)), (10, (36, 1, 0, 0, 0, 0, 0)), (11, (1, 1, 0, 1, 0, 0, 0)), (12, (6, 2, 0, 1, 0, 0, 61)), (14, (35, 3, 25, 2, 33, 402, 0)), (17, (14, 3, 0, 22, 0, 0, 5)), (20, (6, 1, 0, 0, 0, 0, 2)), (21, (36, 1, 0, 0, 0, 0, 0)), (22, (1, 1, 0, 1, 0, 0, 0)), (23, (6, 2, 0, 1, 0, 0, 62)), (25, (35, 3, 25, 2, 33, 402, 0)), (28, (14, 3, 0, 46, 0, 0, 18)), (31, (1, 1, 0, 1, 0, 0, 0)), (32, (6, 2, 0, 1, 0, 0, 61)), (34, (35, 3, 25, 2, 33, 402, 0)), (37, (14, 3, 0, 44, 0, 0, 7)), (40, (6, 1, 0, 0, 0, 0, 4)), (41, (16, 3, 0, 45, 0, 0, 4)), (44, (6, 1, 0, 0, 0, 0, 3)), (45, (36, 1, 0, 0, 0, 0, 0)), (46, (1, 1, 0, 1, 0, 0, 0)), (47, (6, 2, 0, 1, 0, 0, 60)), (49, (35, 3, 25, 2, 33, 402, 0)), (52, (14, 3, 0, 71, 0, 0, 19)), (55, (1, 1, 0, 1, 0, 0, 0)), (56, (6, 2, 0, 1, 0, 0, 61)), (58, (35, 3, 25, 2, 33, 402, 0)), (61, (14, 3, 0, 69, 0, 0, 8)), (64, (6, 2, 0, 1, 0, 0, 6)), (66, (16, 3, 0, 70, 0, 0, 4)), (69, (6, 1, 0, 0, 0, 0, 5)), (70, (36, 1, 0, 0, 0, 0, 0)), (71, (1, 1, 0, 1, 0, 0, 0)), (72, (6, 2, 0, 1, 0, 0, 94)), (74, (35, 3, 25, 2, 33, 402, 0)), (77, (22, 1, 0, 0, 0, 0, 0)), (78, (6, 1, 0, 0, 0, 0, 0)), (79, (36, 1, 0, 0, 0, 0, 0))]
def tb_16 : List (Nat × zOp) := [(0, (1, 1, 0, 1, 0, 0, 0)), (1, (23, 3, 1, 3, 9, 349, 3)), (4, (6, 1, 0, 0, 0, 0, 0)), (5, (35, 3, 2, 2, 105, 389, 1)), (8, (6, 1, 0, 0, 0, 0, 0)), (9, (3, 1, 1, 1, 0, 0, 0)), (10, (0, 1, 1, 1, 0, 0, 0)), (11, (1, 1, 0, 1, 0, 0, 0)), (12, (23, 3, 1, 3, 9, 349, 3)), (15, (31, 1, 0, 0, 0, 0, 0)), (16, (15, 3, 3, 91, 0, 0, 75)), (19, (1, 1, 0, 1, 0, 0, 0)), (20, (35, 3, 17, 1, 109, 390, 0)), (23, (3, 1, 2, 1, 0, 0, 0)), (24, (0, 1, 2, 1, 0, 0, 0)), (25, (6, 1, 0, 0, 0, 0, (-1))), (26, (15, 3, 1, 31, 0, 0, 5)), (29, (6, 1, 0, 0, 0, 0, 0)), (30, (36, 1, 0, 0, 0, 0, 0)), (31, (1, 1, 0, 1, 0, 0, 0)), (32, (23, 3, 1, 3, 9, 349, 3)), (35, (0, 1, 1, 1, 0, 0, 0)), (36, (0, 1, 2, 1, 0, 0, 0)), (37, (26, 1, 1, 0, 0, 0, 0)), (38, (0, 1, 1, 1, 0, 0, 0)), (39, (6, 1, 0, 0, 0, 0, 2)), (40, (15, 3, 0, 71, 0, 0, 31)), (43, (1, 1, 0, 1, 0, 0, 0)), (44, (1, 1, 0, 1, 0, 0, 0)), (45, (23, 3, 1, 2, 51, 348, 0)), (48, (6, 2, 0, 1, 0, 0, 46)), (50, (35, 3, 26, 3, 112, 394, 0)), (53, (14, 3, 0, 71, 0, 0, 18)), (56, (1, 1, 0, 1, 0, 0, 0)), (57, (1, 1, 0, 1, 0, 0, 0)), (58, (23, 3, 1, 2, 51, 348, 0)), (61, (6, 1, 0, 0, 0, 0, 1)), (62, (10, 1, 0, 0, 0, 0, 0)), (63, (6, 2, 0, 1, 0, 0, 42)), (65, (35, 3, 26, 3, 112, 394, 0)), (68, (14, 3, 0, 75, 0, 0, 7)), (71, (0, 1, 1, 1, 0, 0, 0)), (72, (6, 1, 0, 0, 0, 0, 1)), (73, (10, 1, 0, 0, 0, 0, 0)), (74, (36, 1, 0, 0, 0, 0, 0)), (75, (1, 1, 0, 1, 0, 0, 0)), (76, (20, 1, 0, 0, 0, 0, 0)), (77, (23, 3, 1, 2, 51, 348, 0)), (80, (6, 1, 0, 0, 0, 0, 1)), (81, (10, 1, 0, 0, 0, 0, 0)), (82, (24, 3, 1, 2, 51, 348, 0)), (85, (9, 3, 1, 0, 0, 0, 1)), (88, (16, 3, 0, 10, 0, 0, (-78))), (91, (6, 1, 0, 0, 0, 0, 0)), (92, (36, 1, 0, 0, 0, 0, 0))]
def tb_17 : List (Nat × zOp) := [(0, (1, 1, 0, 1, 0, 0, 0)), (1, (23, 3, 1, 2, 51, 348, 0)), (4, (3, 1, 1, 1, 0, 0, 0)), (5, (6, 1, 0, 0, 0, 0, 0)), (6, (3, 1, 2, 1, 0, 0, 0)), (7, (1, 1, 0, 1, 0, 0, 0)), (8, (23, 3, 1, 2, 51, 348, 0)), (11, (1, 1, 0, 1, 0, 0, 0)), (12, (23, 3, 1, 1, 25, 347, 0)), (15, (15, 3, 3, 77, 0, 0, 62)), (18, (1, 1, 0, 1, 0, 0, 0)), (19, (23, 3, 1, 0, 15, 346, 3)), (22, (1, 1, 0, 1, 0, 0, 0)), (23, (23, 3, 1, 2, 51, 348, 0)), (26, (25, 1, 0, 0, 0, 0, 0)), (27, (6, 2, 0, 1, 0, 0, 48)), (29, (15, 3, 2, 77, 0, 0, 48)), (32, (1, 1, 0, 1, 0, 0, 0)), (33, (23, 3, 1, 0, 15, 346, 3)), (36, (1, 1, 0, 1, 0, 0, 0)), (37, (23, 3, 1, 2, 51, 348, 0)), (40, (25, 1, 0, 0, 0, 0, 0)), (41, (6, 2, 0, 1, 0, 0, 57)), (43, (15, 3, 4, 77, 0, 0, 34)), (46, (6, 2, 0, 1, 0, 0, 10)), (48, (0, 1, 2, 1, 0, 0, 0)), (49, (10, 1, 2, 0, 0, 0, 0)), (50, (1, 1, 0, 1, 0, 0, 0)), (51, (23, 3, 1, 0, 15, 346, 3)), (54, (1, 1, 0, 1, 0, 0, 0)), (55, (23, 3, 1, 2, 51, 348, 0)), (58, (25, 1, 0, 0, 0, 0, 0)), (59, (10, 1, 0, 0, 0, 0, 0)), (60, (6, 2, 0, 1, 0, 0, 48)), (62, (10, 1, 1, 0, 0, 0, 0)), (63, (3, 1, 2, 1, 0, 0, 0)), (64, (1, 1, 0, 1, 0, 0, 0)), (65, (20, 1, 0, 0, 0, 0, 0)), (66, (23, 3, 1, 2, 51, 348, 0)), (69, (6, 1, 0, 0, 0, 0, 1)), (70, (10, 1, 0, 0, 0, 0, 0)), (71, (24, 3, 1, 2, 51, 348, 0)), (74, (16, 3, 0, 7, 0, 0, (-67))), (77, (1, 1, 0, 1, 0, 0, 0)), (78, (23, 3, 1, 2, 51, 348, 0)), (81, (0, 1, 1, 1, 0, 0, 0)), (82, (10, 1, 1, 0, 0, 0, 0)), (83, (3, 1, 3, 1, 0, 0, 0)), (84, (0, 1, 3, 1, 0, 0, 0)), (85, (14, 3, 0, 94, 0, 0, 9)), (88, (0, 1, 3, 1, 0, 0, 0)), (89, (6, 2, 0, 1, 0, 0, 9)), (91, (15, 3, 5, 96, 0, 0, 5)), (94, (6, 1, 0, 0, 0, 0, (-1))), (95, (36, 1, 0, 0, 0, 0, 0)), (96, (0, 1, 3, 1, 0, 0, 0)), (97, (6, 1, 0, 0, 0, 0, 1)), (98, (15, 3, 5, 116, 0, 0, 18)), (101, (1, 1, 0, 1, 0, 0, 0)), (102, (23, 3, 1, 0, 15, 346, 3)), (105, (0, 1, 1, 1, 0, 0, 0)), (106, (25, 1, 0, 0, 0, 0, 0)), (107, (6, 2, 0, 1, 0, 0, 48)), (109, (15, 3, 1, 116, 0, 0, 7)), (112, (6, 1, 0, 0, 0, 0, (-1))), (113, (16, 3, 0, 117, 0, 0, 4)), (116, (0, 1, 2, 1, 0, 0, 0)), (117, (36, 1, 0, 0, 0, 0, 0))]
def tb_18 : List (Nat × zOp) := [(0, (1, 1, 0, 1, 0, 0, 0)), (1, (6, 2, 0, 1, 0, 0, 45)), (3, (35, 3, 25, 2, 33, 402, 0)), (6, (14, 3, 0, 16, 0, 0, 10)), (9, (1, 1, 0, 1, 0, 0, 0)), (10, (35, 3, 19, 1, 116, 406, 0)), (13, (16, 3, 0, 17, 0, 0, 4)), (16, (6, 1, 0, 0, 0, 0, 0)), (17, (34, 3, 7, 0, 99, 414, 0)), (20, (4, 1, 1, 1, 0, 0, 0)), (21, (6, 1, 0, 0, 0, 0, 0)), (22, (3, 1, 2, 1, 0, 0, 0)), (23, (0, 1, 2, 1, 0, 0, 0)), (24, (1, 1, 1, 1, 0, 0, 0)), (25, (31, 1, 0, 0, 0, 0, 0)), (26, (15, 3, 3, 65, 0, 0, 39)), (29, (0, 1, 2, 1, 0, 0, 0)), (30, (14, 3, 5, 44, 0, 0, 14)), (33, (1, 1, 0, 1, 0, 0, 0)), (34, (6, 2, 0, 1, 0, 0, 46)), (36, (35, 3, 25, 2, 33, 402, 0)), (39, (14, 3, 1, 44, 0, 0, 5)), (42, (8, 1, 0, 0, 0, 0, 0)), (43, (36, 1, 3, 0, 0, 0, 0)), (44, (1, 1, 0, 1, 0, 0, 0)), (45, (35, 3, 20, 1, 119, 416, 0)), (48, (4, 1, 3, 1, 0, 0, 0)), (49, (1, 1, 3, 1, 0, 0, 0)), (50, (18, 3, 0, 55, 0, 0, 5)), (53, (8, 1, 0, 0, 0, 0, 0)), (54, (36, 1, 3, 0, 0, 0, 0)), (55, (1, 1, 1, 1, 0, 0, 0)), (56, (0, 1, 2, 1, 0, 0, 0)), (57, (1, 1, 3, 1, 0, 0, 0)), (58, (30, 1, 7, 8, 0, 0, 0)), (59, (9, 3, 2, 0, 0, 0, 1)), (62, (16, 3, 0, 23, 0, 0, (-39))), (65, (1, 1, 1, 1, 0, 0, 0)), (66, (36, 1, 3, 0, 0, 0, 0))]
def tb_19 : List (Nat × zOp) := [(0, (1, 1, 0, 1, 0, 0, 0)), (1, (23, 3, 1, 2, 51, 348, 0)), (4, (3, 1, 1, 1, 0, 0, 0)), (5, (6, 1, 0, 0, 0, 0, 1)), (6, (3, 1, 2, 1, 0, 0, 0)), (7, (6, 1, 0, 0, 0, 0, 0)), (8, (3, 1, 3, 1, 0, 0, 0)), (9, (0, 1, 3, 1, 0, 0, 0)), (10, (1, 1, 0, 1, 0, 0, 0)), (11, (23, 3, 1, 1, 25, 347, 0)), (14, (15, 3, 3, 42, 0, 0, 28)), (17, (1, 1, 0, 1, 0, 0, 0)), (18, (35, 3, 22, 1, 123, 410, 0)), (21, (1, 1, 0, 1, 0, 0, 0)), (22, (6, 2, 0, 1, 0, 0, 46)), (24, (35, 3, 25, 2, 33, 402, 0)), (27, (14, 3, 1, 33, 0, 0, 6)), (30, (16, 3, 0, 42, 0, 0, 12)), (33, (9, 3, 2, 0, 0, 0, 1)), (36, (9, 3, 3, 0, 0, 0, 1)), (39, (16, 3, 0, 9, 0, 0, (-30))), (42, (1, 1, 0, 1, 0, 0, 0)), (43, (0, 1, 1, 1, 0, 0, 0)), (44, (24, 3, 1, 2, 51, 348, 0)), (47, (0, 1, 2, 1, 0, 0, 0)), (48, (36, 1, 0, 0, 0, 0, 0))]
def tb_20 : List (Nat × zOp) := [(0, (1, 1, 0, 1, 0, 0, 0)), (1, (23, 3, 1, 2, 51, 348, 0)), (4, (3, 1, 1, 1, 0, 0, 0)), (5, (1, 1, 0, 1, 0, 0, 0)), (6, (35, 3, 17, 1, 109, 390, 0)), (9, (3, 1, 2, 1, 0, 0, 0)), (10, (1, 1, 0, 1, 0, 0, 0)), (11, (23, 3, 1, 2, 51, 348, 0)), (14, (3, 1, 3, 1, 0, 0, 0)), (15, (1, 1, 0, 1, 0, 0, 0)), (16, (35, 3, 22, 1, 123, 410, 0)), (19, (1, 1, 0, 1, 0, 0, 0)), (20, (23, 3, 1, 2, 51, 348, 0)), (23, (0, 1, 3, 1, 0, 0, 0)), (24, (15, 3, 1, 31, 0, 0, 7)), (27, (6, 1, 0, 0, 0, 0, 1)), (28, (16, 3, 0, 32, 0, 0, 4)), (31, (6, 1, 0, 0, 0, 0, 0)), (32, (3, 2, 4, 0, 0, 0, 0)), (34, (0, 2, 4, 0, 0, 0, 0)), (36, (14, 3, 0, 46, 0, 0, 10)), (39, (0, 1, 2, 1, 0, 0, 0)), (40, (6, 1, 0, 0, 0, 0, (-1))), (41, (15, 3, 1, 46, 0, 0, 5)), (44, (8, 1, 0, 0, 0, 0, 0)), (45, (36, 1, 3, 0, 0, 0, 0)), (46, (1, 1, 0, 1, 0, 0, 0)), (47, (23, 3, 1, 0, 15, 346, 3)), (50, (0, 1, 1, 1, 0, 0, 0)), (51, (1, 1, 0, 1, 0, 0, 0)), (52, (23, 3, 1, 2, 51, 348, 0)), (55, (35, 3, 4, 3, 69, 420, 1)), (58, (4, 2, 5, 0, 0, 0, 0)), (60, (32, 3, 8, 2, 99, 414, 0)), (63, (20, 1, 0, 0, 0, 0, 0)), (64, (1, 2, 5, 0, 0, 0, 0)), (66, (0, 2, 4, 0, 0, 0, 0)), (68, (14, 3, 0, 75, 0, 0, 7)), (71, (0, 1, 2, 1, 0, 0, 0)), (72, (16, 3, 0, 76, 0, 0, 4)), (75, (6, 1, 0, 0, 0, 0, (-1))), (76, (35, 3, 71, 3, 126, 668, 2)), (79, (36, 1, 3, 0, 0, 0, 0))]
def tb_21 : List (Nat × zOp) := [(0, (1, 1, 0, 1, 0, 0, 0)), (1, (6, 2, 0, 1, 0, 0, 43)), (3, (35, 3, 25, 2, 33, 402, 0)), (6, (14, 3, 1, 11, 0, 0, 5)), (9, (6, 1, 0, 0, 0, 0, 1)), (10, (36, 1, 1, 0, 0, 0, 0)), (11, (6, 1, 0, 0, 0, 0, 0)), (12, (3, 1, 1, 1, 0, 0, 0)), (13, (0, 1, 1, 1, 0, 0, 0)), (14, (1, 1, 0, 1, 0, 0, 0)), (15, (23, 3, 1, 1, 25, 347, 0)), (18, (15, 3, 3, 57, 0, 0, 39)), (21, (1, 1, 0, 1, 0, 0, 0)), (22, (23, 3, 1, 2, 51, 348, 0)), (25, (3, 1, 2, 1, 0, 0, 0)), (26, (1, 1, 0, 1, 0, 0, 0)), (27, (35, 3, 22, 1, 123, 410, 0)), (30, (1, 1, 0, 1, 0, 0, 0)), (31, (23, 3, 1, 2, 51, 348, 0)), (34, (0, 1, 2, 1, 0, 0, 0)), (35, (15, 3, 1, 40, 0, 0, 5)), (38, (6, 1, 0, 0, 0, 0, 0)), (39, (36, 1, 1, 0, 0, 0, 0)), (40, (1, 1, 0, 1, 0, 0, 0)), (41, (6, 2, 0, 1, 0, 0, 46)), (43, (35, 3, 25, 2, 33, 402, 0)), (46, (14, 3, 1, 51, 0, 0, 5)), (49, (6, 1, 0, 0, 0, 0, 1)), (50, (36, 1, 1, 0, 0, 0, 0)), (51, (9, 3, 1, 0, 0, 0, 1)), (54, (16, 3, 0, 13, 0, 0, (-41))), (57, (6, 1, 0, 0, 0, 0, 0)), (58, (36, 1, 1, 0, 0, 0, 0))]
def tb_22 : List (Nat × zOp) := [(0, (1, 1, 0, 1, 0, 0, 0)), (1, (23, 3, 1, 2, 51, 348, 0)), (4, (1, 1, 0, 1, 0, 0, 0)), (5, (23, 3, 1, 1, 25, 347, 0)), (8, (15, 3, 3, 122, 0, 0, 114)), (11, (1, 1, 0, 1, 0, 0, 0)), (12, (23, 3, 1, 0, 15, 346, 3)), (15, (1, 1, 0, 1, 0, 0, 0)), (16, (23, 3, 1, 2, 51, 348, 0)), (19, (25, 1, 0, 0, 0, 0, 0)), (20, (6, 2, 0, 1, 0, 0, 97)), (22, (15, 3, 2, 39, 0, 0, 17)), (25, (1, 1, 0, 1, 0, 0, 0)), (26, (23, 3, 1, 0, 15, 346, 3)), (29, (1, 1, 0, 1, 0, 0, 0)), (30, (23, 3, 1, 2, 51, 348, 0)), (33, (25, 1, 0, 0, 0, 0, 0)), (34, (6, 2, 0, 1, 0, 0, 122)), (36, (15, 3, 5, 109, 0, 0, 73)), (39, (1, 1, 0, 1, 0, 0, 0)), (40, (23, 3, 1, 0, 15, 346, 3)), (43, (1, 1, 0, 1, 0, 0, 0)), (44, (23, 3, 1, 2, 51, 348, 0)), (47, (25, 1, 0, 0, 0, 0, 0)), (48, (6, 2, 0, 1, 0, 0, 65)), (50, (15, 3, 2, 67, 0, 0, 17)), (53, (1, 1, 0, 1, 0, 0, 0)), (54, (23, 3, 1, 0, 15, 346, 3)), (57, (1, 1, 0, 1, 0, 0, 0)), (58, (23, 3, 1, 2, 51, 348, 0)), (61, (25, 1, 0, 0, 0, 0, 0)), (62, (6, 2, 0, 1, 0, 0, 90)), (64, (15, 3, 5, 109, 0, 0, 45)), (67, (1, 1, 0, 1, 0, 0, 0)), (68, (23, 3, 1, 0, 15, 346, 3)), (71, (1, 1, 0, 1, 0, 0, 0)), (72, (23, 3, 1, 2, 51, 348, 0)), (75, (25, 1, 0, 0, 0, 0, 0)), (76, (6, 2, 0, 1, 0, 0, 48)), (78, (15, 3, 2, 95, 0, 0, 17)), (81, (1, 1, 0, 1, 0, 0, 0)), (82, (23, 3, 1, 0, 15, 346, 3)), (85, (1, 1, 0, 1, 0, 0, 0)), (86, (23, 3, 1, 2, 51, 348, 0)), (89, (25, 1, 0, 0, 0, 0, 0)), (90, (6, 2, 0, 1, 0, 0, 57)), (92, (15, 3, 5, 109, 0, 0, 17)), (95, (1, 1, 0, 1, 0, 0, 0)), (96, (23, 3, 1, 0, 15, 346, 3)), (99, (1, 1, 0, 1, 0, 0, 0)), (100, (23, 3, 1, 2, 51, 348, 0)), (103, (25, 1, 0, 0, 0, 0, 0)), (104, (6, 2, 0, 1, 0, 0, 45)), (106, (15, 3, 1, 122, 0, 0, 16)), (109, (1, 1, 0, 1, 0, 0, 0)), (110, (20, 1, 0, 0, 0, 0, 0)), (111, (23, 3, 1, 2, 51, 348, 0)), (114, (6, 1, 0, 0, 0, 0, 1)), (115, (10, 1, 0, 0, 0, 0, 0)), (116, (24, 3, 1, 2, 51, 348, 0)), (119, (16, 3, 0, 0, 0, 0, (-119))), (122, (37, 1, 0, 0, 0, 0, 0))]
def tb_23 : List (Nat × zOp) := [(0, (1, 1, 0, 1, 0, 0, 0)), (1, (23, 3, 1, 2, 51, 348, 0)), (4, (1, 1, 0, 1, 0, 0, 0)), (5, (23, 3, 1, 1, 25, 347, 0)), (8, (15, 3, 3, 38, 0, 0, 30)), (11, (1, 1, 0, 1, 0, 0, 0)), (12, (23, 3, 1, 0, 15, 346, 3)), (15, (1, 1, 0, 1, 0, 0, 0)), (16, (23, 3, 1, 2, 51, 348, 0)), (19, (25, 1, 0, 0, 0, 0, 0)), (20, (6, 2, 0, 1, 0, 0, 32)), (22, (15, 3, 1, 38, 0, 0, 16)), (25, (1, 1, 0, 1, 0, 0, 0)), (26, (20, 1, 0, 0, 0, 0, 0)), (27, (23, 3, 1, 2, 51, 348, 0)), (30, (6, 1, 0, 0, 0, 0, 1)), (31, (10, 1, 0, 0, 0, 0, 0)), (32, (24, 3, 1, 2, 51, 348, 0)), (35, (16, 3, 0, 0, 0, 0, (-35))), (38, (37, 1, 0, 0, 0, 0, 0))]
def tb_24 : List (Nat × zOp) := [(0, (1, 1, 0, 1, 0, 0, 0)), (1, (23, 3, 1, 2, 51, 348, 0)), (4, (1, 1, 0, 1, 0, 0, 0)), (5, (23, 3, 1, 1, 25, 347, 0)), (8, (15, 3, 3, 29, 0, 0, 21)), (11, (1, 1, 0, 1, 0, 0, 0)), (12, (23, 3, 1, 0, 15, 346, 3)), (15, (1, 1, 0, 1, 0, 0, 0)), (16, (23, 3, 1, 2, 51, 348, 0)), (19, (25, 1, 0, 0, 0, 0, 0)), (20, (6, 2, 0, 1, 0, 0, 48)), (22, (10, 1, 1, 0, 0, 0, 0)), (23, (35, 3, 95, 1, 129, 746, 4)), (26, (14, 3, 1, 31, 0, 0, 5)), (29, (6, 1, 0, 0, 0, 0, (-1))), (30, (36, 1, 0, 0, 0, 0, 0)), (31, (1, 1, 0, 1, 0, 0, 0)), (32, (20, 1, 0, 0, 0, 0, 0)), (33, (23, 3, 1, 2, 51, 348, 0)), (36, (6, 1, 0, 0, 0, 0, 1)), (37, (10, 1, 0, 0, 0, 0, 0)), (38, (24, 3, 1, 2, 51, 348, 0)), (41, (1, 1, 0, 1, 0, 0, 0)), (42, (23, 3, 1, 0, 15, 346, 3)), (45, (1, 1, 0, 1, 0, 0, 0)), (46, (23, 3, 1, 2, 51, 348, 0)), (49, (6, 1, 0, 0, 0, 0, 1)), (50, (10, 1, 1, 0, 0, 0, 0)), (51, (25, 1, 0, 0, 0, 0, 0)), (52, (6, 2, 0, 1, 0, 0, 48)), (54, (10, 1, 1, 0, 0, 0, 0)), (55, (36, 1, 0, 0, 0, 0, 0))]
def tb_25 : List (Nat × zOp) := [(0, (1, 1, 0, 1, 0, 0, 0)), (1, (23, 3, 1, 2, 51, 348, 0)), (4, (1, 1, 0, 1, 0, 0, 0)), (5, (23, 3, 1, 1, 25, 347, 0)), (8, (15, 3, 3, 24, 0, 0, 16)), (11, (1, 1, 0, 1, 0, 0, 0)), (12, (23, 3, 1, 0, 15, 346, 3)), (15, (1, 1, 0, 1, 0, 0, 0)), (16, (23, 3, 1, 2, 51, 348, 0)), (19, (25, 1, 0, 0, 0, 0, 0)), (20, (0, 1, 1, 1, 0, 0, 0)), (21, (15, 3, 0, 26, 0, 0, 5)), (24, (6, 1, 0, 0, 0, 0, 0)), (25, (36, 1, 1, 0, 0, 0, 0)), (26, (1, 1, 0, 1, 0, 0, 0)), (27, (20, 1, 0, 0, 0, 0, 0)), (28, (23, 3, 1, 2, 51, 348, 0)), (31, (6, 1, 0, 0, 0, 0, 1)), (32, (10, 1, 0, 0, 0, 0, 0)), (33, (24, 3, 1, 2, 51, 348, 0)), (36, (6, 1, 0, 0, 0, 0, 1)), (37, (36, 1, 1, 0, 0, 0, 0))]
def tb_26 : List (Nat × zOp) := [(0, (0, 1, 1, 1, 0, 0, 0)), (1, (14, 3, 2, 26, 0, 0, 25)), (4, (0, 1, 1, 1, 0, 0, 0)), (5, (1, 1, 0, 1, 0, 0, 0)), (6, (23, 3, 1, 1, 25, 347, 0)), (9, (15, 3, 3, 26, 0, 0, 17)), (12, (1, 1, 0, 1, 0, 0, 0)), (13, (23, 3, 1, 0, 15, 346, 3)), (16, (0, 1, 1, 1, 0, 0, 0)), (17, (25, 1, 0, 0, 0, 0, 0)), (18, (0, 1, 2, 1, 0, 0, 0)), (19, (15, 3, 1, 26, 0, 0, 7)), (22, (6, 1, 0, 0, 0, 0, 1)), (23, (16, 3, 0, 27, 0, 0, 4)), (26, (6, 1, 0, 0, 0, 0, 0)), (27, (36, 1, 1, 0, 0, 0, 0))]
def tb_27 : List (Nat × zOp) := [(0, (1, 1, 0, 1, 0, 0, 0)), (1, (40, 3, 0, 0, 3, 127, 0)), (4, (1, 1, 0, 1, 0, 0, 0)), (5, (6, 2, 0, 1, 0, 0, 40)), (7, (34, 3, 4, 0, 9, 128, 0)), (10, (24, 3, 2, 0, 11, 130, 3)), (13, (37, 1, 0, 0, 0, 0, 0))]
def tb_28 : List (Nat × zOp) := [(0, (0, 1, 1, 1, 0, 0, 0)), (1, (14, 3, 2, 21, 0, 0, 20)), (4, (0, 1, 1, 1, 0, 0, 0)), (5, (1, 1, 0, 1, 0, 0, 0)), (6, (23, 3, 2, 1, 17, 131, 0)), (9, (15, 3, 3, 21, 0, 0, 12)), (12, (1, 1, 0, 1, 0, 0, 0)), (13, (23, 3, 2, 0, 11, 130, 3)), (16, (0, 1, 1, 1, 0, 0, 0)), (17, (29, 1, 4, 3, 0, 0, 0)), (18, (16, 3, 0, 22, 0, 0, 4)), (21, (8, 1, 0, 0, 0, 0, 0)), (22, (36, 1, 3, 0, 0, 0, 0))]
def tb_29 : List (Nat × zOp) := [(0, (1, 1, 0, 1, 0, 0, 0)), (1, (23, 3, 2, 1, 17, 131, 0)), (4, (6, 2, 0, 1, 0, 0, 40)), (6, (15, 3, 1, 13, 0, 0, 7)), (9, (6, 1, 0, 0, 0, 0, 1)), (10, (16, 3, 0, 14, 0, 0, 4)), (13, (6, 1, 0, 0, 0, 0, 0)), (14, (36, 1, 1, 0, 0, 0, 0))]
def tb_30 : List (Nat × zOp) := [(0, (6, 1, 0, 0, 0, 0, 0)), (1, (3, 1, 2, 1, 0, 0, 0)), (2, (0, 1, 2, 1, 0, 0, 0)), (3, (1, 1, 0, 1, 0, 0, 0)), (4, (23, 3, 2, 1, 17, 131, 0)), (7, (15, 3, 3, 50, 0, 0, 43)), (10, (1, 1, 0, 1, 0, 0, 0)), (11, (23, 3, 2, 0, 11, 130, 3)), (14, (0, 1, 2, 1, 0, 0, 0)), (15, (29, 1, 4, 3, 0, 0, 0)), (16, (4, 1, 3, 1, 0, 0, 0)), (17, (1, 1, 3, 1, 0, 0, 0)), (18, (23, 3, 3, 0, 21, 713, 0)), (21, (1, 1, 1, 1, 0, 0, 0)), (22, (23, 3, 3, 0, 21, 713, 0)), (25, (15, 3, 1, 44, 0, 0, 19)), (28, (1, 1, 3, 1, 0, 0, 0)), (29, (23, 3, 3, 1, 24, 716, 3)), (32, (1, 1, 1, 1, 0, 0, 0)), (33, (23, 3, 3, 1, 24, 716, 3)), (36, (35, 3, 67, 2, 28, 838, 0)), (39, (14, 3, 1, 44, 0, 0, 5)), (42, (6, 1, 0, 0, 0, 0, 1)), (43, (36, 1, 1, 0, 0, 0, 0)), (44, (9, 3, 2, 0, 0, 0, 1)), (47, (16, 3, 0, 2, 0, 0, (-45))), (50, (6, 1, 0, 0, 0, 0, 0)), (51, (36, 1, 1, 0, 0, 0, 0))]
def tb_31 : List (Nat × zOp) := [(0, (1, 1, 0, 1, 0, 0, 0)), (1, (35, 3, 29, 1, 34, 881, 0)), (4, (14, 3, 0, 9, 0, 0, 5)), (7, (6, 1, 0, 0, 0, 0, (-1))), (8, (36, 1, 0, 0, 0, 0, 0)), (9, (1, 1, 0, 1, 0, 0, 0)), (10, (23, 3, 2, 0, 11, 130, 3)), (13, (1, 1, 0, 1, 0, 0, 0)), (14, (23, 3, 2, 1, 17, 131, 0)), (17, (1, 1, 1, 1, 0, 0, 0)), (18, (30, 1, 4, 3, 0, 0, 0)), (19, (1, 1, 0, 1, 0, 0, 0)), (20, (20, 1, 0, 0, 0, 0, 0)), (21, (23, 3, 2, 1, 17, 131, 0)), (24, (6, 1, 0, 0, 0, 0, 1)), (25, (10, 1, 0, 0, 0, 0, 0)), (26, (24, 3, 2, 1, 17, 131, 0)), (29, (1, 1, 0, 1, 0, 0, 0)), (30, (23, 3, 2, 1, 17, 131, 0)), (33, (6, 1, 0, 0, 0, 0, 1)), (34, (10, 1, 1, 0, 0, 0, 0)), (35, (36, 1, 0, 0, 0, 0, 0))]
def tb_32 : List (Nat × zOp) := [(0, (6, 1, 0, 0, 0, 0, 0)), (1, (3, 1, 1, 1, 0, 0, 0)), (2, (6, 1, 0, 0, 0, 0, 0)), (3, (3, 1, 2, 1, 0, 0, 0)), (4, (0, 1, 2, 1, 0, 0, 0)), (5, (1, 1, 0, 1, 0, 0, 0)), (6, (23, 3, 2, 1, 17, 131, 0)), (9, (15, 3, 3, 33, 0, 0, 24)), (12, (1, 1, 0, 1, 0, 0, 0)), (13, (23, 3, 2, 0, 11, 130, 3)), (16, (0, 1, 2, 1, 0, 0, 0)), (17, (29, 1, 4, 3, 0, 0, 0)), (18, (23, 3, 3, 6, 38, 725, 1)), (21, (14, 3, 0, 27, 0, 0, 6)), (24, (9, 3, 1, 0, 0, 0, 1)), (27, (9, 3, 2, 0, 0, 0, 1)), (30, (16, 3, 0, 4, 0, 0, (-26))), (33, (0, 1, 1, 1, 0, 0, 0)), (34, (36, 1, 0, 0, 0, 0, 0))]
def tb_33 : List (Nat × zOp) := [(0, (6, 1, 0, 0, 0, 0, (-1))), (1, (3, 1, 3, 1, 0, 0, 0)), (2, (6, 1, 0, 0, 0, 0, 0)), (3, (3, 2, 4, 0, 0, 0, 0)), (5, (0, 2, 4, 0, 0, 0, 0)), (7, (1, 1, 0, 1, 0, 0, 0)), (8, (23, 3, 2, 1, 17, 131, 0)), (11, (15, 3, 3, 66, 0, 0, 55)), (14, (1, 1, 0, 1, 0, 0, 0)), (15, (23, 3, 2, 0, 11, 130, 3)), (18, (0, 2, 4, 0, 0, 0, 0)), (20, (29, 1, 4, 3, 0, 0, 0)), (21, (4, 2, 5, 0, 0, 0, 0)), (23, (1, 2, 5, 0, 0, 0, 0)), (25, (23, 3, 3, 0, 21, 713, 0)), (28, (0, 1, 1, 1, 0, 0, 0)), (29, (15, 3, 1, 60, 0, 0, 31)), (32, (1, 2, 5, 0, 0, 0, 0)), (34, (23, 3, 3, 6, 38, 725, 1)), (37, (14, 3, 1, 60, 0, 0, 23)), (40, (1, 1, 2, 1, 0, 0, 0)), (41, (1, 2, 5, 0, 0, 0, 0)), (43, (23, 3, 3, 1, 24, 716, 3)), (46, (35, 3, 42, 2, 42, 1044, 0)), (49, (14, 3, 0, 60, 0, 0, 11)), (52, (1, 1, 0, 1, 0, 0, 0)), (53, (0, 1, 3, 1, 0, 0, 0)), (54, (0, 2, 4, 0, 0, 0, 0)), (56, (35, 3, 34, 3, 48, 1045, 0)), (59, (3, 1, 3, 1, 0, 0, 0)), (60, (9, 3, 4, 0, 0, 0, 1)), (63, (16, 3, 0, 5, 0, 0, (-58))), (66, (0, 1, 3, 1, 0, 0, 0)), (67, (36, 1, 0, 0, 0, 0, 0))]
def tb_34 : List (Nat × zOp) := [(0, (1, 1, 0, 1, 0, 0, 0)), (1, (0, 1, 1, 1, 0, 0, 0)), (2, (35, 3, 28, 2, 52, 1009, 0)), (5, (4, 1, 3, 1, 0, 0, 0)), (6, (1, 1, 0, 1, 0, 0, 0)), (7, (0, 1, 2, 1, 0, 0, 0)), (8, (35, 3, 28, 2, 52, 1009, 0)), (11, (4, 2, 4, 0, 0, 0, 0)), (13, (1, 1, 3, 1, 0, 0, 0)), (14, (18, 3, 0, 19, 0, 0, 5)), (17, (0, 1, 2, 1, 0, 0, 0)), (18, (36, 1, 0, 0, 0, 0, 0)), (19, (1, 2, 4, 0, 0, 0, 0)), (21, (18, 3, 0, 26, 0, 0, 5)), (24, (0, 1, 1, 1, 0, 0, 0)), (25, (36, 1, 0, 0, 0, 0, 0)), (26, (1, 1, 3, 1, 0, 0, 0)), (27, (23, 3, 3, 1, 24, 716, 3)), (30, (1, 2, 4, 0, 0, 0, 0)), (32, (23, 3, 3, 1, 24, 716, 3)), (35, (35, 3, 67, 2, 28, 838, 0)), (38, (14, 3, 3, 45, 0, 0, 7)), (41, (0, 1, 2, 1, 0, 0, 0)), (42, (16, 3, 0, 46, 0, 0, 4)), (45, (0, 1, 1, 1, 0, 0, 0)), (46, (36, 1, 0, 0, 0, 0, 0))]
def tb_35 : List (Nat × zOp) := [(0, (1, 1, 0, 1, 0, 0, 0)), (1, (40, 3, 0, 0, 3, 709, 0)), (4, (1, 1, 0, 1, 0, 0, 0)), (5, (6, 2, 0, 1, 0, 0, 8)), (7, (34, 3, 5, 0, 9, 710, 0)), (10, (24, 3, 3, 3, 11, 721, 3)), (13, (1, 1, 0, 1, 0, 0, 0)), (14, (6, 1, 0, 0, 0, 0, 5)), (15, (33, 2, 1, 0, 0, 0, 0)), (17, (24, 3, 3, 4, 17, 722, 3)), (20, (1, 1, 0, 1, 0, 0, 0)), (21, (0, 1, 1, 1, 0, 0, 0)), (22, (24, 3, 3, 0, 21, 711, 0)), (25, (1, 1, 0, 1, 0, 0, 0)), (26, (1, 1, 2, 1, 0, 0, 0)), (27, (24, 3, 3, 1, 25, 715, 3)), (30, (1, 1, 0, 1, 0, 0, 0)), (31, (1, 1, 3, 1, 0, 0, 0)), (32, (24, 3, 3, 2, 29, 719, 3)), (35, (37, 1, 0, 0, 0, 0, 0))]
def tb_36 : List (Nat × zOp) := [(0, (0, 1, 1, 1, 0, 0, 0)), (1, (35, 3, 95, 1, 33, 833, 4)), (4, (14, 3, 0, 24, 0, 0, 20)), (7, (1, 1, 0, 1, 0, 0, 0)), (8, (23, 3, 3, 3, 11, 721, 3)), (11, (0, 1, 1, 1, 0, 0, 0)), (12, (29, 1, 5, 4, 0, 0, 0)), (13, (18, 3, 0, 24, 0, 0, 11)), (16, (1, 1, 0, 1, 0, 0, 0)), (17, (23, 3, 3, 5, 37, 723, 0)), (20, (6, 1, 0, 0, 0, 0, 5)), (21, (15, 3, 1, 26, 0, 0, 5)), (24, (6, 1, 0, 0, 0, 0, 0)), (25, (36, 1, 1, 0, 0, 0, 0)), (26, (1, 1, 0, 1, 0, 0, 0)), (27, (23, 3, 3, 3, 11, 721, 3)), (30, (0, 1, 1, 1, 0, 0, 0)), (31, (1, 1, 2, 1, 0, 0, 0)), (32, (30, 1, 5, 4, 0, 0, 0)), (33, (1, 1, 0, 1, 0, 0, 0)), (34, (23, 3, 3, 4, 17, 722, 3)), (37, (1, 1, 0, 1, 0, 0, 0)), (38, (23, 3, 3, 5, 37, 723, 0)), (41, (0, 1, 1, 1, 0, 0, 0)), (42, (26, 1, 1, 0, 0, 0, 0)), (43, (1, 1, 0, 1, 0, 0, 0)), (44, (20, 1, 0, 0, 0, 0, 0)), (45, (23, 3, 3, 5, 37, 723, 0)), (48, (6, 1, 0, 0, 0, 0, 1)), (49, (10, 1, 0, 0, 0, 0, 0)), (50, (24, 3, 3, 5, 37, 723, 0)), (53, (6, 1, 0, 0, 0, 0, 1)), (54, (36, 1, 1, 0, 0, 0, 0))]
def tb_37 : List (Nat × zOp) := [(0, (0, 1, 1, 1, 0, 0, 0)), (1, (14, 3, 2, 21, 0, 0, 20)), (4, (0, 1, 1, 1, 0, 0, 0)), (5, (1, 1, 0, 1, 0, 0, 0)), (6, (23, 3, 3, 5, 37, 723, 0)), (9, (15, 3, 3, 21, 0, 0, 12)), (12, (1, 1, 0, 1, 0, 0, 0)), (13, (23, 3, 3, 4, 17, 722, 3)), (16, (0, 1, 1, 1, 0, 0, 0)), (17, (25, 1, 1, 0, 0, 0, 0)), (18, (16, 3, 0, 22, 0, 0, 4)), (21, (6, 1, 0, 0, 0, 0, (-1))), (22, (36, 1, 0, 0, 0, 0, 0))]
def tb_38 : List (Nat × zOp) := [(0, (0, 1, 1, 1, 0, 0, 0)), (1, (35, 3, 95, 1, 33, 833, 4)), (4, (14, 3, 0, 20, 0, 0, 16)), (7, (1, 1, 0, 1, 0, 0, 0)), (8, (23, 3, 3, 3, 11, 721, 3)), (11, (0, 1, 1, 1, 0, 0, 0)), (12, (29, 1, 5, 4, 0, 0, 0)), (13, (17, 3, 0, 20, 0, 0, 7)), (16, (6, 1, 0, 0, 0, 0, 1)), (17, (16, 3, 0, 21, 0, 0, 4)), (20, (6, 1, 0, 0, 0, 0, 0)), (21, (36, 1, 1, 0, 0, 0, 0))]
def tb_39 : List (Nat × zOp) := [(0, (1, 1, 0, 1, 0, 0, 0)), (1, (23, 3, 3, 3, 11, 721, 3)), (4, (1, 1, 1, 1, 0, 0, 0)), (5, (23, 3, 3, 0, 21, 711, 0)), (8, (29, 1, 5, 4, 0, 0, 0)), (9, (4, 1, 2, 1, 0, 0, 0)), (10, (1, 1, 2, 1, 0, 0, 0)), (11, (17, 3, 0, 29, 0, 0, 18)), (14, (1, 1, 2, 1, 0, 0, 0)), (15, (1, 1, 1, 1, 0, 0, 0)), (16, (23, 3, 3, 1, 25, 715, 3)), (19, (35, 3, 42, 2, 40, 899, 0)), (22, (14, 3, 1, 29, 0, 0, 7)), (25, (6, 1, 0, 0, 0, 0, 1)), (26, (16, 3, 0, 30, 0, 0, 4)), (29, (6, 1, 0, 0, 0, 0, 0)), (30, (36, 1, 1, 0, 0, 0, 0))]
def tb_40 : List (Nat × zOp) := [(0, (1, 1, 0, 1, 0, 0, 0)), (1, (40, 3, 0, 0, 3, 756, 0)), (4, (1, 1, 0, 1, 0, 0, 0)), (5, (6, 1, 0, 0, 0, 0, 4)), (6, (34, 3, 6, 0, 9, 757, 0)), (9, (24, 3, 4, 0, 11, 759, 3)), (12, (37, 1, 0, 0, 0, 0, 0))]
def tb_41 : List (Nat × zOp) := [(0, (1, 1, 0, 1, 0, 0, 0)), (1, (23, 3, 4, 1, 17, 760, 0)), (4, (6, 1, 0, 0, 0, 0, 4)), (5, (15, 3, 3, 28, 0, 0, 23)), (8, (1, 1, 0, 1, 0, 0, 0)), (9, (23, 3, 4, 0, 11, 759, 3)), (12, (1, 1, 0, 1, 0, 0, 0)), (13, (23, 3, 4, 1, 17, 760, 0)), (16, (1, 1, 1, 1, 0, 0, 0)), (17, (30, 1, 6, 6, 0, 0, 0)), (18, (1, 1, 0, 1, 0, 0, 0)), (19, (20, 1, 0, 0, 0, 0, 0)), (20, (23, 3, 4, 1, 17, 760, 0)), (23, (6, 1, 0, 0, 0, 0, 1)), (24, (10, 1, 0, 0, 0, 0, 0)), (25, (24, 3, 4, 1, 17, 760, 0)), (28, (37, 1, 0, 0, 0, 0, 0))]
def tb_42 : List (Nat × zOp) := [(0, (1, 1, 1, 1, 0, 0, 0)), (1, (35, 3, 69, 1, 21, 903, 0)), (4, (14, 3, 1, 11, 0, 0, 7)), (7, (6, 1, 0, 0, 0, 0, 1)), (8, (16, 3, 0, 12, 0, 0, 4)), (11, (6, 1, 0, 0, 0, 0, 0)), (12, (3, 1, 2, 1, 0, 0, 0)), (13, (6, 1, 0, 0, 0, 0, 0)), (14, (3, 1, 3, 1, 0, 0, 0)), (15, (0, 1, 3, 1, 0, 0, 0)), (16, (1, 1, 0, 1, 0, 0, 0)), (17, (23, 3, 4, 1, 17, 760, 0)), (20, (15, 3, 3, 67, 0, 0, 47)), (23, (1, 1, 0, 1, 0, 0, 0)), (24, (23, 3, 4, 0, 11, 759, 3)), (27, (0, 1, 3, 1, 0, 0, 0)), (28, (29, 1, 6, 6, 0, 0, 0)), (29, (1, 1, 1, 1, 0, 0, 0)), (30, (35, 3, 64, 2, 27, 904, 0)), (33, (14, 3, 1, 38, 0, 0, 5)), (36, (6, 1, 0, 0, 0, 0, 0)), (37, (36, 1, 1, 0, 0, 0, 0)), (38, (0, 1, 2, 1, 0, 0, 0)), (39, (14, 3, 1, 55, 0, 0, 16)), (42, (1, 1, 0, 1, 0, 0, 0)), (43, (23, 3, 4, 0, 11, 759, 3)), (46, (0, 1, 3, 1, 0, 0, 0)), (47, (29, 1, 6, 6, 0, 0, 0)), (48, (1, 1, 1, 1, 0, 0, 0)), (49, (35, 3, 65, 2, 31, 909, 0)), (52, (14, 3, 0, 59, 0, 0, 7)), (55, (6, 1, 0, 0, 0, 0, 1)), (56, (16, 3, 0, 60, 0, 0, 4)), (59, (6, 1, 0, 0, 0, 0, 0)), (60, (3, 1, 2, 1, 0, 0, 0)), (61, (9, 3, 3, 0, 0, 0, 1)), (64, (16, 3, 0, 15, 0, 0, (-49))), (67, (0, 1, 2, 1, 0, 0, 0)), (68, (36, 1, 1, 0, 0, 0, 0))]
def tb_43 : List (Nat × zOp) := [(0, (1, 1, 0, 1, 0, 0, 0)), (1, (40, 3, 0, 0, 3, 144, 0)), (4, (1, 1, 0, 1, 0, 0, 0)), (5, (6, 2, 0, 1, 0, 0, 48)), (7, (33, 2, 1, 0, 0, 0, 0)), (9, (24, 3, 5, 1, 11, 146, 3)), (12, (1, 1, 0, 1, 0, 0, 0)), (13, (6, 2, 0, 1, 0, 0, 8)), (15, (33, 2, 2, 0, 0, 0, 0)), (17, (24, 3, 5, 2, 15, 147, 3)), (20, (1, 1, 0, 1, 0, 0, 0)), (21, (6, 2, 0, 1, 0, 0, 48)), (23, (33, 2, 2, 0, 0, 0, 0)), (25, (24, 3, 5, 3, 19, 148, 3)), (28, (1, 1, 0, 1, 0, 0, 0)), (29, (6, 2, 0, 1, 0, 0, 8)), (31, (33, 2, 2, 0, 0, 0, 0)), (33, (24, 3, 5, 4, 22, 149, 3)), (36, (1, 1, 0, 1, 0, 0, 0)), (37, (1, 1, 1, 1, 0, 0, 0)), (38, (24, 3, 5, 0, 25, 145, 3)), (41, (6, 1, 0, 0, 0, 0, 0)), (42, (3, 1, 2, 1, 0, 0, 0)), (43, (0, 1, 2, 1, 0, 0, 0)), (44, (6, 2, 0, 1, 0, 0, 8)), (46, (15, 3, 3, 77, 0, 0, 31)), (49, (1, 1, 0, 1, 0, 0, 0)), (50, (23, 3, 5, 1, 11, 146, 3)), (53, (6, 2, 0, 1, 0, 0, 40)), (55, (0, 1, 2, 1, 0, 0, 0)), (56, (10, 1, 0, 0, 0, 0, 0)), (57, (0, 1, 2, 1, 0, 0, 0)), (58, (26, 1, 1, 0, 0, 0, 0)), (59, (1, 1, 0, 1, 0, 0, 0)), (60, (23, 3, 5, 2, 15, 147, 3)), (63, (0, 1, 2, 1, 0, 0, 0)), (64, (7, 1, 0, 0, 0, 0, 1)), (65, (6, 2, 0, 1, 0, 0, 40)), (67, (0, 1, 2, 1, 0, 0, 0)), (68, (10, 1, 0, 0, 0, 0, 0)), (69, (12, 1, 0, 0, 0, 0, 0)), (70, (28, 1, 0, 0, 0, 0, 0)), (71, (9, 3, 2, 0, 0, 0, 1)), (74, (16, 3, 0, 43, 0, 0, (-31))), (77, (37, 1, 0, 0, 0, 0, 0))]
def tb_44 : List (Nat × zOp) := [(0, (2, 1, 0, 1, 0, 0, 0)), (1, (0, 1, 2, 1, 0, 0, 0)), (2, (12, 1, 2, 0, 0, 0, 0)), (3, (7, 1, 0, 0, 0, 0, 1)), (4, (11, 1, 2, 0, 0, 0, 0)), (5, (7, 1, 0, 0, 0, 0, 0)), (6, (19, 1, 0, 0, 0, 0, 0)), (7, (14, 3, 0, 14, 0, 0, 7)), (10, (6, 1, 0, 0, 0, 0, 1)), (11, (16, 3, 0, 15, 0, 0, 4)), (14, (6, 1, 0, 0, 0, 0, 0)), (15, (36, 1, 1, 0, 0, 0, 0))]
def tb_45 : List (Nat × zOp) := [(0, (0, 1, 1, 1, 0, 0, 0)), (1, (14, 3, 2, 10, 0, 0, 9)), (4, (0, 1, 1, 1, 0, 0, 0)), (5, (6, 2, 0, 1, 0, 0, 40)), (7, (15, 3, 2, 11, 0, 0, 4)), (10, (37, 1, 0, 0, 0, 0, 0)), (11, (1, 1, 0, 1, 0, 0, 0)), (12, (23, 3, 5, 1, 11, 146, 3)), (15, (0, 1, 1, 1, 0, 0, 0)), (16, (1, 1, 2, 1, 0, 0, 0)), (17, (23, 3, 3, 0, 29, 712, 0)), (20, (26, 1, 1, 0, 0, 0, 0)), (21, (1, 1, 0, 1, 0, 0, 0)), (22, (23, 3, 5, 2, 15, 147, 3)), (25, (1, 1, 2, 1, 0, 0, 0)), (26, (23, 3, 3, 0, 29, 712, 0)), (29, (21, 1, 0, 0, 0, 0, 0)), (30, (27, 1, 0, 0, 0, 0, 0)), (31, (7, 1, 0, 0, 0, 0, 1)), (32, (0, 1, 1, 1, 0, 0, 0)), (33, (12, 1, 0, 0, 0, 0, 0)), (34, (11, 1, 3, 0, 0, 0, 0)), (35, (28, 1, 0, 0, 0, 0, 0)), (36, (6, 1, 0, 0, 0, 0, 0)), (37, (3, 1, 3, 1, 0, 0, 0)), (38, (0, 1, 3, 1, 0, 0, 0)), (39, (6, 2, 0, 1, 0, 0, 8)), (41, (15, 3, 3, 67, 0, 0, 26)), (44, (1, 1, 2, 1, 0, 0, 0)), (45, (0, 1, 3, 1, 0, 0, 0)), (46, (35, 3, 38, 2, 35, 886, 0)), (49, (14, 3, 0, 61, 0, 0, 12)), (52, (1, 1, 0, 1, 0, 0, 0)), (53, (0, 1, 1, 1, 0, 0, 0)), (54, (6, 2, 0, 1, 0, 0, 40)), (56, (0, 1, 3, 1, 0, 0, 0)), (57, (10, 1, 0, 0, 0, 0, 0)), (58, (35, 3, 46, 3, 39, 890, 0)), (61, (9, 3, 3, 0, 0, 0, 1)), (64, (16, 3, 0, 38, 0, 0, (-26))), (67, (6, 1, 0, 0, 0, 0, 0)), (68, (3, 1, 3, 1, 0, 0, 0)), (69, (0, 1, 3, 1, 0, 0, 0)), (70, (1, 1, 0, 1, 0, 0, 0)), (71, (23, 3, 5, 0, 25, 145, 3)), (74, (23, 3, 2, 1, 43, 132, 0)), (77, (15, 3, 3, 125, 0, 0, 48)), (80, (1, 1, 0, 1, 0, 0, 0)), (81, (23, 3, 5, 0, 25, 145, 3)), (84, (0, 1, 3, 1, 0, 0, 0)), (85, (35, 3, 28, 2, 48, 894, 0)), (88, (4, 2, 4, 0, 0, 0, 0)), (90, (1, 2, 4, 0, 0, 0, 0)), (92, (17, 3, 0, 119, 0, 0, 27)), (95, (1, 1, 2, 1, 0, 0, 0)), (96, (1, 2, 4, 0, 0, 0, 0)), (98, (35, 3, 39, 2, 52, 895, 0)), (101, (14, 3, 1, 113, 0, 0, 12)), (104, (1, 2, 4, 0, 0, 0, 0)), (106, (1, 1, 2, 1, 0, 0, 0)), (107, (35, 3, 39, 2, 52, 895, 0)), (110, (14, 3, 0, 119, 0, 0, 9)), (113, (1, 1, 0, 1, 0, 0, 0)), (114, (0, 1, 1, 1, 0, 0, 0)), (115, (0, 1, 3, 1, 0, 0, 0)), (116, (35, 3, 46, 3, 39, 890, 0)), (119, (9, 3, 3, 0, 0, 0, 1)), (122, (16, 3, 0, 69, 0, 0, (-53))), (125, (37, 1, 0, 0, 0, 0, 0))]
def tb_46 : List (Nat × zOp) := [(0, (1, 1, 0, 1, 0, 0, 0)), (1, (23, 3, 5, 3, 19, 148, 3)), (4, (0, 1, 1, 1, 0, 0, 0)), (5, (21, 1, 0, 0, 0, 0, 0)), (6, (27, 1, 0, 0, 0, 0, 0)), (7, (7, 1, 0, 0, 0, 0, 1)), (8, (0, 1, 2, 1, 0, 0, 0)), (9, (12, 1, 0, 0, 0, 0, 0)), (10, (11, 1, 3, 0, 0, 0, 0)), (11, (28, 1, 0, 0, 0, 0, 0)), (12, (1, 1, 0, 1, 0, 0, 0)), (13, (23, 3, 5, 3, 19, 148, 3)), (16, (0, 1, 2, 1, 0, 0, 0)), (17, (21, 1, 0, 0, 0, 0, 0)), (18, (27, 1, 0, 0, 0, 0, 0)), (19, (7, 1, 0, 0, 0, 0, 1)), (20, (0, 1, 1, 1, 0, 0, 0)), (21, (12, 1, 0, 0, 0, 0, 0)), (22, (11, 1, 3, 0, 0, 0, 0)), (23, (28, 1, 0, 0, 0, 0, 0)), (24, (37, 1, 0, 0, 0, 0, 0))]
def tb_47 : List (Nat × zOp) := [(0, (1, 1, 0, 1, 0, 0, 0)), (1, (1, 1, 1, 1, 0, 0, 0)), (2, (1, 1, 2, 1, 0, 0, 0)), (3, (35, 3, 48, 3, 56, 951, 0)), (6, (5, 1, 3, 1, 0, 0, 0)), (7, (1, 1, 0, 1, 0, 0, 0)), (8, (2, 1, 3, 1, 0, 0, 0)), (9, (6, 1, 0, 0, 0, 0, 0)), (10, (35, 3, 52, 3, 60, 956, 0)), (13, (14, 3, 1, 18, 0, 0, 5)), (16, (7, 1, 0, 0, 0, 0, 0)), (17, (36, 1, 2, 0, 0, 0, 0)), (18, (6, 1, 0, 0, 0, 0, 0)), (19, (3, 2, 5, 0, 0, 0, 0)), (21, (0, 2, 5, 0, 0, 0, 0)), (23, (6, 2, 0, 1, 0, 0, 8)), (25, (15, 3, 3, 65, 0, 0, 40)), (28, (1, 1, 0, 1, 0, 0, 0)), (29, (2, 1, 3, 1, 0, 0, 0)), (30, (0, 2, 5, 0, 0, 0, 0)), (32, (1, 1, 2, 1, 0, 0, 0)), (33, (0, 2, 5, 0, 0, 0, 0)), (35, (25, 1, 1, 0, 0, 0, 0)), (36, (35, 3, 49, 4, 64, 997, 0)), (39, (3, 2, 6, 0, 0, 0, 0)), (41, (0, 2, 6, 0, 0, 0, 0)), (43, (6, 1, 0, 0, 0, 0, (-1))), (44, (15, 3, 1, 49, 0, 0, 5)), (47, (7, 1, 0, 0, 0, 0, 0)), (48, (36, 1, 2, 0, 0, 0, 0)), (49, (1, 1, 0, 1, 0, 0, 0)), (50, (2, 1, 3, 1, 0, 0, 0)), (51, (0, 2, 5, 0, 0, 0, 0)), (53, (0, 2, 6, 0, 0, 0, 0)), (55, (35, 3, 51, 4, 68, 989, 0)), (58, (5, 1, 3, 1, 0, 0, 0)), (59, (9, 3, 5, 0, 0, 0, 1)), (62, (16, 3, 0, 21, 0, 0, (-41))), (65, (2, 1, 3, 1, 0, 0, 0)), (66, (36, 1, 2, 0, 0, 0, 0))]
def tb_48 : List (Nat × zOp) := [(0, (7, 1, 0, 0, 0, 0, 0)), (1, (5, 1, 3, 1, 0, 0, 0)), (2, (6, 1, 0, 0, 0, 0, 0)), (3, (3, 2, 5, 0, 0, 0, 0)), (5, (0, 2, 5, 0, 0, 0, 0)), (7, (6, 2, 0, 1, 0, 0, 8)), (9, (15, 3, 3, 35, 0, 0, 26)), (12, (1, 1, 1, 1, 0, 0, 0)), (13, (0, 2, 5, 0, 0, 0, 0)), (15, (29, 1, 5, 4, 0, 0, 0)), (16, (18, 3, 0, 29, 0, 0, 13)), (19, (2, 1, 3, 1, 0, 0, 0)), (20, (7, 1, 0, 0, 0, 0, 1)), (21, (6, 2, 0, 1, 0, 0, 40)), (23, (0, 2, 5, 0, 0, 0, 0)), (25, (10, 1, 0, 0, 0, 0, 0)), (26, (12, 1, 0, 0, 0, 0, 0)), (27, (11, 1, 3, 0, 0, 0, 0)), (28, (5, 1, 3, 1, 0, 0, 0)), (29, (9, 3, 5, 0, 0, 0, 1)), (32, (16, 3, 0, 5, 0, 0, (-27))), (35, (6, 1, 0, 0, 0, 0, 0)), (36, (3, 2, 5, 0, 0, 0, 0)), (38, (0, 2, 5, 0, 0, 0, 0)), (40, (1, 1, 0, 1, 0, 0, 0)), (41, (23, 3, 5, 0, 25, 145, 3)), (44, (23, 3, 2, 1, 43, 132, 0)), (47, (15, 3, 3, 126, 0, 0, 79)), (50, (1, 1, 0, 1, 0, 0, 0)), (51, (23, 3, 5, 0, 25, 145, 3)), (54, (0, 2, 5, 0, 0, 0, 0)), (56, (35, 3, 28, 2, 48, 894, 0)), (59, (4, 2, 6, 0, 0, 0, 0)), (61, (1, 2, 6, 0, 0, 0, 0)), (63, (17, 3, 0, 120, 0, 0, 57)), (66, (1, 2, 6, 0, 0, 0, 0)), (68, (23, 3, 3, 6, 72, 726, 1)), (71, (14, 3, 0, 86, 0, 0, 15)), (74, (1, 1, 2, 1, 0, 0, 0)), (75, (1, 2, 6, 0, 0, 0, 0)), (77, (23, 3, 3, 0, 29, 712, 0)), (80, (25, 1, 1, 0, 0, 0, 0)), (81, (0, 2, 5, 0, 0, 0, 0)), (83, (15, 3, 1, 120, 0, 0, 37)), (86, (1, 1, 1, 1, 0, 0, 0)), (87, (1, 2, 6, 0, 0, 0, 0)), (89, (23, 3, 3, 0, 29, 712, 0)), (92, (29, 1, 5, 4, 0, 0, 0)), (93, (4, 2, 7, 0, 0, 0, 0)), (95, (1, 2, 7, 0, 0, 0, 0)), (97, (17, 3, 0, 113, 0, 0, 16)), (100, (1, 2, 7, 0, 0, 0, 0)), (102, (1, 2, 6, 0, 0, 0, 0)), (104, (23, 3, 3, 1, 76, 717, 3)), (107, (35, 3, 42, 2, 80, 955, 0)), (110, (14, 3, 0, 120, 0, 0, 10)), (113, (2, 1, 3, 1, 0, 0, 0)), (114, (7, 1, 0, 0, 0, 0, 1)), (115, (0, 2, 5, 0, 0, 0, 0)), (117, (12, 1, 0, 0, 0, 0, 0)), (118, (11, 1, 3, 0, 0, 0, 0)), (119, (5, 1, 3, 1, 0, 0, 0)), (120, (9, 3, 5, 0, 0, 0, 1)), (123, (16, 3, 0, 38, 0, 0, (-85))), (126, (2, 1, 3, 1, 0, 0, 0)), (127, (36, 1, 2, 0, 0, 0, 0))]
def tb_49 : List (Nat × zOp) := [(0, (2, 1, 1, 1, 0, 0, 0)), (1, (1, 1, 0, 1, 0, 0, 0)), (2, (23, 3, 5, 2, 15, 147, 3)), (5, (0, 1, 3, 1, 0, 0, 0)), (6, (27, 1, 0, 0, 0, 0, 0)), (7, (11, 1, 2, 0, 0, 0, 0)), (8, (5, 2, 5, 0, 0, 0, 0)), (10, (6, 1, 0, 0, 0, 0, 0)), (11, (3, 2, 7, 0, 0, 0, 0)), (13, (0, 2, 7, 0, 0, 0, 0)), (15, (6, 2, 0, 1, 0, 0, 48)), (17, (15, 3, 3, 96, 0, 0, 79)), (20, (2, 2, 5, 0, 0, 0, 0)), (22, (7, 1, 0, 0, 0, 0, 0)), (23, (19, 1, 0, 0, 0, 0, 0)), (24, (14, 3, 0, 96, 0, 0, 72)), (27, (1, 1, 0, 1, 0, 0, 0)), (28, (2, 2, 5, 0, 0, 0, 0)), (30, (0, 1, 3, 1, 0, 0, 0)), (31, (0, 2, 4, 0, 0, 0, 0)), (33, (35, 3, 50, 4, 86, 1001, 0)), (36, (3, 2, 8, 0, 0, 0, 0)), (38, (0, 2, 8, 0, 0, 0, 0)), (40, (6, 1, 0, 0, 0, 0, (-1))), (41, (15, 3, 1, 46, 0, 0, 5)), (44, (6, 1, 0, 0, 0, 0, (-1))), (45, (36, 1, 0, 0, 0, 0, 0)), (46, (1, 1, 0, 1, 0, 0, 0)), (47, (23, 3, 5, 5, 89, 150, 2)), (50, (0, 2, 8, 0, 0, 0, 0)), (52, (35, 3, 44, 2, 93, 971, 1)), (55, (14, 3, 1, 74, 0, 0, 19)), (58, (1, 1, 0, 1, 0, 0, 0)), (59, (1, 1, 0, 1, 0, 0, 0)), (60, (2, 1, 1, 1, 0, 0, 0)), (61, (0, 1, 3, 1, 0, 0, 0)), (62, (0, 2, 8, 0, 0, 0, 0)), (64, (35, 3, 51, 4, 68, 989, 0)), (67, (6, 1, 0, 0, 0, 0, 0)), (68, (35, 3, 52, 3, 60, 956, 0)), (71, (14, 3, 0, 77, 0, 0, 6)), (74, (0, 2, 8, 0, 0, 0, 0)), (76, (36, 1, 0, 0, 0, 0, 0)), (77, (2, 2, 5, 0, 0, 0, 0)), (79, (7, 1, 0, 0, 0, 0, 1)), (80, (0, 2, 8, 0, 0, 0, 0)), (82, (12, 1, 0, 0, 0, 0, 0)), (83, (7, 3, 0, 1, 96, 974, (-1))), (86, (11, 1, 4, 0, 0, 0, 0)), (87, (11, 1, 2, 0, 0, 0, 0)), (88, (5, 2, 5, 0, 0, 0, 0)), (90, (9, 3, 7, 0, 0, 0, 1)), (93, (16, 3, 0, 13, 0, 0, (-80))), (96, (6, 1, 0, 0, 0, 0, (-1))), (97, (36, 1, 0, 0, 0, 0, 0))]
def tb_50 : List (Nat × zOp) := [(0, (2, 1, 1, 1, 0, 0, 0)), (1, (6, 2, 0, 1, 0, 0, 40)), (3, (0, 1, 3, 1, 0, 0, 0)), (4, (10, 1, 0, 0, 0, 0, 0)), (5, (35, 3, 44, 2, 93, 971, 1)), (8, (14, 3, 0, 16, 0, 0, 8)), (11, (6, 2, 0, 1, 0, 0, 40)), (13, (0, 1, 3, 1, 0, 0, 0)), (14, (10, 1, 0, 0, 0, 0, 0)), (15, (36, 1, 0, 0, 0, 0, 0)), (16, (0, 2, 4, 0, 0, 0, 0)), (18, (6, 1, 0, 0, 0, 0, (-1))), (19, (15, 3, 0, 34, 0, 0, 15)), (22, (2, 1, 1, 1, 0, 0, 0)), (23, (0, 2, 4, 0, 0, 0, 0)), (25, (35, 3, 44, 2, 93, 971, 1)), (28, (14, 3, 0, 34, 0, 0, 6)), (31, (0, 2, 4, 0, 0, 0, 0)), (33, (36, 1, 0, 0, 0, 0, 0)), (34, (6, 1, 0, 0, 0, 0, (-1))), (35, (3, 2, 5, 0, 0, 0, 0)), (37, (6, 1, 0, 0, 0, 0, 0)), (38, (3, 2, 6, 0, 0, 0, 0)), (40, (0, 2, 6, 0, 0, 0, 0)), (42, (1, 1, 0, 1, 0, 0, 0)), (43, (23, 3, 5, 0, 25, 145, 3)), (46, (23, 3, 2, 1, 43, 132, 0)), (49, (15, 3, 3, 80, 0, 0, 31)), (52, (2, 1, 1, 1, 0, 0, 0)), (53, (0, 2, 6, 0, 0, 0, 0)), (55, (35, 3, 44, 2, 93, 971, 1)), (58, (14, 3, 0, 74, 0, 0, 16)), (61, (1, 1, 0, 1, 0, 0, 0)), (62, (23, 3, 5, 0, 25, 145, 3)), (65, (0, 2, 5, 0, 0, 0, 0)), (67, (0, 2, 6, 0, 0, 0, 0)), (69, (35, 3, 34, 3, 98, 1005, 0)), (72, (3, 2, 5, 0, 0, 0, 0)), (74, (9, 3, 6, 0, 0, 0, 1)), (77, (16, 3, 0, 40, 0, 0, (-37))), (80, (0, 2, 5, 0, 0, 0, 0)), (82, (36, 1, 0, 0, 0, 0, 0))]
def tb_51 : List (Nat × zOp) := [(0, (2, 1, 1, 1, 0, 0, 0)), (1, (1, 1, 0, 1, 0, 0, 0)), (2, (23, 3, 5, 2, 15, 147, 3)), (5, (0, 1, 3, 1, 0, 0, 0)), (6, (27, 1, 0, 0, 0, 0, 0)), (7, (7, 3, 0, 1, 96, 974, (-1))), (10, (11, 1, 4, 0, 0, 0, 0)), (11, (11, 1, 2, 0, 0, 0, 0)), (12, (7, 1, 0, 0, 0, 0, 1)), (13, (0, 2, 4, 0, 0, 0, 0)), (15, (12, 1, 0, 0, 0, 0, 0)), (16, (11, 1, 3, 0, 0, 0, 0)), (17, (36, 1, 2, 0, 0, 0, 0))]
def tb_52 : List (Nat × zOp) := [(0, (1, 1, 0, 1, 0, 0, 0)), (1, (2, 1, 1, 1, 0, 0, 0)), (2, (35, 3, 54, 2, 102, 960, 0)), (5, (5, 2, 4, 0, 0, 0, 0)), (7, (2, 2, 4, 0, 0, 0, 0)), (9, (7, 1, 0, 0, 0, 0, 0)), (10, (19, 1, 0, 0, 0, 0, 0)), (11, (14, 3, 0, 20, 0, 0, 9)), (14, (0, 1, 3, 1, 0, 0, 0)), (15, (6, 2, 0, 1, 0, 0, 8)), (17, (15, 3, 5, 22, 0, 0, 5)), (20, (6, 1, 0, 0, 0, 0, 0)), (21, (36, 1, 1, 0, 0, 0, 0)), (22, (1, 1, 0, 1, 0, 0, 0)), (23, (2, 2, 4, 0, 0, 0, 0)), (25, (35, 3, 56, 2, 106, 975, 0)), (28, (3, 2, 6, 0, 0, 0, 0)), (30, (0, 2, 6, 0, 0, 0, 0)), (32, (6, 1, 0, 0, 0, 0, (-1))), (33, (15, 3, 1, 48, 0, 0, 15)), (36, (1, 1, 0, 1, 0, 0, 0)), (37, (1, 1, 0, 1, 0, 0, 0)), (38, (2, 2, 4, 0, 0, 0, 0)), (40, (35, 3, 57, 2, 110, 985, 0)), (43, (24, 3, 5, 5, 89, 150, 2)), (46, (6, 1, 0, 0, 0, 0, 1)), (47, (36, 1, 1, 0, 0, 0, 0)), (48, (1, 1, 0, 1, 0, 0, 0)), (49, (0, 2, 6, 0, 0, 0, 0)), (51, (2, 2, 4, 0, 0, 0, 0)), (53, (0, 1, 3, 1, 0, 0, 0)), (54, (35, 3, 53, 4, 113, 993, 0)), (57, (36, 1, 1, 0, 0, 0, 0))]
def tb_53 : List (Nat × zOp) := [(0, (6, 2, 0, 1, 0, 0, 39)), (2, (3, 2, 5, 0, 0, 0, 0)), (4, (0, 2, 5, 0, 0, 0, 0)), (6, (14, 3, 2, 52, 0, 0, 46)), (9, (2, 1, 2, 1, 0, 0, 0)), (10, (1, 1, 0, 1, 0, 0, 0)), (11, (23, 3, 5, 2, 15, 147, 3)), (14, (0, 1, 1, 1, 0, 0, 0)), (15, (27, 1, 0, 0, 0, 0, 0)), (16, (11, 1, 2, 0, 0, 0, 0)), (17, (0, 2, 5, 0, 0, 0, 0)), (19, (35, 3, 44, 2, 93, 971, 1)), (22, (14, 3, 0, 46, 0, 0, 24)), (25, (1, 1, 0, 1, 0, 0, 0)), (26, (1, 1, 0, 1, 0, 0, 0)), (27, (2, 1, 2, 1, 0, 0, 0)), (28, (0, 1, 1, 1, 0, 0, 0)), (29, (0, 2, 5, 0, 0, 0, 0)), (31, (35, 3, 51, 4, 68, 989, 0)), (34, (0, 2, 4, 0, 0, 0, 0)), (36, (6, 1, 0, 0, 0, 0, 1)), (37, (10, 1, 0, 0, 0, 0, 0)), (38, (35, 3, 52, 3, 60, 956, 0)), (41, (14, 3, 0, 46, 0, 0, 5)), (44, (6, 1, 0, 0, 0, 0, 1)), (45, (36, 1, 1, 0, 0, 0, 0)), (46, (9, 3, 5, 0, 0, 0, (-1))), (49, (16, 3, 0, 4, 0, 0, (-45))), (52, (6, 1, 0, 0, 0, 0, 0)), (53, (36, 1, 1, 0, 0, 0, 0))]
def tb_54 : List (Nat × zOp) := [(0, (2, 1, 1, 1, 0, 0, 0)), (1, (5, 1, 3, 1, 0, 0, 0)), (2, (6, 1, 0, 0, 0, 0, 0)), (3, (3, 2, 5, 0, 0, 0, 0)), (5, (0, 2, 5, 0, 0, 0, 0)), (7, (6, 2, 0, 1, 0, 0, 48)), (9, (15, 3, 4, 61, 0, 0, 52)), (12, (2, 1, 3, 1, 0, 0, 0)), (13, (5, 2, 6, 0, 0, 0, 0)), (15, (1, 1, 0, 1, 0, 0, 0)), (16, (2, 1, 3, 1, 0, 0, 0)), (17, (35, 3, 55, 2, 117, 964, 0)), (20, (6, 1, 0, 0, 0, 0, 0)), (21, (3, 2, 8, 0, 0, 0, 0)), (23, (0, 2, 8, 0, 0, 0, 0)), (25, (6, 2, 0, 1, 0, 0, 8)), (27, (15, 3, 3, 46, 0, 0, 19)), (30, (2, 1, 3, 1, 0, 0, 0)), (31, (1, 1, 0, 1, 0, 0, 0)), (32, (23, 3, 5, 4, 22, 149, 3)), (35, (0, 2, 8, 0, 0, 0, 0)), (37, (27, 1, 0, 0, 0, 0, 0)), (38, (11, 1, 2, 0, 0, 0, 0)), (39, (5, 1, 3, 1, 0, 0, 0)), (40, (9, 3, 8, 0, 0, 0, 1)), (43, (16, 3, 0, 23, 0, 0, (-20))), (46, (2, 1, 3, 1, 0, 0, 0)), (47, (2, 2, 6, 0, 0, 0, 0)), (49, (19, 1, 0, 0, 0, 0, 0)), (50, (14, 3, 1, 55, 0, 0, 5)), (53, (2, 1, 3, 1, 0, 0, 0)), (54, (36, 1, 2, 0, 0, 0, 0)), (55, (9, 3, 5, 0, 0, 0, 1)), (58, (16, 3, 0, 5, 0, 0, (-53))), (61, (2, 1, 3, 1, 0, 0, 0)), (62, (36, 1, 2, 0, 0, 0, 0))]
def tb_55 : List (Nat × zOp) := [(0, (1, 1, 0, 1, 0, 0, 0)), (1, (23, 3, 5, 4, 22, 149, 3)), (4, (7, 1, 0, 0, 0, 0, 0)), (5, (35, 3, 3, 2, 121, 968, 1)), (8, (6, 1, 0, 0, 0, 0, 0)), (9, (3, 1, 3, 1, 0, 0, 0)), (10, (0, 1, 3, 1, 0, 0, 0)), (11, (6, 2, 0, 1, 0, 0, 48)), (13, (15, 3, 3, 54, 0, 0, 41)), (16, (2, 1, 1, 1, 0, 0, 0)), (17, (0, 1, 3, 1, 0, 0, 0)), (18, (35, 3, 44, 2, 93, 971, 1)), (21, (14, 3, 0, 48, 0, 0, 27)), (24, (1, 1, 0, 1, 0, 0, 0)), (25, (23, 3, 5, 4, 22, 149, 3)), (28, (1, 1, 0, 1, 0, 0, 0)), (29, (23, 3, 5, 1, 11, 146, 3)), (32, (0, 1, 3, 1, 0, 0, 0)), (33, (25, 1, 1, 0, 0, 0, 0)), (34, (21, 1, 0, 0, 0, 0, 0)), (35, (27, 1, 0, 0, 0, 0, 0)), (36, (1, 1, 0, 1, 0, 0, 0)), (37, (23, 3, 5, 3, 19, 148, 3)), (40, (0, 1, 3, 1, 0, 0, 0)), (41, (27, 1, 0, 0, 0, 0, 0)), (42, (7, 3, 0, 1, 96, 974, (-1))), (45, (11, 1, 4, 0, 0, 0, 0)), (46, (11, 1, 3, 0, 0, 0, 0)), (47, (28, 1, 0, 0, 0, 0, 0)), (48, (9, 3, 3, 0, 0, 0, 1)), (51, (16, 3, 0, 10, 0, 0, (-41))), (54, (37, 1, 0, 0, 0, 0, 0))]
def tb_56 : List (Nat × zOp) := [(0, (6, 1, 0, 0, 0, 0, (-1))), (1, (3, 1, 3, 1, 0, 0, 0)), (2, (6, 2, 0, 1, 0, 0, 48)), (4, (3, 2, 4, 0, 0, 0, 0)), (6, (6, 1, 0, 0, 0, 0, 0)), (7, (3, 2, 5, 0, 0, 0, 0)), (9, (0, 2, 5, 0, 0, 0, 0)), (11, (6, 2, 0, 1, 0, 0, 8)), (13, (15, 3, 3, 68, 0, 0, 55)), (16, (2, 1, 1, 1, 0, 0, 0)), (17, (1, 1, 0, 1, 0, 0, 0)), (18, (23, 3, 5, 2, 15, 147, 3)), (21, (0, 2, 5, 0, 0, 0, 0)), (23, (27, 1, 0, 0, 0, 0, 0)), (24, (11, 1, 2, 0, 0, 0, 0)), (25, (35, 3, 1, 1, 127, 979, 1)), (28, (3, 2, 6, 0, 0, 0, 0)), (30, (0, 2, 6, 0, 0, 0, 0)), (32, (6, 1, 0, 0, 0, 0, 1)), (33, (15, 3, 5, 62, 0, 0, 29)), (36, (0, 2, 6, 0, 0, 0, 0)), (38, (0, 2, 4, 0, 0, 0, 0)), (40, (15, 3, 3, 62, 0, 0, 22)), (43, (2, 1, 1, 1, 0, 0, 0)), (44, (6, 2, 0, 1, 0, 0, 40)), (46, (0, 2, 5, 0, 0, 0, 0)), (48, (10, 1, 0, 0, 0, 0, 0)), (49, (35, 3, 44, 2, 93, 971, 1)), (52, (14, 3, 1, 62, 0, 0, 10)), (55, (0, 2, 5, 0, 0, 0, 0)), (57, (3, 1, 3, 1, 0, 0, 0)), (58, (0, 2, 6, 0, 0, 0, 0)), (60, (3, 2, 4, 0, 0, 0, 0)), (62, (9, 3, 5, 0, 0, 0, 1)), (65, (16, 3, 0, 9, 0, 0, (-56))), (68, (0, 1, 3, 1, 0, 0, 0)), (69, (36, 1, 0, 0, 0, 0, 0))]
def tb_57 : List (Nat × zOp) := [(0, (2, 1, 1, 1, 0, 0, 0)), (1, (5, 1, 3, 1, 0, 0, 0)), (2, (6, 1, 0, 0, 0, 0, 0)), (3, (3, 2, 5, 0, 0, 0, 0)), (5, (0, 2, 5, 0, 0, 0, 0)), (7, (6, 2, 0, 1, 0, 0, 8)), (9, (15, 3, 3, 43, 0, 0, 34)), (12, (2, 1, 1, 1, 0, 0, 0)), (13, (6, 2, 0, 1, 0, 0, 40)), (15, (0, 2, 5, 0, 0, 0, 0)), (17, (10, 1, 0, 0, 0, 0, 0)), (18, (35, 3, 44, 2, 93, 971, 1)), (21, (14, 3, 0, 37, 0, 0, 16)), (24, (1, 1, 0, 1, 0, 0, 0)), (25, (2, 1, 3, 1, 0, 0, 0)), (26, (0, 2, 5, 0, 0, 0, 0)), (28, (6, 2, 0, 1, 0, 0, 40)), (30, (0, 2, 5, 0, 0, 0, 0)), (32, (10, 1, 0, 0, 0, 0, 0)), (33, (35, 3, 51, 4, 68, 989, 0)), (36, (5, 1, 3, 1, 0, 0, 0)), (37, (9, 3, 5, 0, 0, 0, 1)), (40, (16, 3, 0, 5, 0, 0, (-35))), (43, (2, 1, 3, 1, 0, 0, 0)), (44, (36, 1, 2, 0, 0, 0, 0))]
def tb_58 : List (Nat × zOp) := [(0, (1, 1, 0, 1, 0, 0, 0)), (1, (40, 3, 0, 0, 1, 782, 0)), (4, (1, 1, 0, 1, 0, 0, 0)), (5, (1, 1, 1, 1, 0, 0, 0)), (6, (24, 3, 6, 0, 7, 783, 3)), (9, (37, 1, 0, 0, 0, 0, 0))]
def tb_59 : List (Nat × zOp) := [(0, (32, 3, 6, 5, 8, 777, 0)), (3, (20, 1, 0, 0, 0, 0, 0)), (4, (8, 1, 0, 0, 0, 0, 0)), (5, (35, 3, 58, 2, 13, 779, 2)), (8, (36, 1, 3, 0, 0, 0, 0))]
def tb_60 : List (Nat × zOp) := [(0, (32, 3, 6, 5, 8, 777, 0)), (3, (20, 1, 0, 0, 0, 0, 0)), (4, (1, 1, 1, 1, 0, 0, 0)), (5, (35, 3, 58, 2, 13, 779, 2)), (8, (4, 1, 3, 1, 0, 0, 0)), (9, (0, 1, 2, 1, 0, 0, 0)), (10, (6, 1, 0, 0, 0, 0, 3)), (11, (15, 3, 1, 18, 0, 0, 7)), (14, (6, 1, 0, 0, 0, 0, 1)), (15, (16, 3, 0, 19, 0, 0, 4)), (18, (6, 1, 0, 0, 0, 0, 0)), (19, (3, 2, 4, 0, 0, 0, 0)), (21, (0, 2, 4, 0, 0, 0, 0)), (23, (14, 3, 0, 30, 0, 0, 7)), (26, (1, 1, 1, 1, 0, 0, 0)), (27, (16, 3, 0, 35, 0, 0, 8)), (30, (1, 1, 1, 1, 0, 0, 0)), (31, (0, 1, 2, 1, 0, 0, 0)), (32, (35, 3, 70, 2, 16, 806, 0)), (35, (4, 2, 5, 0, 0, 0, 0)), (37, (0, 1, 0, 1, 0, 0, 0)), (38, (39, 38, 0, 176, 0, 0, 0)), (76, (1, 1, 3, 1, 0, 0, 0)), (77, (1, 1, 1, 1, 0, 0, 0)), (78, (6, 1, 0, 0, 0, 0, 1)), (79, (35, 3, 62, 3, 22, 813, 0)), (82, (1, 1, 3, 1, 0, 0, 0)), (83, (1, 1, 1, 1, 0, 0, 0)), (84, (1, 1, 1, 1, 0, 0, 0)), (85, (0, 1, 2, 1, 0, 0, 0)), (86, (35, 3, 61, 2, 26, 817, 1)), (89, (35, 3, 70, 2, 16, 806, 0)), (92, (6, 1, 0, 0, 0, 0, 0)), (93, (35, 3, 63, 3, 30, 820, 0)), (96, (16, 3, 0, 184, 0, 0, 88)), (99, (1, 1, 3, 1, 0, 0, 0)), (100, (1, 1, 1, 1, 0, 0, 0)), (101, (6, 1, 0, 0, 0, 0, 1)), (102, (35, 3, 62, 3, 22, 813, 0)), (105, (1, 1, 3, 1, 0, 0, 0)), (106, (1, 1, 1, 1, 0, 0, 0)), (107, (0, 1, 2, 1, 0, 0, 0)), (108, (6, 1, 0, 0, 0, 0, 2)), (109, (45, 3, 0, 0, 33, 824, 0)), (112, (35, 3, 70, 2, 16, 806, 0)), (115, (6, 1, 0, 0, 0, 0, 0)), (116, (35, 3, 63, 3, 30, 820, 0)), (119, (16, 3, 0, 184, 0, 0, 65)), (122, (1, 1, 3, 1, 0, 0, 0)), (123, (1, 1, 1, 1, 0, 0, 0)), (124, (6, 1, 0, 0, 0, 0, 1)), (125, (35, 3, 62, 3, 22, 813, 0)), (128, (1, 1, 3, 1, 0, 0, 0)), (129, (1, 2, 5, 0, 0, 0, 0)), (131, (0, 2, 4, 0, 0, 0, 0)), (133, (35, 3, 63, 3, 30, 820, 0)), (136, (16, 3, 0, 184, 0, 0, 48)), (139, (1, 1, 3, 1, 0, 0, 0)), (140, (1, 2, 5, 0, 0, 0, 0)), (142, (0, 2, 4, 0, 0, 0, 0)), (144, (14, 3, 1, 151, 0, 0, 7)), (147, (6, 1, 0, 0, 0, 0, 1)), (148, (16, 3, 0, 152, 0, 0, 4)), (151, (6, 1, 0, 0, 0, 0, 0)), (152, (35, 3, 62, 3, 22, 813, 0)), (155, (16, 3, 0, 184, 0, 0, 29)), (158, (1, 1, 3, 1, 0, 0, 0)), (159, (1, 1, 1, 1, 0, 0, 0)), (160, (6, 1, 0, 0, 0, 0, 1)), (161, (35, 3, 62, 3, 22, 813, 0)), (164, (16, 3, 0, 184, 0, 0, 20)), (167, (1, 1, 3, 1, 0, 0, 0)), (168, (1, 1, 1, 1, 0, 0, 0)), (169, (6, 1, 0, 0, 0, 0, 0)), (170, (35, 3, 63, 3, 30, 820, 0)), (173, (16, 3, 0, 184, 0, 0, 11)), (176, (1, 1, 3, 1, 0, 0, 0)), (177, (1, 2, 5, 0, 0, 0, 0)), (179, (0, 2, 4, 0, 0, 0, 0)), (181, (35, 3, 63, 3, 30, 820, 0)), (184, (1, 1, 3, 1, 0, 0, 0)), (185, (36, 1, 3, 0, 0, 0, 0))]
def tb_61 : List (Nat × zOp) := [(0, (1, 1, 0, 1, 0, 0, 0)), (1, (23, 3, 7, 0, 39, 690, 0)), (4, (14, 3, 1, 12, 0, 0, 8)), (7, (0, 1, 1, 1, 0, 0, 0)), (8, (6, 1, 0, 0, 0, 0, 1)), (9, (15, 3, 1, 14, 0, 0, 5)), (12, (6, 1, 0, 0, 0, 0, 1)), (13, (36, 1, 0, 0, 0, 0, 0)), (14, (1, 1, 0, 1, 0, 0, 0)), (15, (23, 3, 7, 1, 43, 692, 0)), (18, (14, 3, 1, 26, 0, 0, 8)), (21, (0, 1, 1, 1, 0, 0, 0)), (22, (6, 1, 0, 0, 0, 0, 2)), (23, (15, 3, 1, 30, 0, 0, 7)), (26, (6, 1, 0, 0, 0, 0, 2)), (27, (16, 3, 0, 31, 0, 0, 4)), (30, (6, 1, 0, 0, 0, 0, 3)), (31, (36, 1, 0, 0, 0, 0, 0))]
def tb_62 : List (Nat × zOp) := [(0, (1, 1, 0, 1, 0, 0, 0)), (1, (1, 1, 1, 1, 0, 0, 0)), (2, (24, 3, 6, 1, 46, 784, 3)), (5, (1, 1, 0, 1, 0, 0, 0)), (6, (0, 1, 2, 1, 0, 0, 0)), (7, (24, 3, 6, 2, 49, 785, 1)), (10, (37, 1, 0, 0, 0, 0, 0))]
def tb_63 : List (Nat × zOp) := [(0, (1, 1, 0, 1, 0, 0, 0)), (1, (1, 1, 1, 1, 0, 0, 0)), (2, (24, 3, 6, 3, 53, 786, 3)), (5, (1, 1, 0, 1, 0, 0, 0)), (6, (0, 1, 2, 1, 0, 0, 0)), (7, (24, 3, 6, 4, 56, 787, 1)), (10, (37, 1, 0, 0, 0, 0, 0))]
def tb_64 : List (Nat × zOp) := [(0, (1, 1, 0, 1, 0, 0, 0)), (1, (23, 3, 6, 1, 46, 784, 3)), (4, (17, 3, 0, 33, 0, 0, 29)), (7, (1, 1, 1, 1, 0, 0, 0)), (8, (1, 1, 0, 1, 0, 0, 0)), (9, (23, 3, 6, 1, 46, 784, 3)), (12, (35, 3, 67, 2, 59, 908, 0)), (15, (3, 1, 2, 1, 0, 0, 0)), (16, (0, 1, 2, 1, 0, 0, 0)), (17, (14, 3, 2, 31, 0, 0, 14)), (20, (0, 1, 2, 1, 0, 0, 0)), (21, (14, 3, 1, 33, 0, 0, 12)), (24, (1, 1, 0, 1, 0, 0, 0)), (25, (23, 3, 6, 2, 49, 785, 1)), (28, (14, 3, 1, 33, 0, 0, 5)), (31, (6, 1, 0, 0, 0, 0, 0)), (32, (36, 1, 1, 0, 0, 0, 0)), (33, (1, 1, 0, 1, 0, 0, 0)), (34, (23, 3, 6, 3, 53, 786, 3)), (37, (17, 3, 0, 66, 0, 0, 29)), (40, (1, 1, 1, 1, 0, 0, 0)), (41, (1, 1, 0, 1, 0, 0, 0)), (42, (23, 3, 6, 3, 53, 786, 3)), (45, (35, 3, 67, 2, 59, 908, 0)), (48, (3, 1, 2, 1, 0, 0, 0)), (49, (0, 1, 2, 1, 0, 0, 0)), (50, (14, 3, 4, 64, 0, 0, 14)), (53, (0, 1, 2, 1, 0, 0, 0)), (54, (14, 3, 1, 66, 0, 0, 12)), (57, (1, 1, 0, 1, 0, 0, 0)), (58, (23, 3, 6, 4, 56, 787, 1)), (61, (14, 3, 1, 66, 0, 0, 5)), (64, (6, 1, 0, 0, 0, 0, 0)), (65, (36, 1, 1, 0, 0, 0, 0)), (66, (6, 1, 0, 0, 0, 0, 1)), (67, (36, 1, 1, 0, 0, 0, 0))]
def tb_65 : List (Nat × zOp) := [(0, (1, 1, 0, 1, 0, 0, 0)), (1, (23, 3, 6, 0, 7, 783, 3)), (4, (17, 3, 0, 32, 0, 0, 28)), (7, (1, 1, 0, 1, 0, 0, 0)), (8, (23, 3, 6, 0, 7, 783, 3)), (11, (35, 3, 69, 1, 63, 913, 0)), (14, (14, 3, 0, 32, 0, 0, 18)), (17, (1, 1, 0, 1, 0, 0, 0)), (18, (23, 3, 6, 0, 7, 783, 3)), (21, (1, 1, 1, 1, 0, 0, 0)), (22, (35, 3, 68, 2, 67, 914, 0)), (25, (14, 3, 1, 32, 0, 0, 7)), (28, (6, 1, 0, 0, 0, 0, 1)), (29, (16, 3, 0, 33, 0, 0, 4)), (32, (6, 1, 0, 0, 0, 0, 0)), (33, (36, 1, 1, 0, 0, 0, 0))]
def tb_66 : List (Nat × zOp) := [(0, (1, 1, 0, 1, 0, 0, 0)), (1, (40, 3, 0, 0, 1, 688, 0)), (4, (1, 1, 0, 1, 0, 0, 0)), (5, (0, 1, 1, 1, 0, 0, 0)), (6, (24, 3, 7, 0, 7, 689, 0)), (9, (1, 1, 0, 1, 0, 0, 0)), (10, (0, 1, 2, 1, 0, 0, 0)), (11, (24, 3, 7, 1, 13, 691, 0)), (14, (1, 1, 0, 1, 0, 0, 0)), (15, (0, 1, 3, 1, 0, 0, 0)), (16, (24, 3, 7, 2, 16, 693, 0)), (19, (1, 1, 0, 1, 0, 0, 0)), (20, (1, 2, 4, 0, 0, 0, 0)), (22, (24, 3, 7, 3, 19, 694, 3)), (25, (37, 1, 0, 0, 0, 0, 0))]
def tb_67 : List (Nat × zOp) := [(0, (1, 1, 0, 1, 0, 0, 0)), (1, (1, 1, 1, 1, 0, 0, 0)), (2, (35, 3, 68, 2, 23, 842, 0)), (5, (3, 1, 2, 1, 0, 0, 0)), (6, (0, 1, 2, 1, 0, 0, 0)), (7, (14, 3, 0, 12, 0, 0, 5)), (10, (0, 1, 2, 1, 0, 0, 0)), (11, (36, 1, 0, 0, 0, 0, 0)), (12, (1, 1, 0, 1, 0, 0, 0)), (13, (35, 3, 69, 1, 27, 849, 0)), (16, (1, 1, 1, 1, 0, 0, 0)), (17, (35, 3, 69, 1, 27, 849, 0)), (20, (15, 3, 0, 36, 0, 0, 16)), (23, (1, 1, 0, 1, 0, 0, 0)), (24, (35, 3, 69, 1, 27, 849, 0)), (27, (14, 3, 0, 34, 0, 0, 7)), (30, (6, 1, 0, 0, 0, 0, (-1))), (31, (16, 3, 0, 35, 0, 0, 4)), (34, (6, 1, 0, 0, 0, 0, 1)), (35, (36, 1, 0, 0, 0, 0, 0)), (36, (6, 1, 0, 0, 0, 0, 0)), (37, (3, 1, 3, 1, 0, 0, 0)), (38, (0, 1, 3, 1, 0, 0, 0)), (39, (1, 1, 0, 1, 0, 0, 0)), (40, (23, 3, 7, 3, 19, 694, 3)), (43, (31, 1, 0, 0, 0, 0, 0)), (44, (15, 3, 3, 87, 0, 0, 43)), (47, (0, 1, 3, 1, 0, 0, 0)), (48, (1, 1, 1, 1, 0, 0, 0)), (49, (23, 3, 7, 3, 19, 694, 3)), (52, (31, 1, 0, 0, 0, 0, 0)), (53, (15, 3, 3, 87, 0, 0, 34)), (56, (1, 1, 0, 1, 0, 0, 0)), (57, (23, 3, 7, 3, 19, 694, 3)), (60, (0, 1, 3, 1, 0, 0, 0)), (61, (29, 1, 7, 8, 0, 0, 0)), (62, (1, 1, 1, 1, 0, 0, 0)), (63, (23, 3, 7, 3, 19, 694, 3)), (66, (0, 1, 3, 1, 0, 0, 0)), (67, (29, 1, 7, 8, 0, 0, 0)), (68, (35, 3, 72, 2, 31, 853, 0)), (71, (3, 2, 4, 0, 0, 0, 0)), (73, (0, 2, 4, 0, 0, 0, 0)), (75, (14, 3, 0, 81, 0, 0, 6)), (78, (0, 2, 4, 0, 0, 0, 0)), (80, (36, 1, 0, 0, 0, 0, 0)), (81, (9, 3, 3, 0, 0, 0, 1)), (84, (16, 3, 0, 38, 0, 0, (-46))), (87, (1, 1, 0, 1, 0, 0, 0)), (88, (23, 3, 7, 3, 19, 694, 3)), (91, (31, 1, 0, 0, 0, 0, 0)), (92, (1, 1, 1, 1, 0, 0, 0)), (93, (23, 3, 7, 3, 19, 694, 3)), (96, (31, 1, 0, 0, 0, 0, 0)), (97, (35, 3, 0, 2, 37, 846, 1)), (100, (36, 1, 0, 0, 0, 0, 0))]
def tb_68 : List (Nat × zOp) := [(0, (1, 1, 0, 1, 0, 0, 0)), (1, (23, 3, 7, 0, 7, 689, 0)), (4, (1, 1, 1, 1, 0, 0, 0)), (5, (23, 3, 7, 0, 7, 689, 0)), (8, (15, 3, 0, 28, 0, 0, 20)), (11, (1, 1, 0, 1, 0, 0, 0)), (12, (23, 3, 7, 0, 7, 689, 0)), (15, (1, 1, 1, 1, 0, 0, 0)), (16, (23, 3, 7, 0, 7, 689, 0)), (19, (15, 3, 3, 26, 0, 0, 7)), (22, (6, 1, 0, 0, 0, 0, (-1))), (23, (16, 3, 0, 27, 0, 0, 4)), (26, (6, 1, 0, 0, 0, 0, 1)), (27, (36, 1, 0, 0, 0, 0, 0)), (28, (1, 1, 0, 1, 0, 0, 0)), (29, (23, 3, 7, 1, 13, 691, 0)), (32, (1, 1, 1, 1, 0, 0, 0)), (33, (23, 3, 7, 1, 13, 691, 0)), (36, (15, 3, 0, 56, 0, 0, 20)), (39, (1, 1, 0, 1, 0, 0, 0)), (40, (23, 3, 7, 1, 13, 691, 0)), (43, (1, 1, 1, 1, 0, 0, 0)), (44, (23, 3, 7, 1, 13, 691, 0)), (47, (15, 3, 3, 54, 0, 0, 7)), (50, (6, 1, 0, 0, 0, 0, (-1))), (51, (16, 3, 0, 55, 0, 0, 4)), (54, (6, 1, 0, 0, 0, 0, 1)), (55, (36, 1, 0, 0, 0, 0, 0)), (56, (1, 1, 0, 1, 0, 0, 0)), (57, (23, 3, 7, 2, 16, 693, 0)), (60, (1, 1, 1, 1, 0, 0, 0)), (61, (23, 3, 7, 2, 16, 693, 0)), (64, (35, 3, 0, 2, 37, 846, 1)), (67, (36, 1, 0, 0, 0, 0, 0))]
def tb_69 : List (Nat × zOp) := [(0, (1, 1, 0, 1, 0, 0, 0)), (1, (23, 3, 7, 3, 19, 694, 3)), (4, (31, 1, 0, 0, 0, 0, 0)), (5, (14, 3, 5, 12, 0, 0, 7)), (8, (6, 1, 0, 0, 0, 0, 1)), (9, (16, 3, 0, 13, 0, 0, 4)), (12, (6, 1, 0, 0, 0, 0, 0)), (13, (36, 1, 1, 0, 0, 0, 0))]
def tb_70 : List (Nat × zOp) := [(0, (6, 1, 0, 0, 0, 0, 0)), (1, (34, 3, 7, 0, 32, 810, 0)), (4, (4, 1, 2, 1, 0, 0, 0)), (5, (0, 1, 1, 1, 0, 0, 0)), (6, (6, 1, 0, 0, 0, 0, 1)), (7, (15, 3, 1, 27, 0, 0, 20)), (10, (32, 3, 7, 4, 8, 811, 0)), (13, (20, 1, 0, 0, 0, 0, 0)), (14, (1, 1, 0, 1, 0, 0, 0)), (15, (23, 3, 7, 0, 7, 689, 0)), (18, (6, 1, 0, 0, 0, 0, 1)), (19, (10, 1, 0, 0, 0, 0, 0)), (20, (6, 1, 0, 0, 0, 0, 0)), (21, (6, 1, 0, 0, 0, 0, 0)), (22, (1, 1, 2, 1, 0, 0, 0)), (23, (35, 3, 66, 5, 43, 812, 2)), (26, (36, 1, 3, 0, 0, 0, 0)), (27, (0, 1, 1, 1, 0, 0, 0)), (28, (6, 1, 0, 0, 0, 0, 2)), (29, (15, 3, 1, 52, 0, 0, 23)), (32, (32, 3, 7, 4, 8, 811, 0)), (35, (20, 1, 0, 0, 0, 0, 0)), (36, (1, 1, 0, 1, 0, 0, 0)), (37, (23, 3, 7, 0, 7, 689, 0)), (40, (1, 1, 0, 1, 0, 0, 0)), (41, (23, 3, 7, 1, 13, 691, 0)), (44, (6, 1, 0, 0, 0, 0, 1)), (45, (10, 1, 0, 0, 0, 0, 0)), (46, (6, 1, 0, 0, 0, 0, 0)), (47, (1, 1, 2, 1, 0, 0, 0)), (48, (35, 3, 66, 5, 43, 812, 2)), (51, (36, 1, 3, 0, 0, 0, 0)), (52, (32, 3, 7, 4, 8, 811, 0)), (55, (20, 1, 0, 0, 0, 0, 0)), (56, (1, 1, 0, 1, 0, 0, 0)), (57, (23, 3, 7, 0, 7, 689, 0)), (60, (1, 1, 0, 1, 0, 0, 0)), (61, (23, 3, 7, 1, 13, 691, 0)), (64, (1, 1, 0, 1, 0, 0, 0)), (65, (23, 3, 7, 2, 16, 693, 0)), (68, (6, 1, 0, 0, 0, 0, 1)), (69, (10, 1, 0, 0, 0, 0, 0)), (70, (1, 1, 2, 1, 0, 0, 0)), (71, (35, 3, 66, 5, 43, 812, 2)), (74, (36, 1, 3, 0, 0, 0, 0))]
def tb_71 : List (Nat × zOp) := [(0, (1, 1, 0, 1, 0, 0, 0)), (1, (40, 3, 0, 0, 3, 671, 0)), (4, (1, 1, 0, 1, 0, 0, 0)), (5, (1, 1, 1, 1, 0, 0, 0)), (6, (24, 3, 8, 0, 9, 672, 3)), (9, (1, 1, 0, 1, 0, 0, 0)), (10, (0, 1, 2, 1, 0, 0, 0)), (11, (24, 3, 8, 1, 15, 673, 0)), (14, (37, 1, 0, 0, 0, 0, 0))]
def tb_72 : List (Nat × zOp) := [(0, (1, 1, 0, 1, 0, 0, 0)), (1, (23, 3, 8, 1, 15, 673, 0)), (4, (6, 1, 0, 0, 0, 0, (-1))), (5, (15, 3, 0, 28, 0, 0, 23)), (8, (1, 1, 1, 1, 0, 0, 0)), (9, (23, 3, 8, 1, 15, 673, 0)), (12, (6, 1, 0, 0, 0, 0, (-1))), (13, (15, 3, 0, 28, 0, 0, 15)), (16, (1, 1, 0, 1, 0, 0, 0)), (17, (23, 3, 8, 1, 15, 673, 0)), (20, (1, 1, 1, 1, 0, 0, 0)), (21, (23, 3, 8, 1, 15, 673, 0)), (24, (35, 3, 0, 2, 19, 857, 1)), (27, (36, 1, 0, 0, 0, 0, 0)), (28, (1, 1, 0, 1, 0, 0, 0)), (29, (23, 3, 8, 1, 15, 673, 0)), (32, (6, 1, 0, 0, 0, 0, (-1))), (33, (15, 3, 0, 38, 0, 0, 5)), (36, (6, 1, 0, 0, 0, 0, (-1))), (37, (36, 1, 0, 0, 0, 0, 0)), (38, (1, 1, 1, 1, 0, 0, 0)), (39, (23, 3, 8, 1, 15, 673, 0)), (42, (6, 1, 0, 0, 0, 0, (-1))), (43, (15, 3, 0, 48, 0, 0, 5)), (46, (6, 1, 0, 0, 0, 0, 1)), (47, (36, 1, 0, 0, 0, 0, 0)), (48, (6, 1, 0, 0, 0, 0, 0)), (49, (3, 1, 2, 1, 0, 0, 0)), (50, (0, 1, 2, 1, 0, 0, 0)), (51, (1, 1, 0, 1, 0, 0, 0)), (52, (23, 3, 8, 0, 9, 672, 3)), (55, (31, 1, 0, 0, 0, 0, 0)), (56, (15, 3, 3, 110, 0, 0, 54)), (59, (0, 1, 2, 1, 0, 0, 0)), (60, (1, 1, 1, 1, 0, 0, 0)), (61, (23, 3, 8, 0, 9, 672, 3)), (64, (31, 1, 0, 0, 0, 0, 0)), (65, (15, 3, 3, 110, 0, 0, 45)), (68, (1, 1, 0, 1, 0, 0, 0)), (69, (23, 3, 8, 0, 9, 672, 3)), (72, (0, 1, 2, 1, 0, 0, 0)), (73, (25, 1, 0, 0, 0, 0, 0)), (74, (1, 1, 1, 1, 0, 0, 0)), (75, (23, 3, 8, 0, 9, 672, 3)), (78, (0, 1, 2, 1, 0, 0, 0)), (79, (25, 1, 0, 0, 0, 0, 0)), (80, (15, 3, 0, 104, 0, 0, 24)), (83, (1, 1, 0, 1, 0, 0, 0)), (84, (23, 3, 8, 0, 9, 672, 3)), (87, (0, 1, 2, 1, 0, 0, 0)), (88, (25, 1, 0, 0, 0, 0, 0)), (89, (1, 1, 1, 1, 0, 0, 0)), (90, (23, 3, 8, 0, 9, 672, 3)), (93, (0, 1, 2, 1, 0, 0, 0)), (94, (25, 1, 0, 0, 0, 0, 0)), (95, (15, 3, 3, 102, 0, 0, 7)), (98, (6, 1, 0, 0, 0, 0, (-1))), (99, (16, 3, 0, 103, 0, 0, 4)), (102, (6, 1, 0, 0, 0, 0, 1)), (103, (36, 1, 0, 0, 0, 0, 0)), (104, (9, 3, 2, 0, 0, 0, 1)), (107, (16, 3, 0, 50, 0, 0, (-57))), (110, (1, 1, 0, 1, 0, 0, 0)), (111, (23, 3, 8, 0, 9, 672, 3)), (114, (31, 1, 0, 0, 0, 0, 0)), (115, (1, 1, 1, 1, 0, 0, 0)), (116, (23, 3, 8, 0, 9, 672, 3)), (119, (31, 1, 0, 0, 0, 0, 0)), (120, (35, 3, 0, 2, 19, 857, 1)), (123, (36, 1, 0, 0, 0, 0, 0))]
def tb_73 : List (Nat × zOp) := [(0, (1, 1, 0, 1, 0, 0, 0)), (1, (40, 3, 0, 0, 3, 103, 0)), (4, (1, 1, 0, 1, 0, 0, 0)), (5, (32, 3, 0, 2, 9, 106, 0)), (8, (20, 1, 0, 0, 0, 0, 0)), (9, (6, 3, 0, 2, 0, 0, 160)), (12, (35, 3, 7, 2, 11, 108, 2)), (15, (24, 3, 9, 0, 14, 171, 3)), (18, (1, 1, 0, 1, 0, 0, 0)), (19, (32, 3, 0, 2, 9, 106, 0)), (22, (20, 1, 0, 0, 0, 0, 0)), (23, (6, 3, 0, 2, 0, 0, 216)), (26, (35, 3, 7, 2, 11, 108, 2)), (29, (24, 3, 9, 1, 18, 172, 3)), (32, (1, 1, 0, 1, 0, 0, 0)), (33, (32, 3, 2, 2, 21, 122, 0)), (36, (20, 1, 0, 0, 0, 0, 0)), (37, (35, 3, 27, 1, 23, 124, 5)), (40, (24, 3, 9, 2, 24, 173, 3)), (43, (1, 1, 0, 1, 0, 0, 0)), (44, (32, 3, 5, 6, 28, 139, 0)), (47, (20, 1, 0, 0, 0, 0, 0)), (48, (1, 1, 0, 1, 0, 0, 0)), (49, (23, 3, 9, 2, 24, 173, 3)), (52, (35, 3, 43, 2, 30, 141, 2)), (55, (24, 3, 9, 3, 33, 174, 3)), (58, (1, 1, 0, 1, 0, 0, 0)), (59, (6, 2, 0, 1, 0, 0, 8)), (61, (34, 3, 5, 0, 37, 166, 0)), (64, (24, 3, 9, 4, 39, 175, 3)), (67, (1, 1, 0, 1, 0, 0, 0)), (68, (6, 2, 0, 1, 0, 0, 8)), (70, (33, 2, 1, 0, 0, 0, 0)), (72, (24, 3, 9, 5, 43, 176, 3)), (75, (1, 1, 0, 1, 0, 0, 0)), (76, (6, 2, 0, 1, 0, 0, 8)), (78, (33, 2, 1, 0, 0, 0, 0)), (80, (24, 3, 9, 6, 47, 177, 3)), (83, (1, 1, 0, 1, 0, 0, 0)), (84, (23, 3, 9, 5, 43, 176, 3)), (87, (6, 1, 0, 0, 0, 0, (-1))), (88, (35, 3, 2, 2, 50, 168, 1)), (91, (1, 1, 0, 1, 0, 0, 0)), (92, (23, 3, 9, 6, 47, 177, 3)), (95, (6, 1, 0, 0, 0, 0, (-1))), (96, (35, 3, 2, 2, 50, 168, 1)), (99, (37, 1, 0, 0, 0, 0, 0))]
def tb_74 : List (Nat × zOp) := [(0, (0, 1, 3, 1, 0, 0, 0)), (1, (6, 1, 0, 0, 0, 0, 1)), (2, (15, 3, 2, 11, 0, 0, 9)), (5, (0, 1, 3, 1, 0, 0, 0)), (6, (6, 2, 0, 1, 0, 0, 8)), (8, (15, 3, 5, 19, 0, 0, 11)), (11, (38, 3, 0, 58, 56, 244, 0)), (19, (1, 1, 0, 1, 0, 0, 0)), (20, (23, 3, 9, 0, 14, 171, 3)), (23, (23, 3, 0, 1, 59, 115, 0)), (26, (0, 1, 3, 1, 0, 0, 0)), (27, (10, 1, 0, 0, 0, 0, 0)), (28, (6, 3, 0, 2, 0, 0, 160)), (31, (15, 3, 5, 42, 0, 0, 11)), (34, (38, 3, 1, 65, 63, 309, 0)), (42, (6, 1, 0, 0, 0, 0, 0)), (43, (3, 2, 4, 0, 0, 0, 0)), (45, (0, 2, 4, 0, 0, 0, 0)), (47, (0, 1, 3, 1, 0, 0, 0)), (48, (15, 3, 3, 73, 0, 0, 25)), (51, (1, 1, 0, 1, 0, 0, 0)), (52, (23, 3, 9, 0, 14, 171, 3)), (55, (2, 1, 1, 1, 0, 0, 0)), (56, (6, 2, 0, 1, 0, 0, 8)), (58, (0, 2, 4, 0, 0, 0, 0)), (60, (10, 1, 2, 0, 0, 0, 0)), (61, (12, 1, 2, 0, 0, 0, 0)), (62, (13, 1, 1, 0, 0, 0, 0)), (63, (13, 1, 2, 0, 0, 0, 0)), (64, (35, 3, 8, 2, 66, 231, 0)), (67, (9, 3, 4, 0, 0, 0, 1)), (70, (16, 3, 0, 45, 0, 0, (-25))), (73, (1, 1, 0, 1, 0, 0, 0)), (74, (23, 3, 9, 0, 14, 171, 3)), (77, (23, 3, 0, 1, 59, 115, 0)), (80, (36, 1, 0, 0, 0, 0, 0))]
def tb_75 : List (Nat × zOp) := [(0, (1, 1, 0, 1, 0, 0, 0)), (1, (35, 3, 91, 1, 70, 333, 0)), (4, (4, 1, 2, 1, 0, 0, 0)), (5, (0, 1, 1, 1, 0, 0, 0)), (6, (35, 3, 95, 1, 74, 359, 1)), (9, (14, 3, 1, 20, 0, 0, 11)), (12, (38, 3, 2, 80, 78, 362, 0)), (20, (1, 1, 2, 1, 0, 0, 0)), (21, (0, 1, 1, 1, 0, 0, 0)), (22, (35, 3, 10, 2, 81, 377, 0)), (25, (4, 1, 3, 1, 0, 0, 0)), (26, (1, 1, 3, 1, 0, 0, 0)), (27, (18, 3, 0, 38, 0, 0, 11)), (30, (38, 3, 0, 58, 56, 244, 0)), (38, (1, 1, 0, 1, 0, 0, 0)), (39, (23, 3, 9, 2, 24, 173, 3)), (42, (1, 1, 3, 1, 0, 0, 0)), (43, (35, 3, 30, 2, 87, 834, 0)), (46, (14, 3, 0, 57, 0, 0, 11)), (49, (38, 3, 1, 65, 63, 309, 0)), (57, (1, 1, 0, 1, 0, 0, 0)), (58, (23, 3, 9, 2, 24, 173, 3)), (61, (35, 3, 29, 1, 91, 858, 0)), (64, (14, 3, 0, 75, 0, 0, 11)), (67, (38, 3, 3, 97, 95, 862, 0)), (75, (1, 1, 0, 1, 0, 0, 0)), (76, (23, 3, 9, 2, 24, 173, 3)), (79, (1, 1, 3, 1, 0, 0, 0)), (80, (35, 3, 31, 2, 98, 877, 0)), (83, (3, 2, 4, 0, 0, 0, 0)), (85, (1, 1, 0, 1, 0, 0, 0)), (86, (23, 3, 9, 3, 33, 174, 3)), (89, (0, 2, 4, 0, 0, 0, 0)), (91, (1, 1, 3, 1, 0, 0, 0)), (92, (35, 3, 45, 3, 102, 882, 0)), (95, (0, 2, 4, 0, 0, 0, 0)), (97, (36, 1, 0, 0, 0, 0, 0))]
def tb_76 : List (Nat × zOp) := [(0, (1, 1, 0, 1, 0, 0, 0)), (1, (23, 3, 9, 2, 24, 173, 3)), (4, (0, 1, 1, 1, 0, 0, 0)), (5, (35, 3, 28, 2, 106, 223, 0)), (8, (4, 1, 3, 1, 0, 0, 0)), (9, (1, 1, 3, 1, 0, 0, 0)), (10, (18, 3, 0, 21, 0, 0, 11)), (13, (38, 3, 2, 80, 78, 362, 0)), (21, (1, 1, 3, 1, 0, 0, 0)), (22, (23, 3, 3, 6, 109, 724, 1)), (25, (3, 2, 4, 0, 0, 0, 0)), (27, (1, 1, 3, 1, 0, 0, 0)), (28, (0, 1, 2, 1, 0, 0, 0)), (29, (24, 3, 3, 6, 109, 724, 1)), (32, (0, 2, 4, 0, 0, 0, 0)), (34, (36, 1, 1, 0, 0, 0, 0))]
def tb_77 : List (Nat × zOp) := [(0, (1, 1, 0, 1, 0, 0, 0)), (1, (35, 3, 91, 1, 70, 333, 0)), (4, (4, 1, 2, 1, 0, 0, 0)), (5, (0, 1, 1, 1, 0, 0, 0)), (6, (35, 3, 95, 1, 74, 359, 1)), (9, (14, 3, 1, 20, 0, 0, 11)), (12, (38, 3, 2, 80, 78, 362, 0)), (20, (1, 1, 2, 1, 0, 0, 0)), (21, (35, 3, 11, 1, 115, 929, 0)), (24, (4, 1, 3, 1, 0, 0, 0)), (25, (1, 1, 3, 1, 0, 0, 0)), (26, (18, 3, 0, 37, 0, 0, 11)), (29, (38, 3, 0, 58, 56, 244, 0)), (37, (1, 1, 0, 1, 0, 0, 0)), (38, (23, 3, 9, 4, 39, 175, 3)), (41, (0, 1, 1, 1, 0, 0, 0)), (42, (1, 1, 3, 1, 0, 0, 0)), (43, (30, 1, 5, 4, 0, 0, 0)), (44, (37, 1, 0, 0, 0, 0, 0))]
def tb_78 : List (Nat × zOp) := [(0, (0, 1, 1, 1, 0, 0, 0)), (1, (35, 3, 95, 1, 74, 359, 1)), (4, (14, 3, 1, 15, 0, 0, 11)), (7, (38, 3, 2, 80, 78, 362, 0)), (15, (1, 1, 0, 1, 0, 0, 0)), (16, (23, 3, 9, 4, 39, 175, 3)), (19, (0, 1, 1, 1, 0, 0, 0)), (20, (29, 1, 5, 4, 0, 0, 0)), (21, (17, 3, 0, 28, 0, 0, 7)), (24, (6, 1, 0, 0, 0, 0, 1)), (25, (16, 3, 0, 29, 0, 0, 4)), (28, (6, 1, 0, 0, 0, 0, 0)), (29, (3, 1, 2, 1, 0, 0, 0)), (30, (1, 1, 0, 1, 0, 0, 0)), (31, (23, 3, 9, 4, 39, 175, 3)), (34, (0, 1, 1, 1, 0, 0, 0)), (35, (8, 1, 0, 0, 0, 0, 0)), (36, (30, 1, 5, 4, 0, 0, 0)), (37, (0, 1, 2, 1, 0, 0, 0)), (38, (36, 1, 1, 0, 0, 0, 0))]
def tb_79 : List (Nat × zOp) := [(0, (1, 1, 0, 1, 0, 0, 0)), (1, (23, 3, 9, 3, 33, 174, 3)), (4, (1, 1, 0, 1, 0, 0, 0)), (5, (23, 3, 9, 4, 39, 175, 3)), (8, (1, 1, 0, 1, 0, 0, 0)), (9, (23, 3, 9, 5, 43, 176, 3)), (12, (35, 3, 47, 3, 119, 947, 0)), (15, (5, 1, 1, 1, 0, 0, 0)), (16, (2, 1, 1, 1, 0, 0, 0)), (17, (7, 1, 0, 0, 0, 0, 0)), (18, (19, 1, 0, 0, 0, 0, 0)), (19, (14, 3, 1, 30, 0, 0, 11)), (22, (38, 3, 1, 65, 63, 309, 0)), (30, (1, 1, 0, 1, 0, 0, 0)), (31, (23, 3, 9, 6, 47, 177, 3)), (34, (6, 1, 0, 0, 0, 0, (-1))), (35, (35, 3, 2, 2, 50, 168, 1)), (38, (6, 1, 0, 0, 0, 0, 0)), (39, (3, 1, 3, 1, 0, 0, 0)), (40, (0, 1, 3, 1, 0, 0, 0)), (41, (1, 1, 0, 1, 0, 0, 0)), (42, (23, 3, 9, 2, 24, 173, 3)), (45, (23, 3, 2, 1, 123, 133, 0)), (48, (15, 3, 3, 91, 0, 0, 43)), (51, (1, 1, 0, 1, 0, 0, 0)), (52, (23, 3, 9, 2, 24, 173, 3)), (55, (0, 1, 3, 1, 0, 0, 0)), (56, (35, 3, 28, 2, 106, 223, 0)), (59, (4, 2, 4, 0, 0, 0, 0)), (61, (1, 2, 4, 0, 0, 0, 0)), (63, (17, 3, 0, 85, 0, 0, 22)), (66, (2, 1, 1, 1, 0, 0, 0)), (67, (0, 1, 3, 1, 0, 0, 0)), (68, (35, 3, 44, 2, 126, 1010, 1)), (71, (14, 3, 0, 85, 0, 0, 14)), (74, (1, 1, 0, 1, 0, 0, 0)), (75, (23, 3, 9, 6, 47, 177, 3)), (78, (1, 2, 4, 0, 0, 0, 0)), (80, (23, 3, 3, 0, 130, 714, 0)), (83, (0, 1, 3, 1, 0, 0, 0)), (84, (26, 1, 1, 0, 0, 0, 0)), (85, (9, 3, 3, 0, 0, 0, 1)), (88, (16, 3, 0, 40, 0, 0, (-48))), (91, (1, 1, 0, 1, 0, 0, 0)), (92, (23, 3, 9, 6, 47, 177, 3)), (95, (35, 3, 94, 1, 133, 200, 1)), (98, (36, 1, 0, 0, 0, 0, 0))]
def tb_80 : List (Nat × zOp) := [(0, (0, 1, 1, 1, 0, 0, 0)), (1, (35, 3, 95, 1, 74, 359, 1)), (4, (14, 3, 1, 15, 0, 0, 11)), (7, (38, 3, 2, 80, 78, 362, 0)), (15, (1, 1, 0, 1, 0, 0, 0)), (16, (23, 3, 9, 6, 47, 177, 3)), (19, (0, 1, 1, 1, 0, 0, 0)), (20, (25, 1, 1, 0, 0, 0, 0)), (21, (36, 1, 0, 0, 0, 0, 0))]
def tb_81 : List (Nat × zOp) := [(0, (1, 1, 0, 1, 0, 0, 0)), (1, (23, 3, 9, 6, 47, 177, 3)), (4, (6, 1, 0, 0, 0, 0, 0)), (5, (1, 1, 0, 1, 0, 0, 0)), (6, (23, 3, 9, 5, 43, 176, 3)), (9, (6, 1, 0, 0, 0, 0, 0)), (10, (6, 2, 0, 1, 0, 0, 8)), (12, (44, 3, 1, 0, 137, 197, 0)), (15, (1, 1, 0, 1, 0, 0, 0)), (16, (23, 3, 9, 5, 43, 176, 3)), (19, (35, 3, 94, 1, 133, 200, 1)), (22, (36, 1, 0, 0, 0, 0, 0))]
def tb_82 : List (Nat × zOp) := [(0, (1, 1, 0, 1, 0, 0, 0)), (1, (23, 3, 9, 2, 24, 173, 3)), (4, (0, 1, 1, 1, 0, 0, 0)), (5, (35, 3, 28, 2, 106, 223, 0)), (8, (4, 1, 2, 1, 0, 0, 0)), (9, (1, 1, 2, 1, 0, 0, 0)), (10, (18, 3, 0, 21, 0, 0, 11)), (13, (38, 3, 2, 80, 78, 362, 0)), (21, (1, 1, 0, 1, 0, 0, 0)), (22, (23, 3, 9, 5, 43, 176, 3)), (25, (1, 1, 2, 1, 0, 0, 0)), (26, (23, 3, 3, 0, 130, 714, 0)), (29, (25, 1, 1, 0, 0, 0, 0)), (30, (3, 1, 3, 1, 0, 0, 0)), (31, (1, 1, 0, 1, 0, 0, 0)), (32, (23, 3, 9, 5, 43, 176, 3)), (35, (1, 1, 2, 1, 0, 0, 0)), (36, (23, 3, 3, 0, 130, 714, 0)), (39, (0, 1, 1, 1, 0, 0, 0)), (40, (26, 1, 1, 0, 0, 0, 0)), (41, (0, 1, 3, 1, 0, 0, 0)), (42, (36, 1, 0, 0, 0, 0, 0))]
def tb_83 : List (Nat × zOp) := [(0, (1, 1, 0, 1, 0, 0, 0)), (1, (23, 3, 9, 5, 43, 176, 3)), (4, (35, 3, 94, 1, 133, 200, 1)), (7, (3, 1, 1, 1, 0, 0, 0)), (8, (1, 1, 0, 1, 0, 0, 0)), (9, (23, 3, 9, 5, 43, 176, 3)), (12, (6, 1, 0, 0, 0, 0, (-1))), (13, (35, 3, 2, 2, 50, 168, 1)), (16, (0, 1, 1, 1, 0, 0, 0)), (17, (36, 1, 0, 0, 0, 0, 0))]
def tb_84 : List (Nat × zOp) := [(0, (1, 1, 0, 1, 0, 0, 0)), (1, (35, 3, 91, 1, 70, 333, 0)), (4, (4, 1, 2, 1, 0, 0, 0)), (5, (1, 1, 0, 1, 0, 0, 0)), (6, (23, 3, 9, 2, 24, 173, 3)), (9, (0, 1, 1, 1, 0, 0, 0)), (10, (35, 3, 28, 2, 106, 223, 0)), (13, (4, 1, 3, 1, 0, 0, 0)), (14, (1, 1, 3, 1, 0, 0, 0)), (15, (18, 3, 0, 26, 0, 0, 11)), (18, (38, 3, 2, 80, 78, 362, 0)), (26, (1, 1, 2, 1, 0, 0, 0)), (27, (35, 3, 11, 1, 115, 929, 0)), (30, (4, 2, 4, 0, 0, 0, 0)), (32, (1, 2, 4, 0, 0, 0, 0)), (34, (18, 3, 0, 45, 0, 0, 11)), (37, (38, 3, 0, 58, 56, 244, 0)), (45, (1, 2, 4, 0, 0, 0, 0)), (47, (1, 1, 3, 1, 0, 0, 0)), (48, (23, 3, 3, 1, 143, 718, 3)), (51, (35, 3, 42, 2, 147, 1032, 0)), (54, (36, 1, 1, 0, 0, 0, 0))]
def tb_85 : List (Nat × zOp) := [(0, (1, 1, 0, 1, 0, 0, 0)), (1, (35, 3, 91, 1, 70, 333, 0)), (4, (4, 1, 2, 1, 0, 0, 0)), (5, (0, 1, 1, 1, 0, 0, 0)), (6, (35, 3, 95, 1, 74, 359, 1)), (9, (14, 3, 1, 20, 0, 0, 11)), (12, (38, 3, 2, 80, 78, 362, 0)), (20, (1, 1, 2, 1, 0, 0, 0)), (21, (35, 3, 11, 1, 115, 929, 0)), (24, (4, 1, 3, 1, 0, 0, 0)), (25, (1, 1, 3, 1, 0, 0, 0)), (26, (18, 3, 0, 37, 0, 0, 11)), (29, (38, 3, 0, 58, 56, 244, 0)), (37, (1, 1, 0, 1, 0, 0, 0)), (38, (23, 3, 9, 2, 24, 173, 3)), (41, (0, 1, 1, 1, 0, 0, 0)), (42, (1, 1, 3, 1, 0, 0, 0)), (43, (35, 3, 33, 3, 151, 1040, 0)), (46, (36, 1, 0, 0, 0, 0, 0))]
def tb_86 : List (Nat × zOp) := [(0, (1, 1, 0, 1, 0, 0, 0)), (1, (23, 3, 9, 2, 24, 173, 3)), (4, (0, 1, 1, 1, 0, 0, 0)), (5, (35, 3, 28, 2, 106, 223, 0)), (8, (4, 1, 3, 1, 0, 0, 0)), (9, (1, 1, 0, 1, 0, 0, 0)), (10, (23, 3, 9, 2, 24, 173, 3)), (13, (0, 1, 2, 1, 0, 0, 0)), (14, (35, 3, 28, 2, 106, 223, 0)), (17, (4, 2, 4, 0, 0, 0, 0)), (19, (1, 1, 3, 1, 0, 0, 0)), (20, (17, 3, 0, 28, 0, 0, 8)), (23, (1, 2, 4, 0, 0, 0, 0)), (25, (18, 3, 0, 36, 0, 0, 11)), (28, (38, 3, 2, 80, 78, 362, 0)), (36, (1, 1, 3, 1, 0, 0, 0)), (37, (23, 3, 3, 1, 143, 718, 3)), (40, (1, 2, 4, 0, 0, 0, 0)), (42, (23, 3, 3, 1, 143, 718, 3)), (45, (35, 3, 67, 2, 155, 1053, 0)), (48, (36, 1, 0, 0, 0, 0, 0))]
def tb_87 : List (Nat × zOp) := [(0, (1, 1, 0, 1, 0, 0, 0)), (1, (23, 3, 9, 2, 24, 173, 3)), (4, (0, 1, 1, 1, 0, 0, 0)), (5, (35, 3, 28, 2, 106, 223, 0)), (8, (4, 1, 3, 1, 0, 0, 0)), (9, (1, 1, 3, 1, 0, 0, 0)), (10, (18, 3, 0, 21, 0, 0, 11)), (13, (38, 3, 2, 80, 78, 362, 0)), (21, (1, 1, 3, 1, 0, 0, 0)), (22, (0, 1, 2, 1, 0, 0, 0)), (23, (35, 3, 37, 2, 161, 1061, 0)), (26, (36, 1, 0, 0, 0, 0, 0))]
def tb_88 : List (Nat × zOp) := [(0, (0, 1, 1, 1, 0, 0, 0)), (1, (39, 35, 1, 73, 0, 0, 0)), (36, (1, 1, 0, 1, 0, 0, 0)), (37, (23, 3, 9, 2, 24, 173, 3)), (40, (23, 3, 2, 1, 123, 133, 0)), (43, (36, 1, 0, 0, 0, 0, 0)), (44, (1, 1, 0, 1, 0, 0, 0)), (45, (23, 3, 9, 2, 24, 173, 3)), (48, (35, 3, 32, 1, 165, 211, 0)), (51, (36, 1, 0, 0, 0, 0, 0)), (52, (1, 1, 0, 1, 0, 0, 0)), (53, (35, 3, 93, 1, 169, 215, 0)), (56, (36, 1, 0, 0, 0, 0, 0)), (57, (1, 1, 0, 1, 0, 0, 0)), (58, (23, 3, 9, 5, 43, 176, 3)), (61, (35, 3, 94, 1, 133, 200, 1)), (64, (36, 1, 0, 0, 0, 0, 0)), (65, (1, 1, 0, 1, 0, 0, 0)), (66, (23, 3, 9, 0, 14, 171, 3)), (69, (23, 3, 0, 1, 59, 115, 0)), (72, (36, 1, 0, 0, 0, 0, 0)), (73, (6, 1, 0, 0, 0, 0, (-1))), (74, (36, 1, 0, 0, 0, 0, 0))]
def tb_89 : List (Nat × zOp) := [(0, (1, 1, 0, 1, 0, 0, 0)), (1, (23, 3, 9, 1, 18, 172, 3)), (4, (6, 1, 0, 0, 0, 0, 0)), (5, (24, 3, 0, 1, 59, 115, 0)), (8, (6, 1, 0, 0, 0, 0, 0)), (9, (3, 1, 1, 1, 0, 0, 0)), (10, (0, 1, 1, 1, 0, 0, 0)), (11, (6, 2, 0, 1, 0, 0, 8)), (13, (15, 3, 3, 45, 0, 0, 32)), (16, (1, 1, 0, 1, 0, 0, 0)), (17, (23, 3, 9, 2, 24, 173, 3)), (20, (1, 1, 0, 1, 0, 0, 0)), (21, (23, 3, 9, 6, 47, 177, 3)), (24, (0, 1, 1, 1, 0, 0, 0)), (25, (25, 1, 1, 0, 0, 0, 0)), (26, (35, 3, 28, 2, 106, 223, 0)), (29, (4, 1, 2, 1, 0, 0, 0)), (30, (1, 1, 2, 1, 0, 0, 0)), (31, (17, 3, 0, 39, 0, 0, 8)), (34, (1, 1, 0, 1, 0, 0, 0)), (35, (1, 1, 2, 1, 0, 0, 0)), (36, (35, 3, 92, 2, 172, 227, 0)), (39, (9, 3, 1, 0, 0, 0, 1)), (42, (16, 3, 0, 10, 0, 0, (-32))), (45, (1, 1, 0, 1, 0, 0, 0)), (46, (23, 3, 9, 1, 18, 172, 3)), (49, (23, 3, 0, 1, 59, 115, 0)), (52, (36, 1, 0, 0, 0, 0, 0))]
def tb_90 : List (Nat × zOp) := [(0, (0, 1, 1, 1, 0, 0, 0)), (1, (14, 3, 2, 15, 0, 0, 14)), (4, (0, 1, 1, 1, 0, 0, 0)), (5, (1, 1, 0, 1, 0, 0, 0)), (6, (23, 3, 9, 1, 18, 172, 3)), (9, (23, 3, 0, 1, 59, 115, 0)), (12, (15, 3, 2, 23, 0, 0, 11)), (15, (38, 3, 2, 80, 78, 362, 0)), (23, (1, 1, 0, 1, 0, 0, 0)), (24, (23, 3, 9, 1, 18, 172, 3)), (27, (23, 3, 0, 0, 176, 113, 3)), (30, (0, 1, 1, 1, 0, 0, 0)), (31, (25, 1, 0, 0, 0, 0, 0)), (32, (36, 1, 0, 0, 0, 0, 0))]
def tb_91 : List (Nat × zOp) := [(0, (32, 3, 1, 4, 82, 337, 0)), (3, (20, 1, 0, 0, 0, 0, 0)), (4, (1, 1, 0, 1, 0, 0, 0)), (5, (23, 3, 9, 0, 14, 171, 3)), (8, (23, 3, 0, 0, 176, 113, 3)), (11, (1, 1, 0, 1, 0, 0, 0)), (12, (23, 3, 9, 0, 14, 171, 3)), (15, (23, 3, 0, 1, 59, 115, 0)), (18, (35, 3, 9, 3, 180, 339, 2)), (21, (4, 1, 1, 1, 0, 0, 0)), (22, (1, 1, 0, 1, 0, 0, 0)), (23, (23, 3, 9, 0, 14, 171, 3)), (26, (6, 1, 0, 0, 0, 0, 0)), (27, (24, 3, 0, 1, 59, 115, 0)), (30, (1, 1, 1, 1, 0, 0, 0)), (31, (36, 1, 3, 0, 0, 0, 0))]
def tb_92 : List (Nat × zOp) := [(0, (1, 1, 0, 1, 0, 0, 0)), (1, (23, 3, 9, 1, 18, 172, 3)), (4, (6, 2, 0, 1, 0, 0, 48)), (6, (1, 1, 1, 1, 0, 0, 0)), (7, (23, 3, 3, 0, 130, 714, 0)), (10, (10, 1, 0, 0, 0, 0, 0)), (11, (13, 1, 2, 0, 0, 0, 0)), (12, (35, 3, 8, 2, 66, 231, 0)), (15, (1, 1, 0, 1, 0, 0, 0)), (16, (23, 3, 9, 1, 18, 172, 3)), (19, (6, 2, 0, 1, 0, 0, 32)), (21, (35, 3, 8, 2, 66, 231, 0)), (24, (6, 1, 0, 0, 0, 0, 0)), (25, (3, 1, 2, 1, 0, 0, 0)), (26, (0, 1, 2, 1, 0, 0, 0)), (27, (1, 1, 1, 1, 0, 0, 0)), (28, (23, 3, 3, 2, 183, 720, 3)), (31, (31, 1, 0, 0, 0, 0, 0)), (32, (15, 3, 3, 54, 0, 0, 22)), (35, (1, 1, 0, 1, 0, 0, 0)), (36, (23, 3, 9, 1, 18, 172, 3)), (39, (1, 1, 1, 1, 0, 0, 0)), (40, (23, 3, 3, 2, 183, 720, 3)), (43, (0, 1, 2, 1, 0, 0, 0)), (44, (25, 1, 0, 0, 0, 0, 0)), (45, (35, 3, 8, 2, 66, 231, 0)), (48, (9, 3, 2, 0, 0, 0, 1)), (51, (16, 3, 0, 26, 0, 0, (-25))), (54, (1, 1, 0, 1, 0, 0, 0)), (55, (23, 3, 9, 1, 18, 172, 3)), (58, (6, 2, 0, 1, 0, 0, 10)), (60, (35, 3, 8, 2, 66, 231, 0)), (63, (37, 1, 0, 0, 0, 0, 0))]
def tb_93 : List (Nat × zOp) := [(0, (6, 1, 0, 0, 0, 0, 0)), (1, (3, 1, 1, 1, 0, 0, 0)), (2, (6, 1, 0, 0, 0, 0, 0)), (3, (3, 1, 2, 1, 0, 0, 0)), (4, (0, 1, 2, 1, 0, 0, 0)), (5, (6, 2, 0, 1, 0, 0, 8)), (7, (15, 3, 3, 28, 0, 0, 21)), (10, (1, 1, 0, 1, 0, 0, 0)), (11, (23, 3, 9, 4, 39, 175, 3)), (14, (0, 1, 2, 1, 0, 0, 0)), (15, (29, 1, 5, 4, 0, 0, 0)), (16, (17, 3, 0, 22, 0, 0, 6)), (19, (9, 3, 1, 0, 0, 0, 1)), (22, (9, 3, 2, 0, 0, 0, 1)), (25, (16, 3, 0, 4, 0, 0, (-21))), (28, (0, 1, 1, 1, 0, 0, 0)), (29, (36, 1, 0, 0, 0, 0, 0))]
def tb_94 : List (Nat × zOp) := [(0, (6, 1, 0, 0, 0, 0, 0)), (1, (3, 1, 1, 1, 0, 0, 0)), (2, (6, 1, 0, 0, 0, 0, 0)), (3, (3, 1, 2, 1, 0, 0, 0)), (4, (0, 1, 2, 1, 0, 0, 0)), (5, (1, 1, 0, 1, 0, 0, 0)), (6, (31, 1, 0, 0, 0, 0, 0)), (7, (15, 3, 3, 26, 0, 0, 19)), (10, (1, 1, 0, 1, 0, 0, 0)), (11, (0, 1, 2, 1, 0, 0, 0)), (12, (25, 1, 1, 0, 0, 0, 0)), (13, (6, 1, 0, 0, 0, 0, (-1))), (14, (15, 3, 0, 20, 0, 0, 6)), (17, (9, 3, 1, 0, 0, 0, 1)), (20, (9, 3, 2, 0, 0, 0, 1)), (23, (16, 3, 0, 4, 0, 0, (-19))), (26, (0, 1, 1, 1, 0, 0, 0)), (27, (36, 1, 0, 0, 0, 0, 0))]
def tb_95 : List (Nat × zOp) := [(0, (0, 1, 0, 1, 0, 0, 0)), (1, (14, 3, 2, 14, 0, 0, 13)), (4, (0, 1, 0, 1, 0, 0, 0)), (5, (6, 2, 0, 1, 0, 0, 8)), (7, (15, 3, 3, 14, 0, 0, 7)), (10, (6, 1, 0, 0, 0, 0, 1)), (11, (16, 3, 0, 15, 0, 0, 4)), (14, (6, 1, 0, 0, 0, 0, 0)), (15, (36, 1, 1, 0, 0, 0, 0))]
def tb_96 : List (Nat × zOp) := [(0, (1, 1, 0, 1, 0, 0, 0)), (1, (40, 3, 0, 0, 1, 1077, 0)), (4, (1, 1, 0, 1, 0, 0, 0)), (5, (6, 3, 0, 2, 0, 0, 160)), (8, (33, 2, 1, 0, 0, 0, 0)), (10, (24, 3, 10, 2, 7, 1080, 3)), (13, (1, 1, 0, 1, 0, 0, 0)), (14, (6, 3, 0, 2, 0, 0, 900)), (17, (33, 2, 1, 0, 0, 0, 0)), (19, (24, 3, 10, 5, 13, 1083, 3)), (22, (1, 1, 0, 1, 0, 0, 0)), (23, (6, 3, 0, 2, 0, 0, 900)), (26, (33, 2, 1, 0, 0, 0, 0)), (28, (24, 3, 10, 6, 16, 1084, 3)), (31, (1, 1, 0, 1, 0, 0, 0)), (32, (6, 3, 0, 2, 0, 0, 900)), (35, (33, 2, 1, 0, 0, 0, 0)), (37, (24, 3, 10, 7, 19, 1085, 3)), (40, (1, 1, 0, 1, 0, 0, 0)), (41, (6, 3, 0, 2, 0, 0, 900)), (44, (33, 2, 1, 0, 0, 0, 0)), (46, (24, 3, 10, 8, 22, 1086, 3)), (49, (1, 1, 0, 1, 0, 0, 0)), (50, (6, 3, 0, 2, 0, 0, 21600)), (53, (33, 2, 1, 0, 0, 0, 0)), (55, (24, 3, 10, 9, 25, 1087, 3)), (58, (1, 1, 0, 1, 0, 0, 0)), (59, (6, 3, 0, 2, 0, 0, 900)), (62, (33, 2, 1, 0, 0, 0, 0)), (64, (24, 3, 10, 10, 28, 1088, 3)), (67, (1, 1, 0, 1, 0, 0, 0)), (68, (6, 3, 0, 2, 0, 0, 900)), (71, (33, 2, 1, 0, 0, 0, 0)), (73, (24, 3, 10, 11, 31, 1089, 3)), (76, (1, 1, 0, 1, 0, 0, 0)), (77, (6, 3, 0, 2, 0, 0, 214)), (80, (33, 2, 1, 0, 0, 0, 0)), (82, (24, 3, 10, 12, 34, 1090, 3)), (85, (1, 1, 0, 1, 0, 0, 0)), (86, (6, 3, 0, 2, 0, 0, 205)), (89, (33, 2, 1, 0, 0, 0, 0)), (91, (24, 3, 10, 13, 37, 1091, 3)), (94, (1, 1, 0, 1, 0, 0, 0)), (95, (6, 2, 0, 1, 0, 0, 41)), (97, (33, 2, 1, 0, 0, 0, 0)), (99, (24, 3, 10, 14, 40, 1092, 3)), (102, (1, 1, 0, 1, 0, 0, 0)), (103, (6, 2, 0, 1, 0, 0, 40)), (105, (33, 2, 1, 0, 0, 0, 0)), (107, (24, 3, 10, 16, 43, 1094, 3)), (110, (1, 1, 0, 1, 0, 0, 0)), (111, (6, 2, 0, 1, 0, 0, 40)), (113, (33, 2, 3, 0, 0, 0, 0)), (115, (24, 3, 10, 17, 46, 1095, 3)), (118, (1, 1, 0, 1, 0, 0, 0)), (119, (6, 2, 0, 1, 0, 0, 41)), (121, (33, 2, 1, 0, 0, 0, 0)), (123, (24, 3, 10, 18, 50, 1096, 3)), (126, (1, 1, 0, 1, 0, 0, 0)), (127, (6, 3, 0, 2, 0, 0, 984)), (130, (33, 2, 1, 0, 0, 0, 0)), (132, (24, 3, 10, 19, 53, 1097, 3)), (135, (1, 1, 0, 1, 0, 0, 0)), (136, (6, 2, 0, 1, 0, 0, 8)), (138, (33, 2, 3, 0, 0, 0, 0)), (140, (24, 3, 10, 20, 56, 1098, 3)), (143, (1, 1, 0, 1, 0, 0, 0)), (144, (6, 2, 0, 1, 0, 0, 8)), (146, (33, 2, 1, 0, 0, 0, 0)), (148, (24, 3, 10, 21, 59, 1099, 3)), (151, (1, 1, 0, 1, 0, 0, 0)), (152, (6, 2, 0, 1, 0, 0, 8)), (154, (33, 2, 1, 0, 0, 0, 0)), (156, (24, 3, 10, 22, 62, 1100, 3)), (159, (1, 1, 0, 1, 0, 0, 0)), (160, (6, 3, 0, 2, 0, 0, 250)), (163, (33, 2, 1, 0, 0, 0, 0)), (165, (24, 3, 10, 24, 65, 1102, 3)), (168, (1, 1, 0, 1, 0, 0, 0)), (169, (6, 3, 0, 2, 0, 0, 328)), (172, (33, 2, 1, 0, 0, 0, 0)), (174, (24, 3, 10, 25, 68, 1103, 3)), (177, (1, 1, 0, 1, 0, 0, 0)), (178, (6, 2, 0, 1, 0, 0, 8)), (180, (33, 2, 1, 0, 0, 0, 0)), (182, (24, 3, 10, 26, 71, 1104, 3)), (185, (1, 1, 0, 1, 0, 0, 0)), (186, (6, 2, 0, 1, 0, 0, 8)), (188, (33, 2, 1, 0, 0, 0, 0)), (190, (24, 3, 10, 27, 74, 1105, 3)), (193, (1, 1, 0, 1, 0, 0, 0)), (194, (6, 3, 0, 2, 0, 0, 8560)), (197, (33, 2, 3, 0, 0, 0, 0)), (199, (24, 3, 10, 28, 77, 1106, 3)), (202, (1, 1, 0, 1, 0, 0, 0)), (203, (6, 2, 0, 1, 0, 0, 8)), (205, (33, 2, 3, 0, 0, 0, 0)), (207, (24, 3, 10, 29, 80, 1107, 3)), (210, (6, 1, 0, 0, 0, 0, 0)), (211, (3, 1, 1, 1, 0, 0, 0)), (212, (0, 1, 1, 1, 0, 0, 0)), (213, (6, 2, 0, 1, 0, 0, 8)), (215, (15, 3, 3, 238, 0, 0, 23)), (218, (1, 1, 0, 1, 0, 0, 0)), (219, (23, 3, 10, 21, 59, 1099, 3)), (222, (0, 1, 1, 1, 0, 0, 0)), (223, (6, 1, 0, 0, 0, 0, (-1))), (224, (26, 1, 1, 0, 0, 0, 0)), (225, (1, 1, 0, 1, 0, 0, 0)), (226, (23, 3, 10, 22, 62, 1100, 3)), (229, (0, 1, 1, 1, 0, 0, 0)), (230, (6, 1, 0, 0, 0, 0, (-1))), (231, (26, 1, 1, 0, 0, 0, 0)), (232, (9, 3, 1, 0, 0, 0, 1)), (235, (16, 3, 0, 212, 0, 0, (-23))), (238, (37, 1, 0, 0, 0, 0, 0))]
def tb_97 : List (Nat × zOp) := [(0, (1, 1, 0, 1, 0, 0, 0)), (1, (23, 3, 10, 0, 83, 1078, 0)), (4, (36, 1, 0, 0, 0, 0, 0))]
def tb_98 : List (Nat × zOp) := [(0, (0, 1, 0, 1, 0, 0, 0)), (1, (0, 1, 1, 1, 0, 0, 0)), (2, (15, 3, 2, 14, 0, 0, 12)), (5, (0, 1, 0, 1, 0, 0, 0)), (6, (0, 1, 2, 1, 0, 0, 0)), (7, (15, 3, 4, 14, 0, 0, 7)), (10, (6, 1, 0, 0, 0, 0, 1)), (11, (16, 3, 0, 15, 0, 0, 4)), (14, (6, 1, 0, 0, 0, 0, 0)), (15, (36, 1, 1, 0, 0, 0, 0))]
def tb_99 : List (Nat × zOp) := [(0, (1, 1, 0, 1, 0, 0, 0)), (1, (0, 1, 3, 1, 0, 0, 0)), (2, (6, 1, 0, 0, 0, 0, 1)), (3, (6, 2, 0, 1, 0, 0, 8)), (5, (35, 3, 98, 3, 87, 1178, 1)), (8, (14, 3, 1, 15, 0, 0, 7)), (11, (6, 1, 0, 0, 0, 0, 1)), (12, (16, 3, 0, 32, 0, 0, 20)), (15, (1, 1, 0, 1, 0, 0, 0)), (16, (23, 3, 10, 1, 91, 1079, 0)), (19, (0, 1, 3, 1, 0, 0, 0)), (20, (10, 1, 0, 0, 0, 0, 0)), (21, (6, 3, 0, 2, 0, 0, 160)), (24, (15, 3, 5, 31, 0, 0, 7)), (27, (6, 1, 0, 0, 0, 0, 2)), (28, (16, 3, 0, 32, 0, 0, 4)), (31, (6, 1, 0, 0, 0, 0, 0)), (32, (24, 3, 10, 0, 83, 1078, 0)), (35, (1, 1, 0, 1, 0, 0, 0)), (36, (23, 3, 10, 0, 83, 1078, 0)), (39, (14, 3, 5, 44, 0, 0, 5)), (42, (6, 1, 0, 0, 0, 0, 0)), (43, (36, 1, 0, 0, 0, 0, 0)), (44, (6, 1, 0, 0, 0, 0, 0)), (45, (3, 2, 4, 0, 0, 0, 0)), (47, (0, 2, 4, 0, 0, 0, 0)), (49, (0, 1, 3, 1, 0, 0, 0)), (50, (15, 3, 3, 90, 0, 0, 40)), (53, (1, 1, 0, 1, 0, 0, 0)), (54, (23, 3, 10, 2, 7, 1080, 3)), (57, (1, 1, 0, 1, 0, 0, 0)), (58, (23, 3, 10, 1, 91, 1079, 0)), (61, (2, 1, 1, 1, 0, 0, 0)), (62, (6, 2, 0, 1, 0, 0, 8)), (64, (0, 2, 4, 0, 0, 0, 0)), (66, (10, 1, 2, 0, 0, 0, 0)), (67, (12, 1, 1, 0, 0, 0, 0)), (68, (7, 3, 0, 1, 94, 1181, 255)), (71, (11, 1, 2, 0, 0, 0, 0)), (72, (13, 1, 1, 0, 0, 0, 0)), (73, (26, 1, 1, 0, 0, 0, 0)), (74, (1, 1, 0, 1, 0, 0, 0)), (75, (20, 1, 0, 0, 0, 0, 0)), (76, (23, 3, 10, 1, 91, 1079, 0)), (79, (6, 1, 0, 0, 0, 0, 1)), (80, (10, 1, 0, 0, 0, 0, 0)), (81, (24, 3, 10, 1, 91, 1079, 0)), (84, (9, 3, 4, 0, 0, 0, 1)), (87, (16, 3, 0, 47, 0, 0, (-40))), (90, (1, 1, 0, 1, 0, 0, 0)), (91, (23, 3, 10, 1, 91, 1079, 0)), (94, (36, 1, 0, 0, 0, 0, 0))]
def tb_100 : List (Nat × zOp) := [(0, (1, 1, 0, 1, 0, 0, 0)), (1, (23, 3, 10, 4, 96, 1082, 1)), (4, (14, 3, 1, 30, 0, 0, 26)), (7, (1, 1, 0, 1, 0, 0, 0)), (8, (23, 3, 10, 3, 100, 1081, 0)), (11, (1, 1, 0, 1, 0, 0, 0)), (12, (23, 3, 10, 1, 91, 1079, 0)), (15, (15, 3, 3, 30, 0, 0, 15)), (18, (1, 1, 0, 1, 0, 0, 0)), (19, (23, 3, 10, 2, 7, 1080, 3)), (22, (1, 1, 0, 1, 0, 0, 0)), (23, (23, 3, 10, 3, 100, 1081, 0)), (26, (25, 1, 1, 0, 0, 0, 0)), (27, (16, 3, 0, 31, 0, 0, 4)), (30, (6, 1, 0, 0, 0, 0, (-1))), (31, (36, 1, 0, 0, 0, 0, 0))]
def tb_101 : List (Nat × zOp) := [(0, (0, 1, 0, 1, 0, 0, 0)), (1, (6, 2, 0, 1, 0, 0, 48)), (3, (15, 3, 2, 16, 0, 0, 13)), (6, (0, 1, 0, 1, 0, 0, 0)), (7, (6, 2, 0, 1, 0, 0, 57)), (9, (15, 3, 4, 16, 0, 0, 7)), (12, (6, 1, 0, 0, 0, 0, 1)), (13, (16, 3, 0, 17, 0, 0, 4)), (16, (6, 1, 0, 0, 0, 0, 0)), (17, (36, 1, 1, 0, 0, 0, 0))]
def tb_102 : List (Nat × zOp) := [(0, (0, 1, 0, 1, 0, 0, 0)), (1, (35, 3, 101, 1, 103, 1206, 1)), (4, (14, 3, 1, 37, 0, 0, 33)), (7, (0, 1, 0, 1, 0, 0, 0)), (8, (6, 2, 0, 1, 0, 0, 65)), (10, (15, 3, 2, 19, 0, 0, 9)), (13, (0, 1, 0, 1, 0, 0, 0)), (14, (6, 2, 0, 1, 0, 0, 90)), (16, (15, 3, 5, 37, 0, 0, 21)), (19, (0, 1, 0, 1, 0, 0, 0)), (20, (6, 2, 0, 1, 0, 0, 97)), (22, (15, 3, 2, 31, 0, 0, 9)), (25, (0, 1, 0, 1, 0, 0, 0)), (26, (6, 2, 0, 1, 0, 0, 122)), (28, (15, 3, 5, 37, 0, 0, 9)), (31, (0, 1, 0, 1, 0, 0, 0)), (32, (6, 2, 0, 1, 0, 0, 45)), (34, (15, 3, 1, 41, 0, 0, 7)), (37, (6, 1, 0, 0, 0, 0, 1)), (38, (16, 3, 0, 42, 0, 0, 4)), (41, (6, 1, 0, 0, 0, 0, 0)), (42, (36, 1, 1, 0, 0, 0, 0))]
def tb_103 : List (Nat × zOp) := [(0, (1, 1, 0, 1, 0, 0, 0)), (1, (35, 3, 100, 1, 107, 1202, 0)), (4, (0, 1, 1, 1, 0, 0, 0)), (5, (15, 3, 1, 21, 0, 0, 16)), (8, (1, 1, 0, 1, 0, 0, 0)), (9, (20, 1, 0, 0, 0, 0, 0)), (10, (23, 3, 10, 3, 100, 1081, 0)), (13, (6, 1, 0, 0, 0, 0, 1)), (14, (10, 1, 0, 0, 0, 0, 0)), (15, (24, 3, 10, 3, 100, 1081, 0)), (18, (16, 3, 0, 26, 0, 0, 8)), (21, (1, 1, 0, 1, 0, 0, 0)), (22, (6, 1, 0, 0, 0, 0, 1)), (23, (24, 3, 10, 4, 96, 1082, 1)), (26, (37, 1, 0, 0, 0, 0, 0))]
def tb_104 : List (Nat × zOp) := [(0, (1, 1, 0, 1, 0, 0, 0)), (1, (35, 3, 100, 1, 107, 1202, 0)), (4, (35, 3, 101, 1, 103, 1206, 1)), (7, (14, 3, 1, 17, 0, 0, 10)), (10, (1, 1, 0, 1, 0, 0, 0)), (11, (6, 1, 0, 0, 0, 0, 1)), (12, (24, 3, 10, 4, 96, 1082, 1)), (15, (6, 1, 0, 0, 0, 0, 0)), (16, (36, 1, 0, 0, 0, 0, 0)), (17, (6, 1, 0, 0, 0, 0, 0)), (18, (3, 1, 1, 1, 0, 0, 0)), (19, (6, 1, 0, 0, 0, 0, 0)), (20, (3, 1, 2, 1, 0, 0, 0)), (21, (1, 1, 0, 1, 0, 0, 0)), (22, (35, 3, 100, 1, 107, 1202, 0)), (25, (6, 2, 0, 1, 0, 0, 48)), (27, (15, 3, 1, 34, 0, 0, 7)), (30, (6, 1, 0, 0, 0, 0, 1)), (31, (16, 3, 0, 35, 0, 0, 4)), (34, (6, 1, 0, 0, 0, 0, 0)), (35, (3, 1, 3, 1, 0, 0, 0)), (36, (1, 1, 0, 1, 0, 0, 0)), (37, (35, 3, 100, 1, 107, 1202, 0)), (40, (35, 3, 101, 1, 103, 1206, 1)), (43, (14, 3, 0, 99, 0, 0, 56)), (46, (0, 1, 2, 1, 0, 0, 0)), (47, (0, 1, 3, 1, 0, 0, 0)), (48, (14, 3, 0, 55, 0, 0, 7)), (51, (6, 1, 0, 0, 0, 0, 1)), (52, (16, 3, 0, 57, 0, 0, 5)), (55, (6, 2, 0, 1, 0, 0, 10)), (57, (15, 3, 3, 99, 0, 0, 42)), (60, (0, 1, 2, 1, 0, 0, 0)), (61, (6, 2, 0, 1, 0, 0, 9)), (63, (15, 3, 3, 81, 0, 0, 18)), (66, (6, 2, 0, 1, 0, 0, 10)), (68, (0, 1, 1, 1, 0, 0, 0)), (69, (10, 1, 2, 0, 0, 0, 0)), (70, (1, 1, 0, 1, 0, 0, 0)), (71, (35, 3, 100, 1, 107, 1202, 0)), (74, (10, 1, 0, 0, 0, 0, 0)), (75, (6, 2, 0, 1, 0, 0, 48)), (77, (10, 1, 1, 0, 0, 0, 0)), (78, (16, 3, 0, 82, 0, 0, 4)), (81, (0, 1, 1, 1, 0, 0, 0)), (82, (3, 1, 1, 1, 0, 0, 0)), (83, (9, 3, 2, 0, 0, 0, 1)), (86, (1, 1, 0, 1, 0, 0, 0)), (87, (20, 1, 0, 0, 0, 0, 0)), (88, (23, 3, 10, 3, 100, 1081, 0)), (91, (6, 1, 0, 0, 0, 0, 1)), (92, (10, 1, 0, 0, 0, 0, 0)), (93, (24, 3, 10, 3, 100, 1081, 0)), (96, (16, 3, 0, 36, 0, 0, (-60))), (99, (1, 1, 0, 1, 0, 0, 0)), (100, (1, 1, 0, 1, 0, 0, 0)), (101, (23, 3, 10, 4, 96, 1082, 1)), (104, (14, 3, 1, 113, 0, 0, 9)), (107, (0, 1, 2, 1, 0, 0, 0)), (108, (6, 2, 0, 1, 0, 0, 9)), (110, (15, 3, 5, 117, 0, 0, 7)), (113, (6, 1, 0, 0, 0, 0, 1)), (114, (16, 3, 0, 118, 0, 0, 4)), (117, (6, 1, 0, 0, 0, 0, 0)), (118, (24, 3, 10, 4, 96, 1082, 1)), (121, (0, 1, 1, 1, 0, 0, 0)), (122, (36, 1, 0, 0, 0, 0, 0))]
def tb_105 : List (Nat × zOp) := [(0, (6, 1, 0, 0, 0, 0, 1)), (1, (3, 1, 2, 1, 0, 0, 0)), (2, (0, 1, 2, 1, 0, 0, 0)), (3, (14, 3, 0, 167, 0, 0, 164)), (6, (1, 1, 0, 1, 0, 0, 0)), (7, (23, 3, 10, 4, 96, 1082, 1)), (10, (14, 3, 1, 167, 0, 0, 157)), (13, (1, 1, 0, 1, 0, 0, 0)), (14, (23, 3, 10, 3, 100, 1081, 0)), (17, (3, 1, 3, 1, 0, 0, 0)), (18, (6, 1, 0, 0, 0, 0, 1)), (19, (3, 2, 4, 0, 0, 0, 0)), (21, (1, 1, 0, 1, 0, 0, 0)), (22, (35, 3, 100, 1, 107, 1202, 0)), (25, (35, 3, 102, 1, 111, 1221, 1)), (28, (14, 3, 0, 66, 0, 0, 38)), (31, (0, 2, 4, 0, 0, 0, 0)), (33, (14, 3, 0, 50, 0, 0, 17)), (36, (1, 1, 0, 1, 0, 0, 0)), (37, (35, 3, 100, 1, 107, 1202, 0)), (40, (35, 3, 101, 1, 103, 1206, 1)), (43, (14, 3, 0, 50, 0, 0, 7)), (46, (6, 1, 0, 0, 0, 0, 1)), (47, (16, 3, 0, 51, 0, 0, 4)), (50, (6, 1, 0, 0, 0, 0, 0)), (51, (3, 2, 4, 0, 0, 0, 0)), (53, (1, 1, 0, 1, 0, 0, 0)), (54, (20, 1, 0, 0, 0, 0, 0)), (55, (23, 3, 10, 3, 100, 1081, 0)), (58, (6, 1, 0, 0, 0, 0, 1)), (59, (10, 1, 0, 0, 0, 0, 0)), (60, (24, 3, 10, 3, 100, 1081, 0)), (63, (16, 3, 0, 21, 0, 0, (-42))), (66, (1, 1, 0, 1, 0, 0, 0)), (67, (23, 3, 10, 3, 100, 1081, 0)), (70, (0, 1, 3, 1, 0, 0, 0)), (71, (10, 1, 1, 0, 0, 0, 0)), (72, (3, 2, 5, 0, 0, 0, 0)), (74, (1, 1, 0, 1, 0, 0, 0)), (75, (1, 1, 0, 1, 0, 0, 0)), (76, (23, 3, 10, 4, 96, 1082, 1)), (79, (14, 3, 1, 120, 0, 0, 41)), (82, (0, 2, 5, 0, 0, 0, 0)), (84, (14, 3, 0, 120, 0, 0, 36)), (87, (0, 1, 1, 1, 0, 0, 0)), (88, (14, 3, 0, 124, 0, 0, 36)), (91, (0, 2, 4, 0, 0, 0, 0)), (93, (14, 3, 0, 124, 0, 0, 31)), (96, (0, 2, 5, 0, 0, 0, 0)), (98, (6, 2, 0, 1, 0, 0, 9)), (100, (15, 3, 4, 120, 0, 0, 20)), (103, (0, 2, 5, 0, 0, 0, 0)), (105, (6, 1, 0, 0, 0, 0, 1)), (106, (15, 3, 5, 124, 0, 0, 18)), (109, (1, 1, 0, 1, 0, 0, 0)), (110, (23, 3, 10, 2, 7, 1080, 3)), (113, (0, 1, 3, 1, 0, 0, 0)), (114, (25, 1, 1, 0, 0, 0, 0)), (115, (6, 2, 0, 1, 0, 0, 48)), (117, (15, 3, 1, 124, 0, 0, 7)), (120, (6, 1, 0, 0, 0, 0, 1)), (121, (16, 3, 0, 125, 0, 0, 4)), (124, (6, 1, 0, 0, 0, 0, 0)), (125, (24, 3, 10, 4, 96, 1082, 1)), (128, (1, 1, 0, 1, 0, 0, 0)), (129, (35, 3, 100, 1, 107, 1202, 0)), (132, (6, 2, 0, 1, 0, 0, 46)), (134, (15, 3, 1, 141, 0, 0, 7)), (137, (6, 1, 0, 0, 0, 0, 1)), (138, (16, 3, 0, 142, 0, 0, 4)), (141, (6, 1, 0, 0, 0, 0, 0)), (142, (3, 1, 2, 1, 0, 0, 0)), (143, (1, 1, 0, 1, 0, 0, 0)), (144, (0, 1, 2, 1, 0, 0, 0)), (145, (14, 3, 0, 157, 0, 0, 12)), (148, (1, 1, 0, 1, 0, 0, 0)), (149, (23, 3, 10, 3, 100, 1081, 0)), (152, (6, 1, 0, 0, 0, 0, 1)), (153, (10, 1, 0, 0, 0, 0, 0)), (154, (16, 3, 0, 161, 0, 0, 7)), (157, (1, 1, 0, 1, 0, 0, 0)), (158, (23, 3, 10, 3, 100, 1081, 0)), (161, (24, 3, 10, 3, 100, 1081, 0)), (164, (16, 3, 0, 2, 0, 0, (-162))), (167, (37, 1, 0, 0, 0, 0, 0))]
def tb_106 : List (Nat × zOp) := [(0, (1, 1, 0, 1, 0, 0, 0)), (1, (23, 3, 10, 8, 22, 1086, 3)), (4, (0, 1, 1, 1, 0, 0, 0)), (5, (6, 1, 0, 0, 0, 0, 0)), (6, (26, 1, 1, 0, 0, 0, 0)), (7, (1, 1, 0, 1, 0, 0, 0)), (8, (35, 3, 100, 1, 107, 1202, 0)), (11, (6, 2, 0, 1, 0, 0, 45)), (13, (15, 3, 0, 17, 0, 0, 4)), (16, (37, 1, 0, 0, 0, 0, 0)), (17, (1, 1, 0, 1, 0, 0, 0)), (18, (20, 1, 0, 0, 0, 0, 0)), (19, (23, 3, 10, 3, 100, 1081, 0)), (22, (6, 1, 0, 0, 0, 0, 1)), (23, (10, 1, 0, 0, 0, 0, 0)), (24, (24, 3, 10, 3, 100, 1081, 0)), (27, (1, 1, 0, 1, 0, 0, 0)), (28, (23, 3, 10, 3, 100, 1081, 0)), (31, (3, 1, 2, 1, 0, 0, 0)), (32, (1, 1, 0, 1, 0, 0, 0)), (33, (6, 1, 0, 0, 0, 0, 1)), (34, (35, 3, 105, 2, 114, 1217, 0)), (37, (1, 1, 0, 1, 0, 0, 0)), (38, (23, 3, 10, 3, 100, 1081, 0)), (41, (0, 1, 2, 1, 0, 0, 0)), (42, (10, 1, 1, 0, 0, 0, 0)), (43, (3, 1, 3, 1, 0, 0, 0)), (44, (1, 1, 0, 1, 0, 0, 0)), (45, (1, 1, 0, 1, 0, 0, 0)), (46, (23, 3, 10, 4, 96, 1082, 1)), (49, (14, 3, 1, 58, 0, 0, 9)), (52, (0, 1, 3, 1, 0, 0, 0)), (53, (6, 2, 0, 1, 0, 0, 24)), (55, (15, 3, 5, 62, 0, 0, 7)), (58, (6, 1, 0, 0, 0, 0, 1)), (59, (16, 3, 0, 63, 0, 0, 4)), (62, (6, 1, 0, 0, 0, 0, 0)), (63, (24, 3, 10, 4, 96, 1082, 1)), (66, (6, 1, 0, 0, 0, 0, 0)), (67, (3, 2, 4, 0, 0, 0, 0)), (69, (0, 2, 4, 0, 0, 0, 0)), (71, (0, 1, 3, 1, 0, 0, 0)), (72, (15, 3, 3, 109, 0, 0, 37)), (75, (1, 1, 0, 1, 0, 0, 0)), (76, (23, 3, 10, 4, 96, 1082, 1)), (79, (14, 3, 1, 109, 0, 0, 30)), (82, (1, 1, 0, 1, 0, 0, 0)), (83, (23, 3, 10, 9, 25, 1087, 3)), (86, (6, 2, 0, 1, 0, 0, 24)), (88, (0, 1, 1, 1, 0, 0, 0)), (89, (10, 1, 2, 0, 0, 0, 0)), (90, (0, 2, 4, 0, 0, 0, 0)), (92, (10, 1, 0, 0, 0, 0, 0)), (93, (1, 1, 0, 1, 0, 0, 0)), (94, (23, 3, 10, 2, 7, 1080, 3)), (97, (0, 1, 2, 1, 0, 0, 0)), (98, (0, 2, 4, 0, 0, 0, 0)), (100, (10, 1, 0, 0, 0, 0, 0)), (101, (25, 1, 1, 0, 0, 0, 0)), (102, (26, 1, 1, 0, 0, 0, 0)), (103, (9, 3, 4, 0, 0, 0, 1)), (106, (16, 3, 0, 69, 0, 0, (-37))), (109, (1, 1, 0, 1, 0, 0, 0)), (110, (23, 3, 10, 8, 22, 1086, 3)), (113, (0, 1, 1, 1, 0, 0, 0)), (114, (0, 1, 3, 1, 0, 0, 0)), (115, (26, 1, 1, 0, 0, 0, 0)), (116, (37, 1, 0, 0, 0, 0, 0))]
def tb_107 : List (Nat × zOp) := [(0, (1, 1, 0, 1, 0, 0, 0)), (1, (23, 3, 10, 3, 100, 1081, 0)), (4, (3, 1, 1, 1, 0, 0, 0)), (5, (1, 1, 0, 1, 0, 0, 0)), (6, (23, 3, 10, 5, 13, 1083, 3)), (9, (6, 2, 0, 1, 0, 0, 40)), (11, (1, 1, 0, 1, 0, 0, 0)), (12, (35, 3, 104, 1, 118, 1198, 0)), (15, (26, 1, 1, 0, 0, 0, 0)), (16, (1, 1, 0, 1, 0, 0, 0)), (17, (6, 2, 0, 1, 0, 0, 46)), (19, (35, 3, 103, 2, 121, 1209, 0)), (22, (1, 1, 0, 1, 0, 0, 0)), (23, (23, 3, 10, 6, 16, 1084, 3)), (26, (6, 2, 0, 1, 0, 0, 40)), (28, (1, 1, 0, 1, 0, 0, 0)), (29, (35, 3, 104, 1, 118, 1198, 0)), (32, (26, 1, 1, 0, 0, 0, 0)), (33, (1, 1, 0, 1, 0, 0, 0)), (34, (6, 2, 0, 1, 0, 0, 46)), (36, (35, 3, 103, 2, 121, 1209, 0)), (39, (1, 1, 0, 1, 0, 0, 0)), (40, (23, 3, 10, 7, 19, 1085, 3)), (43, (6, 2, 0, 1, 0, 0, 40)), (45, (1, 1, 0, 1, 0, 0, 0)), (46, (35, 3, 104, 1, 118, 1198, 0)), (49, (26, 1, 1, 0, 0, 0, 0)), (50, (1, 1, 0, 1, 0, 0, 0)), (51, (6, 2, 0, 1, 0, 0, 40)), (53, (35, 3, 106, 2, 125, 1213, 0)), (56, (1, 1, 0, 1, 0, 0, 0)), (57, (35, 3, 100, 1, 107, 1202, 0)), (60, (6, 2, 0, 1, 0, 0, 43)), (62, (15, 3, 1, 80, 0, 0, 18)), (65, (1, 1, 0, 1, 0, 0, 0)), (66, (20, 1, 0, 0, 0, 0, 0)), (67, (23, 3, 10, 3, 100, 1081, 0)), (70, (6, 1, 0, 0, 0, 0, 1)), (71, (10, 1, 0, 0, 0, 0, 0)), (72, (24, 3, 10, 3, 100, 1081, 0)), (75, (1, 1, 0, 1, 0, 0, 0)), (76, (6, 1, 0, 0, 0, 0, 0)), (77, (35, 3, 105, 2, 114, 1217, 0)), (80, (1, 1, 0, 1, 0, 0, 0)), (81, (23, 3, 10, 3, 100, 1081, 0)), (84, (0, 1, 1, 1, 0, 0, 0)), (85, (10, 1, 1, 0, 0, 0, 0)), (86, (3, 1, 2, 1, 0, 0, 0)), (87, (1, 1, 0, 1, 0, 0, 0)), (88, (1, 1, 0, 1, 0, 0, 0)), (89, (23, 3, 10, 4, 96, 1082, 1)), (92, (14, 3, 1, 101, 0, 0, 9)), (95, (0, 1, 2, 1, 0, 0, 0)), (96, (6, 2, 0, 1, 0, 0, 24)), (98, (15, 3, 5, 105, 0, 0, 7)), (101, (6, 1, 0, 0, 0, 0, 1)), (102, (16, 3, 0, 106, 0, 0, 4)), (105, (6, 1, 0, 0, 0, 0, 0)), (106, (24, 3, 10, 4, 96, 1082, 1)), (109, (6, 1, 0, 0, 0, 0, 0)), (110, (3, 1, 3, 1, 0, 0, 0)), (111, (0, 1, 3, 1, 0, 0, 0)), (112, (0, 1, 2, 1, 0, 0, 0)), (113, (15, 3, 3, 147, 0, 0, 34)), (116, (1, 1, 0, 1, 0, 0, 0)), (117, (23, 3, 10, 4, 96, 1082, 1)), (120, (14, 3, 1, 147, 0, 0, 27)), (123, (1, 1, 0, 1, 0, 0, 0)), (124, (23, 3, 10, 19, 53, 1097, 3)), (127, (6, 3, 0, 2, 0, 0, 960)), (130, (0, 1, 3, 1, 0, 0, 0)), (131, (10, 1, 0, 0, 0, 0, 0)), (132, (1, 1, 0, 1, 0, 0, 0)), (133, (23, 3, 10, 2, 7, 1080, 3)), (136, (0, 1, 1, 1, 0, 0, 0)), (137, (0, 1, 3, 1, 0, 0, 0)), (138, (10, 1, 0, 0, 0, 0, 0)), (139, (25, 1, 1, 0, 0, 0, 0)), (140, (26, 1, 1, 0, 0, 0, 0)), (141, (9, 3, 3, 0, 0, 0, 1)), (144, (16, 3, 0, 111, 0, 0, (-33))), (147, (1, 1, 0, 1, 0, 0, 0)), (148, (23, 3, 10, 18, 50, 1096, 3)), (151, (6, 2, 0, 1, 0, 0, 40)), (153, (0, 1, 2, 1, 0, 0, 0)), (154, (26, 1, 1, 0, 0, 0, 0)), (155, (37, 1, 0, 0, 0, 0, 0))]
def tb_108 : List (Nat × zOp) := [(0, (1, 1, 0, 1, 0, 0, 0)), (1, (35, 3, 100, 1, 107, 1202, 0)), (4, (3, 1, 1, 1, 0, 0, 0)), (5, (0, 1, 1, 1, 0, 0, 0)), (6, (6, 2, 0, 1, 0, 0, 94)), (8, (15, 3, 0, 23, 0, 0, 15)), (11, (0, 1, 1, 1, 0, 0, 0)), (12, (6, 2, 0, 1, 0, 0, 126)), (14, (15, 3, 0, 23, 0, 0, 9)), (17, (0, 1, 1, 1, 0, 0, 0)), (18, (6, 2, 0, 1, 0, 0, 61)), (20, (15, 3, 1, 55, 0, 0, 35)), (23, (1, 1, 0, 1, 0, 0, 0)), (24, (20, 1, 0, 0, 0, 0, 0)), (25, (23, 3, 10, 3, 100, 1081, 0)), (28, (6, 1, 0, 0, 0, 0, 1)), (29, (10, 1, 0, 0, 0, 0, 0)), (30, (24, 3, 10, 3, 100, 1081, 0)), (33, (0, 1, 1, 1, 0, 0, 0)), (34, (6, 2, 0, 1, 0, 0, 94)), (36, (15, 3, 1, 43, 0, 0, 7)), (39, (6, 1, 0, 0, 0, 0, 1)), (40, (16, 3, 0, 54, 0, 0, 14)), (43, (0, 1, 1, 1, 0, 0, 0)), (44, (6, 2, 0, 1, 0, 0, 126)), (46, (15, 3, 1, 53, 0, 0, 7)), (49, (6, 1, 0, 0, 0, 0, 2)), (50, (16, 3, 0, 54, 0, 0, 4)), (53, (6, 1, 0, 0, 0, 0, 3)), (54, (36, 1, 0, 0, 0, 0, 0)), (55, (0, 1, 1, 1, 0, 0, 0)), (56, (6, 2, 0, 1, 0, 0, 60)), (58, (15, 3, 0, 69, 0, 0, 11)), (61, (0, 1, 1, 1, 0, 0, 0)), (62, (6, 2, 0, 1, 0, 0, 62)), (64, (15, 3, 0, 69, 0, 0, 5)), (67, (6, 1, 0, 0, 0, 0, (-1))), (68, (36, 1, 0, 0, 0, 0, 0)), (69, (1, 1, 0, 1, 0, 0, 0)), (70, (20, 1, 0, 0, 0, 0, 0)), (71, (23, 3, 10, 3, 100, 1081, 0)), (74, (6, 1, 0, 0, 0, 0, 1)), (75, (10, 1, 0, 0, 0, 0, 0)), (76, (24, 3, 10, 3, 100, 1081, 0)), (79, (1, 1, 0, 1, 0, 0, 0)), (80, (35, 3, 100, 1, 107, 1202, 0)), (83, (6, 2, 0, 1, 0, 0, 61)), (85, (15, 3, 1, 92, 0, 0, 7)), (88, (6, 1, 0, 0, 0, 0, 1)), (89, (16, 3, 0, 93, 0, 0, 4)), (92, (6, 1, 0, 0, 0, 0, 0)), (93, (3, 1, 2, 1, 0, 0, 0)), (94, (1, 1, 0, 1, 0, 0, 0)), (95, (0, 1, 2, 1, 0, 0, 0)), (96, (14, 3, 0, 108, 0, 0, 12)), (99, (1, 1, 0, 1, 0, 0, 0)), (100, (23, 3, 10, 3, 100, 1081, 0)), (103, (6, 1, 0, 0, 0, 0, 1)), (104, (10, 1, 0, 0, 0, 0, 0)), (105, (16, 3, 0, 112, 0, 0, 7)), (108, (1, 1, 0, 1, 0, 0, 0)), (109, (23, 3, 10, 3, 100, 1081, 0)), (112, (24, 3, 10, 3, 100, 1081, 0)), (115, (0, 1, 1, 1, 0, 0, 0)), (116, (6, 2, 0, 1, 0, 0, 62)), (118, (15, 3, 1, 133, 0, 0, 15)), (121, (0, 1, 2, 1, 0, 0, 0)), (122, (14, 3, 0, 129, 0, 0, 7)), (125, (6, 1, 0, 0, 0, 0, 5)), (126, (16, 3, 0, 144, 0, 0, 18)), (129, (6, 1, 0, 0, 0, 0, 4)), (130, (16, 3, 0, 144, 0, 0, 14)), (133, (0, 1, 2, 1, 0, 0, 0)), (134, (14, 3, 0, 142, 0, 0, 8)), (137, (6, 2, 0, 1, 0, 0, 7)), (139, (16, 3, 0, 144, 0, 0, 5)), (142, (6, 2, 0, 1, 0, 0, 6)), (144, (36, 1, 0, 0, 0, 0, 0))]
def tb_109 : List (Nat × zOp) := [(0, (1, 1, 0, 1, 0, 0, 0)), (1, (23, 3, 10, 11, 31, 1089, 3)), (4, (0, 1, 1, 1, 0, 0, 0)), (5, (6, 1, 0, 0, 0, 0, 0)), (6, (26, 1, 1, 0, 0, 0, 0)), (7, (1, 1, 0, 1, 0, 0, 0)), (8, (23, 3, 10, 5, 13, 1083, 3)), (11, (0, 1, 1, 1, 0, 0, 0)), (12, (6, 1, 0, 0, 0, 0, 0)), (13, (26, 1, 1, 0, 0, 0, 0)), (14, (1, 1, 0, 1, 0, 0, 0)), (15, (23, 3, 10, 6, 16, 1084, 3)), (18, (0, 1, 1, 1, 0, 0, 0)), (19, (6, 1, 0, 0, 0, 0, 0)), (20, (26, 1, 1, 0, 0, 0, 0)), (21, (1, 1, 0, 1, 0, 0, 0)), (22, (23, 3, 10, 7, 19, 1085, 3)), (25, (0, 1, 1, 1, 0, 0, 0)), (26, (6, 1, 0, 0, 0, 0, 0)), (27, (26, 1, 1, 0, 0, 0, 0)), (28, (1, 1, 0, 1, 0, 0, 0)), (29, (23, 3, 10, 8, 22, 1086, 3)), (32, (0, 1, 1, 1, 0, 0, 0)), (33, (6, 1, 0, 0, 0, 0, 0)), (34, (26, 1, 1, 0, 0, 0, 0)), (35, (1, 1, 0, 1, 0, 0, 0)), (36, (23, 3, 10, 10, 28, 1088, 3)), (39, (0, 1, 1, 1, 0, 0, 0)), (40, (6, 1, 0, 0, 0, 0, 0)), (41, (26, 1, 1, 0, 0, 0, 0)), (42, (1, 1, 0, 1, 0, 0, 0)), (43, (35, 3, 100, 1, 107, 1202, 0)), (46, (6, 2, 0, 1, 0, 0, 42)), (48, (15, 3, 1, 62, 0, 0, 14)), (51, (1, 1, 0, 1, 0, 0, 0)), (52, (20, 1, 0, 0, 0, 0, 0)), (53, (23, 3, 10, 3, 100, 1081, 0)), (56, (6, 1, 0, 0, 0, 0, 1)), (57, (10, 1, 0, 0, 0, 0, 0)), (58, (24, 3, 10, 3, 100, 1081, 0)), (61, (37, 1, 0, 0, 0, 0, 0)), (62, (1, 1, 0, 1, 0, 0, 0)), (63, (35, 3, 108, 1, 128, 1236, 0)), (66, (3, 1, 2, 1, 0, 0, 0)), (67, (1, 1, 0, 1, 0, 0, 0)), (68, (23, 3, 10, 10, 28, 1088, 3)), (71, (0, 1, 1, 1, 0, 0, 0)), (72, (0, 1, 2, 1, 0, 0, 0)), (73, (14, 3, 3, 80, 0, 0, 7)), (76, (6, 1, 0, 0, 0, 0, 1)), (77, (16, 3, 0, 81, 0, 0, 4)), (80, (0, 1, 2, 1, 0, 0, 0)), (81, (26, 1, 1, 0, 0, 0, 0)), (82, (1, 1, 0, 1, 0, 0, 0)), (83, (23, 3, 10, 3, 100, 1081, 0)), (86, (3, 1, 3, 1, 0, 0, 0)), (87, (1, 1, 0, 1, 0, 0, 0)), (88, (23, 3, 10, 5, 13, 1083, 3)), (91, (0, 1, 1, 1, 0, 0, 0)), (92, (1, 1, 0, 1, 0, 0, 0)), (93, (35, 3, 104, 1, 118, 1198, 0)), (96, (26, 1, 1, 0, 0, 0, 0)), (97, (1, 1, 0, 1, 0, 0, 0)), (98, (23, 3, 10, 11, 31, 1089, 3)), (101, (0, 1, 1, 1, 0, 0, 0)), (102, (6, 1, 0, 0, 0, 0, 1)), (103, (26, 1, 1, 0, 0, 0, 0)), (104, (1, 1, 0, 1, 0, 0, 0)), (105, (35, 3, 100, 1, 107, 1202, 0)), (108, (6, 2, 0, 1, 0, 0, 46)), (110, (15, 3, 1, 117, 0, 0, 7)), (113, (6, 1, 0, 0, 0, 0, 1)), (114, (16, 3, 0, 118, 0, 0, 4)), (117, (6, 1, 0, 0, 0, 0, 0)), (118, (3, 2, 4, 0, 0, 0, 0)), (120, (0, 2, 4, 0, 0, 0, 0)), (122, (14, 3, 0, 260, 0, 0, 138)), (125, (1, 1, 0, 1, 0, 0, 0)), (126, (23, 3, 10, 11, 31, 1089, 3)), (129, (0, 1, 1, 1, 0, 0, 0)), (130, (25, 1, 1, 0, 0, 0, 0)), (131, (6, 1, 0, 0, 0, 0, 3)), (132, (15, 3, 3, 260, 0, 0, 128)), (135, (1, 1, 0, 1, 0, 0, 0)), (136, (20, 1, 0, 0, 0, 0, 0)), (137, (23, 3, 10, 3, 100, 1081, 0)), (140, (6, 1, 0, 0, 0, 0, 1)), (141, (10, 1, 0, 0, 0, 0, 0)), (142, (24, 3, 10, 3, 100, 1081, 0)), (145, (1, 1, 0, 1, 0, 0, 0)), (146, (35, 3, 100, 1, 107, 1202, 0)), (149, (6, 2, 0, 1, 0, 0, 42)), (151, (15, 3, 1, 176, 0, 0, 25)), (154, (0, 1, 2, 1, 0, 0, 0)), (155, (14, 3, 3, 176, 0, 0, 21)), (158, (1, 1, 0, 1, 0, 0, 0)), (159, (20, 1, 0, 0, 0, 0, 0)), (160, (23, 3, 10, 3, 100, 1081, 0)), (163, (6, 1, 0, 0, 0, 0, 1)), (164, (10, 1, 0, 0, 0, 0, 0)), (165, (24, 3, 10, 3, 100, 1081, 0)), (168, (1, 1, 0, 1, 0, 0, 0)), (169, (23, 3, 10, 10, 28, 1088, 3)), (172, (0, 1, 1, 1, 0, 0, 0)), (173, (6, 1, 0, 0, 0, 0, 3)), (174, (26, 1, 1, 0, 0, 0, 0)), (175, (37, 1, 0, 0, 0, 0, 0)), (176, (1, 1, 0, 1, 0, 0, 0)), (177, (35, 3, 104, 1, 118, 1198, 0)), (180, (3, 2, 5, 0, 0, 0, 0)), (182, (1, 1, 0, 1, 0, 0, 0)), (183, (23, 3, 10, 6, 16, 1084, 3)), (186, (0, 1, 1, 1, 0, 0, 0)), (187, (1, 1, 0, 1, 0, 0, 0)), (188, (23, 3, 10, 11, 31, 1089, 3)), (191, (0, 1, 1, 1, 0, 0, 0)), (192, (25, 1, 1, 0, 0, 0, 0)), (193, (6, 1, 0, 0, 0, 0, 1)), (194, (15, 3, 1, 202, 0, 0, 8)), (197, (0, 2, 5, 0, 0, 0, 0)), (199, (16, 3, 0, 208, 0, 0, 9)), (202, (1, 1, 0, 1, 0, 0, 0)), (203, (23, 3, 10, 6, 16, 1084, 3)), (206, (0, 1, 1, 1, 0, 0, 0)), (207, (25, 1, 1, 0, 0, 0, 0)), (208, (26, 1, 1, 0, 0, 0, 0)), (209, (1, 1, 0, 1, 0, 0, 0)), (210, (23, 3, 10, 7, 19, 1085, 3)), (213, (0, 1, 1, 1, 0, 0, 0)), (214, (1, 1, 0, 1, 0, 0, 0)), (215, (23, 3, 10, 11, 31, 1089, 3)), (218, (0, 1, 1, 1, 0, 0, 0)), (219, (25, 1, 1, 0, 0, 0, 0)), (220, (6, 1, 0, 0, 0, 0, 2)), (221, (15, 3, 1, 229, 0, 0, 8)), (224, (0, 2, 5, 0, 0, 0, 0)), (226, (16, 3, 0, 230, 0, 0, 4)), (229, (6, 1, 0, 0, 0, 0, 0)), (230, (26, 1, 1, 0, 0, 0, 0)), (231, (1, 1, 0, 1, 0, 0, 0)), (232, (23, 3, 10, 11, 31, 1089, 3)), (235, (0, 1, 1, 1, 0, 0, 0)), (236, (21, 1, 0, 0, 0, 0, 0)), (237, (25, 1, 1, 0, 0, 0, 0)), (238, (6, 1, 0, 0, 0, 0, 1)), (239, (10, 1, 0, 0, 0, 0, 0)), (240, (26, 1, 1, 0, 0, 0, 0)), (241, (1, 1, 0, 1, 0, 0, 0)), (242, (35, 3, 100, 1, 107, 1202, 0)), (245, (6, 2, 0, 1, 0, 0, 46)), (247, (15, 3, 1, 254, 0, 0, 7)), (250, (6, 1, 0, 0, 0, 0, 1)), (251, (16, 3, 0, 255, 0, 0, 4)), (254, (6, 1, 0, 0, 0, 0, 0)), (255, (3, 2, 4, 0, 0, 0, 0)), (257, (16, 3, 0, 120, 0, 0, (-137))), (260, (1, 1, 0, 1, 0, 0, 0)), (261, (23, 3, 10, 11, 31, 1089, 3)), (264, (0, 1, 1, 1, 0, 0, 0)), (265, (25, 1, 1, 0, 0, 0, 0)), (266, (6, 1, 0, 0, 0, 0, 3)), (267, (15, 3, 1, 302, 0, 0, 35)), (270, (1, 1, 0, 1, 0, 0, 0)), (271, (0, 1, 1, 1, 0, 0, 0)), (272, (35, 3, 106, 2, 125, 1213, 0)), (275, (1, 1, 0, 1, 0, 0, 0)), (276, (1, 1, 0, 1, 0, 0, 0)), (277, (23, 3, 10, 4, 96, 1082, 1)), (280, (14, 3, 1, 294, 0, 0, 14)), (283, (1, 1, 0, 1, 0, 0, 0)), (284, (23, 3, 10, 3, 100, 1081, 0)), (287, (0, 1, 3, 1, 0, 0, 0)), (288, (10, 1, 1, 0, 0, 0, 0)), (289, (6, 2, 0, 1, 0, 0, 24)), (291, (15, 3, 5, 298, 0, 0, 7)), (294, (6, 1, 0, 0, 0, 0, 1)), (295, (16, 3, 0, 299, 0, 0, 4)), (298, (6, 1, 0, 0, 0, 0, 0)), (299, (24, 3, 10, 4, 96, 1082, 1)), (302, (37, 1, 0, 0, 0, 0, 0))]
def tb_110 : List (Nat × zOp) := [(0, (1, 1, 0, 1, 0, 0, 0)), (1, (35, 3, 100, 1, 107, 1202, 0)), (4, (6, 2, 0, 1, 0, 0, 32)), (6, (15, 3, 1, 22, 0, 0, 16)), (9, (1, 1, 0, 1, 0, 0, 0)), (10, (20, 1, 0, 0, 0, 0, 0)), (11, (23, 3, 10, 3, 100, 1081, 0)), (14, (6, 1, 0, 0, 0, 0, 1)), (15, (10, 1, 0, 0, 0, 0, 0)), (16, (24, 3, 10, 3, 100, 1081, 0)), (19, (16, 3, 0, 0, 0, 0, (-19))), (22, (37, 1, 0, 0, 0, 0, 0))]
def tb_111 : List (Nat × zOp) := [(0, (6, 1, 0, 0, 0, 0, 0)), (1, (3, 1, 2, 1, 0, 0, 0)), (2, (6, 1, 0, 0, 0, 0, 1)), (3, (3, 1, 3, 1, 0, 0, 0)), (4, (0, 1, 3, 1, 0, 0, 0)), (5, (14, 3, 0, 100, 0, 0, 95)), (8, (1, 1, 0, 1, 0, 0, 0)), (9, (23, 3, 10, 4, 96, 1082, 1)), (12, (14, 3, 1, 100, 0, 0, 88)), (15, (1, 1, 0, 1, 0, 0, 0)), (16, (0, 1, 2, 1, 0, 0, 0)), (17, (6, 1, 0, 0, 0, 0, 4)), (18, (15, 3, 1, 25, 0, 0, 7)), (21, (6, 1, 0, 0, 0, 0, 1)), (22, (16, 3, 0, 26, 0, 0, 4)), (25, (6, 1, 0, 0, 0, 0, 0)), (26, (24, 3, 10, 4, 96, 1082, 1)), (29, (1, 1, 0, 1, 0, 0, 0)), (30, (35, 3, 110, 1, 131, 1228, 0)), (33, (1, 1, 0, 1, 0, 0, 0)), (34, (6, 2, 0, 1, 0, 0, 41)), (36, (6, 1, 0, 0, 0, 0, 4)), (37, (0, 1, 1, 1, 0, 0, 0)), (38, (10, 1, 2, 0, 0, 0, 0)), (39, (10, 1, 0, 0, 0, 0, 0)), (40, (0, 1, 2, 1, 0, 0, 0)), (41, (6, 1, 0, 0, 0, 0, 4)), (42, (15, 3, 3, 49, 0, 0, 7)), (45, (0, 1, 2, 1, 0, 0, 0)), (46, (16, 3, 0, 50, 0, 0, 4)), (49, (6, 1, 0, 0, 0, 0, 3)), (50, (10, 1, 0, 0, 0, 0, 0)), (51, (35, 3, 109, 2, 134, 1232, 0)), (54, (9, 3, 2, 0, 0, 0, 1)), (57, (1, 1, 0, 1, 0, 0, 0)), (58, (35, 3, 110, 1, 131, 1228, 0)), (61, (1, 1, 0, 1, 0, 0, 0)), (62, (35, 3, 100, 1, 107, 1202, 0)), (65, (6, 2, 0, 1, 0, 0, 44)), (67, (15, 3, 1, 74, 0, 0, 7)), (70, (6, 1, 0, 0, 0, 0, 1)), (71, (16, 3, 0, 75, 0, 0, 4)), (74, (6, 1, 0, 0, 0, 0, 0)), (75, (3, 1, 3, 1, 0, 0, 0)), (76, (1, 1, 0, 1, 0, 0, 0)), (77, (0, 1, 3, 1, 0, 0, 0)), (78, (14, 3, 0, 90, 0, 0, 12)), (81, (1, 1, 0, 1, 0, 0, 0)), (82, (23, 3, 10, 3, 100, 1081, 0)), (85, (6, 1, 0, 0, 0, 0, 1)), (86, (10, 1, 0, 0, 0, 0, 0)), (87, (16, 3, 0, 94, 0, 0, 7)), (90, (1, 1, 0, 1, 0, 0, 0)), (91, (23, 3, 10, 3, 100, 1081, 0)), (94, (24, 3, 10, 3, 100, 1081, 0)), (97, (16, 3, 0, 4, 0, 0, (-93))), (100, (1, 1, 0, 1, 0, 0, 0)), (101, (23, 3, 10, 12, 34, 1090, 3)), (104, (0, 1, 1, 1, 0, 0, 0)), (105, (0, 1, 2, 1, 0, 0, 0)), (106, (26, 1, 1, 0, 0, 0, 0)), (107, (37, 1, 0, 0, 0, 0, 0))]
def tb_112 : List (Nat × zOp) := [(0, (1, 1, 0, 1, 0, 0, 0)), (1, (6, 1, 0, 0, 0, 0, 0)), (2, (24, 3, 10, 3, 100, 1081, 0)), (5, (1, 1, 0, 1, 0, 0, 0)), (6, (6, 1, 0, 0, 0, 0, 0)), (7, (24, 3, 10, 4, 96, 1082, 1)), (10, (37, 1, 0, 0, 0, 0, 0))]
def tb_113 : List (Nat × zOp) := [(0, (1, 1, 0, 1, 0, 0, 0)), (1, (23, 3, 10, 4, 96, 1082, 1)), (4, (14, 3, 1, 22, 0, 0, 18)), (7, (1, 1, 0, 1, 0, 0, 0)), (8, (23, 3, 10, 3, 100, 1081, 0)), (11, (1, 1, 0, 1, 0, 0, 0)), (12, (23, 3, 10, 1, 91, 1079, 0)), (15, (15, 3, 1, 22, 0, 0, 7)), (18, (6, 1, 0, 0, 0, 0, 1)), (19, (16, 3, 0, 23, 0, 0, 4)), (22, (6, 1, 0, 0, 0, 0, 0)), (23, (3, 1, 1, 1, 0, 0, 0)), (24, (1, 1, 0, 1, 0, 0, 0)), (25, (6, 1, 0, 0, 0, 0, 0)), (26, (24, 3, 10, 1, 91, 1079, 0)), (29, (0, 1, 1, 1, 0, 0, 0)), (30, (36, 1, 1, 0, 0, 0, 0))]
def tb_114 : List (Nat × zOp) := [(0, (0, 1, 2, 1, 0, 0, 0)), (1, (3, 1, 3, 1, 0, 0, 0)), (2, (0, 1, 3, 1, 0, 0, 0)), (3, (1, 1, 0, 1, 0, 0, 0)), (4, (23, 3, 10, 8, 22, 1086, 3)), (7, (0, 1, 1, 1, 0, 0, 0)), (8, (25, 1, 1, 0, 0, 0, 0)), (9, (15, 3, 3, 34, 0, 0, 25)), (12, (1, 1, 0, 1, 0, 0, 0)), (13, (23, 3, 10, 9, 25, 1087, 3)), (16, (6, 2, 0, 1, 0, 0, 24)), (18, (0, 1, 1, 1, 0, 0, 0)), (19, (10, 1, 2, 0, 0, 0, 0)), (20, (0, 1, 3, 1, 0, 0, 0)), (21, (10, 1, 0, 0, 0, 0, 0)), (22, (25, 1, 1, 0, 0, 0, 0)), (23, (6, 2, 0, 1, 0, 0, 46)), (25, (15, 3, 0, 34, 0, 0, 9)), (28, (9, 3, 3, 0, 0, 0, 1)), (31, (16, 3, 0, 2, 0, 0, (-29))), (34, (0, 1, 3, 1, 0, 0, 0)), (35, (36, 1, 0, 0, 0, 0, 0))]
def tb_115 : List (Nat × zOp) := [(0, (6, 1, 0, 0, 0, 0, 1)), (1, (3, 2, 4, 0, 0, 0, 0)), (3, (0, 1, 2, 1, 0, 0, 0)), (4, (3, 2, 5, 0, 0, 0, 0)), (6, (0, 2, 5, 0, 0, 0, 0)), (8, (0, 1, 3, 1, 0, 0, 0)), (9, (15, 3, 3, 48, 0, 0, 39)), (12, (0, 2, 4, 0, 0, 0, 0)), (14, (14, 3, 0, 39, 0, 0, 25)), (17, (1, 1, 0, 1, 0, 0, 0)), (18, (23, 3, 10, 9, 25, 1087, 3)), (21, (6, 2, 0, 1, 0, 0, 24)), (23, (0, 1, 1, 1, 0, 0, 0)), (24, (10, 1, 2, 0, 0, 0, 0)), (25, (0, 2, 5, 0, 0, 0, 0)), (27, (10, 1, 0, 0, 0, 0, 0)), (28, (25, 1, 1, 0, 0, 0, 0)), (29, (35, 3, 101, 1, 103, 1206, 1)), (32, (14, 3, 0, 39, 0, 0, 7)), (35, (6, 1, 0, 0, 0, 0, 1)), (36, (16, 3, 0, 40, 0, 0, 4)), (39, (6, 1, 0, 0, 0, 0, 0)), (40, (3, 2, 4, 0, 0, 0, 0)), (42, (9, 3, 5, 0, 0, 0, 1)), (45, (16, 3, 0, 6, 0, 0, (-39))), (48, (0, 2, 4, 0, 0, 0, 0)), (50, (36, 1, 1, 0, 0, 0, 0))]
def tb_116 : List (Nat × zOp) := [(0, (1, 1, 0, 1, 0, 0, 0)), (1, (0, 1, 1, 1, 0, 0, 0)), (2, (0, 1, 2, 1, 0, 0, 0)), (3, (35, 3, 114, 3, 137, 1260, 0)), (6, (3, 2, 5, 0, 0, 0, 0)), (8, (1, 1, 0, 1, 0, 0, 0)), (9, (0, 1, 3, 1, 0, 0, 0)), (10, (0, 2, 4, 0, 0, 0, 0)), (12, (35, 3, 114, 3, 137, 1260, 0)), (15, (3, 2, 6, 0, 0, 0, 0)), (17, (1, 1, 0, 1, 0, 0, 0)), (18, (0, 1, 1, 1, 0, 0, 0)), (19, (0, 1, 2, 1, 0, 0, 0)), (20, (0, 2, 5, 0, 0, 0, 0)), (22, (35, 3, 115, 4, 141, 1264, 0)), (25, (3, 2, 7, 0, 0, 0, 0)), (27, (1, 1, 0, 1, 0, 0, 0)), (28, (0, 1, 3, 1, 0, 0, 0)), (29, (0, 2, 4, 0, 0, 0, 0)), (31, (0, 2, 6, 0, 0, 0, 0)), (33, (35, 3, 115, 4, 141, 1264, 0)), (36, (3, 2, 8, 0, 0, 0, 0)), (38, (0, 2, 7, 0, 0, 0, 0)), (40, (0, 2, 8, 0, 0, 0, 0)), (42, (15, 3, 0, 56, 0, 0, 14)), (45, (0, 2, 7, 0, 0, 0, 0)), (47, (14, 3, 0, 54, 0, 0, 7)), (50, (6, 1, 0, 0, 0, 0, (-1))), (51, (16, 3, 0, 55, 0, 0, 4)), (54, (6, 1, 0, 0, 0, 0, 1)), (55, (36, 1, 0, 0, 0, 0, 0)), (56, (0, 2, 7, 0, 0, 0, 0)), (58, (14, 3, 0, 91, 0, 0, 33)), (61, (0, 2, 5, 0, 0, 0, 0)), (63, (0, 1, 2, 1, 0, 0, 0)), (64, (10, 1, 1, 0, 0, 0, 0)), (65, (0, 2, 6, 0, 0, 0, 0)), (67, (0, 2, 4, 0, 0, 0, 0)), (69, (10, 1, 1, 0, 0, 0, 0)), (70, (15, 3, 0, 91, 0, 0, 21)), (73, (0, 2, 5, 0, 0, 0, 0)), (75, (0, 1, 2, 1, 0, 0, 0)), (76, (10, 1, 1, 0, 0, 0, 0)), (77, (0, 2, 6, 0, 0, 0, 0)), (79, (0, 2, 4, 0, 0, 0, 0)), (81, (10, 1, 1, 0, 0, 0, 0)), (82, (15, 3, 3, 89, 0, 0, 7)), (85, (6, 1, 0, 0, 0, 0, (-1))), (86, (16, 3, 0, 90, 0, 0, 4)), (89, (6, 1, 0, 0, 0, 0, 1)), (90, (36, 1, 0, 0, 0, 0, 0)), (91, (6, 1, 0, 0, 0, 0, 0)), (92, (3, 2, 9, 0, 0, 0, 0)), (94, (0, 1, 2, 1, 0, 0, 0)), (95, (0, 2, 9, 0, 0, 0, 0)), (97, (10, 1, 0, 0, 0, 0, 0)), (98, (0, 2, 5, 0, 0, 0, 0)), (100, (15, 3, 3, 172, 0, 0, 72)), (103, (0, 2, 4, 0, 0, 0, 0)), (105, (0, 2, 9, 0, 0, 0, 0)), (107, (10, 1, 0, 0, 0, 0, 0)), (108, (0, 2, 6, 0, 0, 0, 0)), (110, (15, 3, 3, 172, 0, 0, 62)), (113, (1, 1, 0, 1, 0, 0, 0)), (114, (23, 3, 10, 9, 25, 1087, 3)), (117, (6, 2, 0, 1, 0, 0, 24)), (119, (0, 1, 1, 1, 0, 0, 0)), (120, (10, 1, 2, 0, 0, 0, 0)), (121, (0, 1, 2, 1, 0, 0, 0)), (122, (10, 1, 0, 0, 0, 0, 0)), (123, (0, 2, 9, 0, 0, 0, 0)), (125, (10, 1, 0, 0, 0, 0, 0)), (126, (25, 1, 1, 0, 0, 0, 0)), (127, (3, 2, 10, 0, 0, 0, 0)), (129, (1, 1, 0, 1, 0, 0, 0)), (130, (23, 3, 10, 9, 25, 1087, 3)), (133, (6, 2, 0, 1, 0, 0, 24)), (135, (0, 1, 3, 1, 0, 0, 0)), (136, (10, 1, 2, 0, 0, 0, 0)), (137, (0, 2, 4, 0, 0, 0, 0)), (139, (10, 1, 0, 0, 0, 0, 0)), (140, (0, 2, 9, 0, 0, 0, 0)), (142, (10, 1, 0, 0, 0, 0, 0)), (143, (25, 1, 1, 0, 0, 0, 0)), (144, (3, 2, 11, 0, 0, 0, 0)), (146, (0, 2, 10, 0, 0, 0, 0)), (148, (0, 2, 11, 0, 0, 0, 0)), (150, (15, 3, 0, 166, 0, 0, 16)), (153, (0, 2, 10, 0, 0, 0, 0)), (155, (0, 2, 11, 0, 0, 0, 0)), (157, (15, 3, 3, 164, 0, 0, 7)), (160, (6, 1, 0, 0, 0, 0, (-1))), (161, (16, 3, 0, 165, 0, 0, 4)), (164, (6, 1, 0, 0, 0, 0, 1)), (165, (36, 1, 0, 0, 0, 0, 0)), (166, (9, 3, 9, 0, 0, 0, 1)), (169, (16, 3, 0, 94, 0, 0, (-75))), (172, (0, 2, 5, 0, 0, 0, 0)), (174, (0, 1, 2, 1, 0, 0, 0)), (175, (10, 1, 1, 0, 0, 0, 0)), (176, (0, 2, 6, 0, 0, 0, 0)), (178, (0, 2, 4, 0, 0, 0, 0)), (180, (10, 1, 1, 0, 0, 0, 0)), (181, (15, 3, 1, 188, 0, 0, 7)), (184, (6, 1, 0, 0, 0, 0, 0)), (185, (16, 3, 0, 205, 0, 0, 20)), (188, (0, 2, 5, 0, 0, 0, 0)), (190, (0, 1, 2, 1, 0, 0, 0)), (191, (10, 1, 1, 0, 0, 0, 0)), (192, (0, 2, 6, 0, 0, 0, 0)), (194, (0, 2, 4, 0, 0, 0, 0)), (196, (10, 1, 1, 0, 0, 0, 0)), (197, (15, 3, 3, 204, 0, 0, 7)), (200, (6, 1, 0, 0, 0, 0, (-1))), (201, (16, 3, 0, 205, 0, 0, 4)), (204, (6, 1, 0, 0, 0, 0, 1)), (205, (36, 1, 0, 0, 0, 0, 0))]
def tb_117 : List (Nat × zOp) := [(0, (1, 1, 0, 1, 0, 0, 0)), (1, (0, 1, 1, 1, 0, 0, 0)), (2, (1, 1, 0, 1, 0, 0, 0)), (3, (23, 3, 10, 5, 13, 1083, 3)), (6, (0, 1, 2, 1, 0, 0, 0)), (7, (25, 1, 1, 0, 0, 0, 0)), (8, (1, 1, 0, 1, 0, 0, 0)), (9, (23, 3, 10, 6, 16, 1084, 3)), (12, (0, 1, 2, 1, 0, 0, 0)), (13, (25, 1, 1, 0, 0, 0, 0)), (14, (1, 1, 0, 1, 0, 0, 0)), (15, (23, 3, 10, 7, 19, 1085, 3)), (18, (0, 1, 2, 1, 0, 0, 0)), (19, (25, 1, 1, 0, 0, 0, 0)), (20, (35, 3, 118, 5, 144, 1252, 0)), (23, (3, 1, 3, 1, 0, 0, 0)), (24, (1, 1, 0, 1, 0, 0, 0)), (25, (23, 3, 10, 5, 13, 1083, 3)), (28, (0, 1, 1, 1, 0, 0, 0)), (29, (25, 1, 1, 0, 0, 0, 0)), (30, (1, 1, 0, 1, 0, 0, 0)), (31, (23, 3, 10, 5, 13, 1083, 3)), (34, (0, 1, 2, 1, 0, 0, 0)), (35, (25, 1, 1, 0, 0, 0, 0)), (36, (15, 3, 1, 73, 0, 0, 37)), (39, (1, 1, 0, 1, 0, 0, 0)), (40, (23, 3, 10, 6, 16, 1084, 3)), (43, (0, 1, 1, 1, 0, 0, 0)), (44, (25, 1, 1, 0, 0, 0, 0)), (45, (1, 1, 0, 1, 0, 0, 0)), (46, (23, 3, 10, 6, 16, 1084, 3)), (49, (0, 1, 2, 1, 0, 0, 0)), (50, (25, 1, 1, 0, 0, 0, 0)), (51, (15, 3, 1, 73, 0, 0, 22)), (54, (1, 1, 0, 1, 0, 0, 0)), (55, (23, 3, 10, 7, 19, 1085, 3)), (58, (0, 1, 1, 1, 0, 0, 0)), (59, (25, 1, 1, 0, 0, 0, 0)), (60, (1, 1, 0, 1, 0, 0, 0)), (61, (23, 3, 10, 7, 19, 1085, 3)), (64, (0, 1, 2, 1, 0, 0, 0)), (65, (25, 1, 1, 0, 0, 0, 0)), (66, (15, 3, 1, 73, 0, 0, 7)), (69, (6, 1, 0, 0, 0, 0, 1)), (70, (16, 3, 0, 74, 0, 0, 4)), (73, (6, 1, 0, 0, 0, 0, 0)), (74, (3, 2, 4, 0, 0, 0, 0)), (76, (0, 2, 4, 0, 0, 0, 0)), (78, (14, 3, 1, 83, 0, 0, 5)), (81, (0, 1, 3, 1, 0, 0, 0)), (82, (36, 1, 0, 0, 0, 0, 0)), (83, (1, 1, 0, 1, 0, 0, 0)), (84, (23, 3, 10, 8, 22, 1086, 3)), (87, (0, 1, 1, 1, 0, 0, 0)), (88, (25, 1, 1, 0, 0, 0, 0)), (89, (14, 3, 0, 101, 0, 0, 12)), (92, (1, 1, 0, 1, 0, 0, 0)), (93, (23, 3, 10, 8, 22, 1086, 3)), (96, (0, 1, 2, 1, 0, 0, 0)), (97, (25, 1, 1, 0, 0, 0, 0)), (98, (14, 3, 1, 135, 0, 0, 37)), (101, (1, 1, 0, 1, 0, 0, 0)), (102, (23, 3, 10, 8, 22, 1086, 3)), (105, (0, 1, 1, 1, 0, 0, 0)), (106, (25, 1, 1, 0, 0, 0, 0)), (107, (1, 1, 0, 1, 0, 0, 0)), (108, (23, 3, 10, 8, 22, 1086, 3)), (111, (0, 1, 2, 1, 0, 0, 0)), (112, (25, 1, 1, 0, 0, 0, 0)), (113, (15, 3, 1, 120, 0, 0, 7)), (116, (6, 1, 0, 0, 0, 0, 0)), (117, (16, 3, 0, 134, 0, 0, 17)), (120, (1, 1, 0, 1, 0, 0, 0)), (121, (23, 3, 10, 8, 22, 1086, 3)), (124, (0, 1, 1, 1, 0, 0, 0)), (125, (25, 1, 1, 0, 0, 0, 0)), (126, (14, 3, 1, 133, 0, 0, 7)), (129, (6, 1, 0, 0, 0, 0, 1)), (130, (16, 3, 0, 134, 0, 0, 4)), (133, (6, 1, 0, 0, 0, 0, (-1))), (134, (36, 1, 0, 0, 0, 0, 0)), (135, (6, 1, 0, 0, 0, 0, 0)), (136, (3, 2, 5, 0, 0, 0, 0)), (138, (6, 1, 0, 0, 0, 0, 0)), (139, (3, 2, 6, 0, 0, 0, 0)), (141, (0, 2, 5, 0, 0, 0, 0)), (143, (1, 1, 0, 1, 0, 0, 0)), (144, (23, 3, 10, 8, 22, 1086, 3)), (147, (0, 1, 1, 1, 0, 0, 0)), (148, (25, 1, 1, 0, 0, 0, 0)), (149, (15, 3, 3, 208, 0, 0, 59)), (152, (0, 2, 6, 0, 0, 0, 0)), (154, (1, 1, 0, 1, 0, 0, 0)), (155, (23, 3, 10, 8, 22, 1086, 3)), (158, (0, 1, 2, 1, 0, 0, 0)), (159, (25, 1, 1, 0, 0, 0, 0)), (160, (15, 3, 3, 208, 0, 0, 48)), (163, (1, 1, 0, 1, 0, 0, 0)), (164, (0, 1, 1, 1, 0, 0, 0)), (165, (0, 2, 5, 0, 0, 0, 0)), (167, (0, 1, 2, 1, 0, 0, 0)), (168, (0, 2, 6, 0, 0, 0, 0)), (170, (35, 3, 116, 5, 148, 1256, 0)), (173, (3, 2, 7, 0, 0, 0, 0)), (175, (0, 2, 7, 0, 0, 0, 0)), (177, (14, 3, 0, 183, 0, 0, 6)), (180, (0, 2, 7, 0, 0, 0, 0)), (182, (36, 1, 0, 0, 0, 0, 0)), (183, (1, 1, 0, 1, 0, 0, 0)), (184, (0, 1, 1, 1, 0, 0, 0)), (185, (0, 2, 5, 0, 0, 0, 0)), (187, (35, 3, 114, 3, 137, 1260, 0)), (190, (6, 1, 0, 0, 0, 0, 1)), (191, (10, 1, 0, 0, 0, 0, 0)), (192, (3, 2, 5, 0, 0, 0, 0)), (194, (1, 1, 0, 1, 0, 0, 0)), (195, (0, 1, 2, 1, 0, 0, 0)), (196, (0, 2, 6, 0, 0, 0, 0)), (198, (35, 3, 114, 3, 137, 1260, 0)), (201, (6, 1, 0, 0, 0, 0, 1)), (202, (10, 1, 0, 0, 0, 0, 0)), (203, (3, 2, 6, 0, 0, 0, 0)), (205, (16, 3, 0, 141, 0, 0, (-64))), (208, (0, 2, 5, 0, 0, 0, 0)), (210, (1, 1, 0, 1, 0, 0, 0)), (211, (23, 3, 10, 8, 22, 1086, 3)), (214, (0, 1, 1, 1, 0, 0, 0)), (215, (25, 1, 1, 0, 0, 0, 0)), (216, (15, 3, 2, 223, 0, 0, 7)), (219, (6, 1, 0, 0, 0, 0, 1)), (220, (16, 3, 0, 224, 0, 0, 4)), (223, (6, 1, 0, 0, 0, 0, 0)), (224, (3, 2, 7, 0, 0, 0, 0)), (226, (0, 2, 6, 0, 0, 0, 0)), (228, (1, 1, 0, 1, 0, 0, 0)), (229, (23, 3, 10, 8, 22, 1086, 3)), (232, (0, 1, 2, 1, 0, 0, 0)), (233, (25, 1, 1, 0, 0, 0, 0)), (234, (15, 3, 2, 241, 0, 0, 7)), (237, (6, 1, 0, 0, 0, 0, 1)), (238, (16, 3, 0, 242, 0, 0, 4)), (241, (6, 1, 0, 0, 0, 0, 0)), (242, (3, 2, 8, 0, 0, 0, 0)), (244, (0, 2, 7, 0, 0, 0, 0)), (246, (0, 2, 8, 0, 0, 0, 0)), (248, (15, 3, 1, 255, 0, 0, 7)), (251, (6, 1, 0, 0, 0, 0, 0)), (252, (16, 3, 0, 265, 0, 0, 13)), (255, (0, 2, 7, 0, 0, 0, 0)), (257, (14, 3, 0, 264, 0, 0, 7)), (260, (6, 1, 0, 0, 0, 0, (-1))), (261, (16, 3, 0, 265, 0, 0, 4)), (264, (6, 1, 0, 0, 0, 0, 1)), (265, (36, 1, 0, 0, 0, 0, 0))]
def tb_118 : List (Nat × zOp) := [(0, (1, 1, 0, 1, 0, 0, 0)), (1, (23, 3, 10, 5, 13, 1083, 3)), (4, (0, 1, 1, 1, 0, 0, 0)), (5, (25, 1, 1, 0, 0, 0, 0)), (6, (0, 1, 2, 1, 0, 0, 0)), (7, (15, 3, 0, 26, 0, 0, 19)), (10, (1, 1, 0, 1, 0, 0, 0)), (11, (23, 3, 10, 5, 13, 1083, 3)), (14, (0, 1, 1, 1, 0, 0, 0)), (15, (25, 1, 1, 0, 0, 0, 0)), (16, (0, 1, 2, 1, 0, 0, 0)), (17, (15, 3, 3, 24, 0, 0, 7)), (20, (6, 1, 0, 0, 0, 0, (-1))), (21, (16, 3, 0, 25, 0, 0, 4)), (24, (6, 1, 0, 0, 0, 0, 1)), (25, (36, 1, 0, 0, 0, 0, 0)), (26, (1, 1, 0, 1, 0, 0, 0)), (27, (23, 3, 10, 6, 16, 1084, 3)), (30, (0, 1, 1, 1, 0, 0, 0)), (31, (25, 1, 1, 0, 0, 0, 0)), (32, (0, 1, 3, 1, 0, 0, 0)), (33, (15, 3, 0, 52, 0, 0, 19)), (36, (1, 1, 0, 1, 0, 0, 0)), (37, (23, 3, 10, 6, 16, 1084, 3)), (40, (0, 1, 1, 1, 0, 0, 0)), (41, (25, 1, 1, 0, 0, 0, 0)), (42, (0, 1, 3, 1, 0, 0, 0)), (43, (15, 3, 3, 50, 0, 0, 7)), (46, (6, 1, 0, 0, 0, 0, (-1))), (47, (16, 3, 0, 51, 0, 0, 4)), (50, (6, 1, 0, 0, 0, 0, 1)), (51, (36, 1, 0, 0, 0, 0, 0)), (52, (1, 1, 0, 1, 0, 0, 0)), (53, (23, 3, 10, 7, 19, 1085, 3)), (56, (0, 1, 1, 1, 0, 0, 0)), (57, (25, 1, 1, 0, 0, 0, 0)), (58, (0, 2, 4, 0, 0, 0, 0)), (60, (15, 3, 0, 80, 0, 0, 20)), (63, (1, 1, 0, 1, 0, 0, 0)), (64, (23, 3, 10, 7, 19, 1085, 3)), (67, (0, 1, 1, 1, 0, 0, 0)), (68, (25, 1, 1, 0, 0, 0, 0)), (69, (0, 2, 4, 0, 0, 0, 0)), (71, (15, 3, 3, 78, 0, 0, 7)), (74, (6, 1, 0, 0, 0, 0, (-1))), (75, (16, 3, 0, 79, 0, 0, 4)), (78, (6, 1, 0, 0, 0, 0, 1)), (79, (36, 1, 0, 0, 0, 0, 0)), (80, (1, 1, 0, 1, 0, 0, 0)), (81, (23, 3, 10, 8, 22, 1086, 3)), (84, (0, 1, 1, 1, 0, 0, 0)), (85, (25, 1, 1, 0, 0, 0, 0)), (86, (14, 3, 5, 93, 0, 0, 7)), (89, (6, 1, 0, 0, 0, 0, (-1))), (90, (16, 3, 0, 94, 0, 0, 4)), (93, (6, 1, 0, 0, 0, 0, 0)), (94, (36, 1, 0, 0, 0, 0, 0))]
def tb_119 : List (Nat × zOp) := [(0, (1, 1, 0, 1, 0, 0, 0)), (1, (23, 3, 10, 5, 13, 1083, 3)), (4, (0, 1, 2, 1, 0, 0, 0)), (5, (25, 1, 1, 0, 0, 0, 0)), (6, (3, 2, 4, 0, 0, 0, 0)), (8, (1, 1, 0, 1, 0, 0, 0)), (9, (23, 3, 10, 6, 16, 1084, 3)), (12, (0, 1, 2, 1, 0, 0, 0)), (13, (25, 1, 1, 0, 0, 0, 0)), (14, (3, 2, 5, 0, 0, 0, 0)), (16, (1, 1, 0, 1, 0, 0, 0)), (17, (23, 3, 10, 11, 31, 1089, 3)), (20, (0, 1, 2, 1, 0, 0, 0)), (21, (25, 1, 1, 0, 0, 0, 0)), (22, (6, 1, 0, 0, 0, 0, 1)), (23, (15, 3, 0, 35, 0, 0, 12)), (26, (0, 1, 3, 1, 0, 0, 0)), (27, (14, 3, 0, 39, 0, 0, 12)), (30, (0, 2, 4, 0, 0, 0, 0)), (32, (14, 3, 5, 39, 0, 0, 7)), (35, (6, 1, 0, 0, 0, 0, 1)), (36, (16, 3, 0, 40, 0, 0, 4)), (39, (6, 1, 0, 0, 0, 0, 0)), (40, (3, 2, 6, 0, 0, 0, 0)), (42, (0, 2, 6, 0, 0, 0, 0)), (44, (14, 3, 0, 67, 0, 0, 23)), (47, (1, 1, 0, 1, 0, 0, 0)), (48, (0, 1, 1, 1, 0, 0, 0)), (49, (0, 2, 4, 0, 0, 0, 0)), (51, (6, 1, 0, 0, 0, 0, 1)), (52, (10, 1, 0, 0, 0, 0, 0)), (53, (6, 1, 0, 0, 0, 0, 0)), (54, (6, 1, 0, 0, 0, 0, 0)), (55, (35, 3, 118, 5, 144, 1252, 0)), (58, (14, 3, 3, 65, 0, 0, 7)), (61, (6, 1, 0, 0, 0, 0, 1)), (62, (16, 3, 0, 66, 0, 0, 4)), (65, (6, 1, 0, 0, 0, 0, 0)), (66, (36, 1, 1, 0, 0, 0, 0)), (67, (0, 1, 3, 1, 0, 0, 0)), (68, (14, 3, 0, 90, 0, 0, 22)), (71, (1, 1, 0, 1, 0, 0, 0)), (72, (23, 3, 10, 11, 31, 1089, 3)), (75, (0, 1, 2, 1, 0, 0, 0)), (76, (25, 1, 1, 0, 0, 0, 0)), (77, (6, 1, 0, 0, 0, 0, 3)), (78, (15, 3, 1, 90, 0, 0, 12)), (81, (0, 2, 5, 0, 0, 0, 0)), (83, (14, 3, 1, 90, 0, 0, 7)), (86, (6, 1, 0, 0, 0, 0, 1)), (87, (16, 3, 0, 91, 0, 0, 4)), (90, (6, 1, 0, 0, 0, 0, 0)), (91, (3, 2, 7, 0, 0, 0, 0)), (93, (0, 2, 7, 0, 0, 0, 0)), (95, (14, 3, 0, 124, 0, 0, 29)), (98, (1, 1, 0, 1, 0, 0, 0)), (99, (0, 1, 1, 1, 0, 0, 0)), (100, (6, 1, 0, 0, 0, 0, 0)), (101, (6, 1, 0, 0, 0, 0, 0)), (102, (1, 1, 0, 1, 0, 0, 0)), (103, (23, 3, 10, 7, 19, 1085, 3)), (106, (0, 1, 2, 1, 0, 0, 0)), (107, (25, 1, 1, 0, 0, 0, 0)), (108, (6, 1, 0, 0, 0, 0, 1)), (109, (10, 1, 0, 0, 0, 0, 0)), (110, (35, 3, 118, 5, 144, 1252, 0)), (113, (14, 3, 3, 120, 0, 0, 7)), (116, (6, 1, 0, 0, 0, 0, 1)), (117, (16, 3, 0, 144, 0, 0, 27)), (120, (6, 1, 0, 0, 0, 0, 0)), (121, (16, 3, 0, 144, 0, 0, 23)), (124, (1, 1, 0, 1, 0, 0, 0)), (125, (0, 1, 1, 1, 0, 0, 0)), (126, (0, 2, 4, 0, 0, 0, 0)), (128, (0, 2, 5, 0, 0, 0, 0)), (130, (6, 1, 0, 0, 0, 0, 1)), (131, (10, 1, 0, 0, 0, 0, 0)), (132, (6, 1, 0, 0, 0, 0, 0)), (133, (35, 3, 118, 5, 144, 1252, 0)), (136, (14, 3, 3, 143, 0, 0, 7)), (139, (6, 1, 0, 0, 0, 0, 1)), (140, (16, 3, 0, 144, 0, 0, 4)), (143, (6, 1, 0, 0, 0, 0, 0)), (144, (36, 1, 1, 0, 0, 0, 0))]
def tb_120 : List (Nat × zOp) := [(0, (1, 1, 0, 1, 0, 0, 0)), (1, (0, 1, 2, 1, 0, 0, 0)), (2, (0, 1, 1, 1, 0, 0, 0)), (3, (35, 3, 117, 3, 151, 1248, 0)), (6, (3, 1, 3, 1, 0, 0, 0)), (7, (1, 1, 0, 1, 0, 0, 0)), (8, (23, 3, 10, 11, 31, 1089, 3)), (11, (0, 1, 1, 1, 0, 0, 0)), (12, (25, 1, 1, 0, 0, 0, 0)), (13, (6, 1, 0, 0, 0, 0, 3)), (14, (15, 3, 1, 21, 0, 0, 7)), (17, (6, 1, 0, 0, 0, 0, 1)), (18, (16, 3, 0, 22, 0, 0, 4)), (21, (6, 1, 0, 0, 0, 0, 0)), (22, (3, 2, 4, 0, 0, 0, 0)), (24, (1, 1, 0, 1, 0, 0, 0)), (25, (23, 3, 10, 10, 28, 1088, 3)), (28, (0, 1, 1, 1, 0, 0, 0)), (29, (25, 1, 1, 0, 0, 0, 0)), (30, (39, 42, 2, 204, 0, 0, 0)), (72, (6, 1, 0, 0, 0, 0, 1)), (73, (36, 1, 1, 0, 0, 0, 0)), (74, (0, 1, 3, 1, 0, 0, 0)), (75, (14, 3, 2, 92, 0, 0, 17)), (78, (1, 1, 0, 1, 0, 0, 0)), (79, (0, 1, 2, 1, 0, 0, 0)), (80, (0, 1, 1, 1, 0, 0, 0)), (81, (6, 1, 0, 0, 0, 0, 1)), (82, (35, 3, 119, 4, 154, 1308, 0)), (85, (14, 3, 0, 92, 0, 0, 7)), (88, (6, 1, 0, 0, 0, 0, 1)), (89, (16, 3, 0, 93, 0, 0, 4)), (92, (6, 1, 0, 0, 0, 0, 0)), (93, (36, 1, 1, 0, 0, 0, 0)), (94, (0, 1, 3, 1, 0, 0, 0)), (95, (14, 3, 2, 112, 0, 0, 17)), (98, (1, 1, 0, 1, 0, 0, 0)), (99, (0, 1, 2, 1, 0, 0, 0)), (100, (0, 1, 1, 1, 0, 0, 0)), (101, (6, 1, 0, 0, 0, 0, 0)), (102, (35, 3, 119, 4, 154, 1308, 0)), (105, (14, 3, 0, 112, 0, 0, 7)), (108, (6, 1, 0, 0, 0, 0, 1)), (109, (16, 3, 0, 113, 0, 0, 4)), (112, (6, 1, 0, 0, 0, 0, 0)), (113, (36, 1, 1, 0, 0, 0, 0)), (114, (0, 2, 4, 0, 0, 0, 0)), (116, (14, 3, 0, 131, 0, 0, 15)), (119, (0, 1, 3, 1, 0, 0, 0)), (120, (14, 3, 1, 127, 0, 0, 7)), (123, (6, 1, 0, 0, 0, 0, 1)), (124, (16, 3, 0, 150, 0, 0, 26)), (127, (6, 1, 0, 0, 0, 0, 0)), (128, (16, 3, 0, 150, 0, 0, 22)), (131, (0, 1, 3, 1, 0, 0, 0)), (132, (14, 3, 2, 149, 0, 0, 17)), (135, (1, 1, 0, 1, 0, 0, 0)), (136, (0, 1, 2, 1, 0, 0, 0)), (137, (0, 1, 1, 1, 0, 0, 0)), (138, (6, 1, 0, 0, 0, 0, 0)), (139, (35, 3, 119, 4, 154, 1308, 0)), (142, (14, 3, 0, 149, 0, 0, 7)), (145, (6, 1, 0, 0, 0, 0, 1)), (146, (16, 3, 0, 150, 0, 0, 4)), (149, (6, 1, 0, 0, 0, 0, 0)), (150, (36, 1, 1, 0, 0, 0, 0)), (151, (0, 2, 4, 0, 0, 0, 0)), (153, (14, 3, 0, 168, 0, 0, 15)), (156, (0, 1, 3, 1, 0, 0, 0)), (157, (14, 3, 5, 164, 0, 0, 7)), (160, (6, 1, 0, 0, 0, 0, 1)), (161, (16, 3, 0, 183, 0, 0, 22)), (164, (6, 1, 0, 0, 0, 0, 0)), (165, (16, 3, 0, 183, 0, 0, 18)), (168, (1, 1, 0, 1, 0, 0, 0)), (169, (0, 1, 2, 1, 0, 0, 0)), (170, (0, 1, 1, 1, 0, 0, 0)), (171, (6, 1, 0, 0, 0, 0, 0)), (172, (35, 3, 119, 4, 154, 1308, 0)), (175, (14, 3, 1, 182, 0, 0, 7)), (178, (6, 1, 0, 0, 0, 0, 1)), (179, (16, 3, 0, 183, 0, 0, 4)), (182, (6, 1, 0, 0, 0, 0, 0)), (183, (36, 1, 1, 0, 0, 0, 0)), (184, (0, 1, 3, 1, 0, 0, 0)), (185, (14, 3, 2, 192, 0, 0, 7)), (188, (6, 1, 0, 0, 0, 0, 1)), (189, (16, 3, 0, 193, 0, 0, 4)), (192, (6, 1, 0, 0, 0, 0, 0)), (193, (36, 1, 1, 0, 0, 0, 0)), (194, (0, 1, 3, 1, 0, 0, 0)), (195, (14, 3, 3, 202, 0, 0, 7)), (198, (6, 1, 0, 0, 0, 0, 1)), (199, (16, 3, 0, 203, 0, 0, 4)), (202, (6, 1, 0, 0, 0, 0, 0)), (203, (36, 1, 1, 0, 0, 0, 0)), (204, (0, 2, 4, 0, 0, 0, 0)), (206, (14, 3, 0, 221, 0, 0, 15)), (209, (0, 1, 3, 1, 0, 0, 0)), (210, (14, 3, 4, 217, 0, 0, 7)), (213, (6, 1, 0, 0, 0, 0, 1)), (214, (16, 3, 0, 228, 0, 0, 14)), (217, (6, 1, 0, 0, 0, 0, 0)), (218, (16, 3, 0, 228, 0, 0, 10)), (221, (1, 1, 0, 1, 0, 0, 0)), (222, (0, 1, 2, 1, 0, 0, 0)), (223, (0, 1, 1, 1, 0, 0, 0)), (224, (6, 1, 0, 0, 0, 0, 0)), (225, (35, 3, 119, 4, 154, 1308, 0)), (228, (36, 1, 1, 0, 0, 0, 0))]
def tb_121 : List (Nat × zOp) := [(0, (6, 1, 0, 0, 0, 0, 1)), (1, (3, 1, 3, 1, 0, 0, 0)), (2, (1, 1, 0, 1, 0, 0, 0)), (3, (23, 3, 10, 8, 22, 1086, 3)), (6, (0, 1, 2, 1, 0, 0, 0)), (7, (25, 1, 1, 0, 0, 0, 0)), (8, (14, 3, 1, 15, 0, 0, 7)), (11, (6, 1, 0, 0, 0, 0, 1)), (12, (16, 3, 0, 16, 0, 0, 4)), (15, (6, 1, 0, 0, 0, 0, 0)), (16, (3, 2, 4, 0, 0, 0, 0)), (18, (6, 2, 0, 1, 0, 0, 41)), (20, (6, 1, 0, 0, 0, 0, 4)), (21, (0, 1, 1, 1, 0, 0, 0)), (22, (10, 1, 2, 0, 0, 0, 0)), (23, (10, 1, 0, 0, 0, 0, 0)), (24, (3, 2, 5, 0, 0, 0, 0)), (26, (0, 2, 5, 0, 0, 0, 0)), (28, (6, 2, 0, 1, 0, 0, 41)), (30, (6, 1, 0, 0, 0, 0, 4)), (31, (0, 1, 1, 1, 0, 0, 0)), (32, (10, 1, 2, 0, 0, 0, 0)), (33, (10, 1, 0, 0, 0, 0, 0)), (34, (1, 1, 0, 1, 0, 0, 0)), (35, (23, 3, 10, 12, 34, 1090, 3)), (38, (0, 1, 1, 1, 0, 0, 0)), (39, (25, 1, 1, 0, 0, 0, 0)), (40, (10, 1, 0, 0, 0, 0, 0)), (41, (15, 3, 3, 140, 0, 0, 99)), (44, (0, 1, 3, 1, 0, 0, 0)), (45, (14, 3, 0, 62, 0, 0, 17)), (48, (1, 1, 0, 1, 0, 0, 0)), (49, (0, 2, 5, 0, 0, 0, 0)), (51, (0, 1, 2, 1, 0, 0, 0)), (52, (35, 3, 120, 3, 158, 1304, 0)), (55, (14, 3, 0, 62, 0, 0, 7)), (58, (6, 1, 0, 0, 0, 0, 1)), (59, (16, 3, 0, 63, 0, 0, 4)), (62, (6, 1, 0, 0, 0, 0, 0)), (63, (3, 1, 3, 1, 0, 0, 0)), (64, (0, 2, 4, 0, 0, 0, 0)), (66, (14, 3, 1, 127, 0, 0, 61)), (69, (1, 1, 0, 1, 0, 0, 0)), (70, (23, 3, 10, 8, 22, 1086, 3)), (73, (0, 2, 5, 0, 0, 0, 0)), (75, (25, 1, 1, 0, 0, 0, 0)), (76, (14, 3, 5, 131, 0, 0, 55)), (79, (1, 1, 0, 1, 0, 0, 0)), (80, (23, 3, 10, 5, 13, 1083, 3)), (83, (0, 2, 5, 0, 0, 0, 0)), (85, (25, 1, 1, 0, 0, 0, 0)), (86, (1, 1, 0, 1, 0, 0, 0)), (87, (23, 3, 10, 5, 13, 1083, 3)), (90, (0, 1, 2, 1, 0, 0, 0)), (91, (25, 1, 1, 0, 0, 0, 0)), (92, (15, 3, 1, 131, 0, 0, 39)), (95, (1, 1, 0, 1, 0, 0, 0)), (96, (23, 3, 10, 6, 16, 1084, 3)), (99, (0, 2, 5, 0, 0, 0, 0)), (101, (25, 1, 1, 0, 0, 0, 0)), (102, (1, 1, 0, 1, 0, 0, 0)), (103, (23, 3, 10, 6, 16, 1084, 3)), (106, (0, 1, 2, 1, 0, 0, 0)), (107, (25, 1, 1, 0, 0, 0, 0)), (108, (15, 3, 1, 131, 0, 0, 23)), (111, (1, 1, 0, 1, 0, 0, 0)), (112, (23, 3, 10, 7, 19, 1085, 3)), (115, (0, 2, 5, 0, 0, 0, 0)), (117, (25, 1, 1, 0, 0, 0, 0)), (118, (1, 1, 0, 1, 0, 0, 0)), (119, (23, 3, 10, 7, 19, 1085, 3)), (122, (0, 1, 2, 1, 0, 0, 0)), (123, (25, 1, 1, 0, 0, 0, 0)), (124, (15, 3, 1, 131, 0, 0, 7)), (127, (6, 1, 0, 0, 0, 0, 1)), (128, (16, 3, 0, 132, 0, 0, 4)), (131, (6, 1, 0, 0, 0, 0, 0)), (132, (3, 2, 4, 0, 0, 0, 0)), (134, (9, 3, 5, 0, 0, 0, 1)), (137, (16, 3, 0, 26, 0, 0, (-111))), (140, (0, 1, 3, 1, 0, 0, 0)), (141, (14, 3, 0, 153, 0, 0, 12)), (144, (0, 2, 4, 0, 0, 0, 0)), (146, (14, 3, 0, 153, 0, 0, 7)), (149, (6, 1, 0, 0, 0, 0, 1)), (150, (16, 3, 0, 154, 0, 0, 4)), (153, (6, 1, 0, 0, 0, 0, 0)), (154, (36, 1, 1, 0, 0, 0, 0))]
def tb_122 : List (Nat × zOp) := [(0, (1, 1, 0, 1, 0, 0, 0)), (1, (35, 3, 112, 1, 162, 1190, 0)), (4, (1, 1, 0, 1, 0, 0, 0)), (5, (35, 3, 107, 1, 165, 1194, 0)), (8, (1, 1, 0, 1, 0, 0, 0)), (9, (23, 3, 10, 14, 40, 1092, 3)), (12, (6, 2, 0, 1, 0, 0, 40)), (14, (6, 1, 0, 0, 0, 0, 0)), (15, (26, 1, 1, 0, 0, 0, 0)), (16, (1, 1, 0, 1, 0, 0, 0)), (17, (35, 3, 100, 1, 107, 1202, 0)), (20, (6, 2, 0, 1, 0, 0, 59)), (22, (15, 3, 1, 182, 0, 0, 160)), (25, (1, 1, 0, 1, 0, 0, 0)), (26, (20, 1, 0, 0, 0, 0, 0)), (27, (23, 3, 10, 3, 100, 1081, 0)), (30, (6, 1, 0, 0, 0, 0, 1)), (31, (10, 1, 0, 0, 0, 0, 0)), (32, (24, 3, 10, 3, 100, 1081, 0)), (35, (1, 1, 0, 1, 0, 0, 0)), (36, (23, 3, 10, 14, 40, 1092, 3)), (39, (6, 2, 0, 1, 0, 0, 40)), (41, (25, 1, 1, 0, 0, 0, 0)), (42, (3, 1, 1, 1, 0, 0, 0)), (43, (1, 1, 0, 1, 0, 0, 0)), (44, (35, 3, 100, 1, 107, 1202, 0)), (47, (6, 2, 0, 1, 0, 0, 48)), (49, (10, 1, 1, 0, 0, 0, 0)), (50, (3, 1, 2, 1, 0, 0, 0)), (51, (1, 1, 0, 1, 0, 0, 0)), (52, (1, 1, 0, 1, 0, 0, 0)), (53, (23, 3, 10, 4, 96, 1082, 1)), (56, (14, 3, 1, 74, 0, 0, 18)), (59, (0, 1, 1, 1, 0, 0, 0)), (60, (6, 1, 0, 0, 0, 0, 5)), (61, (15, 3, 0, 74, 0, 0, 13)), (64, (0, 1, 2, 1, 0, 0, 0)), (65, (6, 1, 0, 0, 0, 0, 0)), (66, (6, 2, 0, 1, 0, 0, 7)), (68, (35, 3, 98, 3, 87, 1178, 1)), (71, (14, 3, 1, 78, 0, 0, 7)), (74, (6, 1, 0, 0, 0, 0, 1)), (75, (16, 3, 0, 79, 0, 0, 4)), (78, (6, 1, 0, 0, 0, 0, 0)), (79, (24, 3, 10, 4, 96, 1082, 1)), (82, (1, 1, 0, 1, 0, 0, 0)), (83, (20, 1, 0, 0, 0, 0, 0)), (84, (23, 3, 10, 3, 100, 1081, 0)), (87, (6, 1, 0, 0, 0, 0, 1)), (88, (10, 1, 0, 0, 0, 0, 0)), (89, (24, 3, 10, 3, 100, 1081, 0)), (92, (1, 1, 0, 1, 0, 0, 0)), (93, (6, 2, 0, 1, 0, 0, 32)), (95, (35, 3, 103, 2, 121, 1209, 0)), (98, (6, 1, 0, 0, 0, 0, 0)), (99, (3, 1, 3, 1, 0, 0, 0)), (100, (0, 1, 3, 1, 0, 0, 0)), (101, (0, 1, 1, 1, 0, 0, 0)), (102, (15, 3, 3, 141, 0, 0, 39)), (105, (1, 1, 0, 1, 0, 0, 0)), (106, (1, 1, 0, 1, 0, 0, 0)), (107, (23, 3, 10, 4, 96, 1082, 1)), (110, (14, 3, 1, 127, 0, 0, 17)), (113, (1, 1, 0, 1, 0, 0, 0)), (114, (23, 3, 10, 13, 37, 1091, 3)), (117, (6, 3, 0, 2, 0, 0, 200)), (120, (0, 1, 3, 1, 0, 0, 0)), (121, (10, 1, 0, 0, 0, 0, 0)), (122, (25, 1, 1, 0, 0, 0, 0)), (123, (0, 1, 2, 1, 0, 0, 0)), (124, (15, 3, 1, 131, 0, 0, 7)), (127, (6, 1, 0, 0, 0, 0, 1)), (128, (16, 3, 0, 132, 0, 0, 4)), (131, (6, 1, 0, 0, 0, 0, 0)), (132, (24, 3, 10, 4, 96, 1082, 1)), (135, (9, 3, 3, 0, 0, 0, 1)), (138, (16, 3, 0, 100, 0, 0, (-38))), (141, (1, 1, 0, 1, 0, 0, 0)), (142, (23, 3, 10, 4, 96, 1082, 1)), (145, (14, 3, 1, 179, 0, 0, 34)), (148, (1, 1, 0, 1, 0, 0, 0)), (149, (23, 3, 10, 13, 37, 1091, 3)), (152, (6, 3, 0, 2, 0, 0, 200)), (155, (0, 1, 1, 1, 0, 0, 0)), (156, (10, 1, 0, 0, 0, 0, 0)), (157, (0, 1, 2, 1, 0, 0, 0)), (158, (26, 1, 1, 0, 0, 0, 0)), (159, (1, 1, 0, 1, 0, 0, 0)), (160, (6, 3, 0, 2, 0, 0, 208)), (163, (0, 1, 1, 1, 0, 0, 0)), (164, (10, 1, 0, 0, 0, 0, 0)), (165, (35, 3, 111, 2, 168, 1224, 0)), (168, (1, 1, 0, 1, 0, 0, 0)), (169, (23, 3, 10, 14, 40, 1092, 3)), (172, (6, 2, 0, 1, 0, 0, 40)), (174, (21, 1, 0, 0, 0, 0, 0)), (175, (25, 1, 1, 0, 0, 0, 0)), (176, (6, 1, 0, 0, 0, 0, 1)), (177, (10, 1, 0, 0, 0, 0, 0)), (178, (26, 1, 1, 0, 0, 0, 0)), (179, (16, 3, 0, 16, 0, 0, (-163))), (182, (37, 1, 0, 0, 0, 0, 0))]
def tb_123 : List (Nat × zOp) := [(0, (1, 1, 0, 1, 0, 0, 0)), (1, (23, 3, 10, 5, 13, 1083, 3)), (4, (0, 1, 2, 1, 0, 0, 0)), (5, (1, 1, 0, 1, 0, 0, 0)), (6, (23, 3, 10, 5, 13, 1083, 3)), (9, (0, 1, 1, 1, 0, 0, 0)), (10, (25, 1, 1, 0, 0, 0, 0)), (11, (26, 1, 1, 0, 0, 0, 0)), (12, (1, 1, 0, 1, 0, 0, 0)), (13, (23, 3, 10, 6, 16, 1084, 3)), (16, (0, 1, 2, 1, 0, 0, 0)), (17, (1, 1, 0, 1, 0, 0, 0)), (18, (23, 3, 10, 6, 16, 1084, 3)), (21, (0, 1, 1, 1, 0, 0, 0)), (22, (25, 1, 1, 0, 0, 0, 0)), (23, (26, 1, 1, 0, 0, 0, 0)), (24, (1, 1, 0, 1, 0, 0, 0)), (25, (23, 3, 10, 7, 19, 1085, 3)), (28, (0, 1, 2, 1, 0, 0, 0)), (29, (1, 1, 0, 1, 0, 0, 0)), (30, (23, 3, 10, 7, 19, 1085, 3)), (33, (0, 1, 1, 1, 0, 0, 0)), (34, (25, 1, 1, 0, 0, 0, 0)), (35, (26, 1, 1, 0, 0, 0, 0)), (36, (1, 1, 0, 1, 0, 0, 0)), (37, (23, 3, 10, 8, 22, 1086, 3)), (40, (0, 1, 2, 1, 0, 0, 0)), (41, (1, 1, 0, 1, 0, 0, 0)), (42, (23, 3, 10, 8, 22, 1086, 3)), (45, (0, 1, 1, 1, 0, 0, 0)), (46, (25, 1, 1, 0, 0, 0, 0)), (47, (26, 1, 1, 0, 0, 0, 0)), (48, (1, 1, 0, 1, 0, 0, 0)), (49, (23, 3, 10, 10, 28, 1088, 3)), (52, (0, 1, 2, 1, 0, 0, 0)), (53, (1, 1, 0, 1, 0, 0, 0)), (54, (23, 3, 10, 10, 28, 1088, 3)), (57, (0, 1, 1, 1, 0, 0, 0)), (58, (25, 1, 1, 0, 0, 0, 0)), (59, (26, 1, 1, 0, 0, 0, 0)), (60, (1, 1, 0, 1, 0, 0, 0)), (61, (23, 3, 10, 11, 31, 1089, 3)), (64, (0, 1, 2, 1, 0, 0, 0)), (65, (1, 1, 0, 1, 0, 0, 0)), (66, (23, 3, 10, 11, 31, 1089, 3)), (69, (0, 1, 1, 1, 0, 0, 0)), (70, (25, 1, 1, 0, 0, 0, 0)), (71, (26, 1, 1, 0, 0, 0, 0)), (72, (6, 1, 0, 0, 0, 0, 0)), (73, (3, 1, 3, 1, 0, 0, 0)), (74, (0, 1, 3, 1, 0, 0, 0)), (75, (6, 2, 0, 1, 0, 0, 24)), (77, (15, 3, 3, 108, 0, 0, 31)), (80, (1, 1, 0, 1, 0, 0, 0)), (81, (23, 3, 10, 9, 25, 1087, 3)), (84, (6, 2, 0, 1, 0, 0, 24)), (86, (0, 1, 2, 1, 0, 0, 0)), (87, (10, 1, 2, 0, 0, 0, 0)), (88, (0, 1, 3, 1, 0, 0, 0)), (89, (10, 1, 0, 0, 0, 0, 0)), (90, (1, 1, 0, 1, 0, 0, 0)), (91, (23, 3, 10, 9, 25, 1087, 3)), (94, (6, 2, 0, 1, 0, 0, 24)), (96, (0, 1, 1, 1, 0, 0, 0)), (97, (10, 1, 2, 0, 0, 0, 0)), (98, (0, 1, 3, 1, 0, 0, 0)), (99, (10, 1, 0, 0, 0, 0, 0)), (100, (25, 1, 1, 0, 0, 0, 0)), (101, (26, 1, 1, 0, 0, 0, 0)), (102, (9, 3, 3, 0, 0, 0, 1)), (105, (16, 3, 0, 74, 0, 0, (-31))), (108, (37, 1, 0, 0, 0, 0, 0))]
def tb_124 : List (Nat × zOp) := [(0, (6, 1, 0, 0, 0, 0, 0)), (1, (3, 1, 2, 1, 0, 0, 0)), (2, (6, 1, 0, 0, 0, 0, 0)), (3, (3, 1, 3, 1, 0, 0, 0)), (4, (0, 1, 3, 1, 0, 0, 0)), (5, (1, 1, 0, 1, 0, 0, 0)), (6, (23, 3, 10, 15, 171, 1093, 0)), (9, (15, 3, 3, 48, 0, 0, 39)), (12, (0, 1, 2, 1, 0, 0, 0)), (13, (14, 3, 1, 36, 0, 0, 23)), (16, (1, 1, 0, 1, 0, 0, 0)), (17, (23, 3, 10, 16, 43, 1094, 3)), (20, (0, 1, 3, 1, 0, 0, 0)), (21, (25, 1, 1, 0, 0, 0, 0)), (22, (0, 1, 1, 1, 0, 0, 0)), (23, (15, 3, 1, 40, 0, 0, 17)), (26, (1, 1, 0, 1, 0, 0, 0)), (27, (0, 1, 3, 1, 0, 0, 0)), (28, (6, 2, 0, 1, 0, 0, 40)), (30, (35, 3, 117, 3, 151, 1248, 0)), (33, (14, 3, 1, 40, 0, 0, 7)), (36, (6, 1, 0, 0, 0, 0, 1)), (37, (16, 3, 0, 41, 0, 0, 4)), (40, (6, 1, 0, 0, 0, 0, 0)), (41, (3, 1, 2, 1, 0, 0, 0)), (42, (9, 3, 3, 0, 0, 0, 1)), (45, (16, 3, 0, 4, 0, 0, (-41))), (48, (0, 1, 2, 1, 0, 0, 0)), (49, (36, 1, 1, 0, 0, 0, 0))]
def tb_125 : List (Nat × zOp) := [(0, (1, 1, 0, 1, 0, 0, 0)), (1, (35, 3, 122, 1, 174, 1186, 0)), (4, (1, 1, 0, 1, 0, 0, 0)), (5, (35, 3, 113, 1, 177, 1240, 0)), (8, (3, 1, 2, 1, 0, 0, 0)), (9, (1, 1, 0, 1, 0, 0, 0)), (10, (0, 1, 1, 1, 0, 0, 0)), (11, (6, 1, 0, 0, 0, 0, 0)), (12, (6, 2, 0, 1, 0, 0, 7)), (14, (35, 3, 98, 3, 87, 1178, 1)), (17, (14, 3, 1, 24, 0, 0, 7)), (20, (6, 1, 0, 0, 0, 0, 1)), (21, (16, 3, 0, 58, 0, 0, 37)), (24, (0, 1, 2, 1, 0, 0, 0)), (25, (14, 3, 1, 32, 0, 0, 7)), (28, (6, 1, 0, 0, 0, 0, 2)), (29, (16, 3, 0, 58, 0, 0, 29)), (32, (1, 1, 0, 1, 0, 0, 0)), (33, (0, 1, 1, 1, 0, 0, 0)), (34, (35, 3, 124, 2, 181, 1244, 0)), (37, (14, 3, 0, 44, 0, 0, 7)), (40, (6, 1, 0, 0, 0, 0, 3)), (41, (16, 3, 0, 58, 0, 0, 17)), (44, (1, 1, 0, 1, 0, 0, 0)), (45, (23, 3, 10, 15, 171, 1093, 0)), (48, (6, 2, 0, 1, 0, 0, 40)), (50, (15, 3, 1, 57, 0, 0, 7)), (53, (6, 1, 0, 0, 0, 0, 4)), (54, (16, 3, 0, 58, 0, 0, 4)), (57, (6, 1, 0, 0, 0, 0, 0)), (58, (24, 3, 10, 0, 83, 1078, 0)), (61, (1, 1, 0, 1, 0, 0, 0)), (62, (23, 3, 10, 0, 83, 1078, 0)), (65, (14, 3, 5, 70, 0, 0, 5)), (68, (6, 1, 0, 0, 0, 0, 0)), (69, (36, 1, 0, 0, 0, 0, 0)), (70, (1, 1, 0, 1, 0, 0, 0)), (71, (23, 3, 10, 15, 171, 1093, 0)), (74, (3, 1, 3, 1, 0, 0, 0)), (75, (1, 1, 0, 1, 0, 0, 0)), (76, (20, 1, 0, 0, 0, 0, 0)), (77, (23, 3, 10, 15, 171, 1093, 0)), (80, (6, 1, 0, 0, 0, 0, 1)), (81, (10, 1, 0, 0, 0, 0, 0)), (82, (24, 3, 10, 15, 171, 1093, 0)), (85, (1, 1, 0, 1, 0, 0, 0)), (86, (6, 2, 0, 1, 0, 0, 40)), (88, (0, 1, 3, 1, 0, 0, 0)), (89, (35, 3, 123, 3, 184, 1268, 0)), (92, (1, 1, 0, 1, 0, 0, 0)), (93, (23, 3, 10, 18, 50, 1096, 3)), (96, (0, 1, 3, 1, 0, 0, 0)), (97, (1, 1, 0, 1, 0, 0, 0)), (98, (23, 3, 10, 18, 50, 1096, 3)), (101, (6, 2, 0, 1, 0, 0, 40)), (103, (25, 1, 1, 0, 0, 0, 0)), (104, (26, 1, 1, 0, 0, 0, 0)), (105, (6, 1, 0, 0, 0, 0, 0)), (106, (3, 2, 4, 0, 0, 0, 0)), (108, (0, 2, 4, 0, 0, 0, 0)), (110, (6, 2, 0, 1, 0, 0, 24)), (112, (15, 3, 3, 144, 0, 0, 32)), (115, (1, 1, 0, 1, 0, 0, 0)), (116, (23, 3, 10, 19, 53, 1097, 3)), (119, (6, 2, 0, 1, 0, 0, 24)), (121, (0, 1, 3, 1, 0, 0, 0)), (122, (10, 1, 2, 0, 0, 0, 0)), (123, (0, 2, 4, 0, 0, 0, 0)), (125, (10, 1, 0, 0, 0, 0, 0)), (126, (1, 1, 0, 1, 0, 0, 0)), (127, (23, 3, 10, 19, 53, 1097, 3)), (130, (6, 3, 0, 2, 0, 0, 960)), (133, (0, 2, 4, 0, 0, 0, 0)), (135, (10, 1, 0, 0, 0, 0, 0)), (136, (25, 1, 1, 0, 0, 0, 0)), (137, (26, 1, 1, 0, 0, 0, 0)), (138, (9, 3, 4, 0, 0, 0, 1)), (141, (16, 3, 0, 108, 0, 0, (-33))), (144, (1, 1, 0, 1, 0, 0, 0)), (145, (23, 3, 10, 16, 43, 1094, 3)), (148, (0, 1, 3, 1, 0, 0, 0)), (149, (0, 1, 1, 1, 0, 0, 0)), (150, (26, 1, 1, 0, 0, 0, 0)), (151, (1, 1, 0, 1, 0, 0, 0)), (152, (23, 3, 10, 17, 46, 1095, 3)), (155, (0, 1, 3, 1, 0, 0, 0)), (156, (6, 1, 0, 0, 0, 0, 0)), (157, (26, 1, 3, 0, 0, 0, 0)), (158, (1, 1, 0, 1, 0, 0, 0)), (159, (23, 3, 10, 14, 40, 1092, 3)), (162, (0, 1, 3, 1, 0, 0, 0)), (163, (1, 1, 0, 1, 0, 0, 0)), (164, (23, 3, 10, 14, 40, 1092, 3)), (167, (6, 2, 0, 1, 0, 0, 40)), (169, (25, 1, 1, 0, 0, 0, 0)), (170, (26, 1, 1, 0, 0, 0, 0)), (171, (6, 1, 0, 0, 0, 0, 0)), (172, (3, 2, 4, 0, 0, 0, 0)), (174, (0, 2, 4, 0, 0, 0, 0)), (176, (1, 1, 0, 1, 0, 0, 0)), (177, (23, 3, 10, 14, 40, 1092, 3)), (180, (0, 1, 3, 1, 0, 0, 0)), (181, (25, 1, 1, 0, 0, 0, 0)), (182, (15, 3, 3, 288, 0, 0, 106)), (185, (1, 1, 0, 1, 0, 0, 0)), (186, (23, 3, 10, 13, 37, 1091, 3)), (189, (6, 1, 0, 0, 0, 0, 5)), (190, (0, 1, 3, 1, 0, 0, 0)), (191, (10, 1, 2, 0, 0, 0, 0)), (192, (0, 2, 4, 0, 0, 0, 0)), (194, (10, 1, 0, 0, 0, 0, 0)), (195, (1, 1, 0, 1, 0, 0, 0)), (196, (23, 3, 10, 13, 37, 1091, 3)), (199, (6, 3, 0, 2, 0, 0, 200)), (202, (0, 2, 4, 0, 0, 0, 0)), (204, (10, 1, 0, 0, 0, 0, 0)), (205, (25, 1, 1, 0, 0, 0, 0)), (206, (26, 1, 1, 0, 0, 0, 0)), (207, (1, 1, 0, 1, 0, 0, 0)), (208, (23, 3, 10, 12, 34, 1090, 3)), (211, (6, 2, 0, 1, 0, 0, 8)), (213, (6, 1, 0, 0, 0, 0, 5)), (214, (0, 1, 3, 1, 0, 0, 0)), (215, (10, 1, 2, 0, 0, 0, 0)), (216, (10, 1, 0, 0, 0, 0, 0)), (217, (0, 2, 4, 0, 0, 0, 0)), (219, (10, 1, 0, 0, 0, 0, 0)), (220, (1, 1, 0, 1, 0, 0, 0)), (221, (23, 3, 10, 12, 34, 1090, 3)), (224, (6, 3, 0, 2, 0, 0, 208)), (227, (0, 2, 4, 0, 0, 0, 0)), (229, (10, 1, 0, 0, 0, 0, 0)), (230, (25, 1, 1, 0, 0, 0, 0)), (231, (26, 1, 1, 0, 0, 0, 0)), (232, (6, 1, 0, 0, 0, 0, 0)), (233, (3, 2, 5, 0, 0, 0, 0)), (235, (0, 2, 5, 0, 0, 0, 0)), (237, (6, 1, 0, 0, 0, 0, 4)), (238, (15, 3, 3, 282, 0, 0, 44)), (241, (1, 1, 0, 1, 0, 0, 0)), (242, (6, 2, 0, 1, 0, 0, 41)), (244, (6, 1, 0, 0, 0, 0, 4)), (245, (6, 3, 0, 2, 0, 0, 208)), (248, (0, 2, 4, 0, 0, 0, 0)), (250, (10, 1, 0, 0, 0, 0, 0)), (251, (10, 1, 2, 0, 0, 0, 0)), (252, (10, 1, 0, 0, 0, 0, 0)), (253, (0, 2, 5, 0, 0, 0, 0)), (255, (10, 1, 0, 0, 0, 0, 0)), (256, (6, 2, 0, 1, 0, 0, 41)), (258, (6, 1, 0, 0, 0, 0, 4)), (259, (6, 2, 0, 1, 0, 0, 8)), (261, (6, 1, 0, 0, 0, 0, 5)), (262, (0, 1, 3, 1, 0, 0, 0)), (263, (10, 1, 2, 0, 0, 0, 0)), (264, (10, 1, 0, 0, 0, 0, 0)), (265, (0, 2, 4, 0, 0, 0, 0)), (267, (10, 1, 0, 0, 0, 0, 0)), (268, (10, 1, 2, 0, 0, 0, 0)), (269, (10, 1, 0, 0, 0, 0, 0)), (270, (0, 2, 5, 0, 0, 0, 0)), (272, (10, 1, 0, 0, 0, 0, 0)), (273, (35, 3, 123, 3, 184, 1268, 0)), (276, (9, 3, 5, 0, 0, 0, 1)), (279, (16, 3, 0, 235, 0, 0, (-44))), (282, (9, 3, 4, 0, 0, 0, 1)), (285, (16, 3, 0, 174, 0, 0, (-111))), (288, (0, 1, 3, 1, 0, 0, 0)), (289, (36, 1, 0, 0, 0, 0, 0))]
def tb_126 : List (Nat × zOp) := [(0, (0, 1, 1, 1, 0, 0, 0)), (1, (6, 1, 0, 0, 0, 0, 0)), (2, (1, 1, 0, 1, 0, 0, 0)), (3, (23, 3, 10, 15, 171, 1093, 0)), (6, (6, 1, 0, 0, 0, 0, 1)), (7, (10, 1, 1, 0, 0, 0, 0)), (8, (35, 3, 98, 3, 87, 1178, 1)), (11, (36, 1, 1, 0, 0, 0, 0))]
def tb_127 : List (Nat × zOp) := [(0, (1, 1, 0, 1, 0, 0, 0)), (1, (1, 1, 0, 1, 0, 0, 0)), (2, (0, 1, 1, 1, 0, 0, 0)), (3, (35, 3, 126, 2, 188, 1276, 0)), (6, (14, 3, 0, 13, 0, 0, 7)), (9, (6, 1, 0, 0, 0, 0, 0)), (10, (16, 3, 0, 14, 0, 0, 4)), (13, (6, 1, 0, 0, 0, 0, 1)), (14, (24, 3, 10, 0, 83, 1078, 0)), (17, (1, 1, 0, 1, 0, 0, 0)), (18, (23, 3, 10, 0, 83, 1078, 0)), (21, (14, 3, 5, 26, 0, 0, 5)), (24, (6, 1, 0, 0, 0, 0, 0)), (25, (36, 1, 1, 0, 0, 0, 0)), (26, (1, 1, 0, 1, 0, 0, 0)), (27, (23, 3, 10, 17, 46, 1095, 3)), (30, (0, 1, 1, 1, 0, 0, 0)), (31, (25, 1, 3, 0, 0, 0, 0)), (32, (3, 1, 3, 1, 0, 0, 0)), (33, (1, 1, 0, 1, 0, 0, 0)), (34, (23, 3, 10, 17, 46, 1095, 3)), (37, (0, 1, 1, 1, 0, 0, 0)), (38, (0, 1, 2, 1, 0, 0, 0)), (39, (26, 1, 3, 0, 0, 0, 0)), (40, (0, 1, 3, 1, 0, 0, 0)), (41, (36, 1, 1, 0, 0, 0, 0))]
def tb_128 : List (Nat × zOp) := [(0, (1, 1, 0, 1, 0, 0, 0)), (1, (35, 3, 112, 1, 162, 1190, 0)), (4, (1, 1, 0, 1, 0, 0, 0)), (5, (6, 3, 0, 2, 0, 0, 213)), (8, (35, 3, 111, 2, 168, 1224, 0)), (11, (1, 1, 0, 1, 0, 0, 0)), (12, (35, 3, 113, 1, 177, 1240, 0)), (15, (36, 1, 1, 0, 0, 0, 0))]
def tb_129 : List (Nat × zOp) := [(0, (1, 1, 0, 1, 0, 0, 0)), (1, (35, 3, 128, 1, 191, 1284, 0)), (4, (3, 1, 2, 1, 0, 0, 0)), (5, (1, 1, 0, 1, 0, 0, 0)), (6, (0, 1, 1, 1, 0, 0, 0)), (7, (6, 1, 0, 0, 0, 0, 0)), (8, (6, 2, 0, 1, 0, 0, 7)), (10, (35, 3, 98, 3, 87, 1178, 1)), (13, (14, 3, 1, 20, 0, 0, 7)), (16, (6, 1, 0, 0, 0, 0, 1)), (17, (16, 3, 0, 29, 0, 0, 12)), (20, (0, 1, 2, 1, 0, 0, 0)), (21, (14, 3, 0, 28, 0, 0, 7)), (24, (6, 1, 0, 0, 0, 0, 0)), (25, (16, 3, 0, 29, 0, 0, 4)), (28, (6, 1, 0, 0, 0, 0, 2)), (29, (24, 3, 10, 0, 83, 1078, 0)), (32, (1, 1, 0, 1, 0, 0, 0)), (33, (23, 3, 10, 0, 83, 1078, 0)), (36, (14, 3, 5, 40, 0, 0, 4)), (39, (37, 1, 0, 0, 0, 0, 0)), (40, (1, 1, 0, 1, 0, 0, 0)), (41, (23, 3, 10, 20, 56, 1098, 3)), (44, (0, 1, 1, 1, 0, 0, 0)), (45, (6, 1, 0, 0, 0, 0, 1)), (46, (26, 1, 3, 0, 0, 0, 0)), (47, (1, 1, 0, 1, 0, 0, 0)), (48, (23, 3, 10, 12, 34, 1090, 3)), (51, (0, 1, 1, 1, 0, 0, 0)), (52, (1, 1, 0, 1, 0, 0, 0)), (53, (23, 3, 10, 12, 34, 1090, 3)), (56, (6, 3, 0, 2, 0, 0, 213)), (59, (25, 1, 1, 0, 0, 0, 0)), (60, (26, 1, 1, 0, 0, 0, 0)), (61, (6, 1, 0, 0, 0, 0, 0)), (62, (3, 1, 3, 1, 0, 0, 0)), (63, (0, 1, 3, 1, 0, 0, 0)), (64, (6, 1, 0, 0, 0, 0, 4)), (65, (15, 3, 3, 91, 0, 0, 26)), (68, (1, 1, 0, 1, 0, 0, 0)), (69, (6, 3, 0, 2, 0, 0, 893)), (72, (0, 1, 3, 1, 0, 0, 0)), (73, (10, 1, 0, 0, 0, 0, 0)), (74, (6, 2, 0, 1, 0, 0, 41)), (76, (6, 1, 0, 0, 0, 0, 4)), (77, (0, 1, 1, 1, 0, 0, 0)), (78, (10, 1, 2, 0, 0, 0, 0)), (79, (10, 1, 0, 0, 0, 0, 0)), (80, (0, 1, 3, 1, 0, 0, 0)), (81, (10, 1, 0, 0, 0, 0, 0)), (82, (35, 3, 123, 3, 184, 1268, 0)), (85, (9, 3, 3, 0, 0, 0, 1)), (88, (16, 3, 0, 63, 0, 0, (-25))), (91, (37, 1, 0, 0, 0, 0, 0))]
def tb_130 : List (Nat × zOp) := [(0, (1, 1, 0, 1, 0, 0, 0)), (1, (0, 1, 1, 1, 0, 0, 0)), (2, (6, 1, 0, 0, 0, 0, 0)), (3, (6, 2, 0, 1, 0, 0, 7)), (5, (35, 3, 98, 3, 87, 1178, 1)), (8, (14, 3, 0, 15, 0, 0, 7)), (11, (6, 1, 0, 0, 0, 0, 0)), (12, (16, 3, 0, 16, 0, 0, 4)), (15, (6, 1, 0, 0, 0, 0, 1)), (16, (24, 3, 10, 0, 83, 1078, 0)), (19, (1, 1, 0, 1, 0, 0, 0)), (20, (23, 3, 10, 0, 83, 1078, 0)), (23, (14, 3, 5, 28, 0, 0, 5)), (26, (6, 1, 0, 0, 0, 0, 0)), (27, (36, 1, 1, 0, 0, 0, 0)), (28, (1, 1, 0, 1, 0, 0, 0)), (29, (23, 3, 10, 20, 56, 1098, 3)), (32, (0, 1, 1, 1, 0, 0, 0)), (33, (25, 1, 3, 0, 0, 0, 0)), (34, (3, 1, 2, 1, 0, 0, 0)), (35, (1, 1, 0, 1, 0, 0, 0)), (36, (23, 3, 10, 20, 56, 1098, 3)), (39, (0, 1, 1, 1, 0, 0, 0)), (40, (6, 1, 0, 0, 0, 0, 0)), (41, (26, 1, 3, 0, 0, 0, 0)), (42, (0, 1, 2, 1, 0, 0, 0)), (43, (36, 1, 1, 0, 0, 0, 0))]
def tb_131 : List (Nat × zOp) := [(0, (6, 1, 0, 0, 0, 0, 0)), (1, (3, 1, 2, 1, 0, 0, 0)), (2, (1, 1, 0, 1, 0, 0, 0)), (3, (23, 3, 10, 20, 56, 1098, 3)), (6, (0, 1, 1, 1, 0, 0, 0)), (7, (25, 1, 3, 0, 0, 0, 0)), (8, (14, 3, 1, 23, 0, 0, 15)), (11, (1, 1, 0, 1, 0, 0, 0)), (12, (23, 3, 10, 25, 68, 1103, 3)), (15, (6, 2, 0, 1, 0, 0, 41)), (17, (0, 1, 1, 1, 0, 0, 0)), (18, (10, 1, 2, 0, 0, 0, 0)), (19, (6, 1, 0, 0, 0, 0, (-1))), (20, (26, 1, 1, 0, 0, 0, 0)), (21, (6, 1, 0, 0, 0, 0, 1)), (22, (3, 1, 2, 1, 0, 0, 0)), (23, (0, 1, 2, 1, 0, 0, 0)), (24, (3, 1, 3, 1, 0, 0, 0)), (25, (6, 1, 0, 0, 0, 0, 0)), (26, (3, 2, 4, 0, 0, 0, 0)), (28, (0, 2, 4, 0, 0, 0, 0)), (30, (1, 1, 0, 1, 0, 0, 0)), (31, (23, 3, 10, 15, 171, 1093, 0)), (34, (15, 3, 3, 157, 0, 0, 123)), (37, (1, 1, 0, 1, 0, 0, 0)), (38, (23, 3, 10, 16, 43, 1094, 3)), (41, (0, 2, 4, 0, 0, 0, 0)), (43, (25, 1, 1, 0, 0, 0, 0)), (44, (0, 1, 1, 1, 0, 0, 0)), (45, (15, 3, 1, 151, 0, 0, 106)), (48, (1, 1, 0, 1, 0, 0, 0)), (49, (23, 3, 10, 17, 46, 1095, 3)), (52, (0, 2, 4, 0, 0, 0, 0)), (54, (25, 1, 3, 0, 0, 0, 0)), (55, (14, 3, 0, 69, 0, 0, 14)), (58, (1, 1, 0, 1, 0, 0, 0)), (59, (23, 3, 10, 21, 59, 1099, 3)), (62, (0, 1, 1, 1, 0, 0, 0)), (63, (25, 1, 1, 0, 0, 0, 0)), (64, (0, 2, 4, 0, 0, 0, 0)), (66, (15, 3, 1, 151, 0, 0, 85)), (69, (0, 1, 2, 1, 0, 0, 0)), (70, (3, 2, 5, 0, 0, 0, 0)), (72, (0, 2, 5, 0, 0, 0, 0)), (74, (0, 1, 3, 1, 0, 0, 0)), (75, (15, 3, 5, 134, 0, 0, 59)), (78, (1, 1, 0, 1, 0, 0, 0)), (79, (0, 1, 1, 1, 0, 0, 0)), (80, (0, 2, 4, 0, 0, 0, 0)), (82, (1, 1, 0, 1, 0, 0, 0)), (83, (23, 3, 10, 25, 68, 1103, 3)), (86, (6, 2, 0, 1, 0, 0, 41)), (88, (0, 1, 1, 1, 0, 0, 0)), (89, (10, 1, 2, 0, 0, 0, 0)), (90, (0, 2, 5, 0, 0, 0, 0)), (92, (10, 1, 0, 0, 0, 0, 0)), (93, (6, 1, 0, 0, 0, 0, 1)), (94, (10, 1, 1, 0, 0, 0, 0)), (95, (25, 1, 1, 0, 0, 0, 0)), (96, (35, 3, 132, 4, 194, 1316, 0)), (99, (14, 3, 0, 134, 0, 0, 35)), (102, (1, 1, 0, 1, 0, 0, 0)), (103, (23, 3, 10, 25, 68, 1103, 3)), (106, (6, 2, 0, 1, 0, 0, 41)), (108, (0, 1, 1, 1, 0, 0, 0)), (109, (10, 1, 2, 0, 0, 0, 0)), (110, (0, 2, 5, 0, 0, 0, 0)), (112, (10, 1, 0, 0, 0, 0, 0)), (113, (1, 1, 0, 1, 0, 0, 0)), (114, (23, 3, 10, 25, 68, 1103, 3)), (117, (6, 2, 0, 1, 0, 0, 41)), (119, (0, 1, 1, 1, 0, 0, 0)), (120, (10, 1, 2, 0, 0, 0, 0)), (121, (0, 2, 5, 0, 0, 0, 0)), (123, (10, 1, 0, 0, 0, 0, 0)), (124, (6, 1, 0, 0, 0, 0, 1)), (125, (10, 1, 1, 0, 0, 0, 0)), (126, (25, 1, 1, 0, 0, 0, 0)), (127, (26, 1, 1, 0, 0, 0, 0)), (128, (9, 3, 5, 0, 0, 0, (-1))), (131, (16, 3, 0, 72, 0, 0, (-59))), (134, (1, 1, 0, 1, 0, 0, 0)), (135, (23, 3, 10, 25, 68, 1103, 3)), (138, (6, 2, 0, 1, 0, 0, 41)), (140, (0, 1, 1, 1, 0, 0, 0)), (141, (10, 1, 2, 0, 0, 0, 0)), (142, (0, 2, 5, 0, 0, 0, 0)), (144, (10, 1, 0, 0, 0, 0, 0)), (145, (0, 2, 4, 0, 0, 0, 0)), (147, (26, 1, 1, 0, 0, 0, 0)), (148, (9, 3, 2, 0, 0, 0, 1)), (151, (9, 3, 4, 0, 0, 0, 1)), (154, (16, 3, 0, 28, 0, 0, (-126))), (157, (1, 1, 0, 1, 0, 0, 0)), (158, (23, 3, 10, 26, 71, 1104, 3)), (161, (0, 1, 1, 1, 0, 0, 0)), (162, (0, 1, 2, 1, 0, 0, 0)), (163, (26, 1, 1, 0, 0, 0, 0)), (164, (1, 1, 0, 1, 0, 0, 0)), (165, (23, 3, 10, 27, 74, 1105, 3)), (168, (0, 1, 1, 1, 0, 0, 0)), (169, (6, 1, 0, 0, 0, 0, 0)), (170, (26, 1, 1, 0, 0, 0, 0)), (171, (37, 1, 0, 0, 0, 0, 0))]
def tb_132 : List (Nat × zOp) := [(0, (1, 1, 0, 1, 0, 0, 0)), (1, (23, 3, 10, 21, 59, 1099, 3)), (4, (0, 1, 1, 1, 0, 0, 0)), (5, (25, 1, 1, 0, 0, 0, 0)), (6, (0, 1, 2, 1, 0, 0, 0)), (7, (15, 3, 0, 29, 0, 0, 22)), (10, (1, 1, 0, 1, 0, 0, 0)), (11, (23, 3, 10, 21, 59, 1099, 3)), (14, (0, 1, 1, 1, 0, 0, 0)), (15, (25, 1, 1, 0, 0, 0, 0)), (16, (0, 1, 3, 1, 0, 0, 0)), (17, (15, 3, 0, 33, 0, 0, 16)), (20, (1, 1, 0, 1, 0, 0, 0)), (21, (0, 1, 2, 1, 0, 0, 0)), (22, (0, 1, 3, 1, 0, 0, 0)), (23, (35, 3, 117, 3, 151, 1248, 0)), (26, (14, 3, 5, 33, 0, 0, 7)), (29, (6, 1, 0, 0, 0, 0, 1)), (30, (16, 3, 0, 34, 0, 0, 4)), (33, (6, 1, 0, 0, 0, 0, 0)), (34, (36, 1, 1, 0, 0, 0, 0))]
def tb_133 : List (Nat × zOp) := [(0, (6, 1, 0, 0, 0, 0, 0)), (1, (3, 1, 1, 1, 0, 0, 0)), (2, (0, 1, 1, 1, 0, 0, 0)), (3, (6, 2, 0, 1, 0, 0, 8)), (5, (6, 1, 0, 0, 0, 0, 5)), (6, (1, 1, 0, 1, 0, 0, 0)), (7, (23, 3, 10, 15, 171, 1093, 0)), (10, (10, 1, 2, 0, 0, 0, 0)), (11, (10, 1, 0, 0, 0, 0, 0)), (12, (15, 3, 3, 54, 0, 0, 42)), (15, (6, 1, 0, 0, 0, 0, 0)), (16, (3, 1, 2, 1, 0, 0, 0)), (17, (0, 1, 2, 1, 0, 0, 0)), (18, (1, 1, 0, 1, 0, 0, 0)), (19, (23, 3, 10, 15, 171, 1093, 0)), (22, (15, 3, 3, 48, 0, 0, 26)), (25, (1, 1, 0, 1, 0, 0, 0)), (26, (23, 3, 10, 28, 77, 1106, 3)), (29, (6, 2, 0, 1, 0, 0, 40)), (31, (0, 1, 1, 1, 0, 0, 0)), (32, (10, 1, 2, 0, 0, 0, 0)), (33, (0, 1, 2, 1, 0, 0, 0)), (34, (10, 1, 0, 0, 0, 0, 0)), (35, (1, 1, 0, 1, 0, 0, 0)), (36, (0, 1, 1, 1, 0, 0, 0)), (37, (0, 1, 2, 1, 0, 0, 0)), (38, (35, 3, 121, 3, 197, 1300, 0)), (41, (26, 1, 3, 0, 0, 0, 0)), (42, (9, 3, 2, 0, 0, 0, 1)), (45, (16, 3, 0, 17, 0, 0, (-28))), (48, (9, 3, 1, 0, 0, 0, 1)), (51, (16, 3, 0, 2, 0, 0, (-49))), (54, (37, 1, 0, 0, 0, 0, 0))]
def tb_134 : List (Nat × zOp) := [(0, (1, 1, 0, 1, 0, 0, 0)), (1, (23, 3, 10, 25, 68, 1103, 3)), (4, (6, 2, 0, 1, 0, 0, 41)), (6, (0, 1, 1, 1, 0, 0, 0)), (7, (10, 1, 2, 0, 0, 0, 0)), (8, (1, 1, 0, 1, 0, 0, 0)), (9, (23, 3, 10, 27, 74, 1105, 3)), (12, (0, 1, 1, 1, 0, 0, 0)), (13, (25, 1, 1, 0, 0, 0, 0)), (14, (10, 1, 0, 0, 0, 0, 0)), (15, (25, 1, 1, 0, 0, 0, 0)), (16, (36, 1, 0, 0, 0, 0, 0))]
def tb_135 : List (Nat × zOp) := [(0, (6, 1, 0, 0, 0, 0, 1)), (1, (3, 1, 3, 1, 0, 0, 0)), (2, (6, 1, 0, 0, 0, 0, 0)), (3, (3, 2, 4, 0, 0, 0, 0)), (5, (0, 2, 4, 0, 0, 0, 0)), (7, (1, 1, 0, 1, 0, 0, 0)), (8, (23, 3, 10, 14, 40, 1092, 3)), (11, (0, 1, 1, 1, 0, 0, 0)), (12, (25, 1, 1, 0, 0, 0, 0)), (13, (15, 3, 3, 94, 0, 0, 81)), (16, (1, 1, 0, 1, 0, 0, 0)), (17, (23, 3, 10, 13, 37, 1091, 3)), (20, (6, 1, 0, 0, 0, 0, 5)), (21, (0, 1, 1, 1, 0, 0, 0)), (22, (10, 1, 2, 0, 0, 0, 0)), (23, (0, 2, 4, 0, 0, 0, 0)), (25, (10, 1, 0, 0, 0, 0, 0)), (26, (25, 1, 1, 0, 0, 0, 0)), (27, (0, 1, 2, 1, 0, 0, 0)), (28, (15, 3, 1, 35, 0, 0, 7)), (31, (6, 1, 0, 0, 0, 0, 1)), (32, (16, 3, 0, 36, 0, 0, 4)), (35, (6, 1, 0, 0, 0, 0, 0)), (36, (3, 2, 5, 0, 0, 0, 0)), (38, (0, 1, 3, 1, 0, 0, 0)), (39, (14, 3, 0, 86, 0, 0, 47)), (42, (0, 2, 5, 0, 0, 0, 0)), (44, (14, 3, 0, 82, 0, 0, 38)), (47, (1, 1, 0, 1, 0, 0, 0)), (48, (0, 1, 2, 1, 0, 0, 0)), (49, (35, 3, 134, 2, 200, 1324, 0)), (52, (6, 1, 0, 0, 0, 0, (-1))), (53, (15, 3, 0, 86, 0, 0, 33)), (56, (1, 1, 0, 1, 0, 0, 0)), (57, (23, 3, 10, 28, 77, 1106, 3)), (60, (6, 2, 0, 1, 0, 0, 40)), (62, (6, 2, 0, 1, 0, 0, 8)), (64, (6, 1, 0, 0, 0, 0, 5)), (65, (0, 1, 1, 1, 0, 0, 0)), (66, (10, 1, 2, 0, 0, 0, 0)), (67, (10, 1, 0, 0, 0, 0, 0)), (68, (0, 2, 4, 0, 0, 0, 0)), (70, (10, 1, 0, 0, 0, 0, 0)), (71, (10, 1, 2, 0, 0, 0, 0)), (72, (1, 1, 0, 1, 0, 0, 0)), (73, (0, 1, 2, 1, 0, 0, 0)), (74, (35, 3, 134, 2, 200, 1324, 0)), (77, (10, 1, 0, 0, 0, 0, 0)), (78, (25, 1, 3, 0, 0, 0, 0)), (79, (14, 3, 0, 86, 0, 0, 7)), (82, (6, 1, 0, 0, 0, 0, 1)), (83, (16, 3, 0, 87, 0, 0, 4)), (86, (6, 1, 0, 0, 0, 0, 0)), (87, (3, 1, 3, 1, 0, 0, 0)), (88, (9, 3, 4, 0, 0, 0, 1)), (91, (16, 3, 0, 5, 0, 0, (-86))), (94, (0, 1, 3, 1, 0, 0, 0)), (95, (36, 1, 1, 0, 0, 0, 0))]
def tb_136 : List (Nat × zOp) := [(0, (1, 1, 0, 1, 0, 0, 0)), (1, (0, 1, 1, 1, 0, 0, 0)), (2, (35, 3, 134, 2, 200, 1324, 0)), (5, (3, 1, 2, 1, 0, 0, 0)), (6, (1, 1, 0, 1, 0, 0, 0)), (7, (23, 3, 10, 20, 56, 1098, 3)), (10, (0, 1, 1, 1, 0, 0, 0)), (11, (25, 1, 3, 0, 0, 0, 0)), (12, (14, 3, 0, 29, 0, 0, 17)), (15, (1, 1, 0, 1, 0, 0, 0)), (16, (23, 3, 10, 28, 77, 1106, 3)), (19, (6, 2, 0, 1, 0, 0, 40)), (21, (0, 1, 1, 1, 0, 0, 0)), (22, (10, 1, 2, 0, 0, 0, 0)), (23, (0, 1, 2, 1, 0, 0, 0)), (24, (10, 1, 0, 0, 0, 0, 0)), (25, (25, 1, 3, 0, 0, 0, 0)), (26, (14, 3, 0, 33, 0, 0, 7)), (29, (6, 1, 0, 0, 0, 0, 1)), (30, (16, 3, 0, 34, 0, 0, 4)), (33, (6, 1, 0, 0, 0, 0, 0)), (34, (3, 1, 3, 1, 0, 0, 0)), (35, (6, 1, 0, 0, 0, 0, 0)), (36, (3, 2, 4, 0, 0, 0, 0)), (38, (0, 2, 4, 0, 0, 0, 0)), (40, (0, 1, 1, 1, 0, 0, 0)), (41, (15, 3, 4, 109, 0, 0, 68)), (44, (0, 1, 3, 1, 0, 0, 0)), (45, (14, 3, 0, 109, 0, 0, 64)), (48, (1, 1, 0, 1, 0, 0, 0)), (49, (0, 2, 4, 0, 0, 0, 0)), (51, (35, 3, 134, 2, 200, 1324, 0)), (54, (6, 1, 0, 0, 0, 0, (-1))), (55, (15, 3, 0, 72, 0, 0, 17)), (58, (1, 1, 0, 1, 0, 0, 0)), (59, (1, 1, 0, 1, 0, 0, 0)), (60, (0, 2, 4, 0, 0, 0, 0)), (62, (35, 3, 134, 2, 200, 1324, 0)), (65, (0, 1, 1, 1, 0, 0, 0)), (66, (35, 3, 135, 3, 204, 1328, 0)), (69, (14, 3, 0, 76, 0, 0, 7)), (72, (6, 1, 0, 0, 0, 0, 1)), (73, (16, 3, 0, 77, 0, 0, 4)), (76, (6, 1, 0, 0, 0, 0, 0)), (77, (3, 1, 3, 1, 0, 0, 0)), (78, (0, 1, 3, 1, 0, 0, 0)), (79, (14, 3, 0, 101, 0, 0, 22)), (82, (0, 1, 2, 1, 0, 0, 0)), (83, (6, 1, 0, 0, 0, 0, (-1))), (84, (15, 3, 0, 97, 0, 0, 13)), (87, (1, 1, 0, 1, 0, 0, 0)), (88, (0, 1, 2, 1, 0, 0, 0)), (89, (0, 2, 4, 0, 0, 0, 0)), (91, (35, 3, 135, 3, 204, 1328, 0)), (94, (14, 3, 0, 101, 0, 0, 7)), (97, (6, 1, 0, 0, 0, 0, 1)), (98, (16, 3, 0, 102, 0, 0, 4)), (101, (6, 1, 0, 0, 0, 0, 0)), (102, (3, 1, 3, 1, 0, 0, 0)), (103, (9, 3, 4, 0, 0, 0, 1)), (106, (16, 3, 0, 38, 0, 0, (-68))), (109, (0, 1, 3, 1, 0, 0, 0)), (110, (36, 1, 1, 0, 0, 0, 0))]
def tb_137 : List (Nat × zOp) := [(0, (6, 1, 0, 0, 0, 0, 0)), (1, (3, 1, 1, 1, 0, 0, 0)), (2, (0, 1, 1, 1, 0, 0, 0)), (3, (6, 2, 0, 1, 0, 0, 8)), (5, (15, 3, 3, 26, 0, 0, 21)), (8, (1, 1, 0, 1, 0, 0, 0)), (9, (23, 3, 10, 29, 80, 1107, 3)), (12, (0, 1, 1, 1, 0, 0, 0)), (13, (1, 1, 0, 1, 0, 0, 0)), (14, (23, 3, 10, 20, 56, 1098, 3)), (17, (0, 1, 1, 1, 0, 0, 0)), (18, (25, 1, 3, 0, 0, 0, 0)), (19, (26, 1, 3, 0, 0, 0, 0)), (20, (9, 3, 1, 0, 0, 0, 1)), (23, (16, 3, 0, 2, 0, 0, (-21))), (26, (6, 1, 0, 0, 0, 0, 0)), (27, (3, 1, 1, 1, 0, 0, 0)), (28, (0, 1, 1, 1, 0, 0, 0)), (29, (6, 2, 0, 1, 0, 0, 8)), (31, (15, 3, 3, 111, 0, 0, 80)), (34, (6, 1, 0, 0, 0, 0, 0)), (35, (3, 1, 2, 1, 0, 0, 0)), (36, (0, 1, 2, 1, 0, 0, 0)), (37, (6, 2, 0, 1, 0, 0, 8)), (39, (15, 3, 3, 105, 0, 0, 66)), (42, (1, 1, 0, 1, 0, 0, 0)), (43, (0, 1, 2, 1, 0, 0, 0)), (44, (35, 3, 134, 2, 200, 1324, 0)), (47, (3, 1, 3, 1, 0, 0, 0)), (48, (6, 1, 0, 0, 0, 0, 0)), (49, (3, 2, 4, 0, 0, 0, 0)), (51, (0, 1, 3, 1, 0, 0, 0)), (52, (6, 1, 0, 0, 0, 0, (-1))), (53, (15, 3, 0, 99, 0, 0, 46)), (56, (1, 1, 0, 1, 0, 0, 0)), (57, (23, 3, 10, 29, 80, 1107, 3)), (60, (0, 1, 2, 1, 0, 0, 0)), (61, (25, 1, 3, 0, 0, 0, 0)), (62, (14, 3, 0, 99, 0, 0, 37)), (65, (0, 2, 4, 0, 0, 0, 0)), (67, (1, 1, 0, 1, 0, 0, 0)), (68, (23, 3, 10, 14, 40, 1092, 3)), (71, (0, 1, 3, 1, 0, 0, 0)), (72, (25, 1, 1, 0, 0, 0, 0)), (73, (15, 3, 3, 99, 0, 0, 26)), (76, (1, 1, 0, 1, 0, 0, 0)), (77, (23, 3, 10, 29, 80, 1107, 3)), (80, (1, 1, 0, 1, 0, 0, 0)), (81, (23, 3, 10, 13, 37, 1091, 3)), (84, (6, 1, 0, 0, 0, 0, 5)), (85, (0, 1, 3, 1, 0, 0, 0)), (86, (10, 1, 2, 0, 0, 0, 0)), (87, (0, 2, 4, 0, 0, 0, 0)), (89, (10, 1, 0, 0, 0, 0, 0)), (90, (25, 1, 1, 0, 0, 0, 0)), (91, (6, 1, 0, 0, 0, 0, 1)), (92, (26, 1, 3, 0, 0, 0, 0)), (93, (9, 3, 4, 0, 0, 0, 1)), (96, (16, 3, 0, 51, 0, 0, (-45))), (99, (9, 3, 2, 0, 0, 0, 1)), (102, (16, 3, 0, 36, 0, 0, (-66))), (105, (9, 3, 1, 0, 0, 0, 1)), (108, (16, 3, 0, 28, 0, 0, (-80))), (111, (6, 1, 0, 0, 0, 0, 1)), (112, (3, 1, 1, 1, 0, 0, 0)), (113, (6, 1, 0, 0, 0, 0, 0)), (114, (3, 1, 2, 1, 0, 0, 0)), (115, (0, 1, 2, 1, 0, 0, 0)), (116, (6, 2, 0, 1, 0, 0, 8)), (118, (15, 3, 3, 155, 0, 0, 37)), (121, (0, 1, 1, 1, 0, 0, 0)), (122, (14, 3, 0, 147, 0, 0, 25)), (125, (1, 1, 0, 1, 0, 0, 0)), (126, (0, 1, 2, 1, 0, 0, 0)), (127, (35, 3, 134, 2, 200, 1324, 0)), (130, (6, 1, 0, 0, 0, 0, (-1))), (131, (15, 3, 0, 143, 0, 0, 12)), (134, (1, 1, 0, 1, 0, 0, 0)), (135, (23, 3, 10, 29, 80, 1107, 3)), (138, (0, 1, 2, 1, 0, 0, 0)), (139, (25, 1, 3, 0, 0, 0, 0)), (140, (14, 3, 0, 147, 0, 0, 7)), (143, (6, 1, 0, 0, 0, 0, 1)), (144, (16, 3, 0, 148, 0, 0, 4)), (147, (6, 1, 0, 0, 0, 0, 0)), (148, (3, 1, 1, 1, 0, 0, 0)), (149, (9, 3, 2, 0, 0, 0, 1)), (152, (16, 3, 0, 115, 0, 0, (-37))), (155, (0, 1, 1, 1, 0, 0, 0)), (156, (36, 1, 1, 0, 0, 0, 0))]
def tb_138 : List (Nat × zOp) := [(0, (1, 1, 0, 1, 0, 0, 0)), (1, (35, 3, 133, 1, 207, 1296, 0)), (4, (6, 1, 0, 0, 0, 0, 0)), (5, (3, 1, 1, 1, 0, 0, 0)), (6, (0, 1, 1, 1, 0, 0, 0)), (7, (6, 2, 0, 1, 0, 0, 8)), (9, (15, 3, 3, 23, 0, 0, 14)), (12, (1, 1, 0, 1, 0, 0, 0)), (13, (0, 1, 1, 1, 0, 0, 0)), (14, (35, 3, 131, 2, 210, 1312, 0)), (17, (9, 3, 1, 0, 0, 0, 1)), (20, (16, 3, 0, 6, 0, 0, (-14))), (23, (6, 1, 0, 0, 0, 0, 0)), (24, (3, 1, 1, 1, 0, 0, 0)), (25, (6, 1, 0, 0, 0, 0, 0)), (26, (3, 1, 2, 1, 0, 0, 0)), (27, (0, 1, 1, 1, 0, 0, 0)), (28, (14, 3, 2, 147, 0, 0, 119)), (31, (0, 1, 2, 1, 0, 0, 0)), (32, (14, 3, 1, 147, 0, 0, 115)), (35, (1, 1, 0, 1, 0, 0, 0)), (36, (23, 3, 10, 27, 74, 1105, 3)), (39, (0, 1, 1, 1, 0, 0, 0)), (40, (25, 1, 1, 0, 0, 0, 0)), (41, (1, 1, 0, 1, 0, 0, 0)), (42, (23, 3, 10, 26, 71, 1104, 3)), (45, (0, 1, 1, 1, 0, 0, 0)), (46, (25, 1, 1, 0, 0, 0, 0)), (47, (15, 3, 1, 89, 0, 0, 42)), (50, (1, 1, 0, 1, 0, 0, 0)), (51, (23, 3, 10, 27, 74, 1105, 3)), (54, (0, 1, 1, 1, 0, 0, 0)), (55, (6, 1, 0, 0, 0, 0, 0)), (56, (26, 1, 1, 0, 0, 0, 0)), (57, (9, 3, 1, 0, 0, 0, (-1))), (60, (1, 1, 0, 1, 0, 0, 0)), (61, (23, 3, 10, 27, 74, 1105, 3)), (64, (0, 1, 1, 1, 0, 0, 0)), (65, (14, 3, 3, 72, 0, 0, 7)), (68, (6, 1, 0, 0, 0, 0, 0)), (69, (16, 3, 0, 73, 0, 0, 4)), (72, (0, 1, 1, 1, 0, 0, 0)), (73, (21, 1, 0, 0, 0, 0, 0)), (74, (25, 1, 1, 0, 0, 0, 0)), (75, (0, 1, 1, 1, 0, 0, 0)), (76, (14, 3, 3, 83, 0, 0, 7)), (79, (6, 1, 0, 0, 0, 0, 0)), (80, (16, 3, 0, 84, 0, 0, 4)), (83, (6, 1, 0, 0, 0, 0, 1)), (84, (10, 1, 0, 0, 0, 0, 0)), (85, (26, 1, 1, 0, 0, 0, 0)), (86, (16, 3, 0, 27, 0, 0, (-59))), (89, (1, 1, 0, 1, 0, 0, 0)), (90, (0, 1, 1, 1, 0, 0, 0)), (91, (35, 3, 136, 2, 213, 1320, 0)), (94, (14, 3, 1, 110, 0, 0, 16)), (97, (1, 1, 0, 1, 0, 0, 0)), (98, (23, 3, 10, 27, 74, 1105, 3)), (101, (0, 1, 1, 1, 0, 0, 0)), (102, (21, 1, 0, 0, 0, 0, 0)), (103, (25, 1, 1, 0, 0, 0, 0)), (104, (6, 1, 0, 0, 0, 0, 1)), (105, (10, 1, 0, 0, 0, 0, 0)), (106, (26, 1, 1, 0, 0, 0, 0)), (107, (16, 3, 0, 27, 0, 0, (-80))), (110, (0, 1, 1, 1, 0, 0, 0)), (111, (6, 2, 0, 1, 0, 0, 7)), (113, (15, 3, 3, 122, 0, 0, 9)), (116, (9, 3, 1, 0, 0, 0, 1)), (119, (16, 3, 0, 27, 0, 0, (-92))), (122, (1, 1, 0, 1, 0, 0, 0)), (123, (35, 3, 137, 1, 216, 1332, 0)), (126, (14, 3, 0, 134, 0, 0, 8)), (129, (6, 1, 0, 0, 0, 0, 1)), (130, (3, 1, 2, 1, 0, 0, 0)), (131, (16, 3, 0, 27, 0, 0, (-104))), (134, (1, 1, 0, 1, 0, 0, 0)), (135, (23, 3, 10, 27, 74, 1105, 3)), (138, (0, 1, 1, 1, 0, 0, 0)), (139, (21, 1, 0, 0, 0, 0, 0)), (140, (25, 1, 1, 0, 0, 0, 0)), (141, (6, 1, 0, 0, 0, 0, 1)), (142, (10, 1, 0, 0, 0, 0, 0)), (143, (26, 1, 1, 0, 0, 0, 0)), (144, (16, 3, 0, 27, 0, 0, (-117))), (147, (1, 1, 0, 1, 0, 0, 0)), (148, (0, 1, 2, 1, 0, 0, 0)), (149, (14, 3, 0, 156, 0, 0, 7)), (152, (6, 1, 0, 0, 0, 0, 0)), (153, (16, 3, 0, 157, 0, 0, 4)), (156, (6, 1, 0, 0, 0, 0, 1)), (157, (24, 3, 10, 0, 83, 1078, 0)), (160, (6, 1, 0, 0, 0, 0, 0)), (161, (3, 1, 3, 1, 0, 0, 0)), (162, (6, 1, 0, 0, 0, 0, 0)), (163, (3, 2, 4, 0, 0, 0, 0)), (165, (0, 2, 4, 0, 0, 0, 0)), (167, (6, 2, 0, 1, 0, 0, 8)), (169, (15, 3, 3, 214, 0, 0, 45)), (172, (0, 1, 2, 1, 0, 0, 0)), (173, (14, 3, 0, 214, 0, 0, 41)), (176, (1, 1, 0, 1, 0, 0, 0)), (177, (23, 3, 10, 22, 62, 1100, 3)), (180, (0, 2, 4, 0, 0, 0, 0)), (182, (1, 1, 0, 1, 0, 0, 0)), (183, (0, 2, 4, 0, 0, 0, 0)), (185, (35, 3, 134, 2, 200, 1324, 0)), (188, (26, 1, 1, 0, 0, 0, 0)), (189, (0, 1, 3, 1, 0, 0, 0)), (190, (1, 1, 0, 1, 0, 0, 0)), (191, (23, 3, 10, 22, 62, 1100, 3)), (194, (0, 2, 4, 0, 0, 0, 0)), (196, (25, 1, 1, 0, 0, 0, 0)), (197, (6, 1, 0, 0, 0, 0, (-1))), (198, (15, 3, 1, 205, 0, 0, 7)), (201, (6, 1, 0, 0, 0, 0, 0)), (202, (16, 3, 0, 206, 0, 0, 4)), (205, (6, 1, 0, 0, 0, 0, 1)), (206, (10, 1, 0, 0, 0, 0, 0)), (207, (3, 1, 3, 1, 0, 0, 0)), (208, (9, 3, 4, 0, 0, 0, 1)), (211, (16, 3, 0, 165, 0, 0, (-46))), (214, (0, 1, 3, 1, 0, 0, 0)), (215, (36, 1, 0, 0, 0, 0, 0))]
def tb_139 : List (Nat × zOp) := [(0, (1, 1, 0, 1, 0, 0, 0)), (1, (0, 1, 1, 1, 0, 0, 0)), (2, (6, 1, 0, 0, 0, 0, 0)), (3, (6, 2, 0, 1, 0, 0, 7)), (5, (35, 3, 98, 3, 87, 1178, 1)), (8, (14, 3, 0, 15, 0, 0, 7)), (11, (6, 1, 0, 0, 0, 0, 0)), (12, (16, 3, 0, 16, 0, 0, 4)), (15, (6, 1, 0, 0, 0, 0, 1)), (16, (24, 3, 10, 0, 83, 1078, 0)), (19, (1, 1, 0, 1, 0, 0, 0)), (20, (23, 3, 10, 0, 83, 1078, 0)), (23, (14, 3, 5, 30, 0, 0, 7)), (26, (6, 1, 0, 0, 0, 0, 0)), (27, (16, 3, 0, 36, 0, 0, 9)), (30, (1, 1, 0, 1, 0, 0, 0)), (31, (23, 3, 10, 22, 62, 1100, 3)), (34, (0, 1, 1, 1, 0, 0, 0)), (35, (25, 1, 1, 0, 0, 0, 0)), (36, (36, 1, 0, 0, 0, 0, 0))]
def tb_140 : List (Nat × zOp) := [(0, (6, 1, 0, 0, 0, 0, 0)), (1, (3, 1, 1, 1, 0, 0, 0)), (2, (6, 1, 0, 0, 0, 0, 0)), (3, (3, 1, 2, 1, 0, 0, 0)), (4, (0, 1, 2, 1, 0, 0, 0)), (5, (6, 2, 0, 1, 0, 0, 8)), (7, (15, 3, 3, 34, 0, 0, 27)), (10, (0, 1, 1, 1, 0, 0, 0)), (11, (1, 1, 0, 1, 0, 0, 0)), (12, (23, 3, 10, 21, 59, 1099, 3)), (15, (0, 1, 2, 1, 0, 0, 0)), (16, (25, 1, 1, 0, 0, 0, 0)), (17, (6, 1, 0, 0, 0, 0, (-1))), (18, (15, 3, 1, 25, 0, 0, 7)), (21, (6, 1, 0, 0, 0, 0, 0)), (22, (16, 3, 0, 26, 0, 0, 4)), (25, (6, 1, 0, 0, 0, 0, 1)), (26, (10, 1, 0, 0, 0, 0, 0)), (27, (3, 1, 1, 1, 0, 0, 0)), (28, (9, 3, 2, 0, 0, 0, 1)), (31, (16, 3, 0, 4, 0, 0, (-27))), (34, (0, 1, 1, 1, 0, 0, 0)), (35, (36, 1, 0, 0, 0, 0, 0))]
def tb_141 : List (Nat × zOp) := [(0, (1, 1, 0, 1, 0, 0, 0)), (1, (6, 1, 0, 0, 0, 0, 0)), (2, (24, 3, 10, 0, 83, 1078, 0)), (5, (6, 1, 0, 0, 0, 0, 0)), (6, (3, 1, 1, 1, 0, 0, 0)), (7, (0, 1, 1, 1, 0, 0, 0)), (8, (6, 2, 0, 1, 0, 0, 8)), (10, (15, 3, 3, 31, 0, 0, 21)), (13, (1, 1, 0, 1, 0, 0, 0)), (14, (23, 3, 10, 21, 59, 1099, 3)), (17, (0, 1, 1, 1, 0, 0, 0)), (18, (1, 1, 0, 1, 0, 0, 0)), (19, (23, 3, 10, 22, 62, 1100, 3)), (22, (0, 1, 1, 1, 0, 0, 0)), (23, (25, 1, 1, 0, 0, 0, 0)), (24, (26, 1, 1, 0, 0, 0, 0)), (25, (9, 3, 1, 0, 0, 0, 1)), (28, (16, 3, 0, 7, 0, 0, (-21))), (31, (1, 1, 0, 1, 0, 0, 0)), (32, (35, 3, 140, 1, 219, 1344, 0)), (35, (36, 1, 0, 0, 0, 0, 0))]
def tb_142 : List (Nat × zOp) := [(0, (1, 1, 0, 1, 0, 0, 0)), (1, (1, 1, 0, 1, 0, 0, 0)), (2, (0, 1, 1, 1, 0, 0, 0)), (3, (35, 3, 126, 2, 188, 1276, 0)), (6, (14, 3, 0, 13, 0, 0, 7)), (9, (6, 1, 0, 0, 0, 0, 0)), (10, (16, 3, 0, 14, 0, 0, 4)), (13, (6, 1, 0, 0, 0, 0, 1)), (14, (24, 3, 10, 0, 83, 1078, 0)), (17, (1, 1, 0, 1, 0, 0, 0)), (18, (23, 3, 10, 0, 83, 1078, 0)), (21, (14, 3, 5, 26, 0, 0, 5)), (24, (6, 1, 0, 0, 0, 0, 0)), (25, (36, 1, 0, 0, 0, 0, 0)), (26, (1, 1, 0, 1, 0, 0, 0)), (27, (23, 3, 10, 21, 59, 1099, 3)), (30, (1, 1, 0, 1, 0, 0, 0)), (31, (23, 3, 10, 16, 43, 1094, 3)), (34, (0, 1, 1, 1, 0, 0, 0)), (35, (25, 1, 1, 0, 0, 0, 0)), (36, (25, 1, 1, 0, 0, 0, 0)), (37, (3, 1, 2, 1, 0, 0, 0)), (38, (1, 1, 0, 1, 0, 0, 0)), (39, (23, 3, 10, 21, 59, 1099, 3)), (42, (1, 1, 0, 1, 0, 0, 0)), (43, (23, 3, 10, 16, 43, 1094, 3)), (46, (0, 1, 1, 1, 0, 0, 0)), (47, (25, 1, 1, 0, 0, 0, 0)), (48, (0, 1, 1, 1, 0, 0, 0)), (49, (26, 1, 1, 0, 0, 0, 0)), (50, (0, 1, 2, 1, 0, 0, 0)), (51, (36, 1, 0, 0, 0, 0, 0))]
def tb_143 : List (Nat × zOp) := [(0, (1, 1, 0, 1, 0, 0, 0)), (1, (6, 1, 0, 0, 0, 0, 0)), (2, (24, 3, 10, 0, 83, 1078, 0)), (5, (1, 1, 0, 1, 0, 0, 0)), (6, (35, 3, 140, 1, 219, 1344, 0)), (9, (3, 1, 1, 1, 0, 0, 0)), (10, (6, 1, 0, 0, 0, 0, 0)), (11, (3, 1, 2, 1, 0, 0, 0)), (12, (0, 1, 2, 1, 0, 0, 0)), (13, (6, 2, 0, 1, 0, 0, 8)), (15, (15, 3, 3, 31, 0, 0, 16)), (18, (1, 1, 0, 1, 0, 0, 0)), (19, (23, 3, 10, 21, 59, 1099, 3)), (22, (0, 1, 2, 1, 0, 0, 0)), (23, (6, 1, 0, 0, 0, 0, (-1))), (24, (26, 1, 1, 0, 0, 0, 0)), (25, (9, 3, 2, 0, 0, 0, 1)), (28, (16, 3, 0, 12, 0, 0, (-16))), (31, (0, 1, 1, 1, 0, 0, 0)), (32, (36, 1, 0, 0, 0, 0, 0))]
def tb_144 : List (Nat × zOp) := [(0, (1, 1, 0, 1, 0, 0, 0)), (1, (35, 3, 128, 1, 191, 1284, 0)), (4, (3, 1, 2, 1, 0, 0, 0)), (5, (1, 1, 0, 1, 0, 0, 0)), (6, (1, 1, 0, 1, 0, 0, 0)), (7, (0, 1, 1, 1, 0, 0, 0)), (8, (35, 3, 126, 2, 188, 1276, 0)), (11, (14, 3, 1, 18, 0, 0, 7)), (14, (6, 1, 0, 0, 0, 0, 1)), (15, (16, 3, 0, 27, 0, 0, 12)), (18, (0, 1, 2, 1, 0, 0, 0)), (19, (14, 3, 0, 26, 0, 0, 7)), (22, (6, 1, 0, 0, 0, 0, 0)), (23, (16, 3, 0, 27, 0, 0, 4)), (26, (6, 1, 0, 0, 0, 0, 2)), (27, (24, 3, 10, 0, 83, 1078, 0)), (30, (1, 1, 0, 1, 0, 0, 0)), (31, (23, 3, 10, 0, 83, 1078, 0)), (34, (14, 3, 1, 52, 0, 0, 18)), (37, (1, 1, 0, 1, 0, 0, 0)), (38, (6, 3, 0, 2, 0, 0, 213)), (41, (0, 1, 1, 1, 0, 0, 0)), (42, (35, 3, 121, 3, 197, 1300, 0)), (45, (14, 3, 0, 52, 0, 0, 7)), (48, (6, 1, 0, 0, 0, 0, 1)), (49, (16, 3, 0, 53, 0, 0, 4)), (52, (6, 1, 0, 0, 0, 0, 0)), (53, (36, 1, 1, 0, 0, 0, 0))]
def tb_145 : List (Nat × zOp) := [(0, (1, 1, 0, 1, 0, 0, 0)), (1, (35, 3, 128, 1, 191, 1284, 0)), (4, (3, 1, 2, 1, 0, 0, 0)), (5, (1, 1, 0, 1, 0, 0, 0)), (6, (0, 1, 1, 1, 0, 0, 0)), (7, (6, 1, 0, 0, 0, 0, 0)), (8, (6, 2, 0, 1, 0, 0, 7)), (10, (35, 3, 98, 3, 87, 1178, 1)), (13, (14, 3, 1, 20, 0, 0, 7)), (16, (6, 1, 0, 0, 0, 0, 1)), (17, (16, 3, 0, 29, 0, 0, 12)), (20, (0, 1, 2, 1, 0, 0, 0)), (21, (14, 3, 0, 28, 0, 0, 7)), (24, (6, 1, 0, 0, 0, 0, 0)), (25, (16, 3, 0, 29, 0, 0, 4)), (28, (6, 1, 0, 0, 0, 0, 2)), (29, (24, 3, 10, 0, 83, 1078, 0)), (32, (6, 1, 0, 0, 0, 0, (-1))), (33, (3, 1, 3, 1, 0, 0, 0)), (34, (6, 1, 0, 0, 0, 0, 0)), (35, (3, 2, 4, 0, 0, 0, 0)), (37, (0, 2, 4, 0, 0, 0, 0)), (39, (1, 1, 0, 1, 0, 0, 0)), (40, (23, 3, 10, 15, 171, 1093, 0)), (43, (15, 3, 3, 126, 0, 0, 83)), (46, (1, 1, 0, 1, 0, 0, 0)), (47, (23, 3, 10, 0, 83, 1078, 0)), (50, (14, 3, 1, 126, 0, 0, 76)), (53, (1, 1, 0, 1, 0, 0, 0)), (54, (23, 3, 10, 16, 43, 1094, 3)), (57, (0, 2, 4, 0, 0, 0, 0)), (59, (25, 1, 1, 0, 0, 0, 0)), (60, (0, 1, 1, 1, 0, 0, 0)), (61, (15, 3, 1, 90, 0, 0, 29)), (64, (1, 1, 0, 1, 0, 0, 0)), (65, (23, 3, 10, 17, 46, 1095, 3)), (68, (0, 2, 4, 0, 0, 0, 0)), (70, (25, 1, 3, 0, 0, 0, 0)), (71, (14, 3, 1, 90, 0, 0, 19)), (74, (1, 1, 0, 1, 0, 0, 0)), (75, (6, 3, 0, 2, 0, 0, 213)), (78, (0, 2, 4, 0, 0, 0, 0)), (80, (35, 3, 121, 3, 197, 1300, 0)), (83, (14, 3, 0, 90, 0, 0, 7)), (86, (6, 1, 0, 0, 0, 0, 1)), (87, (16, 3, 0, 91, 0, 0, 4)), (90, (6, 1, 0, 0, 0, 0, 0)), (91, (3, 2, 5, 0, 0, 0, 0)), (93, (0, 2, 5, 0, 0, 0, 0)), (95, (14, 3, 0, 118, 0, 0, 23)), (98, (0, 1, 3, 1, 0, 0, 0)), (99, (6, 1, 0, 0, 0, 0, (-1))), (100, (15, 3, 0, 113, 0, 0, 13)), (103, (1, 1, 0, 1, 0, 0, 0)), (104, (0, 2, 4, 0, 0, 0, 0)), (106, (0, 1, 3, 1, 0, 0, 0)), (107, (35, 3, 117, 3, 151, 1248, 0)), (110, (14, 3, 5, 118, 0, 0, 8)), (113, (0, 2, 4, 0, 0, 0, 0)), (115, (16, 3, 0, 119, 0, 0, 4)), (118, (0, 1, 3, 1, 0, 0, 0)), (119, (3, 1, 3, 1, 0, 0, 0)), (120, (9, 3, 4, 0, 0, 0, 1)), (123, (16, 3, 0, 37, 0, 0, (-86))), (126, (1, 1, 0, 1, 0, 0, 0)), (127, (23, 3, 10, 0, 83, 1078, 0)), (130, (14, 3, 5, 137, 0, 0, 7)), (133, (6, 1, 0, 0, 0, 0, 0)), (134, (16, 3, 0, 138, 0, 0, 4)), (137, (0, 1, 3, 1, 0, 0, 0)), (138, (36, 1, 0, 0, 0, 0, 0))]
def tb_146 : List (Nat × zOp) := [(0, (1, 1, 0, 1, 0, 0, 0)), (1, (1, 1, 0, 1, 0, 0, 0)), (2, (0, 1, 1, 1, 0, 0, 0)), (3, (35, 3, 126, 2, 188, 1276, 0)), (6, (14, 3, 0, 21, 0, 0, 15)), (9, (1, 1, 0, 1, 0, 0, 0)), (10, (0, 1, 2, 1, 0, 0, 0)), (11, (35, 3, 126, 2, 188, 1276, 0)), (14, (14, 3, 0, 21, 0, 0, 7)), (17, (6, 1, 0, 0, 0, 0, 0)), (18, (16, 3, 0, 22, 0, 0, 4)), (21, (6, 1, 0, 0, 0, 0, 1)), (22, (24, 3, 10, 0, 83, 1078, 0)), (25, (1, 1, 0, 1, 0, 0, 0)), (26, (23, 3, 10, 0, 83, 1078, 0)), (29, (14, 3, 5, 36, 0, 0, 7)), (32, (6, 1, 0, 0, 0, 0, 0)), (33, (16, 3, 0, 42, 0, 0, 9)), (36, (1, 1, 0, 1, 0, 0, 0)), (37, (0, 1, 1, 1, 0, 0, 0)), (38, (0, 1, 2, 1, 0, 0, 0)), (39, (35, 3, 117, 3, 151, 1248, 0)), (42, (36, 1, 0, 0, 0, 0, 0))]
def tb_147 : List (Nat × zOp) := [(0, (1, 1, 0, 1, 0, 0, 0)), (1, (1, 1, 0, 1, 0, 0, 0)), (2, (0, 1, 1, 1, 0, 0, 0)), (3, (35, 3, 126, 2, 188, 1276, 0)), (6, (14, 3, 0, 13, 0, 0, 7)), (9, (6, 1, 0, 0, 0, 0, 0)), (10, (16, 3, 0, 14, 0, 0, 4)), (13, (6, 1, 0, 0, 0, 0, 1)), (14, (24, 3, 10, 0, 83, 1078, 0)), (17, (1, 1, 0, 1, 0, 0, 0)), (18, (23, 3, 10, 0, 83, 1078, 0)), (21, (14, 3, 5, 28, 0, 0, 7)), (24, (6, 1, 0, 0, 0, 0, 0)), (25, (16, 3, 0, 58, 0, 0, 33)), (28, (0, 1, 2, 1, 0, 0, 0)), (29, (6, 1, 0, 0, 0, 0, 0)), (30, (1, 1, 0, 1, 0, 0, 0)), (31, (23, 3, 10, 14, 40, 1092, 3)), (34, (0, 1, 1, 1, 0, 0, 0)), (35, (25, 1, 1, 0, 0, 0, 0)), (36, (6, 1, 0, 0, 0, 0, 1)), (37, (10, 1, 1, 0, 0, 0, 0)), (38, (35, 3, 98, 3, 87, 1178, 1)), (41, (14, 3, 0, 57, 0, 0, 16)), (44, (1, 1, 0, 1, 0, 0, 0)), (45, (23, 3, 10, 13, 37, 1091, 3)), (48, (6, 1, 0, 0, 0, 0, 5)), (49, (0, 1, 1, 1, 0, 0, 0)), (50, (10, 1, 2, 0, 0, 0, 0)), (51, (0, 1, 2, 1, 0, 0, 0)), (52, (10, 1, 0, 0, 0, 0, 0)), (53, (25, 1, 1, 0, 0, 0, 0)), (54, (16, 3, 0, 58, 0, 0, 4)), (57, (6, 1, 0, 0, 0, 0, (-1))), (58, (36, 1, 0, 0, 0, 0, 0))]
def tb_148 : List (Nat × zOp) := [(0, (1, 1, 0, 1, 0, 0, 0)), (1, (6, 1, 0, 0, 0, 0, 0)), (2, (24, 3, 10, 0, 83, 1078, 0)), (5, (6, 1, 0, 0, 0, 0, 0)), (6, (3, 1, 2, 1, 0, 0, 0)), (7, (6, 1, 0, 0, 0, 0, 0)), (8, (3, 1, 3, 1, 0, 0, 0)), (9, (0, 1, 3, 1, 0, 0, 0)), (10, (1, 1, 0, 1, 0, 0, 0)), (11, (23, 3, 10, 15, 171, 1093, 0)), (14, (15, 3, 3, 45, 0, 0, 31)), (17, (0, 1, 1, 1, 0, 0, 0)), (18, (6, 1, 0, 0, 0, 0, 1)), (19, (15, 3, 1, 45, 0, 0, 26)), (22, (0, 1, 2, 1, 0, 0, 0)), (23, (1, 1, 0, 1, 0, 0, 0)), (24, (23, 3, 10, 17, 46, 1095, 3)), (27, (0, 1, 3, 1, 0, 0, 0)), (28, (25, 1, 3, 0, 0, 0, 0)), (29, (14, 3, 0, 36, 0, 0, 7)), (32, (6, 1, 0, 0, 0, 0, 1)), (33, (16, 3, 0, 37, 0, 0, 4)), (36, (6, 1, 0, 0, 0, 0, 0)), (37, (10, 1, 0, 0, 0, 0, 0)), (38, (3, 1, 2, 1, 0, 0, 0)), (39, (9, 3, 3, 0, 0, 0, 1)), (42, (16, 3, 0, 9, 0, 0, (-33))), (45, (6, 1, 0, 0, 0, 0, 0)), (46, (3, 1, 3, 1, 0, 0, 0)), (47, (0, 1, 3, 1, 0, 0, 0)), (48, (6, 2, 0, 1, 0, 0, 8)), (50, (15, 3, 3, 81, 0, 0, 31)), (53, (0, 1, 1, 1, 0, 0, 0)), (54, (6, 1, 0, 0, 0, 0, 2)), (55, (15, 3, 1, 81, 0, 0, 26)), (58, (0, 1, 2, 1, 0, 0, 0)), (59, (1, 1, 0, 1, 0, 0, 0)), (60, (23, 3, 10, 20, 56, 1098, 3)), (63, (0, 1, 3, 1, 0, 0, 0)), (64, (25, 1, 3, 0, 0, 0, 0)), (65, (14, 3, 0, 72, 0, 0, 7)), (68, (6, 1, 0, 0, 0, 0, 1)), (69, (16, 3, 0, 73, 0, 0, 4)), (72, (6, 1, 0, 0, 0, 0, 0)), (73, (10, 1, 0, 0, 0, 0, 0)), (74, (3, 1, 2, 1, 0, 0, 0)), (75, (9, 3, 3, 0, 0, 0, 1)), (78, (16, 3, 0, 47, 0, 0, (-31))), (81, (0, 1, 1, 1, 0, 0, 0)), (82, (14, 3, 1, 92, 0, 0, 10)), (85, (1, 1, 0, 1, 0, 0, 0)), (86, (23, 3, 10, 15, 171, 1093, 0)), (89, (16, 3, 0, 131, 0, 0, 42)), (92, (0, 1, 1, 1, 0, 0, 0)), (93, (6, 1, 0, 0, 0, 0, 1)), (94, (15, 3, 0, 102, 0, 0, 8)), (97, (0, 1, 1, 1, 0, 0, 0)), (98, (6, 1, 0, 0, 0, 0, 2)), (99, (15, 3, 1, 106, 0, 0, 7)), (102, (0, 1, 2, 1, 0, 0, 0)), (103, (16, 3, 0, 131, 0, 0, 28)), (106, (0, 1, 1, 1, 0, 0, 0)), (107, (6, 1, 0, 0, 0, 0, 3)), (108, (15, 3, 1, 118, 0, 0, 10)), (111, (1, 1, 0, 1, 0, 0, 0)), (112, (35, 3, 140, 1, 219, 1344, 0)), (115, (16, 3, 0, 131, 0, 0, 16)), (118, (0, 1, 1, 1, 0, 0, 0)), (119, (6, 1, 0, 0, 0, 0, 4)), (120, (15, 3, 1, 130, 0, 0, 10)), (123, (1, 1, 0, 1, 0, 0, 0)), (124, (23, 3, 10, 1, 91, 1079, 0)), (127, (16, 3, 0, 131, 0, 0, 4)), (130, (6, 1, 0, 0, 0, 0, (-1))), (131, (36, 1, 0, 0, 0, 0, 0))]
def tb_149 : List (Nat × zOp) := [(0, (1, 1, 0, 1, 0, 0, 0)), (1, (23, 3, 10, 24, 65, 1102, 3)), (4, (1, 1, 0, 1, 0, 0, 0)), (5, (23, 3, 10, 23, 222, 1101, 0)), (8, (0, 1, 1, 1, 0, 0, 0)), (9, (26, 1, 1, 0, 0, 0, 0)), (10, (1, 1, 0, 1, 0, 0, 0)), (11, (20, 1, 0, 0, 0, 0, 0)), (12, (23, 3, 10, 23, 222, 1101, 0)), (15, (6, 1, 0, 0, 0, 0, 1)), (16, (10, 1, 0, 0, 0, 0, 0)), (17, (24, 3, 10, 23, 222, 1101, 0)), (20, (37, 1, 0, 0, 0, 0, 0))]
def tb_150 : List (Nat × zOp) := [(0, (1, 1, 0, 1, 0, 0, 0)), (1, (6, 1, 0, 0, 0, 0, 0)), (2, (24, 3, 10, 0, 83, 1078, 0)), (5, (1, 1, 0, 1, 0, 0, 0)), (6, (6, 1, 0, 0, 0, 0, 0)), (7, (24, 3, 10, 23, 222, 1101, 0)), (10, (6, 1, 0, 0, 0, 0, 0)), (11, (3, 1, 1, 1, 0, 0, 0)), (12, (0, 1, 1, 1, 0, 0, 0)), (13, (6, 2, 0, 1, 0, 0, 8)), (15, (15, 3, 3, 89, 0, 0, 74)), (18, (1, 1, 0, 1, 0, 0, 0)), (19, (23, 3, 10, 22, 62, 1100, 3)), (22, (0, 1, 1, 1, 0, 0, 0)), (23, (25, 1, 1, 0, 0, 0, 0)), (24, (3, 1, 2, 1, 0, 0, 0)), (25, (0, 1, 2, 1, 0, 0, 0)), (26, (6, 1, 0, 0, 0, 0, (-1))), (27, (15, 3, 0, 83, 0, 0, 56)), (30, (1, 1, 0, 1, 0, 0, 0)), (31, (6, 2, 0, 1, 0, 0, 48)), (33, (0, 1, 1, 1, 0, 0, 0)), (34, (10, 1, 0, 0, 0, 0, 0)), (35, (35, 3, 149, 2, 225, 1380, 0)), (38, (1, 1, 0, 1, 0, 0, 0)), (39, (6, 2, 0, 1, 0, 0, 32)), (41, (35, 3, 149, 2, 225, 1380, 0)), (44, (6, 1, 0, 0, 0, 0, 0)), (45, (3, 1, 3, 1, 0, 0, 0)), (46, (0, 1, 3, 1, 0, 0, 0)), (47, (1, 1, 0, 1, 0, 0, 0)), (48, (23, 3, 10, 18, 50, 1096, 3)), (51, (0, 1, 2, 1, 0, 0, 0)), (52, (25, 1, 1, 0, 0, 0, 0)), (53, (15, 3, 3, 77, 0, 0, 24)), (56, (1, 1, 0, 1, 0, 0, 0)), (57, (1, 1, 0, 1, 0, 0, 0)), (58, (23, 3, 10, 19, 53, 1097, 3)), (61, (6, 2, 0, 1, 0, 0, 24)), (63, (0, 1, 2, 1, 0, 0, 0)), (64, (10, 1, 2, 0, 0, 0, 0)), (65, (0, 1, 3, 1, 0, 0, 0)), (66, (10, 1, 0, 0, 0, 0, 0)), (67, (25, 1, 1, 0, 0, 0, 0)), (68, (35, 3, 149, 2, 225, 1380, 0)), (71, (9, 3, 3, 0, 0, 0, 1)), (74, (16, 3, 0, 46, 0, 0, (-28))), (77, (1, 1, 0, 1, 0, 0, 0)), (78, (6, 2, 0, 1, 0, 0, 10)), (80, (35, 3, 149, 2, 225, 1380, 0)), (83, (9, 3, 1, 0, 0, 0, 1)), (86, (16, 3, 0, 12, 0, 0, (-74))), (89, (1, 1, 0, 1, 0, 0, 0)), (90, (23, 3, 10, 23, 222, 1101, 0)), (93, (36, 1, 0, 0, 0, 0, 0))]
def tb_151 : List (Nat × zOp) := [(0, (1, 1, 0, 1, 0, 0, 0)), (1, (0, 1, 1, 1, 0, 0, 0)), (2, (6, 1, 0, 0, 0, 0, 0)), (3, (1, 1, 0, 1, 0, 0, 0)), (4, (23, 3, 10, 23, 222, 1101, 0)), (7, (6, 1, 0, 0, 0, 0, 1)), (8, (10, 1, 1, 0, 0, 0, 0)), (9, (35, 3, 98, 3, 87, 1178, 1)), (12, (14, 3, 0, 19, 0, 0, 7)), (15, (6, 1, 0, 0, 0, 0, 0)), (16, (16, 3, 0, 20, 0, 0, 4)), (19, (6, 1, 0, 0, 0, 0, 1)), (20, (24, 3, 10, 0, 83, 1078, 0)), (23, (1, 1, 0, 1, 0, 0, 0)), (24, (23, 3, 10, 0, 83, 1078, 0)), (27, (14, 3, 5, 34, 0, 0, 7)), (30, (6, 1, 0, 0, 0, 0, 0)), (31, (16, 3, 0, 40, 0, 0, 9)), (34, (1, 1, 0, 1, 0, 0, 0)), (35, (23, 3, 10, 24, 65, 1102, 3)), (38, (0, 1, 1, 1, 0, 0, 0)), (39, (25, 1, 1, 0, 0, 0, 0)), (40, (36, 1, 0, 0, 0, 0, 0))]
def tb_152 : List (Nat × zOp) := [(0, (1, 2, 4, 0, 0, 0, 0)), (2, (6, 1, 0, 0, 0, 0, 0)), (3, (1, 1, 0, 1, 0, 0, 0)), (4, (2, 1, 1, 1, 0, 0, 0)), (5, (0, 1, 3, 1, 0, 0, 0)), (6, (43, 3, 74, 3, 7, 240, 0)), (9, (13, 1, 0, 0, 0, 0, 0)), (10, (28, 1, 0, 0, 0, 0, 0)), (11, (16, 3, 0, 22, 0, 0, 11)), (14, (4, 2, 5, 0, 0, 0, 0)), (16, (6, 1, 0, 0, 0, 0, 1)), (17, (36, 1, 0, 0, 0, 0, 0)), (18, (4, 2, 5, 0, 0, 0, 0)), (20, (6, 1, 0, 0, 0, 0, 2)), (21, (36, 1, 0, 0, 0, 0, 0)), (22, (6, 1, 0, 0, 0, 0, 0)), (23, (36, 1, 0, 0, 0, 0, 0))]
def tb_153 : List (Nat × zOp) := [(0, (1, 1, 2, 1, 0, 0, 0)), (1, (6, 1, 0, 0, 0, 0, 0)), (2, (1, 1, 0, 1, 0, 0, 0)), (3, (0, 1, 1, 1, 0, 0, 0)), (4, (43, 3, 75, 2, 17, 329, 0)), (7, (13, 1, 0, 0, 0, 0, 0)), (8, (28, 1, 0, 0, 0, 0, 0)), (9, (16, 3, 0, 24, 0, 0, 15)), (12, (4, 1, 3, 1, 0, 0, 0)), (13, (6, 1, 0, 0, 0, 0, 1)), (14, (36, 1, 0, 0, 0, 0, 0)), (15, (4, 1, 3, 1, 0, 0, 0)), (16, (6, 1, 0, 0, 0, 0, 2)), (17, (36, 1, 0, 0, 0, 0, 0)), (18, (4, 1, 3, 1, 0, 0, 0)), (19, (6, 1, 0, 0, 0, 0, 3)), (20, (36, 1, 0, 0, 0, 0, 0)), (21, (4, 1, 3, 1, 0, 0, 0)), (22, (6, 1, 0, 0, 0, 0, 4)), (23, (36, 1, 0, 0, 0, 0, 0)), (24, (6, 1, 0, 0, 0, 0, 0)), (25, (36, 1, 0, 0, 0, 0, 0))]
def tb_154 : List (Nat × zOp) := [(0, (1, 1, 3, 1, 0, 0, 0)), (1, (6, 1, 0, 0, 0, 0, 0)), (2, (1, 1, 0, 1, 0, 0, 0)), (3, (0, 1, 1, 1, 0, 0, 0)), (4, (0, 1, 2, 1, 0, 0, 0)), (5, (43, 3, 76, 3, 25, 918, 0)), (8, (14, 3, 0, 15, 0, 0, 7)), (11, (7, 1, 0, 0, 0, 0, 1)), (12, (16, 3, 0, 16, 0, 0, 4)), (15, (7, 1, 0, 0, 0, 0, 0)), (16, (28, 1, 0, 0, 0, 0, 0)), (17, (16, 3, 0, 24, 0, 0, 7)), (20, (4, 2, 4, 0, 0, 0, 0)), (22, (6, 1, 0, 0, 0, 0, 1)), (23, (36, 1, 0, 0, 0, 0, 0)), (24, (6, 1, 0, 0, 0, 0, 0)), (25, (36, 1, 0, 0, 0, 0, 0))]
def tb_155 : List (Nat × zOp) := [(0, (1, 1, 0, 1, 0, 0, 0)), (1, (0, 1, 1, 1, 0, 0, 0)), (2, (43, 3, 77, 2, 29, 925, 0)), (5, (16, 3, 0, 14, 0, 0, 9)), (8, (4, 1, 2, 1, 0, 0, 0)), (9, (6, 1, 0, 0, 0, 0, 1)), (10, (36, 1, 0, 0, 0, 0, 0)), (11, (4, 1, 2, 1, 0, 0, 0)), (12, (6, 1, 0, 0, 0, 0, 2)), (13, (36, 1, 0, 0, 0, 0, 0)), (14, (6, 1, 0, 0, 0, 0, 0)), (15, (36, 1, 0, 0, 0, 0, 0))]
def tb_156 : List (Nat × zOp) := [(0, (1, 1, 2, 1, 0, 0, 0)), (1, (6, 1, 0, 0, 0, 0, 0)), (2, (1, 1, 0, 1, 0, 0, 0)), (3, (0, 1, 1, 1, 0, 0, 0)), (4, (43, 3, 78, 2, 33, 936, 0)), (7, (14, 3, 0, 14, 0, 0, 7)), (10, (7, 1, 0, 0, 0, 0, 1)), (11, (16, 3, 0, 15, 0, 0, 4)), (14, (7, 1, 0, 0, 0, 0, 0)), (15, (28, 1, 0, 0, 0, 0, 0)), (16, (16, 3, 0, 22, 0, 0, 6)), (19, (4, 1, 3, 1, 0, 0, 0)), (20, (6, 1, 0, 0, 0, 0, 1)), (21, (36, 1, 0, 0, 0, 0, 0)), (22, (6, 1, 0, 0, 0, 0, 0)), (23, (36, 1, 0, 0, 0, 0, 0))]
def tb_157 : List (Nat × zOp) := [(0, (1, 1, 1, 1, 0, 0, 0)), (1, (6, 1, 0, 0, 0, 0, 0)), (2, (1, 1, 0, 1, 0, 0, 0)), (3, (43, 3, 79, 1, 37, 943, 0)), (6, (13, 1, 0, 0, 0, 0, 0)), (7, (28, 1, 0, 0, 0, 0, 0)), (8, (16, 3, 0, 14, 0, 0, 6)), (11, (4, 1, 2, 1, 0, 0, 0)), (12, (6, 1, 0, 0, 0, 0, 1)), (13, (36, 1, 0, 0, 0, 0, 0)), (14, (6, 1, 0, 0, 0, 0, 0)), (15, (36, 1, 0, 0, 0, 0, 0))]
def tb_158 : List (Nat × zOp) := [(0, (1, 1, 2, 1, 0, 0, 0)), (1, (6, 1, 0, 0, 0, 0, 0)), (2, (1, 1, 0, 1, 0, 0, 0)), (3, (0, 1, 1, 1, 0, 0, 0)), (4, (43, 3, 80, 2, 41, 1014, 0)), (7, (13, 1, 0, 0, 0, 0, 0)), (8, (28, 1, 0, 0, 0, 0, 0)), (9, (16, 3, 0, 15, 0, 0, 6)), (12, (4, 1, 3, 1, 0, 0, 0)), (13, (6, 1, 0, 0, 0, 0, 1)), (14, (36, 1, 0, 0, 0, 0, 0)), (15, (6, 1, 0, 0, 0, 0, 0)), (16, (36, 1, 0, 0, 0, 0, 0))]
def tb_159 : List (Nat × zOp) := [(0, (1, 1, 2, 1, 0, 0, 0)), (1, (6, 1, 0, 0, 0, 0, 0)), (2, (1, 1, 0, 1, 0, 0, 0)), (3, (0, 1, 1, 1, 0, 0, 0)), (4, (43, 3, 82, 2, 44, 1021, 0)), (7, (13, 1, 0, 0, 0, 0, 0)), (8, (28, 1, 0, 0, 0, 0, 0)), (9, (16, 3, 0, 15, 0, 0, 6)), (12, (4, 1, 3, 1, 0, 0, 0)), (13, (6, 1, 0, 0, 0, 0, 1)), (14, (36, 1, 0, 0, 0, 0, 0)), (15, (6, 1, 0, 0, 0, 0, 0)), (16, (36, 1, 0, 0, 0, 0, 0))]
def tb_160 : List (Nat × zOp) := [(0, (1, 1, 2, 1, 0, 0, 0)), (1, (6, 1, 0, 0, 0, 0, 0)), (2, (1, 1, 0, 1, 0, 0, 0)), (3, (0, 1, 1, 1, 0, 0, 0)), (4, (43, 3, 84, 2, 47, 1028, 0)), (7, (14, 3, 0, 14, 0, 0, 7)), (10, (7, 1, 0, 0, 0, 0, 1)), (11, (16, 3, 0, 15, 0, 0, 4)), (14, (7, 1, 0, 0, 0, 0, 0)), (15, (28, 1, 0, 0, 0, 0, 0)), (16, (16, 3, 0, 25, 0, 0, 9)), (19, (4, 1, 3, 1, 0, 0, 0)), (20, (6, 1, 0, 0, 0, 0, 1)), (21, (36, 1, 0, 0, 0, 0, 0)), (22, (4, 1, 3, 1, 0, 0, 0)), (23, (6, 1, 0, 0, 0, 0, 2)), (24, (36, 1, 0, 0, 0, 0, 0)), (25, (6, 1, 0, 0, 0, 0, 0)), (26, (36, 1, 0, 0, 0, 0, 0))]
def tb_161 : List (Nat × zOp) := [(0, (1, 1, 2, 1, 0, 0, 0)), (1, (6, 1, 0, 0, 0, 0, 0)), (2, (1, 1, 0, 1, 0, 0, 0)), (3, (0, 1, 1, 1, 0, 0, 0)), (4, (43, 3, 85, 2, 50, 1036, 0)), (7, (13, 1, 0, 0, 0, 0, 0)), (8, (28, 1, 0, 0, 0, 0, 0)), (9, (16, 3, 0, 18, 0, 0, 9)), (12, (4, 1, 3, 1, 0, 0, 0)), (13, (6, 1, 0, 0, 0, 0, 1)), (14, (36, 1, 0, 0, 0, 0, 0)), (15, (4, 1, 3, 1, 0, 0, 0)), (16, (6, 1, 0, 0, 0, 0, 2)), (17, (36, 1, 0, 0, 0, 0, 0)), (18, (6, 1, 0, 0, 0, 0, 0)), (19, (36, 1, 0, 0, 0, 0, 0))]
def tb_162 : List (Nat × zOp) := [(0, (1, 1, 3, 1, 0, 0, 0)), (1, (6, 1, 0, 0, 0, 0, 0)), (2, (1, 1, 0, 1, 0, 0, 0)), (3, (0, 1, 1, 1, 0, 0, 0)), (4, (0, 1, 2, 1, 0, 0, 0)), (5, (43, 3, 86, 3, 53, 1049, 0)), (8, (13, 1, 0, 0, 0, 0, 0)), (9, (28, 1, 0, 0, 0, 0, 0)), (10, (16, 3, 0, 17, 0, 0, 7)), (13, (4, 2, 4, 0, 0, 0, 0)), (15, (6, 1, 0, 0, 0, 0, 1)), (16, (36, 1, 0, 0, 0, 0, 0)), (17, (6, 1, 0, 0, 0, 0, 0)), (18, (36, 1, 0, 0, 0, 0, 0))]
def tb_163 : List (Nat × zOp) := [(0, (1, 1, 3, 1, 0, 0, 0)), (1, (6, 1, 0, 0, 0, 0, 0)), (2, (1, 1, 0, 1, 0, 0, 0)), (3, (0, 1, 1, 1, 0, 0, 0)), (4, (0, 1, 2, 1, 0, 0, 0)), (5, (43, 3, 87, 3, 57, 1057, 0)), (8, (13, 1, 0, 0, 0, 0, 0)), (9, (28, 1, 0, 0, 0, 0, 0)), (10, (16, 3, 0, 17, 0, 0, 7)), (13, (4, 2, 4, 0, 0, 0, 0)), (15, (6, 1, 0, 0, 0, 0, 1)), (16, (36, 1, 0, 0, 0, 0, 0)), (17, (6, 1, 0, 0, 0, 0, 0)), (18, (36, 1, 0, 0, 0, 0, 0))]
def tb_164 : List (Nat × zOp) := [(0, (1, 1, 2, 1, 0, 0, 0)), (1, (6, 1, 0, 0, 0, 0, 0)), (2, (1, 1, 0, 1, 0, 0, 0)), (3, (0, 1, 1, 1, 0, 0, 0)), (4, (43, 3, 90, 2, 60, 1068, 0)), (7, (13, 1, 0, 0, 0, 0, 0)), (8, (28, 1, 0, 0, 0, 0, 0)), (9, (16, 3, 0, 15, 0, 0, 6)), (12, (4, 1, 3, 1, 0, 0, 0)), (13, (6, 1, 0, 0, 0, 0, 1)), (14, (36, 1, 0, 0, 0, 0, 0)), (15, (6, 1, 0, 0, 0, 0, 0)), (16, (36, 1, 0, 0, 0, 0, 0))]
def tb_165 : List (Nat × zOp) := [(0, (32, 3, 9, 7, 8, 98, 0)), (3, (20, 1, 0, 0, 0, 0, 0)), (4, (35, 3, 73, 1, 63, 100, 2)), (7, (4, 1, 1, 1, 0, 0, 0)), (8, (32, 3, 10, 30, 64, 1072, 0)), (11, (20, 1, 0, 0, 0, 0, 0)), (12, (35, 3, 96, 1, 66, 1074, 2)), (15, (4, 1, 2, 1, 0, 0, 0)), (16, (6, 1, 0, 0, 0, 0, 1)), (17, (33, 2, 2, 0, 0, 0, 0)), (19, (4, 1, 3, 1, 0, 0, 0)), (20, (6, 1, 0, 0, 0, 0, 0)), (21, (3, 2, 4, 0, 0, 0, 0)), (23, (0, 2, 4, 0, 0, 0, 0)), (25, (1, 1, 0, 1, 0, 0, 0)), (26, (42, 1, 0, 0, 0, 0, 0)), (27, (6, 1, 0, 0, 0, 0, 4)), (28, (10, 1, 1, 0, 0, 0, 0)), (29, (15, 3, 4, 1003, 0, 0, 974)), (32, (1, 1, 0, 1, 0, 0, 0)), (33, (0, 2, 4, 0, 0, 0, 0)), (35, (41, 1, 0, 0, 0, 0, 0)), (36, (6, 2, 0, 1, 0, 0, 31)), (38, (10, 1, 3, 0, 0, 0, 0)), (39, (39, 81, 3, 997, 0, 0, 0)), (120, (1, 1, 1, 1, 0, 0, 0)), (121, (1, 1, 0, 1, 0, 0, 0)), (122, (0, 2, 4, 0, 0, 0, 0)), (124, (6, 1, 0, 0, 0, 0, 1)), (125, (10, 1, 0, 0, 0, 0, 0)), (126, (41, 1, 0, 0, 0, 0, 0)), (127, (13, 1, 0, 0, 0, 0, 0)), (128, (6, 2, 0, 1, 0, 0, 32)), (130, (12, 1, 0, 0, 0, 0, 0)), (131, (1, 1, 0, 1, 0, 0, 0)), (132, (0, 2, 4, 0, 0, 0, 0)), (134, (6, 1, 0, 0, 0, 0, 2)), (135, (10, 1, 0, 0, 0, 0, 0)), (136, (41, 1, 0, 0, 0, 0, 0)), (137, (13, 1, 0, 0, 0, 0, 0)), (138, (7, 3, 0, 1, 67, 1388, 4294967295)), (141, (11, 1, 2, 0, 0, 0, 0)), (142, (11, 1, 3, 0, 0, 0, 0)), (143, (1, 1, 0, 1, 0, 0, 0)), (144, (0, 2, 4, 0, 0, 0, 0)), (146, (6, 1, 0, 0, 0, 0, 3)), (147, (10, 1, 0, 0, 0, 0, 0)), (148, (41, 1, 0, 0, 0, 0, 0)), (149, (1, 1, 3, 1, 0, 0, 0)), (150, (35, 3, 152, 4, 69, 235, 1)), (153, (3, 2, 5, 0, 0, 0, 0)), (155, (1, 1, 2, 1, 0, 0, 0)), (156, (1, 1, 0, 1, 0, 0, 0)), (157, (0, 2, 4, 0, 0, 0, 0)), (159, (6, 1, 0, 0, 0, 0, 1)), (160, (10, 1, 0, 0, 0, 0, 0)), (161, (41, 1, 0, 0, 0, 0, 0)), (162, (13, 1, 0, 0, 0, 0, 0)), (163, (6, 2, 0, 1, 0, 0, 32)), (165, (12, 1, 0, 0, 0, 0, 0)), (166, (1, 1, 0, 1, 0, 0, 0)), (167, (0, 2, 4, 0, 0, 0, 0)), (169, (6, 1, 0, 0, 0, 0, 2)), (170, (10, 1, 0, 0, 0, 0, 0)), (171, (41, 1, 0, 0, 0, 0, 0)), (172, (13, 1, 0, 0, 0, 0, 0)), (173, (7, 3, 0, 1, 67, 1388, 4294967295)), (176, (11, 1, 2, 0, 0, 0, 0)), (177, (11, 1, 3, 0, 0, 0, 0)), (178, (1, 1, 0, 1, 0, 0, 0)), (179, (0, 2, 4, 0, 0, 0, 0)), (181, (6, 1, 0, 0, 0, 0, 3)), (182, (10, 1, 0, 0, 0, 0, 0)), (183, (41, 1, 0, 0, 0, 0, 0)), (184, (35, 3, 99, 3, 74, 1174, 0)), (187, (3, 2, 6, 0, 0, 0, 0)), (189, (1, 1, 2, 1, 0, 0, 0)), (190, (35, 3, 97, 1, 75, 1170, 0)), (193, (0, 2, 5, 0, 0, 0, 0)), (195, (15, 3, 0, 200, 0, 0, 5)), (198, (6, 1, 0, 0, 0, 0, 0)), (199, (36, 1, 1, 0, 0, 0, 0)), (200, (0, 2, 5, 0, 0, 0, 0)), (202, (14, 3, 1, 217, 0, 0, 15)), (205, (1, 1, 3, 1, 0, 0, 0)), (206, (6, 1, 0, 0, 0, 0, 0)), (207, (27, 1, 0, 0, 0, 0, 0)), (208, (0, 2, 6, 0, 0, 0, 0)), (210, (13, 1, 0, 0, 0, 0, 0)), (211, (19, 1, 0, 0, 0, 0, 0)), (212, (14, 3, 0, 217, 0, 0, 5)), (215, (6, 1, 0, 0, 0, 0, 0)), (216, (36, 1, 1, 0, 0, 0, 0)), (217, (16, 3, 0, 997, 0, 0, 780)), (220, (1, 1, 1, 1, 0, 0, 0)), (221, (1, 1, 0, 1, 0, 0, 0)), (222, (0, 2, 4, 0, 0, 0, 0)), (224, (6, 1, 0, 0, 0, 0, 1)), (225, (10, 1, 0, 0, 0, 0, 0)), (226, (41, 1, 0, 0, 0, 0, 0)), (227, (1, 1, 3, 1, 0, 0, 0)), (228, (35, 3, 153, 3, 78, 324, 1)), (231, (3, 2, 5, 0, 0, 0, 0)), (233, (1, 1, 2, 1, 0, 0, 0)), (234, (1, 1, 0, 1, 0, 0, 0)), (235, (0, 2, 4, 0, 0, 0, 0)), (237, (6, 1, 0, 0, 0, 0, 1)), (238, (10, 1, 0, 0, 0, 0, 0)), (239, (41, 1, 0, 0, 0, 0, 0)), (240, (35, 3, 125, 2, 81, 1182, 0)), (243, (3, 2, 6, 0, 0, 0, 0)), (245, (1, 1, 2, 1, 0, 0, 0)), (246, (35, 3, 97, 1, 75, 1170, 0)), (249, (0, 2, 5, 0, 0, 0, 0)), (251, (15, 3, 0, 256, 0, 0, 5)), (254, (6, 1, 0, 0, 0, 0, 0)), (255, (36, 1, 1, 0, 0, 0, 0)), (256, (0, 2, 5, 0, 0, 0, 0)), (258, (14, 3, 1, 273, 0, 0, 15)), (261, (1, 1, 3, 1, 0, 0, 0)), (262, (6, 1, 0, 0, 0, 0, 0)), (263, (27, 1, 0, 0, 0, 0, 0)), (264, (0, 2, 6, 0, 0, 0, 0)), (266, (13, 1, 0, 0, 0, 0, 0)), (267, (19, 1, 0, 0, 0, 0, 0)), (268, (14, 3, 0, 273, 0, 0, 5)), (271, (6, 1, 0, 0, 0, 0, 0)), (272, (36, 1, 1, 0, 0, 0, 0)), (273, (16, 3, 0, 997, 0, 0, 724)), (276, (1, 1, 1, 1, 0, 0, 0)), (277, (1, 1, 0, 1, 0, 0, 0)), (278, (0, 2, 4, 0, 0, 0, 0)), (280, (6, 1, 0, 0, 0, 0, 1)), (281, (10, 1, 0, 0, 0, 0, 0)), (282, (41, 1, 0, 0, 0, 0, 0)), (283, (1, 1, 0, 1, 0, 0, 0)), (284, (0, 2, 4, 0, 0, 0, 0)), (286, (6, 1, 0, 0, 0, 0, 2)), (287, (10, 1, 0, 0, 0, 0, 0)), (288, (41, 1, 0, 0, 0, 0, 0)), (289, (14, 3, 0, 296, 0, 0, 7)), (292, (6, 1, 0, 0, 0, 0, 1)), (293, (16, 3, 0, 297, 0, 0, 4)), (296, (6, 1, 0, 0, 0, 0, 0)), (297, (1, 1, 3, 1, 0, 0, 0)), (298, (35, 3, 154, 4, 82, 915, 1)), (301, (3, 2, 5, 0, 0, 0, 0)), (303, (1, 1, 2, 1, 0, 0, 0)), (304, (1, 1, 0, 1, 0, 0, 0)), (305, (0, 2, 4, 0, 0, 0, 0)), (307, (6, 1, 0, 0, 0, 0, 1)), (308, (10, 1, 0, 0, 0, 0, 0)), (309, (41, 1, 0, 0, 0, 0, 0)), (310, (1, 1, 0, 1, 0, 0, 0)), (311, (0, 2, 4, 0, 0, 0, 0)), (313, (6, 1, 0, 0, 0, 0, 2)), (314, (10, 1, 0, 0, 0, 0, 0)), (315, (41, 1, 0, 0, 0, 0, 0)), (316, (14, 3, 0, 323, 0, 0, 7)), (319, (6, 1, 0, 0, 0, 0, 1)), (320, (16, 3, 0, 324, 0, 0, 4)), (323, (6, 1, 0, 0, 0, 0, 0)), (324, (35, 3, 127, 3, 85, 1272, 0)), (327, (3, 2, 6, 0, 0, 0, 0)), (329, (1, 1, 2, 1, 0, 0, 0)), (330, (35, 3, 97, 1, 75, 1170, 0)), (333, (0, 2, 5, 0, 0, 0, 0)), (335, (15, 3, 0, 340, 0, 0, 5)), (338, (6, 1, 0, 0, 0, 0, 0)), (339, (36, 1, 1, 0, 0, 0, 0)), (340, (0, 2, 5, 0, 0, 0, 0)), (342, (14, 3, 1, 364, 0, 0, 22)), (345, (1, 1, 3, 1, 0, 0, 0)), (346, (6, 1, 0, 0, 0, 0, 0)), (347, (27, 1, 0, 0, 0, 0, 0)), (348, (0, 2, 6, 0, 0, 0, 0)), (350, (14, 3, 0, 357, 0, 0, 7)), (353, (7, 1, 0, 0, 0, 0, 1)), (354, (16, 3, 0, 358, 0, 0, 4)), (357, (7, 1, 0, 0, 0, 0, 0)), (358, (19, 1, 0, 0, 0, 0, 0)), (359, (14, 3, 0, 364, 0, 0, 5)), (362, (6, 1, 0, 0, 0, 0, 0)), (363, (36, 1, 1, 0, 0, 0, 0)), (364, (16, 3, 0, 997, 0, 0, 633)), (367, (1, 1, 1, 1, 0, 0, 0)), (368, (1, 1, 0, 1, 0, 0, 0)), (369, (0, 2, 4, 0, 0, 0, 0)), (371, (6, 1, 0, 0, 0, 0, 1)), (372, (10, 1, 0, 0, 0, 0, 0)), (373, (41, 1, 0, 0, 0, 0, 0)), (374, (35, 3, 155, 2, 86, 922, 1)), (377, (3, 2, 5, 0, 0, 0, 0)), (379, (1, 1, 2, 1, 0, 0, 0)), (380, (1, 1, 0, 1, 0, 0, 0)), (381, (0, 2, 4, 0, 0, 0, 0)), (383, (6, 1, 0, 0, 0, 0, 1)), (384, (10, 1, 0, 0, 0, 0, 0)), (385, (41, 1, 0, 0, 0, 0, 0)), (386, (35, 3, 129, 2, 89, 1280, 0)), (389, (1, 1, 2, 1, 0, 0, 0)), (390, (35, 3, 97, 1, 75, 1170, 0)), (393, (0, 2, 5, 0, 0, 0, 0)), (395, (15, 3, 0, 400, 0, 0, 5)), (398, (6, 1, 0, 0, 0, 0, 0)), (399, (36, 1, 1, 0, 0, 0, 0)), (400, (16, 3, 0, 997, 0, 0, 597)), (403, (1, 1, 1, 1, 0, 0, 0)), (404, (1, 1, 0, 1, 0, 0, 0)), (405, (0, 2, 4, 0, 0, 0, 0)), (407, (6, 1, 0, 0, 0, 0, 1)), (408, (10, 1, 0, 0, 0, 0, 0)), (409, (41, 1, 0, 0, 0, 0, 0)), (410, (1, 1, 3, 1, 0, 0, 0)), (411, (35, 3, 156, 3, 90, 933, 1)), (414, (3, 2, 5, 0, 0, 0, 0)), (416, (1, 1, 2, 1, 0, 0, 0)), (417, (1, 1, 0, 1, 0, 0, 0)), (418, (0, 2, 4, 0, 0, 0, 0)), (420, (6, 1, 0, 0, 0, 0, 1)), (421, (10, 1, 0, 0, 0, 0, 0)), (422, (41, 1, 0, 0, 0, 0, 0)), (423, (35, 3, 130, 2, 92, 1288, 0)), (426, (3, 2, 6, 0, 0, 0, 0)), (428, (1, 1, 2, 1, 0, 0, 0)), (429, (35, 3, 97, 1, 75, 1170, 0)), (432, (0, 2, 5, 0, 0, 0, 0)), (434, (15, 3, 0, 439, 0, 0, 5)), (437, (6, 1, 0, 0, 0, 0, 0)), (438, (36, 1, 1, 0, 0, 0, 0)), (439, (0, 2, 5, 0, 0, 0, 0)), (441, (14, 3, 1, 463, 0, 0, 22)), (444, (1, 1, 3, 1, 0, 0, 0)), (445, (6, 1, 0, 0, 0, 0, 0)), (446, (27, 1, 0, 0, 0, 0, 0)), (447, (0, 2, 6, 0, 0, 0, 0)), (449, (14, 3, 0, 456, 0, 0, 7)), (452, (7, 1, 0, 0, 0, 0, 1)), (453, (16, 3, 0, 457, 0, 0, 4)), (456, (7, 1, 0, 0, 0, 0, 0)), (457, (19, 1, 0, 0, 0, 0, 0)), (458, (14, 3, 0, 463, 0, 0, 5)), (461, (6, 1, 0, 0, 0, 0, 0)), (462, (36, 1, 1, 0, 0, 0, 0)), (463, (16, 3, 0, 997, 0, 0, 534)), (466, (1, 1, 1, 1, 0, 0, 0)), (467, (1, 1, 3, 1, 0, 0, 0)), (468, (35, 3, 157, 2, 93, 940, 1)), (471, (3, 2, 5, 0, 0, 0, 0)), (473, (1, 1, 2, 1, 0, 0, 0)), (474, (35, 3, 138, 1, 96, 1292, 0)), (477, (3, 2, 6, 0, 0, 0, 0)), (479, (1, 1, 2, 1, 0, 0, 0)), (480, (35, 3, 97, 1, 75, 1170, 0)), (483, (0, 2, 5, 0, 0, 0, 0)), (485, (15, 3, 0, 490, 0, 0, 5)), (488, (6, 1, 0, 0, 0, 0, 0)), (489, (36, 1, 1, 0, 0, 0, 0)), (490, (0, 2, 5, 0, 0, 0, 0)), (492, (14, 3, 1, 507, 0, 0, 15)), (495, (1, 1, 3, 1, 0, 0, 0)), (496, (6, 1, 0, 0, 0, 0, 0)), (497, (27, 1, 0, 0, 0, 0, 0)), (498, (0, 2, 6, 0, 0, 0, 0)), (500, (13, 1, 0, 0, 0, 0, 0)), (501, (19, 1, 0, 0, 0, 0, 0)), (502, (14, 3, 0, 507, 0, 0, 5)), (505, (6, 1, 0, 0, 0, 0, 0)), (506, (36, 1, 1, 0, 0, 0, 0)), (507, (16, 3, 0, 997, 0, 0, 490)), (510, (1, 1, 1, 1, 0, 0, 0)), (511, (1, 1, 0, 1, 0, 0, 0)), (512, (0, 2, 4, 0, 0, 0, 0)), (514, (6, 1, 0, 0, 0, 0, 1)), (515, (10, 1, 0, 0, 0, 0, 0)), (516, (41, 1, 0, 0, 0, 0, 0)), (517, (1, 1, 3, 1, 0, 0, 0)), (518, (35, 3, 158, 3, 97, 1011, 1)), (521, (3, 2, 5, 0, 0, 0, 0)), (523, (1, 1, 2, 1, 0, 0, 0)), (524, (1, 1, 0, 1, 0, 0, 0)), (525, (0, 2, 4, 0, 0, 0, 0)), (527, (6, 1, 0, 0, 0, 0, 1)), (528, (10, 1, 0, 0, 0, 0, 0)), (529, (41, 1, 0, 0, 0, 0, 0)), (530, (35, 3, 139, 2, 99, 1336, 0)), (533, (3, 2, 6, 0, 0, 0, 0)), (535, (1, 1, 2, 1, 0, 0, 0)), (536, (35, 3, 97, 1, 75, 1170, 0)), (539, (0, 2, 5, 0, 0, 0, 0)), (541, (15, 3, 0, 546, 0, 0, 5)), (544, (6, 1, 0, 0, 0, 0, 0)), (545, (36, 1, 1, 0, 0, 0, 0)), (546, (0, 2, 5, 0, 0, 0, 0)), (548, (14, 3, 1, 563, 0, 0, 15)), (551, (1, 1, 3, 1, 0, 0, 0)), (552, (6, 1, 0, 0, 0, 0, 0)), (553, (27, 1, 0, 0, 0, 0, 0)), (554, (0, 2, 6, 0, 0, 0, 0)), (556, (13, 1, 0, 0, 0, 0, 0)), (557, (19, 1, 0, 0, 0, 0, 0)), (558, (14, 3, 0, 563, 0, 0, 5)), (561, (6, 1, 0, 0, 0, 0, 0)), (562, (36, 1, 1, 0, 0, 0, 0)), (563, (16, 3, 0, 997, 0, 0, 434)), (566, (1, 1, 1, 1, 0, 0, 0)), (567, (35, 3, 81, 1, 100, 193, 0)), (570, (1, 1, 2, 1, 0, 0, 0)), (571, (35, 3, 141, 1, 103, 1340, 0)), (574, (15, 3, 0, 997, 0, 0, 423)), (577, (6, 1, 0, 0, 0, 0, 0)), (578, (36, 1, 1, 0, 0, 0, 0)), (579, (1, 1, 1, 1, 0, 0, 0)), (580, (1, 1, 0, 1, 0, 0, 0)), (581, (0, 2, 4, 0, 0, 0, 0)), (583, (6, 1, 0, 0, 0, 0, 1)), (584, (10, 1, 0, 0, 0, 0, 0)), (585, (41, 1, 0, 0, 0, 0, 0)), (586, (1, 1, 3, 1, 0, 0, 0)), (587, (35, 3, 159, 3, 104, 1018, 1)), (590, (3, 2, 5, 0, 0, 0, 0)), (592, (1, 1, 2, 1, 0, 0, 0)), (593, (1, 1, 0, 1, 0, 0, 0)), (594, (0, 2, 4, 0, 0, 0, 0)), (596, (6, 1, 0, 0, 0, 0, 1)), (597, (10, 1, 0, 0, 0, 0, 0)), (598, (41, 1, 0, 0, 0, 0, 0)), (599, (35, 3, 142, 2, 106, 1348, 0)), (602, (3, 2, 6, 0, 0, 0, 0)), (604, (1, 1, 2, 1, 0, 0, 0)), (605, (35, 3, 97, 1, 75, 1170, 0)), (608, (0, 2, 5, 0, 0, 0, 0)), (610, (15, 3, 0, 615, 0, 0, 5)), (613, (6, 1, 0, 0, 0, 0, 0)), (614, (36, 1, 1, 0, 0, 0, 0)), (615, (0, 2, 5, 0, 0, 0, 0)), (617, (14, 3, 1, 632, 0, 0, 15)), (620, (1, 1, 3, 1, 0, 0, 0)), (621, (6, 1, 0, 0, 0, 0, 0)), (622, (27, 1, 0, 0, 0, 0, 0)), (623, (0, 2, 6, 0, 0, 0, 0)), (625, (13, 1, 0, 0, 0, 0, 0)), (626, (19, 1, 0, 0, 0, 0, 0)), (627, (14, 3, 0, 632, 0, 0, 5)), (630, (6, 1, 0, 0, 0, 0, 0)), (631, (36, 1, 1, 0, 0, 0, 0)), (632, (16, 3, 0, 997, 0, 0, 365)), (635, (1, 1, 1, 1, 0, 0, 0)), (636, (35, 3, 83, 1, 107, 203, 0)), (639, (1, 1, 2, 1, 0, 0, 0)), (640, (35, 3, 143, 1, 110, 1352, 0)), (643, (15, 3, 0, 997, 0, 0, 354)), (646, (6, 1, 0, 0, 0, 0, 0)), (647, (36, 1, 1, 0, 0, 0, 0)), (648, (1, 1, 1, 1, 0, 0, 0)), (649, (1, 1, 0, 1, 0, 0, 0)), (650, (0, 2, 4, 0, 0, 0, 0)), (652, (6, 1, 0, 0, 0, 0, 1)), (653, (10, 1, 0, 0, 0, 0, 0)), (654, (41, 1, 0, 0, 0, 0, 0)), (655, (1, 1, 3, 1, 0, 0, 0)), (656, (35, 3, 160, 3, 111, 1025, 1)), (659, (3, 2, 5, 0, 0, 0, 0)), (661, (1, 1, 2, 1, 0, 0, 0)), (662, (1, 1, 0, 1, 0, 0, 0)), (663, (0, 2, 4, 0, 0, 0, 0)), (665, (6, 1, 0, 0, 0, 0, 1)), (666, (10, 1, 0, 0, 0, 0, 0)), (667, (41, 1, 0, 0, 0, 0, 0)), (668, (35, 3, 144, 2, 113, 1356, 0)), (671, (3, 2, 6, 0, 0, 0, 0)), (673, (1, 1, 2, 1, 0, 0, 0)), (674, (35, 3, 97, 1, 75, 1170, 0)), (677, (0, 2, 5, 0, 0, 0, 0)), (679, (15, 3, 0, 684, 0, 0, 5)), (682, (6, 1, 0, 0, 0, 0, 0)), (683, (36, 1, 1, 0, 0, 0, 0)), (684, (0, 2, 5, 0, 0, 0, 0)), (686, (14, 3, 1, 708, 0, 0, 22)), (689, (1, 1, 3, 1, 0, 0, 0)), (690, (6, 1, 0, 0, 0, 0, 0)), (691, (27, 1, 0, 0, 0, 0, 0)), (692, (0, 2, 6, 0, 0, 0, 0)), (694, (14, 3, 0, 701, 0, 0, 7)), (697, (7, 1, 0, 0, 0, 0, 1)), (698, (16, 3, 0, 702, 0, 0, 4)), (701, (7, 1, 0, 0, 0, 0, 0)), (702, (19, 1, 0, 0, 0, 0, 0)), (703, (14, 3, 0, 708, 0, 0, 5)), (706, (6, 1, 0, 0, 0, 0, 0)), (707, (36, 1, 1, 0, 0, 0, 0)), (708, (16, 3, 0, 997, 0, 0, 289)), (711, (1, 1, 1, 1, 0, 0, 0)), (712, (1, 1, 0, 1, 0, 0, 0)), (713, (0, 2, 4, 0, 0, 0, 0)), (715, (6, 1, 0, 0, 0, 0, 1)), (716, (10, 1, 0, 0, 0, 0, 0)), (717, (41, 1, 0, 0, 0, 0, 0)), (718, (1, 1, 3, 1, 0, 0, 0)), (719, (35, 3, 161, 3, 114, 1033, 1)), (722, (3, 2, 5, 0, 0, 0, 0)), (724, (1, 1, 2, 1, 0, 0, 0)), (725, (1, 1, 0, 1, 0, 0, 0)), (726, (0, 2, 4, 0, 0, 0, 0)), (728, (6, 1, 0, 0, 0, 0, 1)), (729, (10, 1, 0, 0, 0, 0, 0)), (730, (41, 1, 0, 0, 0, 0, 0)), (731, (35, 3, 145, 2, 116, 1360, 0)), (734, (3, 2, 6, 0, 0, 0, 0)), (736, (1, 1, 2, 1, 0, 0, 0)), (737, (35, 3, 97, 1, 75, 1170, 0)), (740, (0, 2, 5, 0, 0, 0, 0)), (742, (15, 3, 0, 747, 0, 0, 5)), (745, (6, 1, 0, 0, 0, 0, 0)), (746, (36, 1, 1, 0, 0, 0, 0)), (747, (0, 2, 5, 0, 0, 0, 0)), (749, (14, 3, 1, 764, 0, 0, 15)), (752, (1, 1, 3, 1, 0, 0, 0)), (753, (6, 1, 0, 0, 0, 0, 0)), (754, (27, 1, 0, 0, 0, 0, 0)), (755, (0, 2, 6, 0, 0, 0, 0)), (757, (13, 1, 0, 0, 0, 0, 0)), (758, (19, 1, 0, 0, 0, 0, 0)), (759, (14, 3, 0, 764, 0, 0, 5)), (762, (6, 1, 0, 0, 0, 0, 0)), (763, (36, 1, 1, 0, 0, 0, 0)), (764, (16, 3, 0, 997, 0, 0, 233)), (767, (1, 1, 1, 1, 0, 0, 0)), (768, (1, 1, 0, 1, 0, 0, 0)), (769, (0, 2, 4, 0, 0, 0, 0)), (771, (6, 1, 0, 0, 0, 0, 1)), (772, (10, 1, 0, 0, 0, 0, 0)), (773, (41, 1, 0, 0, 0, 0, 0)), (774, (1, 1, 0, 1, 0, 0, 0)), (775, (0, 2, 4, 0, 0, 0, 0)), (777, (6, 1, 0, 0, 0, 0, 2)), (778, (10, 1, 0, 0, 0, 0, 0)), (779, (41, 1, 0, 0, 0, 0, 0)), (780, (1, 1, 3, 1, 0, 0, 0)), (781, (35, 3, 162, 4, 117, 1046, 1)), (784, (3, 2, 5, 0, 0, 0, 0)), (786, (1, 1, 2, 1, 0, 0, 0)), (787, (1, 1, 0, 1, 0, 0, 0)), (788, (0, 2, 4, 0, 0, 0, 0)), (790, (6, 1, 0, 0, 0, 0, 1)), (791, (10, 1, 0, 0, 0, 0, 0)), (792, (41, 1, 0, 0, 0, 0, 0)), (793, (1, 1, 0, 1, 0, 0, 0)), (794, (0, 2, 4, 0, 0, 0, 0)), (796, (6, 1, 0, 0, 0, 0, 2)), (797, (10, 1, 0, 0, 0, 0, 0)), (798, (41, 1, 0, 0, 0, 0, 0)), (799, (35, 3, 146, 3, 120, 1364, 0)), (802, (3, 2, 6, 0, 0, 0, 0)), (804, (1, 1, 2, 1, 0, 0, 0)), (805, (35, 3, 97, 1, 75, 1170, 0)), (808, (0, 2, 5, 0, 0, 0, 0)), (810, (15, 3, 0, 815, 0, 0, 5)), (813, (6, 1, 0, 0, 0, 0, 0)), (814, (36, 1, 1, 0, 0, 0, 0)), (815, (0, 2, 5, 0, 0, 0, 0)), (817, (14, 3, 1, 832, 0, 0, 15)), (820, (1, 1, 3, 1, 0, 0, 0)), (821, (6, 1, 0, 0, 0, 0, 0)), (822, (27, 1, 0, 0, 0, 0, 0)), (823, (0, 2, 6, 0, 0, 0, 0)), (825, (13, 1, 0, 0, 0, 0, 0)), (826, (19, 1, 0, 0, 0, 0, 0)), (827, (14, 3, 0, 832, 0, 0, 5)), (830, (6, 1, 0, 0, 0, 0, 0)), (831, (36, 1, 1, 0, 0, 0, 0)), (832, (16, 3, 0, 997, 0, 0, 165)), (835, (1, 1, 1, 1, 0, 0, 0)), (836, (1, 1, 0, 1, 0, 0, 0)), (837, (0, 2, 4, 0, 0, 0, 0)), (839, (6, 1, 0, 0, 0, 0, 1)), (840, (10, 1, 0, 0, 0, 0, 0)), (841, (41, 1, 0, 0, 0, 0, 0)), (842, (1, 1, 0, 1, 0, 0, 0)), (843, (0, 2, 4, 0, 0, 0, 0)), (845, (6, 1, 0, 0, 0, 0, 2)), (846, (10, 1, 0, 0, 0, 0, 0)), (847, (41, 1, 0, 0, 0, 0, 0)), (848, (1, 1, 3, 1, 0, 0, 0)), (849, (35, 3, 163, 4, 121, 1054, 1)), (852, (3, 2, 5, 0, 0, 0, 0)), (854, (1, 1, 2, 1, 0, 0, 0)), (855, (1, 1, 0, 1, 0, 0, 0)), (856, (0, 2, 4, 0, 0, 0, 0)), (858, (6, 1, 0, 0, 0, 0, 1)), (859, (10, 1, 0, 0, 0, 0, 0)), (860, (41, 1, 0, 0, 0, 0, 0)), (861, (1, 1, 0, 1, 0, 0, 0)), (862, (0, 2, 4, 0, 0, 0, 0)), (864, (6, 1, 0, 0, 0, 0, 2)), (865, (10, 1, 0, 0, 0, 0, 0)), (866, (41, 1, 0, 0, 0, 0, 0)), (867, (35, 3, 147, 3, 123, 1368, 0)), (870, (3, 2, 6, 0, 0, 0, 0)), (872, (1, 1, 2, 1, 0, 0, 0)), (873, (35, 3, 97, 1, 75, 1170, 0)), (876, (0, 2, 5, 0, 0, 0, 0)), (878, (15, 3, 0, 883, 0, 0, 5)), (881, (6, 1, 0, 0, 0, 0, 0)), (882, (36, 1, 1, 0, 0, 0, 0)), (883, (0, 2, 5, 0, 0, 0, 0)), (885, (14, 3, 1, 900, 0, 0, 15)), (888, (1, 1, 3, 1, 0, 0, 0)), (889, (6, 1, 0, 0, 0, 0, 0)), (890, (27, 1, 0, 0, 0, 0, 0)), (891, (0, 2, 6, 0, 0, 0, 0)), (893, (13, 1, 0, 0, 0, 0, 0)), (894, (19, 1, 0, 0, 0, 0, 0)), (895, (14, 3, 0, 900, 0, 0, 5)), (898, (6, 1, 0, 0, 0, 0, 0)), (899, (36, 1, 1, 0, 0, 0, 0)), (900, (16, 3, 0, 997, 0, 0, 97)), (903, (1, 1, 1, 1, 0, 0, 0)), (904, (1, 1, 0, 1, 0, 0, 0)), (905, (0, 2, 4, 0, 0, 0, 0)), (907, (6, 1, 0, 0, 0, 0, 1)), (908, (10, 1, 0, 0, 0, 0, 0)), (909, (41, 1, 0, 0, 0, 0, 0)), (910, (35, 3, 88, 2, 124, 207, 0)), (913, (1, 1, 2, 1, 0, 0, 0)), (914, (1, 1, 0, 1, 0, 0, 0)), (915, (0, 2, 4, 0, 0, 0, 0)), (917, (6, 1, 0, 0, 0, 0, 1)), (918, (10, 1, 0, 0, 0, 0, 0)), (919, (41, 1, 0, 0, 0, 0, 0)), (920, (35, 3, 148, 2, 127, 1372, 0)), (923, (15, 3, 0, 997, 0, 0, 74)), (926, (6, 1, 0, 0, 0, 0, 0)), (927, (36, 1, 1, 0, 0, 0, 0)), (928, (1, 1, 1, 1, 0, 0, 0)), (929, (35, 3, 89, 1, 128, 219, 0)), (932, (1, 1, 2, 1, 0, 0, 0)), (933, (35, 3, 150, 1, 131, 1376, 0)), (936, (15, 3, 0, 997, 0, 0, 61)), (939, (6, 1, 0, 0, 0, 0, 0)), (940, (36, 1, 1, 0, 0, 0, 0)), (941, (1, 1, 1, 1, 0, 0, 0)), (942, (1, 1, 0, 1, 0, 0, 0)), (943, (0, 2, 4, 0, 0, 0, 0)), (945, (6, 1, 0, 0, 0, 0, 1)), (946, (10, 1, 0, 0, 0, 0, 0)), (947, (41, 1, 0, 0, 0, 0, 0)), (948, (1, 1, 3, 1, 0, 0, 0)), (949, (35, 3, 164, 3, 132, 1065, 1)), (952, (3, 2, 5, 0, 0, 0, 0)), (954, (1, 1, 2, 1, 0, 0, 0)), (955, (1, 1, 0, 1, 0, 0, 0)), (956, (0, 2, 4, 0, 0, 0, 0)), (958, (6, 1, 0, 0, 0, 0, 1)), (959, (10, 1, 0, 0, 0, 0, 0)), (960, (41, 1, 0, 0, 0, 0, 0)), (961, (35, 3, 151, 2, 134, 1384, 0)), (964, (3, 2, 6, 0, 0, 0, 0)), (966, (1, 1, 2, 1, 0, 0, 0)), (967, (35, 3, 97, 1, 75, 1170, 0)), (970, (0, 2, 5, 0, 0, 0, 0)), (972, (15, 3, 0, 977, 0, 0, 5)), (975, (6, 1, 0, 0, 0, 0, 0)), (976, (36, 1, 1, 0, 0, 0, 0)), (977, (0, 2, 5, 0, 0, 0, 0)), (979, (14, 3, 1, 994, 0, 0, 15)), (982, (1, 1, 3, 1, 0, 0, 0)), (983, (6, 1, 0, 0, 0, 0, 0)), (984, (27, 1, 0, 0, 0, 0, 0)), (985, (0, 2, 6, 0, 0, 0, 0)), (987, (13, 1, 0, 0, 0, 0, 0)), (988, (19, 1, 0, 0, 0, 0, 0)), (989, (14, 3, 0, 994, 0, 0, 5)), (992, (6, 1, 0, 0, 0, 0, 0)), (993, (36, 1, 1, 0, 0, 0, 0)), (994, (16, 3, 0, 997, 0, 0, 3)), (997, (9, 3, 4, 0, 0, 0, 4)), (1000, (16, 3, 0, 23, 0, 0, (-977))), (1003, (6, 1, 0, 0, 0, 0, 1)), (1004, (36, 1, 1, 0, 0, 0, 0))]
/-- the switches: method, default, lowest, targets -/
def zSW : List (Int × Int × Int × List Int × List Nat) := [(138, 0, 5, [38, 61, 84, 101, 120, 129], [76, 99, 122, 139, 158, 167]), (72, 0, 4, [35, 43, 51, 56, 64], [36, 44, 52, 57, 65]), (174, 0, 6, [42, 44, 64, 84, 121, 154, 164], [72, 74, 94, 114, 151, 184, 194]), (958, 0, 16, [81, 181, 237, 328, 364, 427, 471, 527, 540, 596, 609, 672, 728, 796, 864, 889, 902], [120, 220, 276, 367, 403, 466, 510, 566, 579, 635, 648, 711, 767, 835, 903, 928, 941])]
/-- the methods: name, code, locals, answer, kind (0 of an object, 1 static, 2 a constructor), its class, parameters, words, instructions -/
abbrev zMt : Type := MethodName × ByteArray × Nat × Option FieldType × Nat × Nat × Nat × (Nat × Nat × Nat × Nat) × List (Nat × zOp)
def zmt_0 : List zMt := [(yJ6_compare_7cf53, cJ6_compare_7cf53, 2, (some .int), 1, 99, 2, (848, 847, 0, 86), tb_0),
  (yJ13_bitCount_95d88, cJ13_bitCount_95d88, 2, (some .int), 1, 99, 1, (981, 980, 0, 97), tb_1),
  (yJ7_fill_53178, cJ7_fill_53178, 4, none, 1, 99, 2, (170, 169, 0, 71), tb_2),
  (yJ7_fill_d0a16, cJ7_fill_d0a16, 5, none, 1, 99, 2, (970, 969, 0, 71), tb_3),
  (yJ7_copyOfRange_39247, cJ7_copyOfRange_39247, 3, (some (.array .byte)), 1, 99, 3, (422, 421, 0, 71), tb_4),
  (yJ7_copyOfRangeByte_39247, cJ7_copyOfRangeByte_39247, 5, (some (.array .byte)), 1, 99, 3, (425, 424, 0, 71), tb_5),
  (yJ7_checkLength_df160, cJ7_checkLength_df160, 2, none, 1, 99, 2, (428, 427, 0, 71), tb_6),
  (yX0_init, cX0_init, 2, none, 2, 0, 1, (110, 109, 0, 68), tb_7),
  (yX0_append, cX0_append, 2, none, 0, 0, 1, (234, 232, 233, 68), tb_8),
  (yX1_init, cX1_init, 3, none, 2, 1, 2, (341, 340, 0, 78), tb_9),
  (yX1_publication, cX1_publication, 6, (some (.object "VersionSolver$Release")), 0, 1, 1, (380, 378, 379, 78), tb_10),
  (yX1_onlyRequirement, cX1_onlyRequirement, 2, (some (.object "VersionSolver$Requirement")), 0, 1, 0, (932, 930, 931, 78), tb_11),
  (yX1_release, cX1_release, 5, (some (.object "VersionSolver$Release")), 0, 1, 1, (384, 383, 4, 78), tb_12),
  (yX1_requirement, cX1_requirement, 4, (some (.object "VersionSolver$Requirement")), 0, 1, 0, (750, 749, 15, 78), tb_13),
  (yX1_comparator, cX1_comparator, 7, (some (.object "VersionSolver$Span")), 0, 1, 0, (773, 772, 17, 78), tb_14),
  (yX1_sign, cX1_sign, 1, (some .int), 0, 1, 0, (802, 801, 18, 78), tb_15),
  (yX1_numbers, cX1_numbers, 3, (some .int), 0, 1, 0, (388, 387, 5, 78), tb_16),
  (yX1_number, cX1_number, 4, (some .int), 0, 1, 0, (393, 392, 6, 78), tb_17),
  (yX1_words, cX1_words, 4, (some (.array (.object "VersionSolver$Word"))), 0, 1, 0, (401, 400, 8, 78), tb_18),
  (yX1_countWords, cX1_countWords, 4, (some .int), 0, 1, 0, (409, 408, 10, 78), tb_19),
  (yX1_word, cX1_word, 6, (some (.object "VersionSolver$Word")), 0, 1, 0, (419, 418, 12, 78), tb_20),
  (yX1_skipBuild, cX1_skipBuild, 3, (some .boolean), 0, 1, 0, (682, 681, 13, 78), tb_21),
  (yX1_skipWord, cX1_skipWord, 1, none, 0, 1, 0, (413, 412, 11, 78), tb_22),
  (yX1_skipBlanks, cX1_skipBlanks, 1, none, 0, 1, 0, (769, 768, 16, 78), tb_23),
  (yX1_digitOfPack, cX1_digitOfPack, 1, (some .int), 0, 1, 0, (745, 744, 14, 78), tb_24),
  (yX1_take, cX1_take, 2, (some .boolean), 0, 1, 1, (405, 404, 9, 78), tb_25),
  (yX1_isAt, cX1_isAt, 3, (some .boolean), 0, 1, 2, (397, 396, 7, 78), tb_26),
  (yX2_init, cX2_init, 1, none, 2, 2, 0, (126, 125, 0, 69), tb_27),
  (yX2_at, cX2_at, 2, (some (.object "VersionSolver$Release")), 0, 2, 1, (226, 224, 225, 69), tb_28),
  (yX2_isFull, cX2_isFull, 1, (some .boolean), 0, 2, 0, (861, 859, 860, 69), tb_29),
  (yX2_hasSame, cX2_hasSame, 4, (some .boolean), 0, 2, 1, (837, 835, 836, 69), tb_30),
  (yX2_add, cX2_add, 2, (some .int), 0, 2, 1, (880, 878, 879, 69), tb_31),
  (yX2_countYanked, cX2_countYanked, 3, (some .int), 0, 2, 0, (214, 212, 213, 69), tb_32),
  (yX2_highest, cX2_highest, 6, (some .int), 0, 2, 2, (1043, 1041, 1042, 69), tb_33),
  (yX2_higher, cX2_higher, 5, (some .int), 0, 2, 2, (1008, 1006, 1007, 69), tb_34),
  (yX3_init, cX3_init, 4, none, 2, 3, 3, (708, 707, 0, 93), tb_35),
  (yX3_add, cX3_add, 3, (some .boolean), 0, 3, 2, (832, 830, 831, 93), tb_36),
  (yX3_neededPack, cX3_neededPack, 2, (some .int), 0, 3, 1, (1064, 1062, 1063, 93), tb_37),
  (yX3_hasNeedOf, cX3_hasNeedOf, 2, (some .boolean), 0, 3, 1, (889, 887, 888, 93), tb_38),
  (yX3_excludes, cX3_excludes, 3, (some .boolean), 0, 3, 1, (898, 896, 897, 93), tb_39)]
def zmt_1 : List zMt := [(yX4_init, cX4_init, 1, none, 2, 4, 0, (755, 754, 0, 94), tb_40),
  (yX4_add, cX4_add, 2, none, 0, 4, 1, (828, 826, 827, 94), tb_41),
  (yX4_isMetBy, cX4_isMetBy, 4, (some .boolean), 0, 4, 1, (902, 900, 901, 94), tb_42),
  (yX5_init, cX5_init, 3, none, 2, 5, 1, (143, 142, 0, 70), tb_43),
  (yX5_holds, cX5_holds, 3, (some .boolean), 1, 5, 2, (973, 972, 0, 70), tb_44),
  (yX5_learn, cX5_learn, 5, none, 0, 5, 2, (885, 883, 884, 70), tb_45),
  (yX5_setClash, cX5_setClash, 3, none, 0, 5, 2, (893, 892, 21, 70), tb_46),
  (yX5_first, cX5_first, 7, (some .long), 0, 5, 2, (950, 948, 949, 70), tb_47),
  (yX5_openOptions, cX5_openOptions, 8, (some .long), 0, 5, 2, (954, 953, 22, 70), tb_48),
  (yX5_firstPossible, cX5_firstPossible, 9, (some .int), 0, 5, 3, (1000, 999, 30, 70), tb_49),
  (yX5_foremost, cX5_foremost, 7, (some .int), 0, 5, 3, (1004, 1003, 31, 70), tb_50),
  (yX5_settled, cX5_settled, 5, (some .long), 0, 5, 3, (992, 991, 28, 70), tb_51),
  (yX5_isPossible, cX5_isPossible, 7, (some .boolean), 0, 5, 2, (959, 958, 23, 70), tb_52),
  (yX5_isPossibleWithOneOf, cX5_isPossibleWithOneOf, 6, (some .boolean), 0, 5, 3, (996, 995, 29, 70), tb_53),
  (yX5_narrowed, cX5_narrowed, 9, (some .long), 0, 5, 1, (963, 962, 24, 70), tb_54),
  (yX5_gatherPartners, cX5_gatherPartners, 4, none, 0, 5, 1, (967, 966, 25, 70), tb_55),
  (yX5_mostPressing, cX5_mostPressing, 7, (some .int), 0, 5, 1, (978, 977, 26, 70), tb_56),
  (yX5_withNoneWherePossible, cX5_withNoneWherePossible, 6, (some .long), 0, 5, 1, (988, 987, 27, 70), tb_57),
  (yX6_init, cX6_init, 2, none, 2, 6, 1, (781, 780, 0, 95), tb_58),
  (yX6_ofAll, cX6_ofAll, 0, (some (.object "VersionSolver$Span")), 1, 6, 0, (776, 775, 0, 95), tb_59),
  (yX6_of, cX6_of, 6, (some (.object "VersionSolver$Span")), 1, 6, 3, (805, 804, 0, 95), tb_60),
  (yX6_keptByCaret, cX6_keptByCaret, 2, (some .int), 1, 6, 2, (819, 818, 0, 95), tb_61),
  (yX6_from, cX6_from, 3, none, 0, 6, 2, (816, 815, 19, 95), tb_62),
  (yX6_to, cX6_to, 3, none, 0, 6, 2, (823, 822, 20, 95), tb_63),
  (yX6_covers, cX6_covers, 3, (some .boolean), 0, 6, 1, (907, 905, 906, 95), tb_64),
  (yX6_namesWordsOf, cX6_namesWordsOf, 2, (some .boolean), 0, 6, 1, (912, 910, 911, 95), tb_65),
  (yX7_init, cX7_init, 5, none, 2, 7, 4, (687, 686, 0, 92), tb_66),
  (yX7_order, cX7_order, 5, (some .int), 0, 7, 1, (841, 839, 840, 92), tb_67),
  (yX7_orderOfNumbers, cX7_orderOfNumbers, 2, (some .int), 0, 7, 1, (845, 843, 844, 92), tb_68),
  (yX7_hasWords, cX7_hasWords, 1, (some .boolean), 0, 7, 0, (852, 850, 851, 92), tb_69),
  (yX7_raised, cX7_raised, 3, (some (.object "VersionSolver$Version")), 0, 7, 1, (809, 807, 808, 92), tb_70),
  (yX8_init, cX8_init, 3, none, 2, 8, 2, (670, 669, 0, 91), tb_71),
  (yX8_order, cX8_order, 3, (some .int), 0, 8, 1, (856, 854, 855, 91), tb_72),
  (yX9_init, cX9_init, 1, none, 2, 9, 0, (102, 101, 0, 67), tb_73),
  (yX9_feed, cX9_feed, 5, (some .int), 0, 9, 2, (243, 241, 242, 67), tb_74),
  (yX9_publish, cX9_publish, 5, (some .int), 0, 9, 1, (332, 330, 331, 67), tb_75),
  (yX9_yank, cX9_yank, 5, (some .boolean), 0, 9, 2, (921, 919, 920, 67), tb_76),
  (yX9_want, cX9_want, 4, none, 0, 9, 1, (928, 926, 927, 67), tb_77),
  (yX9_drop, cX9_drop, 3, (some .boolean), 0, 9, 1, (939, 937, 938, 67), tb_78),
  (yX9_solve, cX9_solve, 5, (some .int), 0, 9, 0, (946, 944, 945, 67), tb_79)]
def zmt_2 : List zMt := [(yX9_chosen, cX9_chosen, 2, (some .int), 0, 9, 1, (1017, 1015, 1016, 67), tb_80),
  (yX9_lock, cX9_lock, 1, (some .int), 0, 9, 0, (196, 194, 195, 67), tb_81),
  (yX9_pin, cX9_pin, 4, (some .int), 0, 9, 1, (1024, 1022, 1023, 67), tb_82),
  (yX9_unlock, cX9_unlock, 2, (some .int), 0, 9, 0, (206, 204, 205, 67), tb_83),
  (yX9_meets, cX9_meets, 5, (some .boolean), 0, 9, 1, (1031, 1029, 1030, 67), tb_84),
  (yX9_best, cX9_best, 4, (some .int), 0, 9, 1, (1039, 1037, 1038, 67), tb_85),
  (yX9_compare, cX9_compare, 5, (some .int), 0, 9, 2, (1052, 1050, 1051, 67), tb_86),
  (yX9_needs, cX9_needs, 4, (some .int), 0, 9, 2, (1060, 1058, 1059, 67), tb_87),
  (yX9_told, cX9_told, 2, (some .int), 0, 9, 1, (210, 208, 209, 67), tb_88),
  (yX9_write, cX9_write, 3, (some .int), 0, 9, 0, (222, 220, 221, 67), tb_89),
  (yX9_fileByte, cX9_fileByte, 2, (some .int), 0, 9, 1, (1071, 1069, 1070, 67), tb_90),
  (yX9_useUpText, cX9_useUpText, 2, (some (.object "VersionSolver$Reader")), 0, 9, 0, (336, 335, 3, 67), tb_91),
  (yX9_writeLine, cX9_writeLine, 3, none, 0, 9, 1, (230, 229, 1, 67), tb_92),
  (yX9_countWanted, cX9_countWanted, 3, (some .int), 0, 9, 0, (218, 217, 0, 67), tb_93),
  (yX9_countGiven, cX9_countGiven, 3, (some .int), 1, 9, 1, (202, 201, 0, 67), tb_94),
  (yX9_isPack, cX9_isPack, 1, (some .boolean), 1, 9, 1, (361, 360, 0, 67), tb_95),
  (yX10_init, cX10_init, 2, none, 2, 10, 0, (1076, 1075, 0, 72), tb_96),
  (yX10_thrown, cX10_thrown, 1, (some .int), 0, 10, 0, (1173, 1171, 1172, 72), tb_97),
  (yX10_in, cX10_in, 3, (some .boolean), 1, 10, 3, (1180, 1179, 0, 72), tb_98),
  (yX10_feed, cX10_feed, 5, (some .int), 0, 10, 2, (1177, 1175, 1176, 72), tb_99),
  (yX10_ahead, cX10_ahead, 1, (some .int), 0, 10, 0, (1205, 1204, 36, 72), tb_100),
  (yX10_isDigit, cX10_isDigit, 1, (some .boolean), 1, 10, 1, (1208, 1207, 0, 72), tb_101),
  (yX10_isOfWord, cX10_isOfWord, 1, (some .boolean), 1, 10, 1, (1223, 1222, 0, 72), tb_102),
  (yX10_take, cX10_take, 2, none, 0, 10, 1, (1212, 1211, 37, 72), tb_103),
  (yX10_number, cX10_number, 4, (some .int), 0, 10, 0, (1201, 1200, 35, 72), tb_104),
  (yX10_wordRow, cX10_wordRow, 6, none, 0, 10, 1, (1220, 1219, 39, 72), tb_105),
  (yX10_beforeWords, cX10_beforeWords, 5, none, 0, 10, 1, (1216, 1215, 38, 72), tb_106),
  (yX10_version, cX10_version, 4, none, 0, 10, 0, (1197, 1196, 34, 72), tb_107),
  (yX10_signAhead, cX10_signAhead, 3, (some .int), 0, 10, 0, (1239, 1238, 43, 72), tb_108),
  (yX10_comparator, cX10_comparator, 6, none, 0, 10, 1, (1235, 1234, 42, 72), tb_109),
  (yX10_blanks, cX10_blanks, 1, none, 0, 10, 0, (1231, 1230, 41, 72), tb_110),
  (yX10_requirement, cX10_requirement, 4, none, 0, 10, 1, (1227, 1226, 40, 72), tb_111),
  (yX10_begin, cX10_begin, 1, none, 0, 10, 0, (1193, 1192, 33, 72), tb_112),
  (yX10_isRight, cX10_isRight, 2, (some .boolean), 0, 10, 0, (1243, 1242, 44, 72), tb_113),
  (yX10_wordEnd, cX10_wordEnd, 4, (some .int), 0, 10, 2, (1263, 1262, 49, 72), tb_114),
  (yX10_isNumberWord, cX10_isNumberWord, 6, (some .boolean), 0, 10, 3, (1267, 1266, 50, 72), tb_115),
  (yX10_compareWords, cX10_compareWords, 12, (some .int), 0, 10, 4, (1259, 1258, 48, 72), tb_116),
  (yX10_order, cX10_order, 9, (some .int), 0, 10, 2, (1251, 1250, 46, 72), tb_117),
  (yX10_orderTo, cX10_orderTo, 5, (some .int), 0, 10, 4, (1255, 1254, 47, 72), tb_118),
  (yX10_isBelowNext, cX10_isBelowNext, 8, (some .boolean), 0, 10, 3, (1311, 1310, 57, 72), tb_119)]
def zmt_3 : List zMt := [(yX10_isMet, cX10_isMet, 5, (some .boolean), 0, 10, 2, (1307, 1306, 56, 72), tb_120),
  (yX10_meetsAll, cX10_meetsAll, 6, (some .boolean), 0, 10, 2, (1303, 1302, 55, 72), tb_121),
  (yX10_publication, cX10_publication, 4, none, 0, 10, 0, (1189, 1188, 32, 72), tb_122),
  (yX10_copyRow, cX10_copyRow, 4, none, 0, 10, 2, (1271, 1270, 51, 72), tb_123),
  (yX10_hasSame, cX10_hasSame, 4, (some .boolean), 0, 10, 1, (1247, 1246, 45, 72), tb_124),
  (yX10_publish, cX10_publish, 6, (some .int), 0, 10, 1, (1185, 1183, 1184, 72), tb_125),
  (yX10_isVersion, cX10_isVersion, 2, (some .boolean), 0, 10, 1, (1279, 1278, 52, 72), tb_126),
  (yX10_yank, cX10_yank, 4, (some .boolean), 0, 10, 2, (1275, 1273, 1274, 72), tb_127),
  (yX10_asks, cX10_asks, 1, (some .boolean), 0, 10, 0, (1287, 1286, 53, 72), tb_128),
  (yX10_want, cX10_want, 4, none, 0, 10, 1, (1283, 1281, 1282, 72), tb_129),
  (yX10_drop, cX10_drop, 3, (some .boolean), 0, 10, 1, (1291, 1289, 1290, 72), tb_130),
  (yX10_layOut, cX10_layOut, 6, none, 0, 10, 1, (1315, 1314, 58, 72), tb_131),
  (yX10_goesBefore, cX10_goesBefore, 4, (some .boolean), 0, 10, 3, (1319, 1318, 59, 72), tb_132),
  (yX10_layFits, cX10_layFits, 3, none, 0, 10, 0, (1299, 1298, 54, 72), tb_133),
  (yX10_given, cX10_given, 2, (some .int), 0, 10, 1, (1327, 1326, 61, 72), tb_134),
  (yX10_allows, cX10_allows, 6, (some .boolean), 0, 10, 2, (1331, 1330, 62, 72), tb_135),
  (yX10_goesWell, cX10_goesWell, 5, (some .boolean), 0, 10, 1, (1323, 1322, 60, 72), tb_136),
  (yX10_isReached, cX10_isReached, 5, (some .boolean), 0, 10, 0, (1335, 1334, 63, 72), tb_137),
  (yX10_solve, cX10_solve, 5, (some .int), 0, 10, 0, (1295, 1293, 1294, 72), tb_138),
  (yX10_chosen, cX10_chosen, 2, (some .int), 0, 10, 1, (1339, 1337, 1338, 72), tb_139),
  (yX10_pins, cX10_pins, 3, (some .int), 0, 10, 0, (1347, 1346, 64, 72), tb_140),
  (yX10_lock, cX10_lock, 2, (some .int), 0, 10, 0, (1343, 1341, 1342, 72), tb_141),
  (yX10_pin, cX10_pin, 3, (some .int), 0, 10, 1, (1351, 1349, 1350, 72), tb_142),
  (yX10_unlock, cX10_unlock, 3, (some .int), 0, 10, 0, (1355, 1353, 1354, 72), tb_143),
  (yX10_meets, cX10_meets, 3, (some .boolean), 0, 10, 1, (1359, 1357, 1358, 72), tb_144),
  (yX10_best, cX10_best, 6, (some .int), 0, 10, 1, (1363, 1361, 1362, 72), tb_145),
  (yX10_compare, cX10_compare, 3, (some .int), 0, 10, 2, (1367, 1365, 1366, 72), tb_146),
  (yX10_needs, cX10_needs, 3, (some .int), 0, 10, 2, (1371, 1369, 1370, 72), tb_147),
  (yX10_told, cX10_told, 4, (some .int), 0, 10, 1, (1375, 1373, 1374, 72), tb_148),
  (yX10_put, cX10_put, 2, none, 0, 10, 1, (1383, 1382, 65, 72), tb_149),
  (yX10_write, cX10_write, 4, (some .int), 0, 10, 0, (1379, 1377, 1378, 72), tb_150),
  (yX10_fileByte, cX10_fileByte, 2, (some .int), 0, 10, 1, (1387, 1385, 1386, 72), tb_151),
  (yL_feed, cL_feed, 6, (some .int), 1, 99, 4, (237, 236, 0, 66), tb_152),
  (yL_publish, cL_publish, 4, (some .int), 1, 99, 3, (326, 325, 0, 66), tb_153),
  (yL_yank, cL_yank, 5, (some .int), 1, 99, 4, (917, 916, 0, 66), tb_154),
  (yL_want, cL_want, 3, (some .int), 1, 99, 2, (924, 923, 0, 66), tb_155),
  (yL_drop, cL_drop, 4, (some .int), 1, 99, 3, (935, 934, 0, 66), tb_156),
  (yL_solve, cL_solve, 3, (some .int), 1, 99, 2, (942, 941, 0, 66), tb_157),
  (yL_chosen, cL_chosen, 4, (some .int), 1, 99, 3, (1013, 1012, 0, 66), tb_158),
  (yL_pin, cL_pin, 4, (some .int), 1, 99, 3, (1020, 1019, 0, 66), tb_159)]
def zmt_4 : List zMt := [(yL_meets, cL_meets, 4, (some .int), 1, 99, 3, (1027, 1026, 0, 66), tb_160),
  (yL_best, cL_best, 4, (some .int), 1, 99, 3, (1035, 1034, 0, 66), tb_161),
  (yL_compare, cL_compare, 5, (some .int), 1, 99, 4, (1048, 1047, 0, 66), tb_162),
  (yL_needs, cL_needs, 5, (some .int), 1, 99, 4, (1056, 1055, 0, 66), tb_163),
  (yL_fileByte, cL_fileByte, 4, (some .int), 1, 99, 3, (1067, 1066, 0, 66), tb_164),
  (yL_law, cL_law, 7, (some .boolean), 1, 99, 1, (0, 0, 0, 66), tb_165)]
def zmt : List zMt := zmt_0 ++ (zmt_1 ++ (zmt_2 ++ (zmt_3 ++ (zmt_4))))
end
section
/-! The program as a machine over pure cells: what an instruction of the tables does; runs as a least relation; calls by depth. -/
abbrev zV : Type := Int32 ⊕ Int64 ⊕ Option Nat
abbrev zI (x : Int32) : zV := Sum.inl x
abbrev zJ (x : Int64) : zV := Sum.inr (Sum.inl x)
abbrev zR (r : Option Nat) : zV := Sum.inr (Sum.inr r)
def zval (v : zV) : Value := match v with
  | .inl x => .int x
  | .inr (.inl x) => .long x
  | .inr (.inr r) => va_rf r
def zcat (v : zV) : Nat := match v with
  | .inr (.inl _) => 2
  | _ => 1
abbrev zE : Type := (Nat × Nat × (Nat → Int32)) ⊕ (Nat × Nat × (Nat → Int64)) ⊕ (Nat × Nat × (Nat → Option Nat)) ⊕ (Nat × List zV)
abbrev zaI (k n : Nat) (f : Nat → Int32) : zE := Sum.inl (k, n, f)
abbrev zaJ (n : Nat) (f : Nat → Int64) : zE := Sum.inr (Sum.inl (2, n, f))
abbrev zaR (k n : Nat) (f : Nat → Option Nat) : zE := Sum.inr (Sum.inr (Sum.inl (k, n, f)))
abbrev zO (ci : Nat) (fs : List zV) : zE := Sum.inr (Sum.inr (Sum.inr (ci, fs)))
abbrev zH : Type := Nat → Option zE
/-- an outcome: an answer, or the number of what is thrown -/
abbrev zQ : Type := zH → (Option zV ⊕ Nat) → Prop
abbrev zX : Type := Nat → List (Option zV) → List zV → zH → Nat → Nat → Prop
def zup (h : zH) (a : Nat) (e : zE) : zH := fun b => if b = a then some e else h b
theorem zup_s (h : zH) (a : Nat) (e : zE) : zup h a e a = some e := by simp [zup]
theorem zup_n (h : zH) {a b : Nat} (e : zE) (hb : b ≠ a) : zup h a e b = h b := by simp [zup, hb]
def zm0 : zMt := (yX0_init, cX0_init, 0, none, 9, 99, 0, (0, 0, 0, 0), [])
def zm (j : Nat) : zMt := zmt.getD j zm0
def zN (j : Nat) : MethodName := (zm j).1
def zC (j : Nat) : ByteArray := (zm j).2.1
def zL (j : Nat) : Nat := (zm j).2.2.1
def zRt (j : Nat) : Option FieldType := (zm j).2.2.2.1
def zK (j : Nat) : Nat := (zm j).2.2.2.2.1
def zci (j : Nat) : Nat := (zm j).2.2.2.2.2.1
def zn (j : Nat) : Nat := (zm j).2.2.2.2.2.2.1
def zw (j : Nat) : Nat × Nat × Nat × Nat := (zm j).2.2.2.2.2.2.2.1
def ztb (j : Nat) : List (Nat × zOp) := (zm j).2.2.2.2.2.2.2.2
def zclr (x : Option zV) : Option zV := match x with
  | some (.inr (.inl _)) => none
  | y => y
def zhid (l : List (Option zV)) : List (Option zV) := match l with
  | [] => []
  | _ :: t => none :: t
def zset : List (Option zV) → Nat → zV → List (Option zV)
  | [], _, _ => []
  | _ :: t, 0, v => some v :: (match v with
    | .inr (.inl _) => zhid t
    | _ => t)
  | x :: t, 1, v => zclr x :: zset t 0 v
  | x :: t, n + 2, v => x :: zset t (n + 1) v
def zibin (a : Nat) (x y : Int32) : Int32 := match a with
  | 0 => x + y
  | 1 => x - y
  | 2 => x * y
  | _ => x &&& y
def zlbin (a : Nat) (x y : Int64) : Int64 := match a with
  | 0 => x + y
  | 1 => x - y
  | 2 => x &&& y
  | 3 => x ||| y
  | _ => x ^^^ y
def zlsh (a : Nat) (x : Int64) (y : Int32) : Int64 := match a with
  | 0 => x <<< (y.toInt64 &&& 63)
  | 1 => x >>> (y.toInt64 &&& 63)
  | _ => (x.toUInt64 >>> (y.toInt64.toUInt64 &&& Int64.toUInt64 63)).toInt64
def zcnd (a : Nat) (x y : Int32) : Prop := match a with
  | 0 => x = y
  | 1 => ¬ x = y
  | 2 => x < y
  | 3 => y ≤ x
  | 4 => y < x
  | _ => x ≤ y
def zfit (z : Int) (v : zV) : Prop := match z with
  | 0 => ∃ x, v = zI x
  | 1 => ∃ x, v = zI x ∧ (x = 0 ∨ x = 1)
  | 2 => ∃ x, v = zJ x
  | _ => ∃ r, v = zR r
def znar (k : Nat) (x : Int32) : Int32 := match k with
  | 0 => x.toInt8.toInt32
  | 3 => vp_nar .boolean x
  | _ => x
def zlen (e : Option zE) : Option Nat := match e with
  | some (.inl (k, n, _)) => if k < 4 ∧ k ≠ 2 then some n else none
  | some (.inr (.inl (k, n, _))) => if k = 2 then some n else none
  | some (.inr (.inr (.inl (k, n, _)))) => if 4 ≤ k ∧ k < 8 then some n else none
  | _ => none
def zdv (t : FieldType) : zV := match t with
  | .long => zJ 0
  | .object _ => zR none
  | .array _ => zR none
  | _ => zI 0
def zty (ci : Nat) : Nat → FieldType := match ci with
  | 0 => tyX0
  | 1 => tyX1
  | 2 => tyX2
  | 3 => tyX3
  | 4 => tyX4
  | 5 => tyX5
  | 6 => tyX6
  | 7 => tyX7
  | 8 => tyX8
  | 9 => tyX9
  | _ => tyX10
def zdf (ci n : Nat) : List zV := (List.range n).map (fun k => zdv (zty ci k))
def znew (k n : Nat) : zE := if k = 2 then zaJ n (fun _ => 0) else zaI k n (fun _ => 0)
def zret (a : Nat) (v : zV) : Prop := match a with
  | 0 => ∃ x, v = zI x
  | 1 => ∃ x, v = zI x ∧ (x = 0 ∨ x = 1)
  | 2 => ∃ x, v = zJ x
  | _ => ∃ r, v = zR r
def zswt (a b : Nat) (x : Int32) : Nat := match zSW[a]? with
  | some (_, lo, hi, _, tg) => if x.toInt < lo ∨ hi < x.toInt then b else tg.getD (x.toInt - lo).toNat 0
  | none => 0
/-- the receiver of a method of an object is an object of its class -/
def zrcv (k ci : Nat) (as : List zV) (h : zH) : Prop := match k with
  | 0 => ∃ p t fs, as = zR (some p) :: t ∧ h p = some (zO ci fs)
  | 2 => ∃ p t, as = zR (some p) :: t
  | _ => True
/-- behind a call -/
def zaft (X : zX) (pc : Nat) (ls : List (Option zV)) (r : List zV) (c s : Nat) : zQ := fun h o => match o with
  | .inl (some v) => X pc ls (v :: r) h c s
  | .inl none => X pc ls r h c s
  | .inr _ => False
def zstep (cl : Nat → List zV → zH → Nat → Nat → zQ → Prop) (mc ms : Nat) (Q : zQ) (X : zX) (o : zOp) (pc : Nat) (ls : List (Option zV)) (st : List zV) (h : zH) (c s : Nat) : Prop :=
  match o with
  | (k, n, a, b, _, _, z) => match k with
    | 0 => ∃ x : Int32, ls[a]? = some (some (zI x)) ∧ X (pc + n) ls (zI x :: st) h c s
    | 1 => ∃ x : Option Nat, ls[a]? = some (some (zR x)) ∧ X (pc + n) ls (zR x :: st) h c s
    | 2 => ∃ x : Int64, ls[a]? = some (some (zJ x)) ∧ X (pc + n) ls (zJ x :: st) h c s
    | 3 => ∃ x r, st = zI x :: r ∧ a < ls.length ∧ X (pc + n) (zset ls a (zI x)) r h c s
    | 4 => ∃ x r, st = zR x :: r ∧ a < ls.length ∧ X (pc + n) (zset ls a (zR x)) r h c s
    | 5 => ∃ x r, st = zJ x :: r ∧ a + 1 < ls.length ∧ X (pc + n) (zset ls a (zJ x)) r h c s
    | 6 => X (pc + n) ls (zI (Int32.ofInt z) :: st) h c s
    | 7 => X (pc + n) ls (zJ (Int64.ofInt z) :: st) h c s
    | 8 => X (pc + n) ls (zR none :: st) h c s
    | 9 => ∃ x : Int32, ls[a]? = some (some (zI x)) ∧ X (pc + n) (zset ls a (zI (x + Int32.ofInt z))) st h c s
    | 10 => ∃ y x r, st = zI y :: zI x :: r ∧ X (pc + n) ls (zI (zibin a x y) :: r) h c s
    | 11 => ∃ y x r, st = zJ y :: zJ x :: r ∧ X (pc + n) ls (zJ (zlbin a x y) :: r) h c s
    | 12 => ∃ y x r, st = zI y :: zJ x :: r ∧ X (pc + n) ls (zJ (zlsh a x y) :: r) h c s
    | 13 => match a with
      | 0 => ∃ x r, st = zI x :: r ∧ X (pc + n) ls (zJ x.toInt64 :: r) h c s
      | 1 => ∃ x r, st = zJ x :: r ∧ X (pc + n) ls (zI x.toInt32 :: r) h c s
      | _ => ∃ x r, st = zI x :: r ∧ X (pc + n) ls (zI x.toInt8.toInt32 :: r) h c s
    | 14 => ∃ x r, st = zI x :: r ∧ (zcnd a x 0 → X b ls r h c s) ∧ (¬ zcnd a x 0 → X (pc + n) ls r h c s)
    | 15 => ∃ y x r, st = zI y :: zI x :: r ∧ (zcnd a x y → X b ls r h c s) ∧ (¬ zcnd a x y → X (pc + n) ls r h c s)
    | 16 => X b ls st h c s
    | 17 => ∃ p r, st = zR p :: r ∧ (p = none → X b ls r h c s) ∧ (¬ p = none → X (pc + n) ls r h c s)
    | 18 => ∃ p r, st = zR p :: r ∧ (¬ p = none → X b ls r h c s) ∧ (p = none → X (pc + n) ls r h c s)
    | 19 => ∃ y x r, st = zJ y :: zJ x :: r ∧ X (pc + n) ls (zI (lg_cmp x y) :: r) h c s
    | 20 => ∃ v r, st = v :: r ∧ zcat v = 1 ∧ X (pc + n) ls (v :: v :: r) h c s
    | 21 => ∃ v w r, st = v :: w :: r ∧ zcat v = 1 ∧ zcat w = 1 ∧ X (pc + n) ls (v :: w :: v :: w :: r) h c s
    | 22 => ∃ v r, st = v :: r ∧ zcat v = 1 ∧ X (pc + n) ls r h c s
    | 23 => ∃ p r fs v, st = zR (some p) :: r ∧ h p = some (zO a fs) ∧ fs[b]? = some v ∧ X (pc + n) ls (v :: r) h c s
    | 24 => ∃ v p r fs, st = v :: zR (some p) :: r ∧ h p = some (zO a fs) ∧ b < fs.length ∧ zfit z v ∧ X (pc + n) ls r (zup h p (zO a (fs.set b v))) c s
    | 25 => ∃ i p r m f, st = zI i :: zR (some p) :: r ∧ h p = some (zaI a m f) ∧ vp_in i m ∧ X (pc + n) ls (zI (f i.toNatClampNeg) :: r) h c s
    | 26 => ∃ x i p r m f, st = zI x :: zI i :: zR (some p) :: r ∧ h p = some (zaI a m f) ∧ vp_in i m ∧ X (pc + n) ls r (zup h p (zaI a m (upd f i.toNatClampNeg (znar a x)))) c s
    | 27 => ∃ i p r m f, st = zI i :: zR (some p) :: r ∧ h p = some (zaJ m f) ∧ vp_in i m ∧ X (pc + n) ls (zJ (f i.toNatClampNeg) :: r) h c s
    | 28 => ∃ x i p r m f, st = zJ x :: zI i :: zR (some p) :: r ∧ h p = some (zaJ m f) ∧ vp_in i m ∧ X (pc + n) ls r (zup h p (zaJ m (vp_updL f i.toNatClampNeg x))) c s
    | 29 => ∃ i p r m f, st = zI i :: zR (some p) :: r ∧ h p = some (zaR a m f) ∧ vp_in i m ∧ X (pc + n) ls (zR (f i.toNatClampNeg) :: r) h c s
    | 30 => ∃ v i p r m f, st = zR v :: zI i :: zR (some p) :: r ∧ h p = some (zaR a m f) ∧ vp_in i m ∧ (∀ q, v = some q → ∃ fs, h q = some (zO b fs)) ∧ X (pc + n) ls r (zup h p (zaR a m (va_up f i.toNatClampNeg v))) c s
    | 31 => ∃ p r m, st = zR (some p) :: r ∧ zlen (h p) = some m ∧ X (pc + n) ls (zI (Int32.ofNat m) :: r) h c s
    | 32 => c + 1 ≤ mc ∧ s + b ≤ ms ∧ ∀ q, h q = none → X (pc + n) ls (zR (some q) :: st) (zup h q (zO a (zdf a b))) (c + 1) (s + b)
    | 33 => ∃ i r, st = zI i :: r ∧ ¬ i < 0 ∧ i.toNatClampNeg ≤ 100000 ∧ c + 1 ≤ mc ∧ s + i.toNatClampNeg ≤ ms ∧ ∀ q, h q = none → X (pc + n) ls (zR (some q) :: r) (zup h q (znew a i.toNatClampNeg)) (c + 1) (s + i.toNatClampNeg)
    | 34 => ∃ i r, st = zI i :: r ∧ ¬ i < 0 ∧ i.toNatClampNeg ≤ 100000 ∧ c + 1 ≤ mc ∧ s + i.toNatClampNeg ≤ ms ∧ ∀ q, h q = none → X (pc + n) ls (zR (some q) :: r) (zup h q (zaR a i.toNatClampNeg (fun _ => none))) (c + 1) (s + i.toNatClampNeg)
    | 35 => ∃ as r mc' ms', st = as.reverse ++ r ∧ as.length = b ∧ (r.map zcat).sum ≤ 8 ∧ c + mc' ≤ mc ∧ s + ms' ≤ ms ∧ zrcv (zK a) (zci a) as h ∧ cl a as h mc' ms' (zaft X (pc + n) ls r (c + mc') (s + ms'))
    | 36 => ∃ v, st = [v] ∧ zret a v ∧ Q h (.inl (some v))
    | 37 => st = [] ∧ Q h (.inl none)
    | 38 => c + 1 ≤ mc ∧ s + 6 ≤ ms ∧ (st.map zcat).sum ≤ 8 ∧ Q h (.inr a)
    | 39 => ∃ x r, st = zI x :: r ∧ X (zswt a b x) ls r h c s
    | 40 => ∃ p r, st = zR (some p) :: r ∧ (r.map zcat).sum ≤ 8 ∧ X (pc + n) ls r h c s
    | 44 => ∃ N I1 p1 I2 p2 r m1 f m2 g, st = zI N :: zI I2 :: zR (some p2) :: zI I1 :: zR (some p1) :: r ∧ (r.map zcat).sum ≤ 8 ∧ (∀ i, i < N.toNatClampNeg → fits (if a = 0 then .byte else .int) (.int (f (I1.toNatClampNeg + i))) = true) ∧ h p1 = some (zaI a m1 f) ∧ h p2 = some (zaI a m2 g) ∧ ¬ I1 < 0 ∧ ¬ I2 < 0 ∧ ¬ N < 0 ∧ I1.toNatClampNeg + N.toNatClampNeg ≤ m1 ∧ I2.toNatClampNeg + N.toNatClampNeg ≤ m2 ∧ X (pc + n) ls r (zup h p2 (zaI a m2 (va_cpy f g I1.toNatClampNeg I2.toNatClampNeg N.toNatClampNeg))) c s
    | 45 => ∃ y x r, st = zI y :: zI x :: r ∧ (r.map zcat).sum ≤ 8 ∧ X (pc + n) ls (zI (if y < x then y else x) :: r) h c s
    | _ => False
theorem zaft_mono {X Y : zX} (hX : ∀ pc ls st h c s, X pc ls st h c s → Y pc ls st h c s) {pc : Nat} {ls : List (Option zV)} {r : List zV} {c s : Nat} : ∀ h o, zaft X pc ls r c s h o → zaft Y pc ls r c s h o := by
  intro h o k
  rcases o with (_ | v) | e
  · exact hX _ _ _ _ _ _ k
  · exact hX _ _ _ _ _ _ k
  · exact k
set_option maxHeartbeats 1000000 in
theorem zstep_mono {cl : Nat → List zV → zH → Nat → Nat → zQ → Prop} (hcl : ∀ j as h a b (P P' : zQ), (∀ h o, P h o → P' h o) → cl j as h a b P → cl j as h a b P') {mc ms : Nat} {Q Q' : zQ} {X Y : zX} (hQ : ∀ h o, Q h o → Q' h o) (hX : ∀ pc ls st h c s, X pc ls st h c s → Y pc ls st h c s)
    {o : zOp} {pc : Nat} {ls : List (Option zV)} {st : List zV} {h : zH} {c s : Nat} : zstep cl mc ms Q X o pc ls st h c s → zstep cl mc ms Q' Y o pc ls st h c s := by
  obtain ⟨k, n, a, b, ix, w, z⟩ := o
  unfold zstep
  dsimp only
  split
  all_goals try exact fun k => hX _ _ _ _ _ _ k
  all_goals try exact fun ⟨x, h1, k⟩ => ⟨x, h1, hX _ _ _ _ _ _ k⟩
  all_goals try exact fun ⟨x, r, h1, k⟩ => ⟨x, r, h1, hX _ _ _ _ _ _ k⟩
  all_goals try exact fun ⟨x, r, h1, h2, k⟩ => ⟨x, r, h1, h2, hX _ _ _ _ _ _ k⟩
  all_goals try exact fun ⟨x, y, r, h1, h2, k⟩ => ⟨x, y, r, h1, h2, hX _ _ _ _ _ _ k⟩
  all_goals try exact fun ⟨x, y, r, h1, k⟩ => ⟨x, y, r, h1, hX _ _ _ _ _ _ k⟩
  all_goals try exact fun ⟨x, y, r, h1, h2, h3, k⟩ => ⟨x, y, r, h1, h2, h3, hX _ _ _ _ _ _ k⟩
  all_goals try exact fun ⟨x, r, h1, k1, k2⟩ => ⟨x, r, h1, fun q => hX _ _ _ _ _ _ (k1 q), fun q => hX _ _ _ _ _ _ (k2 q)⟩
  all_goals try exact fun ⟨x, y, r, h1, k1, k2⟩ => ⟨x, y, r, h1, fun q => hX _ _ _ _ _ _ (k1 q), fun q => hX _ _ _ _ _ _ (k2 q)⟩
  all_goals try exact fun ⟨x, y, r, v, h1, h2, h3, k⟩ => ⟨x, y, r, v, h1, h2, h3, hX _ _ _ _ _ _ k⟩
  all_goals try exact fun ⟨x, y, r, v, h1, h2, h3, h4, k⟩ => ⟨x, y, r, v, h1, h2, h3, h4, hX _ _ _ _ _ _ k⟩
  all_goals try exact fun ⟨x, y, r, v, w, h1, h2, h3, k⟩ => ⟨x, y, r, v, w, h1, h2, h3, hX _ _ _ _ _ _ k⟩
  all_goals try exact fun ⟨x, y, r, v, w, u, h1, h2, h3, k⟩ => ⟨x, y, r, v, w, u, h1, h2, h3, hX _ _ _ _ _ _ k⟩
  all_goals try exact fun ⟨x, y, r, v, w, u, h1, h2, h3, h4, k⟩ => ⟨x, y, r, v, w, u, h1, h2, h3, h4, hX _ _ _ _ _ _ k⟩
  all_goals try exact fun ⟨h1, h2, k⟩ => ⟨h1, h2, fun q hq => hX _ _ _ _ _ _ (k q hq)⟩
  all_goals try exact fun ⟨i, r, h1, h2, h3, h4, h5, k⟩ => ⟨i, r, h1, h2, h3, h4, h5, fun q hq => hX _ _ _ _ _ _ (k q hq)⟩
  all_goals try exact fun ⟨as, r, m1, m2, h1, h2, h3, h4, h5, h6, k⟩ => ⟨as, r, m1, m2, h1, h2, h3, h4, h5, h6, hcl _ _ _ _ _ _ _ (zaft_mono hX) k⟩
  all_goals try exact fun ⟨v, h1, h2, k⟩ => ⟨v, h1, h2, hQ _ _ k⟩
  all_goals try exact fun ⟨h1, k⟩ => ⟨h1, hQ _ _ k⟩
  all_goals try exact fun ⟨h1, h2, h3, k⟩ => ⟨h1, h2, h3, hQ _ _ k⟩
  all_goals try exact fun ⟨v0, v1, v2, v3, v4, v5, v6, v7, v8, v9, g0, g1, g2, g3, g4, g5, g6, g7, g8, g9, k⟩ => ⟨v0, v1, v2, v3, v4, v5, v6, v7, v8, v9, g0, g1, g2, g3, g4, g5, g6, g7, g8, g9, hX _ _ _ _ _ _ k⟩
  all_goals try exact fun k => k
  · split
    all_goals exact fun ⟨x, r, h1, k⟩ => ⟨x, r, h1, hX _ _ _ _ _ _ k⟩
/-- the least relation that is closed under steps -/
def zEvG (cl : Nat → List zV → zH → Nat → Nat → zQ → Prop) (T : List (Nat × zOp)) (mc ms : Nat) (Q : zQ) : zX := fun pc ls st h c s =>
  ∀ X : zX, (∀ pc ls st h c s, (∃ o, T.lookup pc = some o ∧ zstep cl mc ms Q X o pc ls st h c s) → X pc ls st h c s) → X pc ls st h c s
def zargs : List zV → List (Option zV)
  | [] => []
  | v :: t => match v with
    | .inr (.inl _) => some v :: none :: zargs t
    | _ => some v :: zargs t
def zent (n : Nat) (as : List zV) : List (Option zV) := zargs as ++ List.replicate (n - (zargs as).length) none
def zCall : Nat → Nat → List zV → zH → Nat → Nat → zQ → Prop
  | 0, _, _, _, _, _, _ => False
  | d + 1, y, as, h, mc, ms, Q => (zargs as).length ≤ zL y ∧ zEvG (zCall d) (ztb y) mc ms Q 0 (zent (zL y) as) [] h 0 0
theorem zEvG_mono {cl : Nat → List zV → zH → Nat → Nat → zQ → Prop} (hcl : ∀ j as h a b (P P' : zQ), (∀ h o, P h o → P' h o) → cl j as h a b P → cl j as h a b P') {T : List (Nat × zOp)} {mc ms : Nat} {Q Q' : zQ} (hQ : ∀ h o, Q h o → Q' h o)
    {pc : Nat} {ls : List (Option zV)} {st : List zV} {h : zH} {c s : Nat} (k : zEvG cl T mc ms Q pc ls st h c s) : zEvG cl T mc ms Q' pc ls st h c s := by
  intro X hX
  refine k X fun pc ls st h c s ⟨o, ho, q⟩ => hX pc ls st h c s ⟨o, ho, ?_⟩
  exact zstep_mono hcl hQ (fun _ _ _ _ _ _ z => z) q
theorem zCall_mono : ∀ (d j : Nat) (as : List zV) (h : zH) (a b : Nat) (P P' : zQ), (∀ h o, P h o → P' h o) → zCall d j as h a b P → zCall d j as h a b P'
  | 0, _, _, _, _, _, _, _, _, k => k
  | d + 1, _, _, _, _, _, _, _, hP, k => ⟨k.1, zEvG_mono (zCall_mono d) hP k.2⟩
abbrev zEv (d : Nat) (T : List (Nat × zOp)) (mc ms : Nat) (Q : zQ) : zX := zEvG (zCall d) T mc ms Q
theorem zEv.step {d : Nat} {T : List (Nat × zOp)} {mc ms : Nat} {Q : zQ} {pc : Nat} {ls : List (Option zV)} {st : List zV} {h : zH} {c s : Nat} {o : zOp} (ho : T.lookup pc = some o) (k : zstep (zCall d) mc ms Q (zEv d T mc ms Q) o pc ls st h c s) : zEv d T mc ms Q pc ls st h c s := by
  intro X hX
  refine hX _ _ _ _ _ _ ⟨o, ho, ?_⟩
  exact zstep_mono (zCall_mono d) (fun _ _ z => z) (fun pc ls st h c s z => z X hX) k
end
section
/-! What a real heap and real locals have to do with the pure ones. -/
def zTY (cy : Nat → ClassId) : List (ClassId × FieldType) := [(cy 0, .byte), (cy 1, .int), (cy 2, .long), (cy 3, .boolean), (cy 4, .object "VersionSolver$Release"), (cy 5, .object "VersionSolver$Requirement"), (cy 6, .object "VersionSolver$Span"), (cy 7, .object "VersionSolver$Word")]
def ztr (cy : Nat → ClassId) (e : zE) : va_E := match e with
  | .inl (k, n, f) => .inl (cy k, n, .inl f)
  | .inr (.inl (k, n, f)) => .inl (cy k, n, .inr (.inl f))
  | .inr (.inr (.inl (k, n, f))) => .inl (cy k, n, .inr (.inr (.inr (.inr f))))
  | .inr (.inr (.inr (ci, fs))) => .inr (ci, fs.map zval)
def zgr (cy : Nat → ClassId) (h : zH) (a : Nat) : va_E := match h a with
  | some e => ztr cy e
  | none => .inr (0, [])
def zRep (D : va_G) (cy : Nat → ClassId) (A : Nat → Prop) (h : zH) (H : Heap) : Prop := ∃ L : List Nat, va_P D zCL (va_pl L (zgr cy h)) H ∧ va_D A (va_pl L (zgr cy h)) ∧ ∀ a, a ∈ L ↔ h a ≠ none
theorem zgr_some {cy : Nat → ClassId} {h : zH} {a : Nat} {e : zE} (he : h a = some e) : zgr cy h a = ztr cy e := by simp [zgr, he]
theorem zgr_up (cy : Nat → ClassId) (h : zH) (a : Nat) (e : zE) (b : Nat) : va_up (zgr cy h) a (ztr cy e) b = zgr cy (zup h a e) b := by
  by_cases hb : b = a
  · subst hb
    rw [va_up_self, zgr_some (zup_s h b e)]
  · rw [va_up_ne _ _ hb]
    simp [zgr, zup_n h e hb]
theorem zpl_at {cy : Nat → ClassId} {h : zH} {L : List Nat} {a : Nat} {e : zE} (hL : ∀ a, a ∈ L ↔ h a ≠ none) (he : h a = some e) : ∃ k : Nat, (va_pl L (zgr cy h))[k]? = some (a, zgr cy h a) ∧ (va_pl L (zgr cy h))[k]? = some (a, ztr cy e) := by
  obtain ⟨k, hk⟩ := va_pl_get (X := []) (f := zgr cy h) ((hL a).mpr (by rw [he]; exact fun z => by cases z))
  have hk : (va_pl L (zgr cy h))[k]? = some (a, zgr cy h a) := hk
  exact ⟨k, hk, by rw [hk, zgr_some he]⟩
theorem zpl_set {cy : Nat → ClassId} {h : zH} {A : Nat → Prop} {L : List Nat} {a k : Nat} {e0 : zE} (e : zE) (hD : va_D A (va_pl L (zgr cy h))) (hL : ∀ a, a ∈ L ↔ h a ≠ none) (he : h a = some e0) (hk : (va_pl L (zgr cy h))[k]? = some (a, zgr cy h a)) : (va_pl L (zgr cy h)).set k (a, ztr cy e) = va_pl L (zgr cy (zup h a e)) := by
  have h1 := va_pl_set (X := []) (e := ztr cy e) hD ((hL a).mpr (by rw [he]; exact fun z => by cases z)) hk
  have h1 : (va_pl L (zgr cy h)).set k (a, ztr cy e) = va_pl L (va_up (zgr cy h) a (ztr cy e)) := h1
  rw [h1]
  exact va_pl_congr (zgr_up cy h a e)
theorem zdom_set {h : zH} {L : List Nat} {a : Nat} {e0 : zE} (e : zE) (hL : ∀ a, a ∈ L ↔ h a ≠ none) (he : h a = some e0) : ∀ b, b ∈ L ↔ zup h a e b ≠ none := by
  intro b
  by_cases hb : b = a
  · subst hb
    rw [zup_s]
    exact ⟨(fun _ z => by cases z), fun _ => (hL b).mpr (by rw [he]; exact fun z => by cases z)⟩
  · rw [zup_n h e hb]
    exact hL b
theorem zRep.set {D : va_G} {cy : Nat → ClassId} {A : Nat → Prop} {h : zH} {H1 : Heap} {L : List Nat} {a k : Nat} {e0 : zE} (e : zE) (hD0 : va_D A (va_pl L (zgr cy h))) (hL : ∀ a, a ∈ L ↔ h a ≠ none) (he : h a = some e0) (hk : (va_pl L (zgr cy h))[k]? = some (a, zgr cy h a))
    (hP : va_P D zCL ((va_pl L (zgr cy h)).set k (a, ztr cy e)) H1) (hD : va_D A ((va_pl L (zgr cy h)).set k (a, ztr cy e))) : zRep D cy A (zup h a e) H1 := by
  rw [zpl_set e hD0 hL he hk] at hP hD
  exact ⟨L, hP, hD, zdom_set e hL he⟩
theorem zRep.push {D : va_G} {cy : Nat → ClassId} {A : Nat → Prop} {h : zH} {H1 : Heap} {L : List Nat} {q : Nat} (e : zE) (hL : ∀ a, a ∈ L ↔ h a ≠ none)
    (hP : va_P D zCL (va_pl L (zgr cy h) ++ [(q, ztr cy e)]) H1) (hD : va_D A (va_pl L (zgr cy h) ++ [(q, ztr cy e)])) : h q = none ∧ zRep D cy A (zup h q e) H1 := by
  have hq : q ∉ L := va_pl_fresh2 (X := []) hD
  have hn : h q = none := by
    cases hz : h q with
    | none => rfl
    | some x => exact absurd ((hL q).mpr (by rw [hz]; exact fun z => by cases z)) hq
  rw [va_pl_push hq, va_pl_congr (zgr_up cy h q e)] at hP hD
  refine ⟨hn, L ++ [q], hP, hD, fun b => ?_⟩
  by_cases hb : b = q
  · subst hb
    rw [zup_s]
    exact ⟨(fun _ z => by cases z), fun _ => List.mem_append_right _ List.mem_cons_self⟩
  · rw [zup_n h e hb, List.mem_append, List.mem_singleton]
    exact ⟨fun z => (hL b).mp (z.resolve_right hb), fun z => Or.inl ((hL b).mpr z)⟩
/-- locals -/
def zhas (arr : Array Slot) (nL : Nat) (ls : List (Option zV)) : Prop := ls.length = nL ∧ arr.size = nL ∧ lv_wf arr ∧ ∀ (i : Nat) (v : zV), ls[i]? = some (some v) → arr[i]? = some (.val (zval v))
def zasc : Nat → List (Option zV) → List (Nat × Value)
  | _, [] => []
  | i, none :: t => zasc (i + 1) t
  | i, some v :: t => (i, zval v) :: zasc (i + 1) t
theorem zasc_mem : ∀ (ls : List (Option zV)) (i : Nat) (q : Nat × Value), q ∈ zasc i ls → ∃ (k : Nat) (v : zV), q = (i + k, zval v) ∧ ls[k]? = some (some v)
  | [], _, _, h => by cases h
  | none :: t, i, q, h => by
    obtain ⟨k, v, h1, h2⟩ := zasc_mem t (i + 1) q h
    exact ⟨k + 1, v, by rw [h1]; congr 1; omega, by simpa using h2⟩
  | some w :: t, i, q, h => by
    rcases List.mem_cons.mp h with h | h
    · exact ⟨0, w, h, rfl⟩
    · obtain ⟨k, v, h1, h2⟩ := zasc_mem t (i + 1) q h
      exact ⟨k + 1, v, by rw [h1]; congr 1; omega, by simpa using h2⟩
theorem zasc_in : ∀ (ls : List (Option zV)) (i k : Nat) (v : zV), ls[k]? = some (some v) → (i + k, zval v) ∈ zasc i ls
  | [], _, _, _, h => by simp at h
  | x :: t, i, 0, v, h => by
    have h : x = some v := by simpa using h
    subst h
    exact List.mem_cons_self
  | x :: t, i, k + 1, v, h => by
    have h : t[k]? = some (some v) := by simpa using h
    have h1 := zasc_in t (i + 1) k v h
    rw [show i + 1 + k = i + (k + 1) by omega] at h1
    cases x with
    | none => exact h1
    | some w => exact List.mem_cons_of_mem _ h1
theorem zhas.lv {arr : Array Slot} {nL : Nat} {ls : List (Option zV)} (h : zhas arr nL ls) : lv_has arr nL (zasc 0 ls) := by
  refine ⟨h.2.1, h.2.2.1, fun q hq => ?_⟩
  obtain ⟨k, v, h1, h2⟩ := zasc_mem ls 0 q hq
  rw [h1]
  have := h.2.2.2 k v h2
  simpa using this
theorem zcat_val (v : zV) : (zval v).category = zcat v := by
  rcases v with x | x | (_ | r) <;> rfl
theorem zset_len : ∀ (ls : List (Option zV)) (a : Nat) (v : zV), (zset ls a v).length = ls.length
  | [], _, _ => rfl
  | _ :: t, 0, v => by
    rcases v with x | x | x
    · simp [zset]
    · cases t <;> simp [zset, zhid]
    · simp [zset]
  | x :: t, 1, v => by
    have := zset_len t 0 v
    simp [zset, this]
  | x :: t, n + 2, v => by
    have := zset_len t (n + 1) v
    simp [zset, this]
theorem zset_at : ∀ (ls : List (Option zV)) (a : Nat) (v : zV) (j : Nat) (w : zV), (zset ls a v)[j]? = some (some w) → (j = a ∧ w = v) ∨ (j ≠ a ∧ ls[j]? = some (some w) ∧ ¬ (j + 1 = a ∧ zcat w = 2) ∧ ¬ (j = a + 1 ∧ zcat v = 2))
  | [], _, _, _, _, h => by simp [zset] at h
  | x :: t, 0, v, j, w, h => by
    cases j with
    | zero =>
      have h : v = w := by rcases v with x | x | x <;> simpa [zset] using h
      exact Or.inl ⟨rfl, h.symm⟩
    | succ j =>
      refine Or.inr ⟨by omega, ?_, by omega, ?_⟩
      · rcases v with y | y | y
        · simpa [zset] using h
        · cases t with
          | nil => simp [zset, zhid] at h
          | cons z t =>
            cases j with
            | zero => simp [zset, zhid] at h
            | succ j => simpa [zset, zhid] using h
        · simpa [zset] using h
      · rintro ⟨h1, h2⟩
        have hj : j = 0 := by omega
        subst hj
        rcases v with y | y | y
        · simp [zcat] at h2
        · cases t <;> simp [zset, zhid] at h
        · simp [zcat] at h2
  | x :: t, 1, v, j, w, h => by
    cases j with
    | zero =>
      have h : zclr x = some w := by simpa [zset] using h
      refine Or.inr ⟨by omega, ?_, ?_, by omega⟩
      · rcases x with _ | (y | y | y) <;> simp [zclr] at h ⊢ <;> exact h
      · rintro ⟨-, h2⟩
        rcases x with _ | (y | y | y) <;> simp [zclr] at h
        · subst h; simp [zcat] at h2
        · subst h; simp [zcat] at h2
    | succ j =>
      have h : (zset t 0 v)[j]? = some (some w) := by simpa [zset] using h
      rcases zset_at t 0 v j w h with ⟨h1, h2⟩ | ⟨h1, h2, h3, h4⟩
      · exact Or.inl ⟨by omega, h2⟩
      · exact Or.inr ⟨by omega, by simpa using h2, by omega, by omega⟩
  | x :: t, n + 2, v, j, w, h => by
    cases j with
    | zero =>
      have h : x = some w := by simpa [zset] using h
      exact Or.inr ⟨by omega, by simp [h], by omega, by omega⟩
    | succ j =>
      have h : (zset t (n + 1) v)[j]? = some (some w) := by simpa [zset] using h
      rcases zset_at t (n + 1) v j w h with ⟨h1, h2⟩ | ⟨h1, h2, h3, h4⟩
      · exact Or.inl ⟨by omega, h2⟩
      · exact Or.inr ⟨by omega, by simpa using h2, by omega, by omega⟩
theorem zhas.st1 {arr arr' : Array Slot} {nL a : Nat} {ls : List (Option zV)} {v : zV} (h : zhas arr nL ls) (hc : zcat v = 1) (h' : lv_has arr' nL ((a, zval v) :: (zasc 0 ls).filter (fun q => !(q.1 == a) && !(q.1 + 1 == a && q.2.category == 2)))) : zhas arr' nL (zset ls a v) := by
  refine ⟨by rw [zset_len]; exact h.1, h'.1, h'.2.1, fun j w hj => ?_⟩
  rcases zset_at ls a v j w hj with ⟨h1, h2⟩ | ⟨h1, h2, h3, h4⟩
  · subst h1; subst h2
    exact h'.2.2 _ List.mem_cons_self
  · refine h'.2.2 (j, zval w) (List.mem_cons_of_mem _ (List.mem_filter.mpr ⟨?_, ?_⟩))
    · have := zasc_in ls 0 j w h2
      simpa using this
    · rw [zcat_val]
      simp only [Bool.and_eq_true, Bool.not_eq_true', beq_eq_false_iff_ne, ne_eq, Bool.and_eq_false_iff]
      refine ⟨h1, ?_⟩
      by_cases hz : j + 1 = a
      · exact Or.inr (fun z => h3 ⟨hz, z⟩)
      · exact Or.inl hz
theorem zhas.st2 {arr arr' : Array Slot} {nL a : Nat} {ls : List (Option zV)} {v : zV} (h : zhas arr nL ls) (hc : zcat v = 2) (h' : lv_has arr' nL ((a, zval v) :: (zasc 0 ls).filter (fun q => !(q.1 == a) && (!(q.1 == a + 1) && !(q.1 + 1 == a && q.2.category == 2))))) : zhas arr' nL (zset ls a v) := by
  refine ⟨by rw [zset_len]; exact h.1, h'.1, h'.2.1, fun j w hj => ?_⟩
  rcases zset_at ls a v j w hj with ⟨h1, h2⟩ | ⟨h1, h2, h3, h4⟩
  · subst h1; subst h2
    exact h'.2.2 _ List.mem_cons_self
  · refine h'.2.2 (j, zval w) (List.mem_cons_of_mem _ (List.mem_filter.mpr ⟨?_, ?_⟩))
    · have := zasc_in ls 0 j w h2
      simpa using this
    · rw [zcat_val]
      simp only [Bool.and_eq_true, Bool.not_eq_true', beq_eq_false_iff_ne, ne_eq, Bool.and_eq_false_iff]
      refine ⟨h1, fun z => h4 ⟨z, hc⟩, ?_⟩
      by_cases hz : j + 1 = a
      · exact Or.inr (fun z => h3 ⟨hz, z⟩)
      · exact Or.inl hz
end
section
/-! The tables hold what the code and the words say. -/
def zin (i : Nat) (w : Cond) : Bool := decide (lw_tbl[i]? = some w) && goodWord w
theorem zin_mem {i : Nat} {w : Cond} (h : zin i w = true) : w ∈ zTBL := by
  simp only [zin, Bool.and_eq_true, decide_eq_true_eq] at h
  exact List.mem_filter.mpr ⟨List.mem_of_getElem? h.1, h.2⟩
theorem zTBL_good {w : Cond} (h : w ∈ zTBL) : (w.onTables && w.keeps) = true ∨ ∃ ty, w = .arrayClass ty := good_of_word (List.mem_filter.mp h).2
def zNest : List (String × Nat × MethodName × String) := [("VersionSolver", 23, yX2_init, "VersionSolver"), ("VersionSolver$Reader", 129, yX9_isPack, "VersionSolver"), ("VersionSolver$Reader", 80, yX4_init, "VersionSolver"), ("VersionSolver$Release", 33, yX9_isPack, "VersionSolver")]
def zexc (k : Nat) : String := match k with
  | 0 => "java/lang/IllegalArgumentException"
  | 1 => "java/lang/IllegalStateException"
  | 2 => "java/lang/IndexOutOfBoundsException"
  | _ => "java/lang/UnsupportedOperationException"
def zexi (k : Nat) : Nat := match k with
  | 0 => 58
  | 1 => 65
  | 2 => 80
  | _ => 97
def zaty (k : Nat) : FieldType := match k with
  | 0 => .byte
  | 1 => .int
  | 2 => .long
  | _ => .boolean
def zate (k : Nat) : ArrayType := match k with
  | 0 => .byte
  | 1 => .int
  | 2 => .long
  | _ => .boolean
def zrcn (k : Nat) : String := match k with
  | 4 => "VersionSolver$Release"
  | 5 => "VersionSolver$Requirement"
  | 6 => "VersionSolver$Span"
  | _ => "VersionSolver$Word"
def zcmp (a : Nat) : Jvm.ClassFile.Cond := match a with
  | 0 => .eq
  | 1 => .ne
  | 2 => .lt
  | 3 => .ge
  | 4 => .gt
  | _ => .le
abbrev zown (j : Nat) : String := (zN j).cls
def zcls (ci : Nat) : vw_C := zCL.getD ci (RX0, TX0, 2)
def zfty (z : Int) (t : FieldType) : Bool := match z with
  | 0 => decide (t = .int)
  | 1 => decide (t = .boolean)
  | 2 => decide (t = .long)
  | _ => match t with
    | .object _ => true
    | .array _ => true
    | _ => false
def zrty (a : Nat) (t : Option FieldType) : Bool := match a with
  | 0 => decide (t = some .int)
  | 1 => decide (t = some .boolean)
  | 2 => decide (t = some .long)
  | _ => match t with
    | some (.object _) => true
    | some (.array _) => true
    | _ => false
def zchk (j pc : Nat) (o : zOp) : Bool := match o with
  | (k, n, a, b, ix, w, z) => match k with
    | 0 => decide ((n = 2 ∧ decode (zC j) pc = .ok (.iload a, 2)) ∨ (n = 1 ∧ ∃ h : a < 4, decode (zC j) pc = .ok (.iload_n ⟨a, h⟩, 1)))
    | 1 => decide ((n = 2 ∧ decode (zC j) pc = .ok (.aload a, 2)) ∨ (n = 1 ∧ ∃ h : a < 4, decode (zC j) pc = .ok (.aload_n ⟨a, h⟩, 1)))
    | 2 => decide ((n = 2 ∧ decode (zC j) pc = .ok (.lload a, 2)) ∨ (n = 1 ∧ ∃ h : a < 4, decode (zC j) pc = .ok (.lload_n ⟨a, h⟩, 1)))
    | 3 => decide ((n = 2 ∧ decode (zC j) pc = .ok (.istore a, 2)) ∨ (n = 1 ∧ ∃ h : a < 4, decode (zC j) pc = .ok (.istore_n ⟨a, h⟩, 1)))
    | 4 => decide ((n = 2 ∧ decode (zC j) pc = .ok (.astore a, 2)) ∨ (n = 1 ∧ ∃ h : a < 4, decode (zC j) pc = .ok (.astore_n ⟨a, h⟩, 1)))
    | 5 => decide ((n = 2 ∧ decode (zC j) pc = .ok (.lstore a, 2)) ∨ (n = 1 ∧ ∃ h : a < 4, decode (zC j) pc = .ok (.lstore_n ⟨a, h⟩, 1)))
    | 6 => decide ((n = 1 ∧ decode (zC j) pc = .ok (.iconst z, 1)) ∨ (n = 2 ∧ decode (zC j) pc = .ok (.bipush z, 2) ∧ (Int8.ofInt z).toInt32 = Int32.ofInt z) ∨ (n = 3 ∧ decode (zC j) pc = .ok (.sipush z, 3) ∧ (Int16.ofInt z).toInt32 = Int32.ofInt z))
    | 7 => decide ((n = 1 ∧ ∃ h : z.toNat < 2, decode (zC j) pc = .ok (.lconst ⟨z.toNat, h⟩, 1) ∧ Int64.ofNat z.toNat = Int64.ofInt z) ∨ (n = 3 ∧ decode (zC j) pc = .ok (.ldc2_w ix, 3) ∧ zin w (.constantLong (zown j) ix (Int64.ofInt z)) = true))
    | 8 => decide (n = 1 ∧ decode (zC j) pc = .ok (.aconst_null, 1))
    | 9 => decide (n = 3 ∧ decode (zC j) pc = .ok (.iinc a z, 3))
    | 10 => decide (n = 1 ∧ ((a = 0 ∧ decode (zC j) pc = .ok (.iadd, 1)) ∨ (a = 1 ∧ decode (zC j) pc = .ok (.isub, 1)) ∨ (a = 2 ∧ decode (zC j) pc = .ok (.imul, 1)) ∨ (a = 3 ∧ decode (zC j) pc = .ok (.iand, 1))))
    | 11 => decide (n = 1 ∧ ((a = 0 ∧ decode (zC j) pc = .ok (.ladd, 1)) ∨ (a = 1 ∧ decode (zC j) pc = .ok (.lsub, 1)) ∨ (a = 2 ∧ decode (zC j) pc = .ok (.land, 1)) ∨ (a = 3 ∧ decode (zC j) pc = .ok (.lor, 1)) ∨ (a = 4 ∧ decode (zC j) pc = .ok (.lxor, 1))))
    | 12 => decide (n = 1 ∧ ((a = 0 ∧ decode (zC j) pc = .ok (.lshl, 1)) ∨ (a = 1 ∧ decode (zC j) pc = .ok (.lshr, 1)) ∨ (a = 2 ∧ decode (zC j) pc = .ok (.lushr, 1))))
    | 13 => decide (n = 1 ∧ ((a = 0 ∧ decode (zC j) pc = .ok (.i2l, 1)) ∨ (a = 1 ∧ decode (zC j) pc = .ok (.l2i, 1)) ∨ (a = 2 ∧ decode (zC j) pc = .ok (.i2b, 1))))
    | 14 => decide (n = 3 ∧ a < 6 ∧ decode (zC j) pc = .ok (.ifCond (zcmp a) z, 3) ∧ (pc : Int) + z = (b : Int))
    | 15 => decide (n = 3 ∧ a < 6 ∧ decode (zC j) pc = .ok (.if_icmp (zcmp a) z, 3) ∧ (pc : Int) + z = (b : Int))
    | 16 => decide (decode (zC j) pc = .ok (.goto z, 3) ∧ (pc : Int) + z = (b : Int))
    | 17 => decide (n = 3 ∧ decode (zC j) pc = .ok (.ifnull z, 3) ∧ (pc : Int) + z = (b : Int))
    | 18 => decide (n = 3 ∧ decode (zC j) pc = .ok (.ifnonnull z, 3) ∧ (pc : Int) + z = (b : Int))
    | 19 => decide (n = 1 ∧ decode (zC j) pc = .ok (.lcmp, 1))
    | 20 => decide (n = 1 ∧ decode (zC j) pc = .ok (.dup, 1))
    | 21 => decide (n = 1 ∧ decode (zC j) pc = .ok (.dup2, 1))
    | 22 => decide (n = 1 ∧ decode (zC j) pc = .ok (.pop, 1))
    | 23 => decide (n = 3 ∧ decode (zC j) pc = .ok (.getfield ix, 3) ∧ a < 11 ∧ b < (zcls a).2.2 ∧ zin w (.fieldLink (zown j) ix ((zcls a).2.1 b).1 ((zcls a).2.1 b).2.1 ((zcls a).2.1 b).2.2.1) = true)
    | 24 => decide (n = 3 ∧ decode (zC j) pc = .ok (.putfield ix, 3) ∧ a < 11 ∧ b < (zcls a).2.2 ∧ zin w (.fieldLink (zown j) ix ((zcls a).2.1 b).1 ((zcls a).2.1 b).2.1 ((zcls a).2.1 b).2.2.1) = true ∧ zfty z (zty a b) = true ∧ (((zcls a).2.1 b).2.2.2 = false ∨ ((zN j).name = "<init>" ∧ ((zcls a).2.1 b).1 = zown j)))
    | 25 => decide (n = 1 ∧ ((a = 0 ∧ decode (zC j) pc = .ok (.baload, 1)) ∨ (a = 1 ∧ decode (zC j) pc = .ok (.iaload, 1)) ∨ (a = 3 ∧ decode (zC j) pc = .ok (.baload, 1))))
    | 26 => decide (n = 1 ∧ ((a = 0 ∧ decode (zC j) pc = .ok (.bastore, 1)) ∨ (a = 1 ∧ decode (zC j) pc = .ok (.iastore, 1)) ∨ (a = 3 ∧ decode (zC j) pc = .ok (.bastore, 1))))
    | 27 => decide (n = 1 ∧ decode (zC j) pc = .ok (.laload, 1))
    | 28 => decide (n = 1 ∧ decode (zC j) pc = .ok (.lastore, 1))
    | 29 => decide (n = 1 ∧ 4 ≤ a ∧ a < 8 ∧ decode (zC j) pc = .ok (.aaload, 1))
    | 30 => decide (n = 1 ∧ 4 ≤ a ∧ a < 8 ∧ b < 11 ∧ (zcls b).1 = zrcn a ∧ decode (zC j) pc = .ok (.aastore, 1))
    | 31 => decide (n = 1 ∧ decode (zC j) pc = .ok (.arraylength, 1))
    | 32 => decide (n = 3 ∧ decode (zC j) pc = .ok (.new ix, 3) ∧ a < 11 ∧ b = (zcls a).2.2 ∧ zin w (.classLink (zown j) ix (zcls a).1) = true)
    | 33 => decide (n = 2 ∧ a < 4 ∧ decode (zC j) pc = .ok (.newarray (zate a), 2))
    | 34 => decide (n = 3 ∧ 4 ≤ a ∧ a < 8 ∧ decode (zC j) pc = .ok (.anewarray ix, 3) ∧ zin w (.classLink (zown j) ix (zrcn a)) = true)
    | 35 => decide (n = 3 ∧ a < 152 ∧ ((z = 0 ∧ zK a = 0 ∧ b = zn a + 1 ∧ decode (zC j) pc = .ok (.invokevirtual ix, 3) ∧ zin w (.methodLink (zown j) ix (zN a)) = true) ∨ (z = 1 ∧ zK a = 1 ∧ b = zn a ∧ decode (zC j) pc = .ok (.invokestatic ix, 3) ∧ zin w (.methodLink (zown j) ix (zN a)) = true) ∨ (z = 2 ∧ zK a = 2 ∧ b = zn a + 1 ∧ decode (zC j) pc = .ok (.invokespecial ix, 3) ∧ zin w (.methodLink (zown j) ix (zN a)) = true) ∨ (z = 4 ∧ zK a = 1 ∧ b = zn a ∧ decode (zC j) pc = .ok (.invokestatic ix, 3) ∧ (zown j, ix, zN a, "VersionSolver") ∈ zNest) ∨ (z = 5 ∧ zK a = 2 ∧ b = zn a + 1 ∧ decode (zC j) pc = .ok (.invokespecial ix, 3) ∧ (zown j, ix, zN a, "VersionSolver") ∈ zNest)))
    | 36 => zrty a (zRt j) && decide ((a < 2 ∧ decode (zC j) pc = .ok (.ireturn, 1)) ∨ (a = 2 ∧ decode (zC j) pc = .ok (.lreturn, 1)) ∨ (a = 3 ∧ decode (zC j) pc = .ok (.areturn, 1)))
    | 37 => decide (zRt j = none ∧ decode (zC j) pc = .ok (.return_, 1))
    | 38 => decide (a < 4 ∧ b = zexi a ∧ zown j = RX9 ∧ decode (zC j) pc = .ok (.new ix, 3) ∧ decode (zC j) (pc + 3) = .ok (.dup, 1) ∧ decode (zC j) (pc + 4) = .ok (.invokespecial b, 3) ∧ decode (zC j) (pc + 7) = .ok (.athrow, 1) ∧ zin w (.classLink (zown j) ix (zexc a)) = true)
    | 39 => match zSW[a]? with
      | some (d, lo, hi, offs, tg) => decide (decode (zC j) pc = .ok (.tableswitch d lo hi offs.toArray, n) ∧ (pc : Int) + d = (b : Int) ∧ offs.length = tg.length ∧ (hi - lo).toNat + 1 = offs.length ∧ offs.map (fun x => (pc : Int) + x) = tg.map (fun (x : Nat) => (x : Int)))
      | none => false
    | 40 => decide (n = 3 ∧ decode (zC j) pc = .ok (.invokespecial ix, 3) ∧ zin w (.methodLink (zown j) ix objectInit) = true)
    | 41 => decide (decode (zC j) pc = .ok (.iaload, 1))
    | 42 => decide (decode (zC j) pc = .ok (.arraylength, 1))
    | 44 => decide (n = 3 ∧ a < 2 ∧ decode (zC j) pc = .ok (.invokestatic ix, 3) ∧ zin w (.methodLink (zown j) ix arraycopyName) = true)
    | 45 => decide (n = 3 ∧ decode (zC j) pc = .ok (.invokestatic ix, 3) ∧ zin w (.methodLink (zown j) ix Lib.Math.min.name) = true)
    | _ => true
def zmck (j : Nat) : Bool := plainName (zN j).cls && decide ((zN j).cls ≠ "java/lang/invoke/MethodHandle" ∧ (zN j).cls ≠ "java/lang/invoke/VarHandle") && decide ((parseMethodDescriptor (zN j).desc).map (fun d => d.parameters.length) = some (zn j)) && decide (zL j ≤ 40) && zin (zw j).1 (.code (zN j) (zC j) (zL j) (zRt j)) && zin (zw j).2.2.2 (.initialized (zN j).cls) && (match zK j with
  | 0 => zin (zw j).2.1 (.instanceMethod (zN j)) && zin (zw j).2.2.1 (.selects (zN j).cls (zN j) (zN j)) && decide (zci j < 11 ∧ (zcls (zci j)).1 = (zN j).cls)
  | 1 => zin (zw j).2.1 (.static (zN j))
  | _ => zin (zw j).2.1 (.instanceMethod (zN j)) && decide ((zN j).name = "<init>" ∧ zRt j = none))
def ztck (j : Nat) : Bool := (ztb j).all (fun q => zchk j q.1 q.2)
end
section
/-! A step of the pure machine is a step of the real one. -/
def zDecl : List MethodName := [⟨"java/lang/RuntimeException", "<init>", "()V"⟩, ⟨"java/lang/Exception", "<init>", "()V"⟩, ⟨"java/lang/Throwable", "<init>", "()V"⟩]
def zFix (D : va_G) (cy : Nat → ClassId) (A : Nat → Prop) (U : State) : Prop := va_K D zCL (zTY cy) U ∧ (∀ q ∈ zNest, va_Nw (.methodLinkNest q.1 q.2.1 q.2.2.1 q.2.2.2) U) ∧ (∀ k, 4 ≤ k → k < 8 → va_AO (zrcn k) U) ∧ vx_Zq Bundle.tN "UNASSIGNED_STACK" Bundle.steD A U U.heap ∧ vx_Zq Bundle.tN "SUPPRESSED_SENTINEL" Bundle.listD A U U.heap ∧ (∀ k, k < 4 → va_Nw (.castable (zexc k) (zexc k)) U) ∧ ∀ x ∈ zDecl, va_Nw (.declares x) U
theorem zFix.to {D : va_G} {cy : Nat → ClassId} {A : Nat → Prop} {s U : State} (h : zFix D cy A s) (hW : s.WarmedH U.vm) (hq : ∀ a : Nat, a < s.heap.size → ¬ A a → U.heap[a]? = s.heap[a]?) : zFix D cy A U :=
  ⟨va_K.moved hW.alike h.1, fun q hq => va_Nw.warmM hW (h.2.1 q hq), fun k h1 h2 => va_AO.moved hW.alike (h.2.2.1 k h1 h2), vx_Zq.kept (vx_Zq.moved hW.alike h.2.2.2.1) hq, vx_Zq.kept (vx_Zq.moved hW.alike h.2.2.2.2.1) hq, fun k hk => va_Nw.warmC hW (h.2.2.2.2.2.1 k hk), fun x hx => va_Nw.warmD hW (h.2.2.2.2.2.2 x hx)⟩
def zCx (p : Program) (l : Launch) (R : Room) (s : State) (m : MethodId) (args : Array Value) (meth : Method) (c : Code) (D : va_G) (cy : Nat → ClassId) (A : Nat → Prop) (mc ms d y : Nat) : Prop :=
  (p.tables.exec = Jvm.exec ∧ c.code = zC y ∧ c.maxLocals = zL y ∧ meth.sig.returnType = zRt y ∧ meth.locks = false ∧ meth.name = (zN y).name ∧ s.vm.findClass (zown y) = some m.cls) ∧ (∀ w ∈ zTBL, w.before args s = true) ∧ zFix D cy A s ∧ (∀ q, s.heap.size ≤ q → A q) ∧ (R.cells = mc ∧ R.slots = ms ∧ R.frames = d + 8 ∧ R.locals = 60 * d + 260) ∧ l.stackTraces = false ∧ (∀ x ∈ c.exceptionTable.toList, False)
def zWS (p : Program) (l : Launch) (e : Env) (R : Room) (s : State) (m : MethodId) (args : Array Value) (below : List Frame) (meth : Method) (c : Code) (Qf : State → Prop) (D : va_G) (cy : Nat → ClassId) (A : Nat → Prop) (nL mc ms : Nat) : zX := fun pc ls st h u v =>
  u ≤ mc → v ≤ ms → ∀ (H : Heap) (locs : List Loc) (arr : Array Slot), zRep D cy A h H → va_S A s.heap H locs → zhas arr nL ls → W p l e R s m args below meth c H locs u v Qf (F0 m pc arr (st.map zval))
theorem zmap_sum (r : List zV) : ((r.map zval).map fun v => v.category).sum = (r.map zcat).sum := by
  induction r with
  | nil => rfl
  | cons v t ih => simp only [List.map_cons, List.sum_cons, ih, zcat_val]
theorem zcls_at {a : Nat} (h : a < 11) : zCL[a]? = some (zcls a) := by
  have : ∀ a, a < 11 → zCL[a]? = some (zcls a) := by
    intro a h
    rcases (show a = 0 ∨ a = 1 ∨ a = 2 ∨ a = 3 ∨ a = 4 ∨ a = 5 ∨ a = 6 ∨ a = 7 ∨ a = 8 ∨ a = 9 ∨ a = 10 by omega) with h | h | h | h | h | h | h | h | h | h | h <;> subst h <;> rfl
  exact this a h
theorem zcls_in {a : Nat} (h : a < 11) : ∀ w ∈ u_ws (zcls a).1 (zcls a).2.1 (zcls a).2.2, w ∈ zTBL := by
  rcases (show a = 0 ∨ a = 1 ∨ a = 2 ∨ a = 3 ∨ a = 4 ∨ a = 5 ∨ a = 6 ∨ a = 7 ∨ a = 8 ∨ a = 9 ∨ a = 10 by omega) with h | h | h | h | h | h | h | h | h | h | h <;> subst h
  · exact zin0
  · exact zin1
  · exact zin2
  · exact zin3
  · exact zin4
  · exact zin5
  · exact zin6
  · exact zin7
  · exact zin8
  · exact zin9
  · exact zin10
theorem zcls_ty {a : Nat} (h : a < 11) : ∀ k, k < (zcls a).2.2 → parseFieldDescriptor ((zcls a).2.1 k).2.2.1 = some (zty a k) := by
  rcases (show a = 0 ∨ a = 1 ∨ a = 2 ∨ a = 3 ∨ a = 4 ∨ a = 5 ∨ a = 6 ∨ a = 7 ∨ a = 8 ∨ a = 9 ∨ a = 10 by omega) with h | h | h | h | h | h | h | h | h | h | h <;> subst h
  · exact tyX0_ok
  · exact tyX1_ok
  · exact tyX2_ok
  · exact tyX3_ok
  · exact tyX4_ok
  · exact tyX5_ok
  · exact tyX6_ok
  · exact tyX7_ok
  · exact tyX8_ok
  · exact tyX9_ok
  · exact tyX10_ok
theorem zcls_nm {a : Nat} (h : a < 11) : ∀ x, x < (zcls a).2.2 → ∀ y, y < (zcls a).2.2 → x ≠ y → ((zcls a).2.1 x).2.1 ≠ ((zcls a).2.1 y).2.1 := by
  rcases (show a = 0 ∨ a = 1 ∨ a = 2 ∨ a = 3 ∨ a = 4 ∨ a = 5 ∨ a = 6 ∨ a = 7 ∨ a = 8 ∨ a = 9 ∨ a = 10 by omega) with h | h | h | h | h | h | h | h | h | h | h <;> subst h
  · exact nmX0
  · exact nmX1
  · exact nmX2
  · exact nmX3
  · exact nmX4
  · exact nmX5
  · exact nmX6
  · exact nmX7
  · exact nmX8
  · exact nmX9
  · exact nmX10
theorem zlv {arr : Array Slot} {nL a : Nat} {ls : List (Option zV)} {v : zV} (h : zhas arr nL ls) (hl : ls[a]? = some (some v)) : arr[a]? = some (.val (zval v)) := h.2.2.2 a v hl
theorem zb01 {x : Int32} (h : x = 0 ∨ x = 1) : narrow .boolean (.int x) = .int x ∧ fits .boolean (.int x) = true := by
  rcases h with h | h <;> subst h <;> exact ⟨by decide +kernel, by decide +kernel⟩
theorem zinst {a : Nat} (h : a < 11) : Cond.instantiable (zcls a).1 (zcls a).2.2 ∈ zTBL ∧ Cond.initialized (zcls a).1 ∈ zTBL := by
  have : ∀ a, a < 11 → Cond.instantiable (zcls a).1 (zcls a).2.2 ∈ zTBL ∧ Cond.initialized (zcls a).1 ∈ zTBL := by decide +kernel
  exact this a h
theorem znoflt {a : Nat} (h : a < 11) : ∀ j, j < (zcls a).2.2 → zval (zdv (zty a j)) = defaultValue (zty a j) := by
  have h1 : ∀ a, a < 11 → ∀ j, j < (zcls a).2.2 → zty a j ≠ .float ∧ zty a j ≠ .double := by decide +kernel
  intro j hj
  have h2 := h1 a h j hj
  generalize zty a j = t at h2
  cases t <;> first | rfl | exact absurd rfl h2.1 | exact absurd rfl h2.2
theorem zdf_at {a b j : Nat} (hj : j < b) : vp_V ((zdf a b).map zval) j = zval (zdv (zty a j)) := by
  simp [vp_V, zdf, List.getD_eq_getElem?_getD, hj]
theorem zarrw {a : Nat} (h : a < 4) : Cond.arrayClass (newarray.typeOf (zate a)) ∈ zTBL := by
  have : ∀ a, a < 4 → Cond.arrayClass (newarray.typeOf (zate a)) ∈ zTBL := by decide +kernel
  exact this a h
theorem zobjw : Cond.instanceMethod objectInit ∈ zTBL ∧ Cond.code objectInit ⟨#[0xb1]⟩ 1 none ∈ zTBL := by decide +kernel
theorem zcpyw : Cond.native arraycopyName ∈ zTBL ∧ Cond.static arraycopyName ∈ zTBL ∧ Cond.initialized "java/lang/System" ∈ zTBL := by decide +kernel
theorem zminw : Cond.static Lib.Math.min.name ∈ zTBL ∧ Cond.initialized "java/lang/Math" ∈ zTBL ∧ Cond.code Lib.Math.min.name Lib.Math.min.code 2 (some .int) ∈ zTBL := by decide +kernel
section
variable {p : Program} {l : Launch} {e : Env} {R : Room} {s : State} {m : MethodId} {args : Array Value} {below : List Frame} {meth : Method} {c : Code} {Qf : State → Prop} {D : va_G} {cy : Nat → ClassId} {A : Nat → Prop} {mc ms d y : Nat} {cl : Nat → List zV → zH → Nat → Nat → zQ → Prop} {Q : zQ} {n a b ix w : Nat} {z : Int} {pc : Nat} {ls : List (Option zV)} {st : List zV} {h : zH} {u v : Nat}
set_option maxHeartbeats 1000000 in
theorem zs_0 (C : zCx p l R s m args meth c D cy A mc ms d y) (hc : zchk y pc (0, n, a, b, ix, w, z) = true) (k : zstep cl mc ms Q (zWS p l e R s m args below meth c Qf D cy A (zL y) mc ms) (0, n, a, b, ix, w, z) pc ls st h u v) : zWS p l e R s m args below meth c Qf D cy A (zL y) mc ms pc ls st h u v := by
  obtain ⟨⟨hx, hb, hml, hr, hlk, hnm, hown⟩, hts, hF, hA, ⟨hR1, hR2, hR3, hR4⟩, hnt, hex⟩ := C
  have hK := hF.1
  intro hu hv H locs arr hP hS hL
  simp only [zchk, decide_eq_true_eq] at hc
  simp only [zstep] at k
  obtain ⟨x, h1, k⟩ := k
  rcases hc with ⟨rfl, hc⟩ | ⟨rfl, h4, hc⟩
  · exact lv_iload hx hb hc (zlv hL h1) (k hu hv H locs arr hP hS hL)
  · exact lv_iload_n hx hb hc rfl (zlv hL h1) (k hu hv H locs arr hP hS hL)
set_option maxHeartbeats 1000000 in
theorem zs_1 (C : zCx p l R s m args meth c D cy A mc ms d y) (hc : zchk y pc (1, n, a, b, ix, w, z) = true) (k : zstep cl mc ms Q (zWS p l e R s m args below meth c Qf D cy A (zL y) mc ms) (1, n, a, b, ix, w, z) pc ls st h u v) : zWS p l e R s m args below meth c Qf D cy A (zL y) mc ms pc ls st h u v := by
  obtain ⟨⟨hx, hb, hml, hr, hlk, hnm, hown⟩, hts, hF, hA, ⟨hR1, hR2, hR3, hR4⟩, hnt, hex⟩ := C
  have hK := hF.1
  intro hu hv H locs arr hP hS hL
  simp only [zchk, decide_eq_true_eq] at hc
  simp only [zstep] at k
  obtain ⟨x, h1, k⟩ := k
  rcases hc with ⟨rfl, hc⟩ | ⟨rfl, h4, hc⟩
  · cases x with
    | none => exact lv_aloadN hx hb hc (zlv hL h1) (k hu hv H locs arr hP hS hL)
    | some x => exact lv_aload hx hb hc (zlv hL h1) (k hu hv H locs arr hP hS hL)
  · cases x with
    | none => exact lv_aload_nN hx hb hc rfl (zlv hL h1) (k hu hv H locs arr hP hS hL)
    | some x => exact lv_aload_n hx hb hc rfl (zlv hL h1) (k hu hv H locs arr hP hS hL)
set_option maxHeartbeats 1000000 in
theorem zs_2 (C : zCx p l R s m args meth c D cy A mc ms d y) (hc : zchk y pc (2, n, a, b, ix, w, z) = true) (k : zstep cl mc ms Q (zWS p l e R s m args below meth c Qf D cy A (zL y) mc ms) (2, n, a, b, ix, w, z) pc ls st h u v) : zWS p l e R s m args below meth c Qf D cy A (zL y) mc ms pc ls st h u v := by
  obtain ⟨⟨hx, hb, hml, hr, hlk, hnm, hown⟩, hts, hF, hA, ⟨hR1, hR2, hR3, hR4⟩, hnt, hex⟩ := C
  have hK := hF.1
  intro hu hv H locs arr hP hS hL
  simp only [zchk, decide_eq_true_eq] at hc
  simp only [zstep] at k
  obtain ⟨x, h1, k⟩ := k
  rcases hc with ⟨rfl, hc⟩ | ⟨rfl, h4, hc⟩
  · exact lv_lload hx hb hc (zlv hL h1) (k hu hv H locs arr hP hS hL)
  · exact lv_lload_n hx hb hc rfl (zlv hL h1) (k hu hv H locs arr hP hS hL)
set_option maxHeartbeats 1000000 in
theorem zs_3 (C : zCx p l R s m args meth c D cy A mc ms d y) (hc : zchk y pc (3, n, a, b, ix, w, z) = true) (k : zstep cl mc ms Q (zWS p l e R s m args below meth c Qf D cy A (zL y) mc ms) (3, n, a, b, ix, w, z) pc ls st h u v) : zWS p l e R s m args below meth c Qf D cy A (zL y) mc ms pc ls st h u v := by
  obtain ⟨⟨hx, hb, hml, hr, hlk, hnm, hown⟩, hts, hF, hA, ⟨hR1, hR2, hR3, hR4⟩, hnt, hex⟩ := C
  have hK := hF.1
  intro hu hv H locs arr hP hS hL
  simp only [zchk, decide_eq_true_eq] at hc
  simp only [zstep] at k
  obtain ⟨x, r, rfl, h2, k⟩ := k
  rw [hL.1] at h2
  rcases hc with ⟨rfl, hc⟩ | ⟨rfl, h4, hc⟩
  · exact lv_istore hx hb hc hL.lv h2 rfl (fun arr' h' => k hu hv H locs arr' hP hS (hL.st1 (v := zI x) rfl h'))
  · exact lv_istore_n hx hb hc rfl hL.lv h2 rfl (fun arr' h' => k hu hv H locs arr' hP hS (hL.st1 (v := zI x) rfl h'))
set_option maxHeartbeats 1000000 in
theorem zs_4 (C : zCx p l R s m args meth c D cy A mc ms d y) (hc : zchk y pc (4, n, a, b, ix, w, z) = true) (k : zstep cl mc ms Q (zWS p l e R s m args below meth c Qf D cy A (zL y) mc ms) (4, n, a, b, ix, w, z) pc ls st h u v) : zWS p l e R s m args below meth c Qf D cy A (zL y) mc ms pc ls st h u v := by
  obtain ⟨⟨hx, hb, hml, hr, hlk, hnm, hown⟩, hts, hF, hA, ⟨hR1, hR2, hR3, hR4⟩, hnt, hex⟩ := C
  have hK := hF.1
  intro hu hv H locs arr hP hS hL
  simp only [zchk, decide_eq_true_eq] at hc
  simp only [zstep] at k
  obtain ⟨x, r, rfl, h2, k⟩ := k
  rw [hL.1] at h2
  rcases hc with ⟨rfl, hc⟩ | ⟨rfl, h4, hc⟩
  · cases x with
    | none => exact lv_astoreN hx hb hc hL.lv h2 rfl (fun arr' h' => k hu hv H locs arr' hP hS (hL.st1 (v := zR none) rfl h'))
    | some x => exact lv_astore hx hb hc hL.lv h2 rfl (fun arr' h' => k hu hv H locs arr' hP hS (hL.st1 (v := zR (some x)) rfl h'))
  · cases x with
    | none => exact lv_astore_nN hx hb hc rfl hL.lv h2 rfl (fun arr' h' => k hu hv H locs arr' hP hS (hL.st1 (v := zR none) rfl h'))
    | some x => exact lv_astore_n hx hb hc rfl hL.lv h2 rfl (fun arr' h' => k hu hv H locs arr' hP hS (hL.st1 (v := zR (some x)) rfl h'))
set_option maxHeartbeats 1000000 in
theorem zs_5 (C : zCx p l R s m args meth c D cy A mc ms d y) (hc : zchk y pc (5, n, a, b, ix, w, z) = true) (k : zstep cl mc ms Q (zWS p l e R s m args below meth c Qf D cy A (zL y) mc ms) (5, n, a, b, ix, w, z) pc ls st h u v) : zWS p l e R s m args below meth c Qf D cy A (zL y) mc ms pc ls st h u v := by
  obtain ⟨⟨hx, hb, hml, hr, hlk, hnm, hown⟩, hts, hF, hA, ⟨hR1, hR2, hR3, hR4⟩, hnt, hex⟩ := C
  have hK := hF.1
  intro hu hv H locs arr hP hS hL
  simp only [zchk, decide_eq_true_eq] at hc
  simp only [zstep] at k
  obtain ⟨x, r, rfl, h2, k⟩ := k
  rw [hL.1] at h2
  rcases hc with ⟨rfl, hc⟩ | ⟨rfl, h4, hc⟩
  · exact lv_lstore hx hb hc hL.lv h2 rfl (fun arr' h' => k hu hv H locs arr' hP hS (hL.st2 (v := zJ x) rfl h'))
  · exact lv_lstore_n hx hb hc rfl hL.lv h2 rfl (fun arr' h' => k hu hv H locs arr' hP hS (hL.st2 (v := zJ x) rfl h'))
set_option maxHeartbeats 1000000 in
theorem zs_6 (C : zCx p l R s m args meth c D cy A mc ms d y) (hc : zchk y pc (6, n, a, b, ix, w, z) = true) (k : zstep cl mc ms Q (zWS p l e R s m args below meth c Qf D cy A (zL y) mc ms) (6, n, a, b, ix, w, z) pc ls st h u v) : zWS p l e R s m args below meth c Qf D cy A (zL y) mc ms pc ls st h u v := by
  obtain ⟨⟨hx, hb, hml, hr, hlk, hnm, hown⟩, hts, hF, hA, ⟨hR1, hR2, hR3, hR4⟩, hnt, hex⟩ := C
  have hK := hF.1
  intro hu hv H locs arr hP hS hL
  simp only [zchk, decide_eq_true_eq] at hc
  simp only [zstep] at k
  rcases hc with ⟨rfl, hc⟩ | ⟨rfl, hc, hz⟩ | ⟨rfl, hc, hz⟩
  · exact lv_iconst hx hb hc rfl (k hu hv H locs arr hP hS hL)
  · exact lv_bipush hx hb hc hz (k hu hv H locs arr hP hS hL)
  · exact lv_sipush hx hb hc hz (k hu hv H locs arr hP hS hL)
set_option maxHeartbeats 1000000 in
theorem zs_7 (C : zCx p l R s m args meth c D cy A mc ms d y) (hc : zchk y pc (7, n, a, b, ix, w, z) = true) (k : zstep cl mc ms Q (zWS p l e R s m args below meth c Qf D cy A (zL y) mc ms) (7, n, a, b, ix, w, z) pc ls st h u v) : zWS p l e R s m args below meth c Qf D cy A (zL y) mc ms pc ls st h u v := by
  obtain ⟨⟨hx, hb, hml, hr, hlk, hnm, hown⟩, hts, hF, hA, ⟨hR1, hR2, hR3, hR4⟩, hnt, hex⟩ := C
  have hK := hF.1
  intro hu hv H locs arr hP hS hL
  simp only [zchk, decide_eq_true_eq] at hc
  simp only [zstep] at k
  rcases hc with ⟨rfl, h2, hc, hz⟩ | ⟨rfl, hc, hz⟩
  · exact lv_lconst hx hb hc hz (k hu hv H locs arr hP hS hL)
  · exact lv_ldc2 hx hb hown (hts _ (zin_mem hz)) hc (k hu hv H locs arr hP hS hL)
set_option maxHeartbeats 1000000 in
theorem zs_8 (C : zCx p l R s m args meth c D cy A mc ms d y) (hc : zchk y pc (8, n, a, b, ix, w, z) = true) (k : zstep cl mc ms Q (zWS p l e R s m args below meth c Qf D cy A (zL y) mc ms) (8, n, a, b, ix, w, z) pc ls st h u v) : zWS p l e R s m args below meth c Qf D cy A (zL y) mc ms pc ls st h u v := by
  obtain ⟨⟨hx, hb, hml, hr, hlk, hnm, hown⟩, hts, hF, hA, ⟨hR1, hR2, hR3, hR4⟩, hnt, hex⟩ := C
  have hK := hF.1
  intro hu hv H locs arr hP hS hL
  simp only [zchk, decide_eq_true_eq] at hc
  simp only [zstep] at k
  obtain ⟨rfl, hc⟩ := hc
  exact lv_null hx hb hc (k hu hv H locs arr hP hS hL)
set_option maxHeartbeats 1000000 in
theorem zs_9 (C : zCx p l R s m args meth c D cy A mc ms d y) (hc : zchk y pc (9, n, a, b, ix, w, z) = true) (k : zstep cl mc ms Q (zWS p l e R s m args below meth c Qf D cy A (zL y) mc ms) (9, n, a, b, ix, w, z) pc ls st h u v) : zWS p l e R s m args below meth c Qf D cy A (zL y) mc ms pc ls st h u v := by
  obtain ⟨⟨hx, hb, hml, hr, hlk, hnm, hown⟩, hts, hF, hA, ⟨hR1, hR2, hR3, hR4⟩, hnt, hex⟩ := C
  have hK := hF.1
  intro hu hv H locs arr hP hS hL
  simp only [zchk, decide_eq_true_eq] at hc
  simp only [zstep] at k
  obtain ⟨rfl, hc⟩ := hc
  obtain ⟨x, h1, k⟩ := k
  have ha : a < zL y := by rw [← hL.1]; exact (List.getElem?_eq_some_iff.mp h1).1
  have hm := zasc_in ls 0 a (zI x) h1
  obtain ⟨j, hj⟩ := List.getElem?_of_mem hm
  rw [Nat.zero_add] at hj
  exact lv_iinc hx hb hc hL.lv hj rfl ha rfl (fun arr' h' => k hu hv H locs arr' hP hS (hL.st1 (v := zI (x + Int32.ofInt z)) rfl h'))
set_option maxHeartbeats 1000000 in
theorem zs_10 (C : zCx p l R s m args meth c D cy A mc ms d y) (hc : zchk y pc (10, n, a, b, ix, w, z) = true) (k : zstep cl mc ms Q (zWS p l e R s m args below meth c Qf D cy A (zL y) mc ms) (10, n, a, b, ix, w, z) pc ls st h u v) : zWS p l e R s m args below meth c Qf D cy A (zL y) mc ms pc ls st h u v := by
  obtain ⟨⟨hx, hb, hml, hr, hlk, hnm, hown⟩, hts, hF, hA, ⟨hR1, hR2, hR3, hR4⟩, hnt, hex⟩ := C
  have hK := hF.1
  intro hu hv H locs arr hP hS hL
  simp only [zchk, decide_eq_true_eq] at hc
  simp only [zstep] at k
  obtain ⟨rfl, hc⟩ := hc
  obtain ⟨y, x, r, rfl, k⟩ := k
  rcases hc with ⟨rfl, hc⟩ | ⟨rfl, hc⟩ | ⟨rfl, hc⟩ | ⟨rfl, hc⟩
  · exact lv_iadd hx hb hc (k hu hv H locs arr hP hS hL)
  · exact lv_isub hx hb hc (k hu hv H locs arr hP hS hL)
  · exact lv_imul hx hb hc (k hu hv H locs arr hP hS hL)
  · exact lv_iand hx hb hc (k hu hv H locs arr hP hS hL)
set_option maxHeartbeats 1000000 in
theorem zs_11 (C : zCx p l R s m args meth c D cy A mc ms d y) (hc : zchk y pc (11, n, a, b, ix, w, z) = true) (k : zstep cl mc ms Q (zWS p l e R s m args below meth c Qf D cy A (zL y) mc ms) (11, n, a, b, ix, w, z) pc ls st h u v) : zWS p l e R s m args below meth c Qf D cy A (zL y) mc ms pc ls st h u v := by
  obtain ⟨⟨hx, hb, hml, hr, hlk, hnm, hown⟩, hts, hF, hA, ⟨hR1, hR2, hR3, hR4⟩, hnt, hex⟩ := C
  have hK := hF.1
  intro hu hv H locs arr hP hS hL
  simp only [zchk, decide_eq_true_eq] at hc
  simp only [zstep] at k
  obtain ⟨rfl, hc⟩ := hc
  obtain ⟨y, x, r, rfl, k⟩ := k
  rcases hc with ⟨rfl, hc⟩ | ⟨rfl, hc⟩ | ⟨rfl, hc⟩ | ⟨rfl, hc⟩ | ⟨rfl, hc⟩
  · exact lv_ladd hx hb hc (k hu hv H locs arr hP hS hL)
  · exact lv_lsub hx hb hc (k hu hv H locs arr hP hS hL)
  · exact lv_land hx hb hc (k hu hv H locs arr hP hS hL)
  · exact lv_lor hx hb hc (k hu hv H locs arr hP hS hL)
  · exact lv_lxor hx hb hc (k hu hv H locs arr hP hS hL)
set_option maxHeartbeats 1000000 in
theorem zs_12 (C : zCx p l R s m args meth c D cy A mc ms d y) (hc : zchk y pc (12, n, a, b, ix, w, z) = true) (k : zstep cl mc ms Q (zWS p l e R s m args below meth c Qf D cy A (zL y) mc ms) (12, n, a, b, ix, w, z) pc ls st h u v) : zWS p l e R s m args below meth c Qf D cy A (zL y) mc ms pc ls st h u v := by
  obtain ⟨⟨hx, hb, hml, hr, hlk, hnm, hown⟩, hts, hF, hA, ⟨hR1, hR2, hR3, hR4⟩, hnt, hex⟩ := C
  have hK := hF.1
  intro hu hv H locs arr hP hS hL
  simp only [zchk, decide_eq_true_eq] at hc
  simp only [zstep] at k
  obtain ⟨rfl, hc⟩ := hc
  obtain ⟨y, x, r, rfl, k⟩ := k
  rcases hc with ⟨rfl, hc⟩ | ⟨rfl, hc⟩ | ⟨rfl, hc⟩
  · exact lv_lshl hx hb hc rfl (k hu hv H locs arr hP hS hL)
  · exact lv_lshr hx hb hc rfl (k hu hv H locs arr hP hS hL)
  · exact lv_lushr hx hb hc rfl (k hu hv H locs arr hP hS hL)
set_option maxHeartbeats 1000000 in
theorem zs_13 (C : zCx p l R s m args meth c D cy A mc ms d y) (hc : zchk y pc (13, n, a, b, ix, w, z) = true) (k : zstep cl mc ms Q (zWS p l e R s m args below meth c Qf D cy A (zL y) mc ms) (13, n, a, b, ix, w, z) pc ls st h u v) : zWS p l e R s m args below meth c Qf D cy A (zL y) mc ms pc ls st h u v := by
  obtain ⟨⟨hx, hb, hml, hr, hlk, hnm, hown⟩, hts, hF, hA, ⟨hR1, hR2, hR3, hR4⟩, hnt, hex⟩ := C
  have hK := hF.1
  intro hu hv H locs arr hP hS hL
  simp only [zchk, decide_eq_true_eq] at hc
  simp only [zstep] at k
  obtain ⟨rfl, hc⟩ := hc
  rcases hc with ⟨rfl, hc⟩ | ⟨rfl, hc⟩ | ⟨rfl, hc⟩
  · obtain ⟨x, r, rfl, k⟩ := k
    exact lv_i2l hx hb hc rfl (k hu hv H locs arr hP hS hL)
  · obtain ⟨x, r, rfl, k⟩ := k
    exact lv_l2i hx hb hc rfl (k hu hv H locs arr hP hS hL)
  · obtain ⟨x, r, rfl, k⟩ := k
    exact lv_i2b hx hb hc rfl (k hu hv H locs arr hP hS hL)
set_option maxHeartbeats 1000000 in
theorem zs_14 (C : zCx p l R s m args meth c D cy A mc ms d y) (hc : zchk y pc (14, n, a, b, ix, w, z) = true) (k : zstep cl mc ms Q (zWS p l e R s m args below meth c Qf D cy A (zL y) mc ms) (14, n, a, b, ix, w, z) pc ls st h u v) : zWS p l e R s m args below meth c Qf D cy A (zL y) mc ms pc ls st h u v := by
  obtain ⟨⟨hx, hb, hml, hr, hlk, hnm, hown⟩, hts, hF, hA, ⟨hR1, hR2, hR3, hR4⟩, hnt, hex⟩ := C
  have hK := hF.1
  intro hu hv H locs arr hP hS hL
  simp only [zchk, decide_eq_true_eq] at hc
  simp only [zstep] at k
  obtain ⟨rfl, h6, hc, ht⟩ := hc
  obtain ⟨x, r, rfl, k1, k2⟩ := k
  rcases (show a = 0 ∨ a = 1 ∨ a = 2 ∨ a = 3 ∨ a = 4 ∨ a = 5 by omega) with h0 | h0 | h0 | h0 | h0 | h0 <;> subst h0
  · exact lv_if_eq hx hb hc ht (fun q => k1 q hu hv H locs arr hP hS hL) (fun q => k2 q hu hv H locs arr hP hS hL)
  · exact lv_if_ne hx hb hc ht (fun q => k1 q hu hv H locs arr hP hS hL) (fun q => k2 (fun z => z q) hu hv H locs arr hP hS hL)
  · exact lv_if_lt hx hb hc ht (fun q => k1 q hu hv H locs arr hP hS hL) (fun q => k2 q hu hv H locs arr hP hS hL)
  · exact lv_if_ge hx hb hc ht (fun q => k1 q hu hv H locs arr hP hS hL) (fun q => k2 q hu hv H locs arr hP hS hL)
  · exact lv_if_gt hx hb hc ht (fun q => k1 q hu hv H locs arr hP hS hL) (fun q => k2 q hu hv H locs arr hP hS hL)
  · exact lv_if_le hx hb hc ht (fun q => k1 q hu hv H locs arr hP hS hL) (fun q => k2 q hu hv H locs arr hP hS hL)
set_option maxHeartbeats 1000000 in
theorem zs_15 (C : zCx p l R s m args meth c D cy A mc ms d y) (hc : zchk y pc (15, n, a, b, ix, w, z) = true) (k : zstep cl mc ms Q (zWS p l e R s m args below meth c Qf D cy A (zL y) mc ms) (15, n, a, b, ix, w, z) pc ls st h u v) : zWS p l e R s m args below meth c Qf D cy A (zL y) mc ms pc ls st h u v := by
  obtain ⟨⟨hx, hb, hml, hr, hlk, hnm, hown⟩, hts, hF, hA, ⟨hR1, hR2, hR3, hR4⟩, hnt, hex⟩ := C
  have hK := hF.1
  intro hu hv H locs arr hP hS hL
  simp only [zchk, decide_eq_true_eq] at hc
  simp only [zstep] at k
  obtain ⟨rfl, h6, hc, ht⟩ := hc
  obtain ⟨y, x, r, rfl, k1, k2⟩ := k
  rcases (show a = 0 ∨ a = 1 ∨ a = 2 ∨ a = 3 ∨ a = 4 ∨ a = 5 by omega) with h0 | h0 | h0 | h0 | h0 | h0 <;> subst h0
  · exact lv_icmp_eq hx hb hc ht (fun q => k1 q hu hv H locs arr hP hS hL) (fun q => k2 q hu hv H locs arr hP hS hL)
  · exact lv_icmp_ne hx hb hc ht (fun q => k1 q hu hv H locs arr hP hS hL) (fun q => k2 (fun z => z q) hu hv H locs arr hP hS hL)
  · exact lv_icmp_lt hx hb hc ht (fun q => k1 q hu hv H locs arr hP hS hL) (fun q => k2 q hu hv H locs arr hP hS hL)
  · exact lv_icmp_ge hx hb hc ht (fun q => k1 q hu hv H locs arr hP hS hL) (fun q => k2 q hu hv H locs arr hP hS hL)
  · exact lv_icmp_gt hx hb hc ht (fun q => k1 q hu hv H locs arr hP hS hL) (fun q => k2 q hu hv H locs arr hP hS hL)
  · exact lv_icmp_le hx hb hc ht (fun q => k1 q hu hv H locs arr hP hS hL) (fun q => k2 q hu hv H locs arr hP hS hL)
set_option maxHeartbeats 1000000 in
theorem zs_16 (C : zCx p l R s m args meth c D cy A mc ms d y) (hc : zchk y pc (16, n, a, b, ix, w, z) = true) (k : zstep cl mc ms Q (zWS p l e R s m args below meth c Qf D cy A (zL y) mc ms) (16, n, a, b, ix, w, z) pc ls st h u v) : zWS p l e R s m args below meth c Qf D cy A (zL y) mc ms pc ls st h u v := by
  obtain ⟨⟨hx, hb, hml, hr, hlk, hnm, hown⟩, hts, hF, hA, ⟨hR1, hR2, hR3, hR4⟩, hnt, hex⟩ := C
  have hK := hF.1
  intro hu hv H locs arr hP hS hL
  simp only [zchk, decide_eq_true_eq] at hc
  simp only [zstep] at k
  obtain ⟨hc, ht⟩ := hc
  exact lv_goto hx hb hc ht (k hu hv H locs arr hP hS hL)
set_option maxHeartbeats 1000000 in
theorem zs_17 (C : zCx p l R s m args meth c D cy A mc ms d y) (hc : zchk y pc (17, n, a, b, ix, w, z) = true) (k : zstep cl mc ms Q (zWS p l e R s m args below meth c Qf D cy A (zL y) mc ms) (17, n, a, b, ix, w, z) pc ls st h u v) : zWS p l e R s m args below meth c Qf D cy A (zL y) mc ms pc ls st h u v := by
  obtain ⟨⟨hx, hb, hml, hr, hlk, hnm, hown⟩, hts, hF, hA, ⟨hR1, hR2, hR3, hR4⟩, hnt, hex⟩ := C
  have hK := hF.1
  intro hu hv H locs arr hP hS hL
  simp only [zchk, decide_eq_true_eq] at hc
  simp only [zstep] at k
  obtain ⟨rfl, hc, ht⟩ := hc
  obtain ⟨q, r, rfl, k1, k2⟩ := k
  cases q with
  | none => exact lv_ifnullN hx hb hc ht (k1 rfl hu hv H locs arr hP hS hL)
  | some q => exact lv_ifnull hx hb hc (k2 (fun z => by cases z) hu hv H locs arr hP hS hL)
set_option maxHeartbeats 1000000 in
theorem zs_18 (C : zCx p l R s m args meth c D cy A mc ms d y) (hc : zchk y pc (18, n, a, b, ix, w, z) = true) (k : zstep cl mc ms Q (zWS p l e R s m args below meth c Qf D cy A (zL y) mc ms) (18, n, a, b, ix, w, z) pc ls st h u v) : zWS p l e R s m args below meth c Qf D cy A (zL y) mc ms pc ls st h u v := by
  obtain ⟨⟨hx, hb, hml, hr, hlk, hnm, hown⟩, hts, hF, hA, ⟨hR1, hR2, hR3, hR4⟩, hnt, hex⟩ := C
  have hK := hF.1
  intro hu hv H locs arr hP hS hL
  simp only [zchk, decide_eq_true_eq] at hc
  simp only [zstep] at k
  obtain ⟨rfl, hc, ht⟩ := hc
  obtain ⟨q, r, rfl, k1, k2⟩ := k
  cases q with
  | none => exact lv_ifnonnullN hx hb hc (k2 rfl hu hv H locs arr hP hS hL)
  | some q => exact lv_ifnonnull hx hb hc ht (k1 (fun z => by cases z) hu hv H locs arr hP hS hL)
set_option maxHeartbeats 1000000 in
theorem zs_19 (C : zCx p l R s m args meth c D cy A mc ms d y) (hc : zchk y pc (19, n, a, b, ix, w, z) = true) (k : zstep cl mc ms Q (zWS p l e R s m args below meth c Qf D cy A (zL y) mc ms) (19, n, a, b, ix, w, z) pc ls st h u v) : zWS p l e R s m args below meth c Qf D cy A (zL y) mc ms pc ls st h u v := by
  obtain ⟨⟨hx, hb, hml, hr, hlk, hnm, hown⟩, hts, hF, hA, ⟨hR1, hR2, hR3, hR4⟩, hnt, hex⟩ := C
  have hK := hF.1
  intro hu hv H locs arr hP hS hL
  simp only [zchk, decide_eq_true_eq] at hc
  simp only [zstep] at k
  obtain ⟨rfl, hc⟩ := hc
  obtain ⟨y, x, r, rfl, k⟩ := k
  exact W.lcmp hx hb hc (k hu hv H locs arr hP hS hL)
set_option maxHeartbeats 1000000 in
theorem zs_20 (C : zCx p l R s m args meth c D cy A mc ms d y) (hc : zchk y pc (20, n, a, b, ix, w, z) = true) (k : zstep cl mc ms Q (zWS p l e R s m args below meth c Qf D cy A (zL y) mc ms) (20, n, a, b, ix, w, z) pc ls st h u v) : zWS p l e R s m args below meth c Qf D cy A (zL y) mc ms pc ls st h u v := by
  obtain ⟨⟨hx, hb, hml, hr, hlk, hnm, hown⟩, hts, hF, hA, ⟨hR1, hR2, hR3, hR4⟩, hnt, hex⟩ := C
  have hK := hF.1
  intro hu hv H locs arr hP hS hL
  simp only [zchk, decide_eq_true_eq] at hc
  simp only [zstep] at k
  obtain ⟨rfl, hc⟩ := hc
  obtain ⟨v1, r, rfl, h1, k⟩ := k
  exact lv_dup hx hb hc (by rw [zcat_val]; exact h1) (k hu hv H locs arr hP hS hL)
set_option maxHeartbeats 1000000 in
theorem zs_21 (C : zCx p l R s m args meth c D cy A mc ms d y) (hc : zchk y pc (21, n, a, b, ix, w, z) = true) (k : zstep cl mc ms Q (zWS p l e R s m args below meth c Qf D cy A (zL y) mc ms) (21, n, a, b, ix, w, z) pc ls st h u v) : zWS p l e R s m args below meth c Qf D cy A (zL y) mc ms pc ls st h u v := by
  obtain ⟨⟨hx, hb, hml, hr, hlk, hnm, hown⟩, hts, hF, hA, ⟨hR1, hR2, hR3, hR4⟩, hnt, hex⟩ := C
  have hK := hF.1
  intro hu hv H locs arr hP hS hL
  simp only [zchk, decide_eq_true_eq] at hc
  simp only [zstep] at k
  obtain ⟨rfl, hc⟩ := hc
  obtain ⟨v1, v2, r, rfl, h1, h2, k⟩ := k
  exact lv_dup2_11 hx hb hc (by rw [zcat_val]; exact h1) (by rw [zcat_val]; exact h2) (k hu hv H locs arr hP hS hL)
set_option maxHeartbeats 1000000 in
theorem zs_22 (C : zCx p l R s m args meth c D cy A mc ms d y) (hc : zchk y pc (22, n, a, b, ix, w, z) = true) (k : zstep cl mc ms Q (zWS p l e R s m args below meth c Qf D cy A (zL y) mc ms) (22, n, a, b, ix, w, z) pc ls st h u v) : zWS p l e R s m args below meth c Qf D cy A (zL y) mc ms pc ls st h u v := by
  obtain ⟨⟨hx, hb, hml, hr, hlk, hnm, hown⟩, hts, hF, hA, ⟨hR1, hR2, hR3, hR4⟩, hnt, hex⟩ := C
  have hK := hF.1
  intro hu hv H locs arr hP hS hL
  simp only [zchk, decide_eq_true_eq] at hc
  simp only [zstep] at k
  obtain ⟨rfl, hc⟩ := hc
  obtain ⟨v1, r, rfl, h1, k⟩ := k
  exact lv_pop hx hb hc (by rw [zcat_val]; exact h1) (k hu hv H locs arr hP hS hL)
set_option maxHeartbeats 1000000 in
theorem zs_23 (C : zCx p l R s m args meth c D cy A mc ms d y) (hc : zchk y pc (23, n, a, b, ix, w, z) = true) (k : zstep cl mc ms Q (zWS p l e R s m args below meth c Qf D cy A (zL y) mc ms) (23, n, a, b, ix, w, z) pc ls st h u v) : zWS p l e R s m args below meth c Qf D cy A (zL y) mc ms pc ls st h u v := by
  obtain ⟨⟨hx, hb, hml, hr, hlk, hnm, hown⟩, hts, hF, hA, ⟨hR1, hR2, hR3, hR4⟩, hnt, hex⟩ := C
  have hK := hF.1
  intro hu hv H locs arr hP hS hL
  simp only [zchk, decide_eq_true_eq] at hc
  simp only [zstep] at k
  obtain ⟨rfl, hc, ha, hbk, hw⟩ := hc
  obtain ⟨q, r, fs, v1, rfl, h1, h2, k⟩ := k
  obtain ⟨L, hP0, hD, hdom⟩ := hP
  obtain ⟨k0, hk, hk'⟩ := zpl_at (cy := cy) hdom h1
  exact va_get hx hb hts (zcls_in ha) hown hK hP0 k0 hk' (zcls_at ha) b hbk (hts _ (zin_mem hw)) (fun _ h9 => h9) (v := zval v1) (by rw [List.getElem?_map, h2]; rfl) hc (k hu hv H locs arr ⟨L, hP0, hD, hdom⟩ hS hL)
set_option maxHeartbeats 1000000 in
theorem zs_24 (C : zCx p l R s m args meth c D cy A mc ms d y) (hc : zchk y pc (24, n, a, b, ix, w, z) = true) (k : zstep cl mc ms Q (zWS p l e R s m args below meth c Qf D cy A (zL y) mc ms) (24, n, a, b, ix, w, z) pc ls st h u v) : zWS p l e R s m args below meth c Qf D cy A (zL y) mc ms pc ls st h u v := by
  obtain ⟨⟨hx, hb, hml, hr, hlk, hnm, hown⟩, hts, hF, hA, ⟨hR1, hR2, hR3, hR4⟩, hnt, hex⟩ := C
  have hK := hF.1
  intro hu hv H locs arr hP hS hL
  simp only [zchk, decide_eq_true_eq] at hc
  simp only [zstep] at k
  obtain ⟨rfl, hc, ha, hbk, hw, hz, hfin⟩ := hc
  obtain ⟨v1, q, r, fs, rfl, h1, h2, h3, k⟩ := k
  obtain ⟨L, hP0, hD, hdom⟩ := hP
  obtain ⟨k0, hk, hk'⟩ := zpl_at (cy := cy) hdom h1
  have hd := zcls_ty ha b hbk
  have hn : narrow (zty a b) (zval v1) = zval v1 ∧ fits (zty a b) (zval v1) = true := by
    unfold zfty at hz
    unfold zfit at h3
    split at hz
    · obtain ⟨x, rfl⟩ := h3
      rw [of_decide_eq_true hz]
      exact ⟨rfl, rfl⟩
    · obtain ⟨x, rfl, h9⟩ := h3
      rw [of_decide_eq_true hz]
      exact zb01 h9
    · obtain ⟨x, rfl⟩ := h3
      rw [of_decide_eq_true hz]
      exact ⟨rfl, rfl⟩
    · split at h3
      all_goals first | contradiction | skip
      obtain ⟨x, rfl⟩ := h3
      split at hz
      · rename_i h9; rw [h9]; cases x <;> exact ⟨rfl, rfl⟩
      · rename_i h9; rw [h9]; cases x <;> exact ⟨rfl, rfl⟩
      · cases hz
  have go : ∀ (H1 : Heap) (locs1 : List Loc), va_P D zCL ((va_pl L (zgr cy h)).set k0 (q, .inr (a, (fs.map zval).set b (zval v1)))) H1 → va_D A ((va_pl L (zgr cy h)).set k0 (q, .inr (a, (fs.map zval).set b (zval v1)))) → va_S A s.heap H1 locs1 → W p l e R s m args below meth c H1 locs1 u v Qf (F0 m (pc + 3) arr (r.map zval)) := by
    intro H1 locs1 g1 g2 g3
    rw [← List.map_set] at g1 g2
    exact k hu hv H1 locs1 arr (zRep.set (zO a (fs.set b v1)) hD hdom h1 hk g1 g2) g3 hL
  by_cases hf : ((zcls a).2.1 b).2.2.2 = false
  · exact va_put hx hb hts (zcls_in ha) (zty a) (zcls_ty ha) (zcls_nm ha) hown hK hP0 hD hS k0 hk' (zcls_at ha) b hbk (hts _ (zin_mem hw)) (fun _ h9 => h9) hf hd hn.1 hn.2 (by rw [List.length_map]; exact h2) hc go
  · have h9 := hfin.resolve_left hf
    exact va_putF hx hb hts (zcls_in ha) (zty a) (zcls_ty ha) (zcls_nm ha) hown hK hP0 hD hS k0 hk' (zcls_at ha) b hbk (hts _ (zin_mem hw)) (fun _ h9 => h9) (by cases hq : ((zcls a).2.1 b).2.2.2 <;> first | exact absurd hq hf | rfl) (by rw [hnm]; exact h9.1) h9.2 hd hn.1 hn.2 (by rw [List.length_map]; exact h2) hc go
set_option maxHeartbeats 1000000 in
theorem zs_25 (C : zCx p l R s m args meth c D cy A mc ms d y) (hc : zchk y pc (25, n, a, b, ix, w, z) = true) (k : zstep cl mc ms Q (zWS p l e R s m args below meth c Qf D cy A (zL y) mc ms) (25, n, a, b, ix, w, z) pc ls st h u v) : zWS p l e R s m args below meth c Qf D cy A (zL y) mc ms pc ls st h u v := by
  obtain ⟨⟨hx, hb, hml, hr, hlk, hnm, hown⟩, hts, hF, hA, ⟨hR1, hR2, hR3, hR4⟩, hnt, hex⟩ := C
  have hK := hF.1
  intro hu hv H locs arr hP hS hL
  simp only [zchk, decide_eq_true_eq] at hc
  simp only [zstep] at k
  obtain ⟨rfl, hc⟩ := hc
  obtain ⟨i, q, r, m1, f, rfl, h1, h2, k⟩ := k
  obtain ⟨L, hP0, hD, hdom⟩ := hP
  obtain ⟨k0, hk, hk'⟩ := zpl_at (cy := cy) hdom h1
  rcases hc with ⟨rfl, hc⟩ | ⟨rfl, hc⟩ | ⟨rfl, hc⟩
  · exact va_bald hx hb hK hP0 k0 0 hk' rfl h2 hc (k hu hv H locs arr ⟨L, hP0, hD, hdom⟩ hS hL)
  · exact va_iald hx hb hK hP0 k0 1 hk' rfl h2 hc (k hu hv H locs arr ⟨L, hP0, hD, hdom⟩ hS hL)
  · exact va_zald hx hb hK hP0 k0 3 hk' rfl h2 hc (k hu hv H locs arr ⟨L, hP0, hD, hdom⟩ hS hL)
set_option maxHeartbeats 1000000 in
theorem zs_26 (C : zCx p l R s m args meth c D cy A mc ms d y) (hc : zchk y pc (26, n, a, b, ix, w, z) = true) (k : zstep cl mc ms Q (zWS p l e R s m args below meth c Qf D cy A (zL y) mc ms) (26, n, a, b, ix, w, z) pc ls st h u v) : zWS p l e R s m args below meth c Qf D cy A (zL y) mc ms pc ls st h u v := by
  obtain ⟨⟨hx, hb, hml, hr, hlk, hnm, hown⟩, hts, hF, hA, ⟨hR1, hR2, hR3, hR4⟩, hnt, hex⟩ := C
  have hK := hF.1
  intro hu hv H locs arr hP hS hL
  simp only [zchk, decide_eq_true_eq] at hc
  simp only [zstep] at k
  obtain ⟨rfl, hc⟩ := hc
  obtain ⟨x, i, q, r, m1, f, rfl, h1, h2, k⟩ := k
  obtain ⟨L, hP0, hD, hdom⟩ := hP
  obtain ⟨k0, hk, hk'⟩ := zpl_at (cy := cy) hdom h1
  rcases hc with ⟨rfl, hc⟩ | ⟨rfl, hc⟩ | ⟨rfl, hc⟩
  · refine va_bast hx hb hK hP0 hD hS k0 0 hk' rfl h2 hc (fun H1 locs1 g1 g2 g3 => ?_)
    rw [vp_nar_byte] at g1 g2
    exact k hu hv H1 locs1 arr (zRep.set (zaI 0 m1 (upd f i.toNatClampNeg (znar 0 x))) hD hdom h1 hk g1 g2) g3 hL
  · exact va_iast hx hb hK hP0 hD hS k0 1 hk' rfl h2 hc (fun H1 locs1 g1 g2 g3 => k hu hv H1 locs1 arr (zRep.set (zaI 1 m1 (upd f i.toNatClampNeg (znar 1 x))) hD hdom h1 hk g1 g2) g3 hL)
  · exact va_zast hx hb hK hP0 hD hS k0 3 hk' rfl h2 hc (fun H1 locs1 g1 g2 g3 => k hu hv H1 locs1 arr (zRep.set (zaI 3 m1 (upd f i.toNatClampNeg (znar 3 x))) hD hdom h1 hk g1 g2) g3 hL)
set_option maxHeartbeats 1000000 in
theorem zs_27 (C : zCx p l R s m args meth c D cy A mc ms d y) (hc : zchk y pc (27, n, a, b, ix, w, z) = true) (k : zstep cl mc ms Q (zWS p l e R s m args below meth c Qf D cy A (zL y) mc ms) (27, n, a, b, ix, w, z) pc ls st h u v) : zWS p l e R s m args below meth c Qf D cy A (zL y) mc ms pc ls st h u v := by
  obtain ⟨⟨hx, hb, hml, hr, hlk, hnm, hown⟩, hts, hF, hA, ⟨hR1, hR2, hR3, hR4⟩, hnt, hex⟩ := C
  have hK := hF.1
  intro hu hv H locs arr hP hS hL
  simp only [zchk, decide_eq_true_eq] at hc
  simp only [zstep] at k
  obtain ⟨rfl, hc⟩ := hc
  obtain ⟨i, q, r, m1, f, rfl, h1, h2, k⟩ := k
  obtain ⟨L, hP0, hD, hdom⟩ := hP
  obtain ⟨k0, hk, hk'⟩ := zpl_at (cy := cy) hdom h1
  exact va_lald hx hb hK hP0 k0 2 hk' rfl h2 hc (k hu hv H locs arr ⟨L, hP0, hD, hdom⟩ hS hL)
set_option maxHeartbeats 1000000 in
theorem zs_28 (C : zCx p l R s m args meth c D cy A mc ms d y) (hc : zchk y pc (28, n, a, b, ix, w, z) = true) (k : zstep cl mc ms Q (zWS p l e R s m args below meth c Qf D cy A (zL y) mc ms) (28, n, a, b, ix, w, z) pc ls st h u v) : zWS p l e R s m args below meth c Qf D cy A (zL y) mc ms pc ls st h u v := by
  obtain ⟨⟨hx, hb, hml, hr, hlk, hnm, hown⟩, hts, hF, hA, ⟨hR1, hR2, hR3, hR4⟩, hnt, hex⟩ := C
  have hK := hF.1
  intro hu hv H locs arr hP hS hL
  simp only [zchk, decide_eq_true_eq] at hc
  simp only [zstep] at k
  obtain ⟨rfl, hc⟩ := hc
  obtain ⟨x, i, q, r, m1, f, rfl, h1, h2, k⟩ := k
  obtain ⟨L, hP0, hD, hdom⟩ := hP
  obtain ⟨k0, hk, hk'⟩ := zpl_at (cy := cy) hdom h1
  exact va_last hx hb hK hP0 hD hS k0 2 hk' rfl h2 hc (fun H1 locs1 g1 g2 g3 => k hu hv H1 locs1 arr (zRep.set (zaJ m1 (vp_updL f i.toNatClampNeg x)) hD hdom h1 hk g1 g2) g3 hL)
set_option maxHeartbeats 1000000 in
theorem zs_29 (C : zCx p l R s m args meth c D cy A mc ms d y) (hc : zchk y pc (29, n, a, b, ix, w, z) = true) (k : zstep cl mc ms Q (zWS p l e R s m args below meth c Qf D cy A (zL y) mc ms) (29, n, a, b, ix, w, z) pc ls st h u v) : zWS p l e R s m args below meth c Qf D cy A (zL y) mc ms pc ls st h u v := by
  obtain ⟨⟨hx, hb, hml, hr, hlk, hnm, hown⟩, hts, hF, hA, ⟨hR1, hR2, hR3, hR4⟩, hnt, hex⟩ := C
  have hK := hF.1
  intro hu hv H locs arr hP hS hL
  simp only [zchk, decide_eq_true_eq] at hc
  simp only [zstep] at k
  obtain ⟨rfl, h4, h8, hc⟩ := hc
  obtain ⟨i, q, r, m1, f, rfl, h1, h2, k⟩ := k
  obtain ⟨L, hP0, hD, hdom⟩ := hP
  obtain ⟨k0, hk, hk'⟩ := zpl_at (cy := cy) hdom h1
  have ht : (zTY cy)[a]? = some (cy a, .object (zrcn a)) := by
    rcases (show a = 4 ∨ a = 5 ∨ a = 6 ∨ a = 7 by omega) with h | h | h | h <;> subst h <;> rfl
  exact va_aldq hx hb hK hP0 k0 a hk' ht h2 hc (k hu hv H locs arr ⟨L, hP0, hD, hdom⟩ hS hL)
set_option maxHeartbeats 1000000 in
theorem zs_30 (C : zCx p l R s m args meth c D cy A mc ms d y) (hc : zchk y pc (30, n, a, b, ix, w, z) = true) (k : zstep cl mc ms Q (zWS p l e R s m args below meth c Qf D cy A (zL y) mc ms) (30, n, a, b, ix, w, z) pc ls st h u v) : zWS p l e R s m args below meth c Qf D cy A (zL y) mc ms pc ls st h u v := by
  obtain ⟨⟨hx, hb, hml, hr, hlk, hnm, hown⟩, hts, hF, hA, ⟨hR1, hR2, hR3, hR4⟩, hnt, hex⟩ := C
  have hK := hF.1
  intro hu hv H locs arr hP hS hL
  simp only [zchk, decide_eq_true_eq] at hc
  simp only [zstep] at k
  obtain ⟨rfl, h4, h8, hb1, hb2, hc⟩ := hc
  obtain ⟨v1, i, q, r, m1, f, rfl, h1, h2, h3, k⟩ := k
  obtain ⟨L, hP0, hD, hdom⟩ := hP
  obtain ⟨k0, hk, hk'⟩ := zpl_at (cy := cy) hdom h1
  have ht : (zTY cy)[a]? = some (cy a, .object (zrcn a)) := by
    rcases (show a = 4 ∨ a = 5 ∨ a = 6 ∨ a = 7 by omega) with h | h | h | h <;> subst h <;> rfl
  cases v1 with
  | none => exact va_astqN hx hb hK hP0 hD hS k0 a hk' ht h2 hc (fun H1 locs1 g1 g2 g3 => k hu hv H1 locs1 arr (zRep.set (zaR a m1 (va_up f i.toNatClampNeg none)) hD hdom h1 hk g1 g2) g3 hL)
  | some v1 =>
    obtain ⟨fs, h5⟩ := h3 v1 rfl
    obtain ⟨k1, hk1, hk1'⟩ := zpl_at (cy := cy) hdom h5
    exact va_astq hx hb hK hP0 hD hS k0 a k1 b hk' (by rw [hb2]; exact ht) hk1' (zcls_at hb1) h2 hc (fun H1 locs1 g1 g2 g3 => k hu hv H1 locs1 arr (zRep.set (zaR a m1 (va_up f i.toNatClampNeg (some v1))) hD hdom h1 hk g1 g2) g3 hL)
set_option maxHeartbeats 1000000 in
theorem zs_31 (C : zCx p l R s m args meth c D cy A mc ms d y) (hc : zchk y pc (31, n, a, b, ix, w, z) = true) (k : zstep cl mc ms Q (zWS p l e R s m args below meth c Qf D cy A (zL y) mc ms) (31, n, a, b, ix, w, z) pc ls st h u v) : zWS p l e R s m args below meth c Qf D cy A (zL y) mc ms pc ls st h u v := by
  obtain ⟨⟨hx, hb, hml, hr, hlk, hnm, hown⟩, hts, hF, hA, ⟨hR1, hR2, hR3, hR4⟩, hnt, hex⟩ := C
  have hK := hF.1
  intro hu hv H locs arr hP hS hL
  simp only [zchk, decide_eq_true_eq] at hc
  simp only [zstep] at k
  obtain ⟨rfl, hc⟩ := hc
  obtain ⟨q, r, m1, rfl, h1, k⟩ := k
  have hP1 := hP
  obtain ⟨L, hP0, hD, hdom⟩ := hP
  cases he : h q with
  | none => rw [he] at h1; cases h1
  | some e0 =>
    obtain ⟨k0, hk, hk'⟩ := zpl_at (cy := cy) hdom he
    rw [he] at h1
    rcases e0 with ⟨kk, n1, f⟩ | ⟨kk, n1, f⟩ | ⟨kk, n1, f⟩ | ⟨ci, fs⟩
    · simp only [zlen] at h1
      split at h1
      · rename_i h9
        cases h1
        rcases (show kk = 0 ∨ kk = 1 ∨ kk = 3 by omega) with h | h | h <;> subst h
        · exact va_alen hx hb hK hP0 k0 0 hk' rfl rfl hc (k hu hv H locs arr hP1 hS hL)
        · exact va_alen hx hb hK hP0 k0 1 hk' rfl rfl hc (k hu hv H locs arr hP1 hS hL)
        · exact va_alen hx hb hK hP0 k0 3 hk' rfl rfl hc (k hu hv H locs arr hP1 hS hL)
      · cases h1
    · simp only [zlen] at h1
      split at h1
      · rename_i h9
        subst h9
        cases h1
        exact va_alen hx hb hK hP0 k0 2 hk' rfl rfl hc (k hu hv H locs arr hP1 hS hL)
      · cases h1
    · simp only [zlen] at h1
      split at h1
      · rename_i h9
        cases h1
        rcases (show kk = 4 ∨ kk = 5 ∨ kk = 6 ∨ kk = 7 by omega) with h | h | h | h <;> subst h
        · exact va_alen hx hb hK hP0 k0 4 hk' rfl rfl hc (k hu hv H locs arr hP1 hS hL)
        · exact va_alen hx hb hK hP0 k0 5 hk' rfl rfl hc (k hu hv H locs arr hP1 hS hL)
        · exact va_alen hx hb hK hP0 k0 6 hk' rfl rfl hc (k hu hv H locs arr hP1 hS hL)
        · exact va_alen hx hb hK hP0 k0 7 hk' rfl rfl hc (k hu hv H locs arr hP1 hS hL)
      · cases h1
    · cases h1
set_option maxHeartbeats 1000000 in
theorem zs_32 (C : zCx p l R s m args meth c D cy A mc ms d y) (hc : zchk y pc (32, n, a, b, ix, w, z) = true) (k : zstep cl mc ms Q (zWS p l e R s m args below meth c Qf D cy A (zL y) mc ms) (32, n, a, b, ix, w, z) pc ls st h u v) : zWS p l e R s m args below meth c Qf D cy A (zL y) mc ms pc ls st h u v := by
  obtain ⟨⟨hx, hb, hml, hr, hlk, hnm, hown⟩, hts, hF, hA, ⟨hR1, hR2, hR3, hR4⟩, hnt, hex⟩ := C
  have hK := hF.1
  intro hu hv H locs arr hP hS hL
  simp only [zchk, decide_eq_true_eq] at hc
  simp only [zstep] at k
  obtain ⟨rfl, hc, ha, rfl, hw⟩ := hc
  obtain ⟨h1, h2, k⟩ := k
  obtain ⟨L, hP0, hD, hdom⟩ := hP
  refine va_new (fs := (zdf a (zcls a).2.2).map zval) hx hb hts (zcls_in ha) (zty a) (zcls_ty ha) hown (hts _ (zin_mem hw)) (hts _ (zinst ha).1) (hts _ (zinst ha).2) hK hP0 hD hS hA (zcls_at ha) (fun j hj => by rw [zdf_at hj, znoflt ha j hj]) (by rw [hR1]; exact h1) (by rw [hR2]; exact h2) hc (fun q H1 g1 g2 g3 => ?_)
  obtain ⟨g4, g5⟩ := zRep.push (cy := cy) (zO a (zdf a (zcls a).2.2)) hdom g1 g2
  exact k q g4 h1 h2 H1 locs arr g5 g3 hL
set_option maxHeartbeats 1000000 in
theorem zs_33 (C : zCx p l R s m args meth c D cy A mc ms d y) (hc : zchk y pc (33, n, a, b, ix, w, z) = true) (k : zstep cl mc ms Q (zWS p l e R s m args below meth c Qf D cy A (zL y) mc ms) (33, n, a, b, ix, w, z) pc ls st h u v) : zWS p l e R s m args below meth c Qf D cy A (zL y) mc ms pc ls st h u v := by
  obtain ⟨⟨hx, hb, hml, hr, hlk, hnm, hown⟩, hts, hF, hA, ⟨hR1, hR2, hR3, hR4⟩, hnt, hex⟩ := C
  have hK := hF.1
  intro hu hv H locs arr hP hS hL
  simp only [zchk, decide_eq_true_eq] at hc
  simp only [zstep] at k
  obtain ⟨rfl, ha, hc⟩ := hc
  obtain ⟨i, r, rfl, h1, h2, h3, h4, k⟩ := k
  obtain ⟨L, hP0, hD, hdom⟩ := hP
  have go : ∀ (a0 : vp_A) (ty : FieldType), newarray.typeOf (zate a) = ty → ztr cy (znew a i.toNatClampNeg) = .inl (cy a, a0) → (∀ cA : ClassId, vp_cell cA a0 = arrV cA i.toNatClampNeg (fun _ => defaultValue ty)) → i.toNatClampNeg * componentBytes ty ≤ 536870912 → (∀ cA, va_RA s cA ty → cA = cy a) → W p l e R s m args below meth c H locs u v Qf (F0 m pc arr ((zI i :: r).map zval)) := by
    intro a0 ty e1 e2 e3 e4 e5
    refine va_newa hx hb (hts _ (zarrw ha)) e1 hK hP0 hD hS hA e3 h1 rfl e4 (by rw [hR1]; exact h3) (by rw [hR2]; exact h4) hc (fun q cA H1 gK g1 g2 g3 => ?_)
    have hcA : cA = cy a := e5 cA (gK.2 (zTY cy).length (cA, ty) (by simp)).2
    subst hcA
    rw [← e2] at g1 g2
    obtain ⟨g4, g5⟩ := zRep.push (cy := cy) (znew a i.toNatClampNeg) hdom g1 g2
    exact k q g4 h3 h4 H1 locs arr g5 g3 hL
  have uq : ∀ (k0 : Nat) (ty : FieldType) (cA : ClassId), (zTY cy)[k0]? = some (cy k0, ty) → (∀ c1, va_RA s c1 ty = (s.vm.findClass ("[" ++ ty.toString) = some c1)) → va_RA s cA ty → cA = cy k0 := by
    intro k0 ty cA q1 q2 q3
    have q4 := (hK.2 k0 _ q1).2
    rw [q2] at q3 q4
    exact Option.some.inj (q3.symm.trans q4)
  rcases (show a = 0 ∨ a = 1 ∨ a = 2 ∨ a = 3 by omega) with h | h | h | h <;> subst h
  · exact go (i.toNatClampNeg, .inl (fun _ => 0)) .byte rfl rfl (fun cA => rfl) (by show _ * 1 ≤ _; omega) (fun cA q => uq 0 .byte cA rfl (fun _ => rfl) q)
  · exact go (i.toNatClampNeg, .inl (fun _ => 0)) .int rfl rfl (fun cA => rfl) (by show _ * 4 ≤ _; omega) (fun cA q => uq 1 .int cA rfl (fun _ => rfl) q)
  · exact go (i.toNatClampNeg, .inr (.inl (fun _ => 0))) .long rfl rfl (fun cA => rfl) (by show _ * 8 ≤ _; omega) (fun cA q => uq 2 .long cA rfl (fun _ => rfl) q)
  · exact go (i.toNatClampNeg, .inl (fun _ => 0)) .boolean rfl rfl (fun cA => rfl) (by show _ * 1 ≤ _; omega) (fun cA q => uq 3 .boolean cA rfl (fun _ => rfl) q)
set_option maxHeartbeats 1000000 in
theorem zs_34 (C : zCx p l R s m args meth c D cy A mc ms d y) (hc : zchk y pc (34, n, a, b, ix, w, z) = true) (k : zstep cl mc ms Q (zWS p l e R s m args below meth c Qf D cy A (zL y) mc ms) (34, n, a, b, ix, w, z) pc ls st h u v) : zWS p l e R s m args below meth c Qf D cy A (zL y) mc ms pc ls st h u v := by
  obtain ⟨⟨hx, hb, hml, hr, hlk, hnm, hown⟩, hts, hF, hA, ⟨hR1, hR2, hR3, hR4⟩, hnt, hex⟩ := C
  have hK := hF.1
  intro hu hv H locs arr hP hS hL
  simp only [zchk, decide_eq_true_eq] at hc
  simp only [zstep] at k
  obtain ⟨rfl, h5, h8, hc, hw⟩ := hc
  obtain ⟨i, r, rfl, h1, h2, h3, h4, k⟩ := k
  obtain ⟨L, hP0, hD, hdom⟩ := hP
  have ht : (zTY cy)[a]? = some (cy a, .object (zrcn a)) := by
    rcases (show a = 4 ∨ a = 5 ∨ a = 6 ∨ a = 7 by omega) with h | h | h | h <;> subst h <;> rfl
  refine va_newq hx hb hown (hts _ (zin_mem hw)) (hF.2.2.1 a h5 h8) hK hP0 hD hS hA h1 rfl (by omega) (by rw [hR1]; exact h3) (by rw [hR2]; exact h4) hc (fun q cA H1 gK g1 g2 g3 => ?_)
  have hcA : cA = cy a := by
    obtain ⟨_, _, _, _, _, q1⟩ := (gK.2 (zTY cy).length (cA, .object (zrcn a)) (by simp)).2
    obtain ⟨_, _, _, _, _, q2⟩ := (hK.2 a _ ht).2
    exact Option.some.inj (q1.symm.trans q2)
  subst hcA
  obtain ⟨g4, g5⟩ := zRep.push (cy := cy) (zaR a i.toNatClampNeg (fun _ => none)) hdom g1 g2
  exact k q g4 h3 h4 H1 locs arr g5 g3 hL
set_option maxHeartbeats 1000000 in
theorem zs_39 (C : zCx p l R s m args meth c D cy A mc ms d y) (hc : zchk y pc (39, n, a, b, ix, w, z) = true) (k : zstep cl mc ms Q (zWS p l e R s m args below meth c Qf D cy A (zL y) mc ms) (39, n, a, b, ix, w, z) pc ls st h u v) : zWS p l e R s m args below meth c Qf D cy A (zL y) mc ms pc ls st h u v := by
  obtain ⟨⟨hx, hb, hml, hr, hlk, hnm, hown⟩, hts, hF, hA, ⟨hR1, hR2, hR3, hR4⟩, hnt, hex⟩ := C
  have hK := hF.1
  intro hu hv H locs arr hP hS hL
  simp only [zchk, decide_eq_true_eq] at hc
  simp only [zstep] at k
  obtain ⟨x, r, rfl, k⟩ := k
  unfold zswt at k
  cases hq : zSW[a]? with
  | none => rw [hq] at hc; cases hc
  | some q =>
    obtain ⟨dd, lo, hi, offs, tg⟩ := q
    rw [hq] at hc k
    dsimp only at k
    simp only [decide_eq_true_eq] at hc
    obtain ⟨hc, hd, hlen, hsz, hmap⟩ := hc
    by_cases ho : x.toInt < lo ∨ hi < x.toInt
    · rw [if_pos ho] at k
      exact lv_tableOut hx hb hc ho hd (k hu hv H locs arr hP hS hL)
    · rw [if_neg ho] at k
      have h1 : ¬ x.toInt < lo := fun z => ho (Or.inl z)
      have h2 : ¬ hi < x.toInt := fun z => ho (Or.inr z)
      have hlt : (x.toInt - lo).toNat < offs.length := by omega
      have hlt2 : (x.toInt - lo).toNat < tg.length := by omega
      refine lv_tableIn (off := offs[(x.toInt - lo).toNat]) (tgt := tg.getD (x.toInt - lo).toNat 0) hx hb hc h1 h2 (by simp [hlt]) ?_ (k hu hv H locs arr hP hS hL)
      have h3 := congrArg (fun t => t[(x.toInt - lo).toNat]?) hmap
      simp only [List.getElem?_map, List.getElem?_eq_getElem hlt, List.getElem?_eq_getElem hlt2, Option.map_some, Option.some.injEq] at h3
      rw [h3, List.getD_eq_getElem?_getD, List.getElem?_eq_getElem hlt2]
      rfl
set_option maxHeartbeats 1000000 in
theorem zs_40 (C : zCx p l R s m args meth c D cy A mc ms d y) (hc : zchk y pc (40, n, a, b, ix, w, z) = true) (k : zstep cl mc ms Q (zWS p l e R s m args below meth c Qf D cy A (zL y) mc ms) (40, n, a, b, ix, w, z) pc ls st h u v) : zWS p l e R s m args below meth c Qf D cy A (zL y) mc ms pc ls st h u v := by
  obtain ⟨⟨hx, hb, hml, hr, hlk, hnm, hown⟩, hts, hF, hA, ⟨hR1, hR2, hR3, hR4⟩, hnt, hex⟩ := C
  have hK := hF.1
  intro hu hv H locs arr hP hS hL
  simp only [zchk, decide_eq_true_eq] at hc
  simp only [zstep] at k
  obtain ⟨rfl, hc, hw⟩ := hc
  obtain ⟨q, r, rfl, h1, k⟩ := k
  refine W.objInit hx hb hown (hts _ (zin_mem hw)) (hts _ zobjw.1) (hts _ zobjw.2) rfl (by show arr.size = _; rw [hL.2.1, hml]) rfl hc (by omega) ?_ (k hu hv H locs arr hP hS hL)
  have := zmap_sum r
  show 2 * 0 + _ + 12 ≤ _
  omega
set_option maxHeartbeats 1000000 in
theorem zs_44 (C : zCx p l R s m args meth c D cy A mc ms d y) (hc : zchk y pc (44, n, a, b, ix, w, z) = true) (k : zstep cl mc ms Q (zWS p l e R s m args below meth c Qf D cy A (zL y) mc ms) (44, n, a, b, ix, w, z) pc ls st h u v) : zWS p l e R s m args below meth c Qf D cy A (zL y) mc ms pc ls st h u v := by
  obtain ⟨⟨hx, hb, hml, hr, hlk, hnm, hown⟩, hts, hF, hA, ⟨hR1, hR2, hR3, hR4⟩, hnt, hex⟩ := C
  have hK := hF.1
  intro hu hv H locs arr hP hS hL
  simp only [zchk, decide_eq_true_eq] at hc
  simp only [zstep] at k
  obtain ⟨rfl, ha, hc, hw⟩ := hc
  obtain ⟨N, I1, p1, I2, p2, r, m1, f, m2, g, rfl, h1, h2, h3, h4, h5, h6, h7, h8, h9, k⟩ := k
  obtain ⟨L, hP0, hD, hdom⟩ := hP
  obtain ⟨k1, hk1, hk1'⟩ := zpl_at (cy := cy) hdom h3
  obtain ⟨k2, hk2, hk2'⟩ := zpl_at (cy := cy) hdom h4
  have hsum := zmap_sum r
  have h13 : nativeFrameWords "java/lang/System" "arraycopy" 5 = 7 := by decide +kernel
  have hloc : ((r.map zval).map fun v => v.category).sum + (nativeFrameWords "java/lang/System" "arraycopy" 5 + 11) ≤ R.locals := by rw [h13]; omega
  rcases (show a = 0 ∨ a = 1 by omega) with h | h <;> subst h
  · exact va_copyi hx hb (by rw [hml, hL.2.1]) hown (hts _ (zin_mem hw)) (hts _ zcpyw.1) (hts _ zcpyw.2.1) (hts _ zcpyw.2.2) hK hP0 hD hS k1 k2 0 0 hk1' hk2' rfl rfl rfl h5 h6 h7 h8 h9 h2 (by omega) hloc hc (fun H1 locs1 g1 g2 g3 => k hu hv H1 locs1 arr (zRep.set (zaI 0 m2 (va_cpy f g I1.toNatClampNeg I2.toNatClampNeg N.toNatClampNeg)) hD hdom h4 hk2 g1 g2) g3 hL)
  · exact va_copyi hx hb (by rw [hml, hL.2.1]) hown (hts _ (zin_mem hw)) (hts _ zcpyw.1) (hts _ zcpyw.2.1) (hts _ zcpyw.2.2) hK hP0 hD hS k1 k2 1 1 hk1' hk2' rfl rfl rfl h5 h6 h7 h8 h9 h2 (by omega) hloc hc (fun H1 locs1 g1 g2 g3 => k hu hv H1 locs1 arr (zRep.set (zaI 1 m2 (va_cpy f g I1.toNatClampNeg I2.toNatClampNeg N.toNatClampNeg)) hD hdom h4 hk2 g1 g2) g3 hL)
set_option maxHeartbeats 1000000 in
theorem zs_45 (C : zCx p l R s m args meth c D cy A mc ms d y) (hc : zchk y pc (45, n, a, b, ix, w, z) = true) (k : zstep cl mc ms Q (zWS p l e R s m args below meth c Qf D cy A (zL y) mc ms) (45, n, a, b, ix, w, z) pc ls st h u v) : zWS p l e R s m args below meth c Qf D cy A (zL y) mc ms pc ls st h u v := by
  obtain ⟨⟨hx, hb, hml, hr, hlk, hnm, hown⟩, hts, hF, hA, ⟨hR1, hR2, hR3, hR4⟩, hnt, hex⟩ := C
  have hK := hF.1
  intro hu hv H locs arr hP hS hL
  simp only [zchk, decide_eq_true_eq] at hc
  simp only [zstep] at k
  obtain ⟨rfl, hc, hw⟩ := hc
  obtain ⟨y1, x, r, rfl, h1, k⟩ := k
  have hsum := zmap_sum r
  exact va_mmin hx hb (by rw [hml, hL.2.1]) hown (hts _ (zin_mem hw)) (hts _ zminw.1) (hts _ zminw.2.1) (hts _ zminw.2.2) (by omega) (by omega) (by omega) (by omega) hc (k hu hv H locs arr hP hS hL)
end
end
section
/-! Calls, returns, throws; every run of the pure machine is a contract of the real one. -/
def zrm (d mc ms : Nat) : Room := { frames := d + 7, cells := mc, slots := ms, locals := 60 * d + 200 }
def zws (j : Nat) : List Cond := Cond.code (zN j) (zC j) (zL j) (zRt j) :: zTBL
def zPc (D : va_G) (cy : Nat → ClassId) (A : Nat → Prop) (as : List zV) (h : zH) : Array Value → State → Prop := fun a U => a = (as.map zval).toArray ∧ zRep D cy A h U.heap ∧ zFix D cy A U ∧ ∀ q, U.heap.size ≤ q → A q
def zQc (D : va_G) (cy : Nat → ClassId) (A : Nat → Prop) (Q : zQ) : Array Value → State → Outcome → State → Prop := fun _ st o t => ∃ r h', o = .returned (Option.map zval r) ∧ Q h' (.inl r) ∧ zRep D cy A h' t.heap ∧ va_F A st t
def zXc (D : va_G) (cy : Nat → ClassId) (A : Nat → Prop) (Q : zQ) : String → State → State → Prop := fun E st t => ∃ k h', k < 4 ∧ E = zexc k ∧ Q h' (.inr k) ∧ zRep D cy A h' t.heap ∧ va_F A st t
def zIH (l : Launch) (D : va_G) (cy : Nat → ClassId) (A : Nat → Prop) (d : Nat) : Prop := ∀ j as h mc ms Q, j < 152 → zCall d j as h mc ms Q → vx_Met l (zN j) (zws j) (zrm d mc ms) (zPc D cy A as h) (zQc D cy A Q) (zXc D cy A Q) mc ms A
theorem zMet_of {l : Launch} {y : MethodName} {ws : List Cond} {rm : Room} {Pc : Array Value → State → Prop} {Qc : Array Value → State → Outcome → State → Prop} {XC : String → State → State → Prop} {mc ms : Nat} {free : Addr → Prop} (hM : vx_Met l y ws rm Pc Qc XC mc ms free) (hX : ∀ E st t, ¬ XC E st t) : Met l y ws rm Pc Qc mc ms free := by
  intro p e h1 h2 h3 s m args below h4 h5 h6 h7
  obtain ⟨n, o, g1, g2, g3, g4⟩ := hM p e h1 h2 h3 s m args below h4 h5 h6 h7
  refine ⟨n, o, g1, g2, g3, ?_⟩
  rcases g4 with g4 | ⟨q, -, E, ce, L, g5, -⟩
  · exact g4
  · exact absurd g5 (hX _ _ _)
theorem zFix.blind {D : va_G} {cy : Nat → ClassId} {A : Nat → Prop} {U : State} {g : JFrame} {mk : MethodId} {a : Array Value} (h : zFix D cy A U) : zFix D cy A (U.calling g mk a) :=
  ⟨va_K.moved (u := U) (U := U.calling g mk a) (Vm.Alike.refl U.vm) h.1, fun q hq => va_Nw.same rfl (rfl : U.vm = (U.calling g mk a).vm) (h.2.1 q hq), fun k h1 h2 => va_AO.moved (u := U) (U := U.calling g mk a) (Vm.Alike.refl U.vm) (h.2.2.1 k h1 h2), vx_Zq.moved (u := U) (U := U.calling g mk a) (Vm.Alike.refl U.vm) h.2.2.2.1, vx_Zq.moved (u := U) (U := U.calling g mk a) (Vm.Alike.refl U.vm) h.2.2.2.2.1, fun k hk => va_Nw.same rfl (rfl : U.vm = (U.calling g mk a).vm) (h.2.2.2.2.2.1 k hk), fun x hx => va_Nw.same rfl (rfl : U.vm = (U.calling g mk a).vm) (h.2.2.2.2.2.2 x hx)⟩
theorem zblind {D : va_G} {cy : Nat → ClassId} {A : Nat → Prop} {as : List zV} {h : zH} : FrameBlind (zPc D cy A as h) := fun a U g mk ⟨q1, q2, q3, q4⟩ => ⟨q1, q2, q3.blind, q4⟩
section
variable {p : Program} {l : Launch} {e : Env} {R : Room} {s : State} {m : MethodId} {args : Array Value} {below : List Frame} {meth : Method} {c : Code} {Qf : State → Prop} {D : va_G} {cy : Nat → ClassId} {A : Nat → Prop} {mc ms d y : Nat} {cl : Nat → List zV → zH → Nat → Nat → zQ → Prop} {Q : zQ} {n a b ix w : Nat} {z : Int} {pc : Nat} {ls : List (Option zV)} {st : List zV} {h : zH} {u v : Nat}
theorem zafter {H : Heap} {locs : List Loc} {arr : Array Slot} {r st0 : List Value} {rz : List zV} {mc' ms' : Nat} {av : Array Value} {X : zX} (hr : va_Run p l e R s m args below meth c H locs u v mc' ms' (F0 m pc arr st0) r (zQc D cy A (zaft X (pc + 3) ls rz (u + mc') (v + ms')) av) A) (hS : va_S A s.heap H locs)
    (kk : ∀ (o : Option zV) (h1 : zH) (H1 : Heap) (locs1 : List Loc), zaft X (pc + 3) ls rz (u + mc') (v + ms') h1 (.inl o) → zRep D cy A h1 H1 → va_S A s.heap H1 locs1 → W p l e R s m args below meth c H1 locs1 (u + mc') (v + ms') Qf (F0 m (pc + 3) arr ((Option.map zval o).toList ++ r))) :
    W p l e R s m args below meth c H locs u v Qf (F0 m pc arr st0) := by
  intro T hT X0
  obtain ⟨vv, st₀, t, T', L, h0, X', hL, e1, e2, ⟨o, h1, ho, hq, hrep, hz, hk⟩, stp⟩ := hr T hT X0
  have ho : vv = Option.map zval o := by cases ho; rfl
  subst ho
  rw [h0] at hz hk
  obtain ⟨t2, a1, b1⟩ := kk o h1 T'.heap (locs ++ L) hq (by rw [e1]; exact hrep)
    ⟨Nat.le_trans hS.1 (by rw [e1]; exact hz), fun q g1 g2 => by rw [e1, hk q (Nat.lt_of_lt_of_le g1 hS.1) g2]; exact hS.2.1 q g1 g2, fun q hq => by
      rcases List.mem_append.mp hq with h | h
      · exact hS.2.2 q h
      · exact hL q h⟩ T' rfl X'
  exact ⟨t2, stp t2 a1, b1⟩
theorem zmck_spec {j : Nat} (hj : zmck j = true) : plainName (zN j).cls = true ∧ ((zN j).cls ≠ "java/lang/invoke/MethodHandle" ∧ (zN j).cls ≠ "java/lang/invoke/VarHandle") ∧ (parseMethodDescriptor (zN j).desc).map (fun d => d.parameters.length) = some (zn j) ∧ zL j ≤ 40 ∧ Cond.code (zN j) (zC j) (zL j) (zRt j) ∈ zTBL ∧ Cond.initialized (zN j).cls ∈ zTBL ∧ (zK j = 0 → Cond.instanceMethod (zN j) ∈ zTBL ∧ Cond.selects (zN j).cls (zN j) (zN j) ∈ zTBL ∧ zci j < 11 ∧ (zcls (zci j)).1 = (zN j).cls) ∧ (zK j = 1 → Cond.static (zN j) ∈ zTBL) ∧ (zK j = 2 → Cond.instanceMethod (zN j) ∈ zTBL ∧ (zN j).name = "<init>" ∧ zRt j = none) := by
  unfold zmck at hj
  simp only [Bool.and_eq_true, decide_eq_true_eq] at hj
  obtain ⟨⟨⟨⟨⟨⟨h1, h2⟩, h3⟩, h4⟩, h5⟩, h6⟩, h7⟩ := hj
  refine ⟨h1, h2, h3, h4, zin_mem h5, zin_mem h6, fun q => ?_, fun q => ?_, fun q => ?_⟩
  · rw [q] at h7
    simp only [Bool.and_eq_true, decide_eq_true_eq] at h7
    exact ⟨zin_mem h7.1.1, zin_mem h7.1.2, h7.2⟩
  · rw [q] at h7
    exact zin_mem h7
  · rw [q] at h7
    simp only [Bool.and_eq_true, decide_eq_true_eq] at h7
    exact ⟨zin_mem h7.1, h7.2⟩
theorem zgoodTBL : GoodIn zTBL zTBL := fun w h => ⟨h, zTBL_good h⟩
theorem zgood_ws {j : Nat} (h : Cond.code (zN j) (zC j) (zL j) (zRt j) ∈ zTBL) : GoodIn zTBL (zws j) := fun w hw => by
  rcases List.mem_cons.mp hw with q | q
  · subst q; exact ⟨h, zTBL_good h⟩
  · exact ⟨q, zTBL_good q⟩
set_option maxHeartbeats 1000000 in
theorem zs_35 (hck : ∀ j, j < 152 → zmck j = true) (IH : zIH l D cy A d) (C : zCx p l R s m args meth c D cy A mc ms d y) (hc : zchk y pc (35, n, a, b, ix, w, z) = true) (k : zstep (zCall d) mc ms Q (zWS p l e R s m args below meth c Qf D cy A (zL y) mc ms) (35, n, a, b, ix, w, z) pc ls st h u v) : zWS p l e R s m args below meth c Qf D cy A (zL y) mc ms pc ls st h u v := by
  obtain ⟨⟨hx, hb, hml, hr, hlk, hnm, hown⟩, hts, hF, hA, ⟨hR1, hR2, hR3, hR4⟩, hnt, hex⟩ := C
  have hK := hF.1
  intro hu hv H locs arr hP hS hL
  simp only [zchk, decide_eq_true_eq] at hc
  simp only [zstep] at k
  obtain ⟨rfl, hj, hc⟩ := hc
  obtain ⟨as, r, mc', ms', rfl, hlen, hsum, h1, h2, hrc, k⟩ := k
  have hM := zMet_of (IH a as h mc' ms' _ hj k) (fun E st t ⟨k, h', _, _, q, _⟩ => q)
  obtain ⟨c1, c2, c3, c4, c5, c6, c7, c8, c9⟩ := zmck_spec (hck a hj)
  have hW : 2 * (F0 m pc arr ((as.reverse ++ r).map zval)).monitorRoom + ((r.map zval).map fun v => v.category).sum ≤ 8 := by
    rw [zmap_sum]
    show 2 * 0 + _ ≤ 8
    omega
  have hroom : (zrm d mc' ms').frames + 1 ≤ R.frames ∧ 8 + (zL a + 11) + (zrm d mc' ms').locals ≤ R.locals := by
    rw [hR3, hR4]
    show d + 7 + 1 ≤ d + 8 ∧ 8 + (zL a + 11) + (60 * d + 200) ≤ 60 * d + 260
    omega
  have hfit : u + mc' ≤ R.cells ∧ v + ms' ≤ R.slots := by rw [hR1, hR2]; exact ⟨h1, h2⟩
  have pre : ∀ U : State, U.heap = H → s.WarmedH U.vm → zPc D cy A as h (as.map zval).toArray U := fun U hU hW => ⟨rfl, by rw [hU]; exact hP, hF.to hW (fun a g1 g2 => by rw [hU]; exact hS.2.1 a g1 g2), fun q hq => hA q (Nat.le_trans hS.1 (by rw [← hU]; exact hq))⟩
  have S : CallFix p m c (zC y) (zL y) s args zTBL (zown y) := ⟨hx, hb, hml, hown, hts⟩
  have fin : ∀ (av : Array Value), va_Run p l e R s m args below meth c H locs u v mc' ms' (F0 m pc arr ((as.reverse ++ r).map zval)) (r.map zval) (zQc D cy A (zaft (zWS p l e R s m args below meth c Qf D cy A (zL y) mc ms) (pc + 3) ls r (u + mc') (v + ms')) av) A → W p l e R s m args below meth c H locs u v Qf (F0 m pc arr ((as.reverse ++ r).map zval)) := by
    intro av hrun
    refine zafter hrun hS (fun o h1' H1 locs1 hq hrep hS1 => ?_)
    cases o with
    | none => exact hq h1 h2 H1 locs1 arr hrep hS1 hL
    | some v1 => exact hq h1 h2 H1 locs1 arr hrep hS1 hL
  have hstk : (as.reverse ++ r).map zval = (as.map zval).reverse ++ r.map zval := by rw [List.map_append, List.map_reverse]
  rcases hc with ⟨hz, hk, rfl, hc, hw⟩ | ⟨hz, hk, rfl, hc, hw⟩ | ⟨hz, hk, rfl, hc, hw⟩ | ⟨hz, hk, rfl, hc, hw⟩ | ⟨hz, hk, rfl, hc, hw⟩
  · rw [hk] at hrc
    obtain ⟨q, t, fs, rfl, hq⟩ := hrc
    obtain ⟨c71, c72, c73, c74⟩ := c7 hk
    have hcw : CallW R s args (zown y) (zN a).cls ix (zN a) (zC a) (zL a) (zRt a) (zws a) (zrm d mc' ms') mc' ms' (zn a) := cwV (zn a) hts (fun w' h' => by
      unfold wsV at h'
      rcases List.mem_append.mp h' with h' | h'
      · have : w' ∈ zTBL := by
          simp only [List.mem_cons, List.not_mem_nil, or_false] at h'
          rcases h' with h' | h' | h' | h' <;> subst h'
          · exact zin_mem hw
          · exact c71
          · exact c72
          · exact c6
        exact ⟨this, zTBL_good this⟩
      · exact zgood_ws c5 w' h') rfl rfl rfl ⟨rfl, c2.1, c2.2, c3⟩ hroom
    obtain ⟨L, hP0, hD, hdom⟩ := hP
    obtain ⟨k0, hk0, hk0'⟩ := zpl_at (cy := cy) hdom hq
    have hrv := va_recv hK hP0 (zcls_at c73) hk0'
    rw [c74] at hrv
    exact fin _ (va_runV (As := t.map zval) (b := q) S hM hcw ⟨zblind, hrv, pre⟩ rfl (by simpa using hlen) hL.2.1 (by show ((zR (some q) :: t).reverse ++ r).map zval = _; rw [hstk]; simp [zval, va_rf]) hW hc hfit)
  · have hcw : CallB R s args (zown y) ix (zN a) (zC a) (zL a) (zRt a) (zws a) (zrm d mc' ms') mc' ms' (zn a) ∧ (Cond.static (zN a)).before args s = true := va_cwS (zn a) hts (fun w' h' => by
      unfold va_wsS at h'
      rcases List.mem_append.mp h' with h' | h'
      · have : w' ∈ zTBL := by
          simp only [List.mem_cons, List.not_mem_nil, or_false] at h'
          rcases h' with h' | h' | h' <;> subst h'
          · exact zin_mem hw
          · exact c8 hk
          · exact c6
        exact ⟨this, zTBL_good this⟩
      · exact zgood_ws c5 w' h') rfl rfl rfl ⟨c2.1, c2.2, c3⟩ hroom
    exact fin _ (va_runS (As := as.map zval) S hM hcw ⟨zblind, pre⟩ rfl (by simpa using hlen) hL.2.1 hstk hW hc hfit)
  · rw [hk] at hrc
    obtain ⟨q, t, rfl⟩ := hrc
    obtain ⟨c91, c92, c93⟩ := c9 hk
    have c5' := c5
    rw [c93] at c5'
    have hcw := cwI (R := R) (own := zown y) (index := ix) (y := zN a) (bytes := zC a) (maxL := zL a) (rm := zrm d mc' ms') (mc := mc') (ms := ms') (ws := zws a) (ws' := zTBL) (zn a) hts (zgood_ws c5) (by unfold zws; rw [c93]) rfl rfl (hts _ c6) (hts _ (zin_mem hw)) (hts _ c91) c92 ⟨c2.1, c2.2, c3⟩ hroom
    exact fin _ (va_runI (As := t.map zval) (b := q) S hM hcw ⟨zblind, pre⟩ rfl (by simpa using hlen) hL.2.1 (by show ((zR (some q) :: t).reverse ++ r).map zval = _; rw [hstk]; simp [zval, va_rf]) hW hc hfit)
  · have hcw := va_cnB (R := R) (host := "VersionSolver") (own := zown y) (index := ix) (y := zN a) (bytes := zC a) (maxL := zL a) (ret := zRt a) (rm := zrm d mc' ms') (mc := mc') (ms := ms') (ws := zws a) (ws' := zTBL) (zn a) hts (zgood_ws c5) rfl rfl rfl (hF.2.1 _ hw) (hts _ c6) ⟨c2.1, c2.2, c3⟩ hroom
    exact fin _ (va_runSN (As := as.map zval) S hM ⟨hcw, hts _ (c8 hk), trivial⟩ ⟨zblind, pre⟩ rfl (by simpa using hlen) hL.2.1 hstk hW hc hfit)
  · rw [hk] at hrc
    obtain ⟨q, t, rfl⟩ := hrc
    obtain ⟨c91, c92, c93⟩ := c9 hk
    have hcw := va_cnB (R := R) (host := "VersionSolver") (own := zown y) (index := ix) (y := zN a) (bytes := zC a) (maxL := zL a) (ret := none) (rm := zrm d mc' ms') (mc := mc') (ms := ms') (ws := zws a) (ws' := zTBL) (zn a) hts (zgood_ws c5) (by unfold zws; rw [c93]) rfl rfl (hF.2.1 _ hw) (hts _ c6) ⟨c2.1, c2.2, c3⟩ hroom
    exact fin _ (va_runIN (As := t.map zval) (b := q) S hM ⟨hcw, c92, hts _ c91⟩ ⟨zblind, pre⟩ rfl (by simpa using hlen) hL.2.1 (by show ((zR (some q) :: t).reverse ++ r).map zval = _; rw [hstk]; simp [zval, va_rf]) hW hc hfit)
end
end
section
/-! Returns and throws; the contract of every method out of a run of the pure machine. -/
def zenm : List String := ["java/lang/RuntimeException", "java/lang/Exception"]
theorem zthr_good {k : Nat} (hk : k < 4) : ∀ w ∈ (vx_at0 RX9 (zexi k) (zexc k) zenm).filter goodWord, w ∈ zTBL := by
  have : ∀ k, k < 4 → ∀ w ∈ (vx_at0 RX9 (zexi k) (zexc k) zenm).filter goodWord, w ∈ zTBL := by decide +kernel
  exact this k hk
theorem zthr_bad {k : Nat} (hk : k < 4) : ∀ w ∈ (vx_at0 RX9 (zexi k) (zexc k) zenm).filter (fun w => !goodWord w), w ∈ Cond.castable (zexc k) (zexc k) :: zDecl.map Cond.declares := by
  have : ∀ k, k < 4 → ∀ w ∈ (vx_at0 RX9 (zexi k) (zexc k) zenm).filter (fun w => !goodWord w), w ∈ Cond.castable (zexc k) (zexc k) :: zDecl.map Cond.declares := by decide +kernel
  exact this k hk
theorem zthr_ot {k : Nat} (hk : k < 4) : ∀ w ∈ vx_at0 RX9 (zexi k) (zexc k) zenm, vx_ot w = true := by
  have : ∀ k, k < 4 → ∀ w ∈ vx_at0 RX9 (zexi k) (zexc k) zenm, vx_ot w = true := by decide +kernel
  exact this k hk
theorem zthr_w {k : Nat} (hk : k < 4) : Cond.initialized (zexc k) ∈ zTBL ∧ Bundle.fit (zexc k) = true ∧ vx_ot (Cond.initialized (zexc k)) = true := by
  have : ∀ k, k < 4 → Cond.initialized (zexc k) ∈ zTBL ∧ Bundle.fit (zexc k) = true ∧ vx_ot (Cond.initialized (zexc k)) = true := by decide +kernel
  exact this k hk
section
variable {p : Program} {l : Launch} {e : Env} {R : Room} {s : State} {m : MethodId} {args : Array Value} {below : List Frame} {meth : Method} {c : Code} {Qf : State → Prop} {D : va_G} {cy : Nat → ClassId} {A : Nat → Prop} {mc ms d y : Nat} {cl : Nat → List zV → zH → Nat → Nat → zQ → Prop} {Q : zQ} {n a b ix w : Nat} {z : Int} {pc : Nat} {ls : List (Option zV)} {st : List zV} {h : zH} {u v : Nat}
set_option maxHeartbeats 1000000 in
theorem zs_36 (C : zCx p l R s m args meth c D cy A mc ms d y) (hc : zchk y pc (36, n, a, b, ix, w, z) = true) (k : zstep cl mc ms Q (zWS p l e R s m args below meth c (vx_MQ below (zQc D cy A Q) (zXc D cy A Q) args s mc ms A) D cy A (zL y) mc ms) (36, n, a, b, ix, w, z) pc ls st h u v) : zWS p l e R s m args below meth c (vx_MQ below (zQc D cy A Q) (zXc D cy A Q) args s mc ms A) D cy A (zL y) mc ms pc ls st h u v := by
  obtain ⟨⟨hx, hb, hml, hr, hlk, hnm, hown⟩, hts, hF, hA, ⟨hR1, hR2, hR3, hR4⟩, hnt, hex⟩ := C
  intro hu hv H locs arr hP hS hL
  simp only [zchk, Bool.and_eq_true, decide_eq_true_eq] at hc
  simp only [zstep] at k
  obtain ⟨v1, rfl, h1, k⟩ := k
  obtain ⟨ht, hc⟩ := hc
  refine W.widen (k := mc) (n := ms) hu hv (vx_ret ?_)
  have hq : ∀ t : State, t.heap = H → s.WarmedH t.vm → zQc D cy A Q args s (.returned (some (zval v1))) t := fun t ht _ => ⟨some v1, h, rfl, k, by rw [ht]; exact hP, hS.F ht⟩
  rcases hc with ⟨ha, hc⟩ | ⟨rfl, hc⟩ | ⟨rfl, hc⟩
  · rcases (show a = 0 ∨ a = 1 by omega) with h9 | h9 <;> subst h9
    · obtain ⟨x, rfl⟩ := h1
      exact W.iret hx hb (by rw [hr]; exact of_decide_eq_true ht) hq hS.2.2 hc hlk
    · obtain ⟨x, rfl, h2⟩ := h1
      exact W.zret hx hb (by rw [hr]; exact of_decide_eq_true ht) (zb01 h2).1 hq hS.2.2 hc hlk
  · obtain ⟨x, rfl⟩ := h1
    exact W.lret hx hb (by rw [hr]; exact of_decide_eq_true ht) hq hS.2.2 hc hlk
  · obtain ⟨x, rfl⟩ := h1
    have hrt : ∃ rt, zRt y = some rt ∧ ((∃ n, rt = .object n) ∨ ∃ t, rt = .array t) := by
      cases hz : zRt y with
      | none => rw [hz] at ht; simp [zrty] at ht
      | some t =>
        rw [hz] at ht
        cases t with
        | object n => exact ⟨_, rfl, Or.inl ⟨n, rfl⟩⟩
        | array n => exact ⟨_, rfl, Or.inr ⟨n, rfl⟩⟩
        | _ => simp [zrty] at ht
    obtain ⟨rt, e1, e2⟩ := hrt
    exact W.aret hx hb (by rw [hr]; exact e1) e2 (by cases x with
      | none => exact Or.inl rfl
      | some x => exact Or.inr ⟨x, rfl⟩) hq hS.2.2 hc hlk
theorem zs_37 (C : zCx p l R s m args meth c D cy A mc ms d y) (hc : zchk y pc (37, n, a, b, ix, w, z) = true) (k : zstep cl mc ms Q (zWS p l e R s m args below meth c (vx_MQ below (zQc D cy A Q) (zXc D cy A Q) args s mc ms A) D cy A (zL y) mc ms) (37, n, a, b, ix, w, z) pc ls st h u v) : zWS p l e R s m args below meth c (vx_MQ below (zQc D cy A Q) (zXc D cy A Q) args s mc ms A) D cy A (zL y) mc ms pc ls st h u v := by
  obtain ⟨⟨hx, hb, hml, hr, hlk, hnm, hown⟩, hts, hF, hA, ⟨hR1, hR2, hR3, hR4⟩, hnt, hex⟩ := C
  intro hu hv H locs arr hP hS hL
  simp only [zchk, decide_eq_true_eq] at hc
  simp only [zstep] at k
  obtain ⟨rfl, k⟩ := k
  refine W.widen (k := mc) (n := ms) hu hv (vx_ret ?_)
  exact W.vret hx hb (by rw [hr]; exact hc.1) (fun t ht _ => ⟨none, h, rfl, k, by rw [ht]; exact hP, hS.F ht⟩) hS.2.2 hc.2 hlk
theorem zs_38 (C : zCx p l R s m args meth c D cy A mc ms d y) (hc : zchk y pc (38, n, a, b, ix, w, z) = true) (k : zstep cl mc ms Q (zWS p l e R s m args below meth c (vx_MQ below (zQc D cy A Q) (zXc D cy A Q) args s mc ms A) D cy A (zL y) mc ms) (38, n, a, b, ix, w, z) pc ls st h u v) : zWS p l e R s m args below meth c (vx_MQ below (zQc D cy A Q) (zXc D cy A Q) args s mc ms A) D cy A (zL y) mc ms pc ls st h u v := by
  obtain ⟨⟨hx, hb, hml, hr, hlk, hnm, hown⟩, hts, hF, hA, ⟨hR1, hR2, hR3, hR4⟩, hnt, hex⟩ := C
  intro hu hv H locs arr hP hS hL
  simp only [zchk, decide_eq_true_eq] at hc
  simp only [zstep] at k
  obtain ⟨h1, h2, h3, k⟩ := k
  obtain ⟨ha, rfl, ho, d0, d3, d4, d7, hw⟩ := hc
  have hsum := zmap_sum st
  have hown' := hown
  have hw' := zin_mem hw
  rw [ho] at hown' hw'
  refine vx_throw0 (own := RX9) (cls := zexc a) (names := zenm) (A := A) hx hb hnt hown' (zthr_w ha).2.1 (by decide +kernel) (hts _ hw') (hts _ (zthr_w ha).1)
    (vx_hat (fun w q => hts _ (zthr_good ha w q)) (zthr_bad ha) (fun w q => by
      rcases List.mem_cons.mp q with q | q
      · rw [q]; exact va_Nw.use rfl (hF.2.2.2.2.2.1 a ha)
      · obtain ⟨x, q1, q2⟩ := List.mem_map.mp q
        rw [← q2]; exact va_Nw.use rfl (hF.2.2.2.2.2.2 x q1))) ?_ hF.2.2.2.1 hF.2.2.2.2.1 hS (by rw [hL.2.1, hml]) d0 d3 d4 d7 (fun x q => (hex x q).elim) ?_ ?_ (by rw [hR1]; exact h1) (by rw [hR2]; exact h2) hlk ?_ hS.2.2 h1 h2
  · intro w' q
    rcases List.mem_cons.mp q with q | q
    · subst q; rfl
    · rcases List.mem_cons.mp q with q | q
      · subst q; exact (zthr_w ha).2.2
      · exact zthr_ot ha w' q
  · show 2 + 3 < R.frames
    omega
  · show _ + (13 * (2 + 1) + 42) ≤ R.locals
    omega
  · intro t _ hz hk
    refine ⟨a, h, ha, rfl, k, ?_, ⟨Nat.le_trans hS.1 hz, fun q g1 g2 => by rw [hk q (Nat.lt_of_lt_of_le g1 hS.1)]; exact hS.2.1 q g1 g2⟩⟩
    obtain ⟨L, hP0, hD, hdom⟩ := hP
    exact ⟨L, hP0.kept (fun k0 q hq => hk q.1 ((hP0 k0 q hq).lt)), hD, hdom⟩
set_option maxHeartbeats 4000000 in
theorem zs_all (hck : ∀ j, j < 152 → zmck j = true) (IH : zIH l D cy A d) (C : zCx p l R s m args meth c D cy A mc ms d y) {o : zOp} (ho : o.1 ≠ 36 ∧ o.1 ≠ 37 ∧ o.1 ≠ 38) (hc : zchk y pc o = true) (k : zstep (zCall d) mc ms Q (zWS p l e R s m args below meth c Qf D cy A (zL y) mc ms) o pc ls st h u v) : zWS p l e R s m args below meth c Qf D cy A (zL y) mc ms pc ls st h u v := by
  obtain ⟨kk, n, a, b, ix, w, z⟩ := o
  match kk, ho, hc, k with
  | 0, _, hc, k => exact zs_0 C hc k
  | 1, _, hc, k => exact zs_1 C hc k
  | 2, _, hc, k => exact zs_2 C hc k
  | 3, _, hc, k => exact zs_3 C hc k
  | 4, _, hc, k => exact zs_4 C hc k
  | 5, _, hc, k => exact zs_5 C hc k
  | 6, _, hc, k => exact zs_6 C hc k
  | 7, _, hc, k => exact zs_7 C hc k
  | 8, _, hc, k => exact zs_8 C hc k
  | 9, _, hc, k => exact zs_9 C hc k
  | 10, _, hc, k => exact zs_10 C hc k
  | 11, _, hc, k => exact zs_11 C hc k
  | 12, _, hc, k => exact zs_12 C hc k
  | 13, _, hc, k => exact zs_13 C hc k
  | 14, _, hc, k => exact zs_14 C hc k
  | 15, _, hc, k => exact zs_15 C hc k
  | 16, _, hc, k => exact zs_16 C hc k
  | 17, _, hc, k => exact zs_17 C hc k
  | 18, _, hc, k => exact zs_18 C hc k
  | 19, _, hc, k => exact zs_19 C hc k
  | 20, _, hc, k => exact zs_20 C hc k
  | 21, _, hc, k => exact zs_21 C hc k
  | 22, _, hc, k => exact zs_22 C hc k
  | 23, _, hc, k => exact zs_23 C hc k
  | 24, _, hc, k => exact zs_24 C hc k
  | 25, _, hc, k => exact zs_25 C hc k
  | 26, _, hc, k => exact zs_26 C hc k
  | 27, _, hc, k => exact zs_27 C hc k
  | 28, _, hc, k => exact zs_28 C hc k
  | 29, _, hc, k => exact zs_29 C hc k
  | 30, _, hc, k => exact zs_30 C hc k
  | 31, _, hc, k => exact zs_31 C hc k
  | 32, _, hc, k => exact zs_32 C hc k
  | 33, _, hc, k => exact zs_33 C hc k
  | 34, _, hc, k => exact zs_34 C hc k
  | 35, _, hc, k => exact zs_35 hck IH C hc k
  | 36, ho, _, _ => exact absurd rfl ho.1
  | 37, ho, _, _ => exact absurd rfl ho.2.1
  | 38, ho, _, _ => exact absurd rfl ho.2.2
  | 39, _, hc, k => exact zs_39 C hc k
  | 40, _, hc, k => exact zs_40 C hc k
  | 41, _, _, k => exact k.elim
  | 42, _, _, k => exact k.elim
  | 43, _, _, k => exact k.elim
  | 44, _, hc, k => exact zs_44 C hc k
  | 45, _, hc, k => exact zs_45 C hc k
  | n + 46, _, _, k => exact k.elim
end
theorem zlookup_mem : ∀ (T : List (Nat × zOp)) (pc : Nat) (o : zOp), T.lookup pc = some o → (pc, o) ∈ T
  | [], _, _, h => by cases h
  | (a, b) :: t, pc, o, h => by
    rw [List.lookup_cons] at h
    by_cases hq : pc = a
    · subst hq
      simp at h
      subst h
      exact List.mem_cons_self
    · have : (pc == a) = false := by simpa using hq
      rw [this] at h
      exact List.mem_cons_of_mem _ (zlookup_mem t pc o h)
theorem zargs_has : ∀ (as : List zV) (i : Nat) (v : zV), (zargs as)[i]? = some (some v) → ∀ k, (k + i, zval v) ∈ lv_args k (as.map zval)
  | [], _, _, h, _ => by simp [zargs] at h
  | x :: t, i, v, h, k => by
    rcases x with x | x | x
    · cases i with
      | zero =>
        have h : zI x = v := by simpa [zargs] using h
        subst h
        exact List.mem_cons_self
      | succ i =>
        have h : (zargs t)[i]? = some (some v) := by simpa [zargs] using h
        have := zargs_has t i v h (k + 1)
        rw [show k + 1 + i = k + (i + 1) by omega] at this
        exact List.mem_cons_of_mem _ this
    · cases i with
      | zero =>
        have h : zJ x = v := by simpa [zargs] using h
        subst h
        exact List.mem_cons_self
      | succ i =>
        cases i with
        | zero => simp [zargs] at h
        | succ i =>
          have h : (zargs t)[i]? = some (some v) := by simpa [zargs] using h
          have := zargs_has t i v h (k + 2)
          rw [show k + 2 + i = k + (i + 1 + 1) by omega] at this
          exact List.mem_cons_of_mem _ this
    · cases i with
      | zero =>
        have h : zR x = v := by simpa [zargs] using h
        subst h
        exact List.mem_cons_self
      | succ i =>
        have h : (zargs t)[i]? = some (some v) := by simpa [zargs] using h
        have := zargs_has t i v h (k + 1)
        rw [show k + 1 + i = k + (i + 1) by omega] at this
        have h1 : (Value.category (zval (zR x))) ≠ 2 := by cases x <;> simp [zval, va_rf, Value.category]
        refine List.mem_cons_of_mem _ ?_
        rw [if_neg h1]
        exact this
theorem zargs_len : ∀ (as : List zV), (lg_sl (as.map zval)).length = (zargs as).length
  | [] => rfl
  | x :: t => by
    have ih := zargs_len t
    rcases x with x | x | (_ | x) <;> simp [zargs, lg_sl, zval, va_rf, Value.category] at ih ⊢ <;> exact ih
theorem zent_has {as : List zV} {n : Nat} (h : (zargs as).length ≤ n) : zhas ((lg_sl (as.map zval) ++ List.replicate (n - (lg_sl (as.map zval)).length) Slot.unset).toArray) n (zent n as) := by
  have h1 := lv_entry (as.map zval) (n := n) (by rw [zargs_len]; exact h)
  refine ⟨by simp [zent]; omega, h1.1, h1.2.1, fun i v hi => ?_⟩
  have hi : (zargs as)[i]? = some (some v) := by
    unfold zent at hi
    by_cases hq : i < (zargs as).length
    · rw [List.getElem?_append_left hq] at hi
      exact hi
    · rw [List.getElem?_append_right (by omega)] at hi
      rw [List.getElem?_replicate] at hi
      split at hi <;> cases hi
  have := h1.2.2 _ (zargs_has as i v hi 0)
  simpa using this
set_option maxHeartbeats 1000000 in
/-- what the pure machine does, the real one does -/
theorem zall (l : Launch) (hnt : l.stackTraces = false) (D : va_G) (cy : Nat → ClassId) (A : Nat → Prop) (hm : ∀ j, j < 152 → zmck j = true) (ht : ∀ j, j < 152 → ztck j = true) : ∀ d, zIH l D cy A d
  | 0 => fun _ _ _ _ _ _ _ k => k.elim
  | d + 1 => by
    have IH := zall l hnt D cy A hm ht d
    intro j as h mc ms Q hj k
    obtain ⟨hlen, k⟩ := k
    obtain ⟨c1, c2, c3, c4, c5, c6, c7, c8, c9⟩ := zmck_spec (hm j hj)
    refine vx_ofW (cc := zC j) (maxL := zL j) (ret := zRt j) c1 rfl ?_
    intro p e s m args below meth c s₁ B hml hex hv
    obtain ⟨rfl, hP, hF, hA⟩ := hv
    have C : zCx p l (headSpec (zws j) (zrm (d + 1) mc ms)).room s m (as.map zval).toArray meth c D cy A mc ms d j := by
      refine ⟨⟨B.exec, B.bytes, hml, B.returns, B.notSynchronized, (name_of_methodNamed B.named B.method).1, findClass_of_methodNamed B.named⟩, fun w hw => atoms_spec (ws := zws j) B.pre w (List.mem_cons_of_mem _ hw), hF, hA, ⟨rfl, rfl, rfl, ?_⟩, hnt, hex⟩
      show 60 * (d + 1) + 200 = 60 * d + 260
      omega
    rw [lg_entry_eq]
    refine k (zWS p l e (headSpec (zws j) (zrm (d + 1) mc ms)).room s m (as.map zval).toArray below meth c (vx_MQ below (zQc D cy A Q) (zXc D cy A Q) (as.map zval).toArray s mc ms A) D cy A (zL j) mc ms) ?_ (Nat.zero_le _) (Nat.zero_le _) s.heap [] _ hP va_S.rf (zent_has hlen)
    intro pc ls st h u v ⟨o, ho, hs⟩
    have hck : zchk j pc o = true := List.all_eq_true.mp (ht j hj) (pc, o) (zlookup_mem _ _ _ ho)
    by_cases h6 : o.1 = 36
    · obtain ⟨kk, n, a, b, ix, w, z⟩ := o
      have h6 : kk = 36 := h6
      subst h6
      exact zs_36 C hck hs
    · by_cases h7 : o.1 = 37
      · obtain ⟨kk, n, a, b, ix, w, z⟩ := o
        have h7 : kk = 37 := h7
        subst h7
        exact zs_37 C hck hs
      · by_cases h8 : o.1 = 38
        · obtain ⟨kk, n, a, b, ix, w, z⟩ := o
          have h8 : kk = 38 := h8
          subst h8
          exact zs_38 C hck hs
        · exact zs_all hm IH C ⟨h6, h7, h8⟩ hck hs
end
section
/-! The reference's object and its arrays as one value; the rules of its code over that value. -/
abbrev rA : Type := Nat → Nat → Int32
/-- code, size, at, bad, versions, fileSize, the arrays by their fields' numbers -/
abbrev rS : Type := Nat × Nat × Nat × Bool × Nat × Nat × rA
def bI (b : Bool) : Int32 := if b then 1 else 0
def rset (r : rA) (k i : Nat) (x : Int32) : rA := fun j => if j = k then upd (r k) i x else r j
theorem rset_s (r : rA) (k i : Nat) (x : Int32) : rset r k i x k = upd (r k) i x := by simp [rset]
theorem rset_n (r : rA) {k j : Nat} (i : Nat) (x : Int32) (h : j ≠ k) : rset r k i x j = r j := by simp [rset, h]
/-- which fields are arrays: kind and length -/
def rarr (k : Nat) : Option (Nat × Nat) := match k with
  | 2 => some (1, 160)
  | 5 => some (1, 900)
  | 6 => some (1, 900)
  | 7 => some (1, 900)
  | 8 => some (1, 900)
  | 9 => some (1, 21600)
  | 10 => some (1, 900)
  | 11 => some (1, 900)
  | 12 => some (1, 214)
  | 13 => some (1, 205)
  | 14 => some (1, 41)
  | 16 => some (1, 40)
  | 17 => some (3, 40)
  | 18 => some (1, 41)
  | 19 => some (1, 984)
  | 20 => some (3, 8)
  | 21 => some (1, 8)
  | 22 => some (1, 8)
  | 24 => some (1, 250)
  | 25 => some (1, 328)
  | 26 => some (1, 8)
  | 27 => some (1, 8)
  | 28 => some (3, 8560)
  | 29 => some (3, 8)
  | _ => none
def rfs (qa : Nat → Nat) (s : rS) : List zV := match s with
  | (c, n, a, b, v, f, _) => [zI (nI c), zI (nI n), zR (some (qa 2)), zI (nI a), zI (bI b), zR (some (qa 5)), zR (some (qa 6)), zR (some (qa 7)), zR (some (qa 8)), zR (some (qa 9)), zR (some (qa 10)), zR (some (qa 11)), zR (some (qa 12)), zR (some (qa 13)), zR (some (qa 14)), zI (nI v), zR (some (qa 16)), zR (some (qa 17)), zR (some (qa 18)), zR (some (qa 19)), zR (some (qa 20)), zR (some (qa 21)), zR (some (qa 22)), zI (nI f), zR (some (qa 24)), zR (some (qa 25)), zR (some (qa 26)), zR (some (qa 27)), zR (some (qa 28)), zR (some (qa 29))]
abbrev rar (s : rS) : rA := s.2.2.2.2.2.2
def rAt (q : Nat) (qa : Nat → Nat) (h : zH) (s : rS) : Prop := h q = some (zO 10 (rfs qa s)) ∧ (∀ k t n, rarr k = some (t, n) → h (qa k) = some (zaI t n (rar s k))) ∧ (∀ k t n, rarr k = some (t, n) → qa k ≠ q) ∧ ∀ k t n k' t' n', rarr k = some (t, n) → rarr k' = some (t', n') → qa k = qa k' → k = k'
/-- what isn't the reference's stays -/
def rFr (q : Nat) (qa : Nat → Nat) (h h' : zH) : Prop := ∀ a, a ≠ q → (∀ k t n, rarr k = some (t, n) → a ≠ qa k) → h' a = h a
theorem rFr.rf {q : Nat} {qa : Nat → Nat} {h : zH} : rFr q qa h h := fun _ _ _ => rfl
theorem rFr.tr {q : Nat} {qa : Nat → Nat} {h h1 h2 : zH} (a : rFr q qa h h1) (b : rFr q qa h1 h2) : rFr q qa h h2 := fun x p1 p2 => (b x p1 p2).trans (a x p1 p2)
def rPost (q : Nat) (qa : Nat → Nat) (h : zH) (Q : rS → (Option zV ⊕ Nat) → Prop) : zQ := fun h' o => ∃ s, rAt q qa h' s ∧ rFr q qa h h' ∧ Q s o
def rEv (q : Nat) (qa : Nat → Nat) (d : Nat) (T : List (Nat × zOp)) (Q : rS → (Option zV ⊕ Nat) → Prop) (pc : Nat) (ls : List (Option zV)) (st : List zV) (s : rS) : Prop := ∀ h0 h, rAt q qa h s → rFr q qa h0 h → zEv d T 0 0 (rPost q qa h0 Q) pc ls st h 0 0
def rCall (q : Nat) (qa : Nat → Nat) (d j : Nat) (as : List zV) (s : rS) (Q : rS → (Option zV ⊕ Nat) → Prop) : Prop := ∀ h, rAt q qa h s → zCall d j as h 0 0 (rPost q qa h Q)
/-- a call that answers just v and leaves just s' -/
abbrev rFun (q : Nat) (qa : Nat → Nat) (d j : Nat) (as : List zV) (s s' : rS) (v : Option zV) : Prop := rCall q qa d j as s (fun t o => t = s' ∧ o = .inl v)
section
variable {q : Nat} {qa : Nat → Nat} {d : Nat} {T : List (Nat × zOp)} {Q : rS → (Option zV ⊕ Nat) → Prop} {pc : Nat} {ls : List (Option zV)} {st : List zV} {s : rS} {n a b ix w : Nat} {z : Int}
theorem r_ild {x : Int32} (ho : T.lookup pc = some (0, n, a, b, ix, w, z)) (hl : ls[a]? = some (some (zI x))) (k : rEv q qa d T Q (pc + n) ls (zI x :: st) s) : rEv q qa d T Q pc ls st s := fun h0 h hr hf => zEv.step ho ⟨x, hl, k h0 h hr hf⟩
theorem r_ald {x : Option Nat} (ho : T.lookup pc = some (1, n, a, b, ix, w, z)) (hl : ls[a]? = some (some (zR x))) (k : rEv q qa d T Q (pc + n) ls (zR x :: st) s) : rEv q qa d T Q pc ls st s := fun h0 h hr hf => zEv.step ho ⟨x, hl, k h0 h hr hf⟩
theorem r_lld {x : Int64} (ho : T.lookup pc = some (2, n, a, b, ix, w, z)) (hl : ls[a]? = some (some (zJ x))) (k : rEv q qa d T Q (pc + n) ls (zJ x :: st) s) : rEv q qa d T Q pc ls st s := fun h0 h hr hf => zEv.step ho ⟨x, hl, k h0 h hr hf⟩
theorem r_ist {x : Int32} {ls' : List (Option zV)} (ho : T.lookup pc = some (3, n, a, b, ix, w, z)) (hn : a < ls.length) (hl : zset ls a (zI x) = ls') (k : rEv q qa d T Q (pc + n) ls' st s) : rEv q qa d T Q pc ls (zI x :: st) s := fun h0 h hr hf => zEv.step ho ⟨x, st, rfl, hn, by rw [hl]; exact k h0 h hr hf⟩
theorem r_ico {x : Int32} (ho : T.lookup pc = some (6, n, a, b, ix, w, z)) (hx : Int32.ofInt z = x) (k : rEv q qa d T Q (pc + n) ls (zI x :: st) s) : rEv q qa d T Q pc ls st s := fun h0 h hr hf => zEv.step ho (by subst hx; exact k h0 h hr hf)
theorem r_lco {x : Int64} (ho : T.lookup pc = some (7, n, a, b, ix, w, z)) (hx : Int64.ofInt z = x) (k : rEv q qa d T Q (pc + n) ls (zJ x :: st) s) : rEv q qa d T Q pc ls st s := fun h0 h hr hf => zEv.step ho (by subst hx; exact k h0 h hr hf)
theorem r_inc {x x' : Int32} {ls' : List (Option zV)} (ho : T.lookup pc = some (9, n, a, b, ix, w, z)) (hl : ls[a]? = some (some (zI x))) (hx : x + Int32.ofInt z = x') (hs : zset ls a (zI x') = ls') (k : rEv q qa d T Q (pc + n) ls' st s) : rEv q qa d T Q pc ls st s := fun h0 h hr hf => zEv.step ho ⟨x, hl, by subst hx; rw [hs]; exact k h0 h hr hf⟩
theorem r_ibi {x y v : Int32} (ho : T.lookup pc = some (10, n, a, b, ix, w, z)) (hv : zibin a x y = v) (k : rEv q qa d T Q (pc + n) ls (zI v :: st) s) : rEv q qa d T Q pc ls (zI y :: zI x :: st) s := fun h0 h hr hf => zEv.step ho ⟨y, x, st, rfl, by rw [hv]; exact k h0 h hr hf⟩
theorem r_lbi {x y v : Int64} (ho : T.lookup pc = some (11, n, a, b, ix, w, z)) (hv : zlbin a x y = v) (k : rEv q qa d T Q (pc + n) ls (zJ v :: st) s) : rEv q qa d T Q pc ls (zJ y :: zJ x :: st) s := fun h0 h hr hf => zEv.step ho ⟨y, x, st, rfl, by rw [hv]; exact k h0 h hr hf⟩
theorem r_lsh {x v : Int64} {y : Int32} (ho : T.lookup pc = some (12, n, a, b, ix, w, z)) (hv : zlsh a x y = v) (k : rEv q qa d T Q (pc + n) ls (zJ v :: st) s) : rEv q qa d T Q pc ls (zI y :: zJ x :: st) s := fun h0 h hr hf => zEv.step ho ⟨y, x, st, rfl, by rw [hv]; exact k h0 h hr hf⟩
theorem r_l2i {x : Int64} {v : Int32} (ho : T.lookup pc = some (13, n, 1, b, ix, w, z)) (hv : x.toInt32 = v) (k : rEv q qa d T Q (pc + n) ls (zI v :: st) s) : rEv q qa d T Q pc ls (zJ x :: st) s := fun h0 h hr hf => zEv.step ho ⟨x, st, rfl, by rw [hv]; exact k h0 h hr hf⟩
theorem r_if {x : Int32} (ho : T.lookup pc = some (14, n, a, b, ix, w, z)) (k1 : zcnd a x 0 → rEv q qa d T Q b ls st s) (k2 : ¬ zcnd a x 0 → rEv q qa d T Q (pc + n) ls st s) : rEv q qa d T Q pc ls (zI x :: st) s := fun h0 h hr hf => zEv.step ho ⟨x, st, rfl, fun c => k1 c h0 h hr hf, fun c => k2 c h0 h hr hf⟩
theorem r_cmp {x y : Int32} (ho : T.lookup pc = some (15, n, a, b, ix, w, z)) (k1 : zcnd a x y → rEv q qa d T Q b ls st s) (k2 : ¬ zcnd a x y → rEv q qa d T Q (pc + n) ls st s) : rEv q qa d T Q pc ls (zI y :: zI x :: st) s := fun h0 h hr hf => zEv.step ho ⟨y, x, st, rfl, fun c => k1 c h0 h hr hf, fun c => k2 c h0 h hr hf⟩
theorem r_go (ho : T.lookup pc = some (16, n, a, b, ix, w, z)) (k : rEv q qa d T Q b ls st s) : rEv q qa d T Q pc ls st s := fun h0 h hr hf => zEv.step ho (k h0 h hr hf)
theorem r_dup {v : zV} (ho : T.lookup pc = some (20, n, a, b, ix, w, z)) (hv : zcat v = 1) (k : rEv q qa d T Q (pc + n) ls (v :: v :: st) s) : rEv q qa d T Q pc ls (v :: st) s := fun h0 h hr hf => zEv.step ho ⟨v, st, rfl, hv, k h0 h hr hf⟩
theorem r_dup2 {v u : zV} (ho : T.lookup pc = some (21, n, a, b, ix, w, z)) (hv : zcat v = 1) (hu : zcat u = 1) (k : rEv q qa d T Q (pc + n) ls (v :: u :: v :: u :: st) s) : rEv q qa d T Q pc ls (v :: u :: st) s := fun h0 h hr hf => zEv.step ho ⟨v, u, st, rfl, hv, hu, k h0 h hr hf⟩
theorem r_pop {v : zV} (ho : T.lookup pc = some (22, n, a, b, ix, w, z)) (hv : zcat v = 1) (k : rEv q qa d T Q (pc + n) ls st s) : rEv q qa d T Q pc ls (v :: st) s := fun h0 h hr hf => zEv.step ho ⟨v, st, rfl, hv, k h0 h hr hf⟩
theorem r_sw {x : Int32} {t : Nat} (ho : T.lookup pc = some (39, n, a, b, ix, w, z)) (ht : zswt a b x = t) (k : rEv q qa d T Q t ls st s) : rEv q qa d T Q pc ls (zI x :: st) s := fun h0 h hr hf => zEv.step ho ⟨x, st, rfl, by rw [ht]; exact k h0 h hr hf⟩
theorem r_top {x y : Int32} (e : x = y) (k : rEv q qa d T Q pc ls (zI y :: st) s) : rEv q qa d T Q pc ls (zI x :: st) s := by subst e; exact k
theorem r_ret {v : zV} (ho : T.lookup pc = some (36, n, a, b, ix, w, z)) (hv : zret a v) (k : Q s (.inl (some v))) : rEv q qa d T Q pc ls [v] s := fun h0 h hr hf => zEv.step ho ⟨v, rfl, hv, s, hr, hf, k⟩
theorem r_rtv (ho : T.lookup pc = some (37, n, a, b, ix, w, z)) (k : Q s (.inl none)) : rEv q qa d T Q pc ls [] s := fun h0 h hr hf => zEv.step ho ⟨rfl, s, hr, hf, k⟩
theorem r_get {v : zV} (ho : T.lookup pc = some (23, n, 10, b, ix, w, z)) (hv : (rfs qa s)[b]? = some v) (k : rEv q qa d T Q (pc + n) ls (v :: st) s) : rEv q qa d T Q pc ls (zR (some q) :: st) s := fun h0 h hr hf => zEv.step ho ⟨q, st, _, v, rfl, hr.1, hv, k h0 h hr hf⟩
theorem rAt.put {h : zH} {s s' : rS} (hr : rAt q qa h s) (ha : rar s' = rar s) : rAt q qa (zup h q (zO 10 (rfs qa s'))) s' := by
  obtain ⟨h1, h2, h3, h4⟩ := hr
  refine ⟨zup_s _ _ _, fun k t n hk => ?_, h3, h4⟩
  rw [zup_n _ _ (h3 k t n hk), ha]
  exact h2 k t n hk
theorem rFr.put {h0 h : zH} {e : zE} (hf : rFr q qa h0 h) : rFr q qa h0 (zup h q e) := fun a p1 p2 => by rw [zup_n _ _ p1]; exact hf a p1 p2
theorem r_put {v : zV} {s' : rS} (ho : T.lookup pc = some (24, n, 10, b, ix, w, z)) (hb : b < 30) (hz : zfit z v) (hs : (rfs qa s).set b v = rfs qa s') (ha : rar s' = rar s) (k : rEv q qa d T Q (pc + n) ls st s') : rEv q qa d T Q pc ls (v :: zR (some q) :: st) s := fun h0 h hr hf => zEv.step ho ⟨v, q, st, _, rfl, hr.1, by obtain ⟨c, n, a, b, v, f, r⟩ := s; exact hb, hz, by rw [hs]; exact k h0 _ (hr.put ha) hf.put⟩
theorem r_iald {k0 t m : Nat} {i : Int32} (ho : T.lookup pc = some (25, n, a, b, ix, w, z)) (hk : rarr k0 = some (a, m)) (hi : vp_in i m) (k : rEv q qa d T Q (pc + n) ls (zI (rar s k0 i.toNatClampNeg) :: st) s) : rEv q qa d T Q pc ls (zI i :: zR (some (qa k0)) :: st) s := fun h0 h hr hf => zEv.step ho ⟨i, qa k0, st, m, rar s k0, rfl, hr.2.1 k0 a m hk, hi, k h0 h hr hf⟩
theorem rAt.ast {h : zH} {c n a v f : Nat} {b : Bool} {r : rA} {k0 t m i : Nat} {x : Int32} (hr : rAt q qa h (c, n, a, b, v, f, r)) (hk : rarr k0 = some (t, m)) : rAt q qa (zup h (qa k0) (zaI t m (upd (r k0) i x))) (c, n, a, b, v, f, rset r k0 i x) := by
  obtain ⟨h1, h2, h3, h4⟩ := hr
  refine ⟨by rw [zup_n _ _ (h3 k0 t m hk).symm]; exact h1, fun k t' n' hk' => ?_, h3, h4⟩
  by_cases e : k = k0
  · subst e
    rw [hk] at hk'
    cases hk'
    rw [zup_s]
    show _ = some (zaI t m (rset r k i x k))
    rw [rset_s]
  · rw [zup_n _ _ (fun q => e (h4 _ _ _ _ _ _ hk' hk q))]
    show _ = some (zaI t' n' (rset r k0 i x k))
    rw [rset_n _ _ _ e]
    exact h2 k t' n' hk'
theorem rFr.ast {h0 h : zH} {e : zE} {k0 t m : Nat} (hf : rFr q qa h0 h) (hk : rarr k0 = some (t, m)) : rFr q qa h0 (zup h (qa k0) e) := fun a p1 p2 => by rw [zup_n _ _ (p2 k0 t m hk)]; exact hf a p1 p2
theorem r_iast {k0 m : Nat} {i x x' : Int32} {c n0 a0 v0 f0 : Nat} {b0 : Bool} {r0 : rA} (ho : T.lookup pc = some (26, n, a, b, ix, w, z)) (hk : rarr k0 = some (a, m)) (hi : vp_in i m) (hx : znar a x = x') (k : rEv q qa d T Q (pc + n) ls st (c, n0, a0, b0, v0, f0, rset r0 k0 i.toNatClampNeg x')) : rEv q qa d T Q pc ls (zI x :: zI i :: zR (some (qa k0)) :: st) (c, n0, a0, b0, v0, f0, r0) := fun h0 h hr hf => zEv.step ho ⟨x, i, qa k0, st, m, r0 k0, rfl, hr.2.1 k0 a m hk, hi, by rw [hx]; exact k h0 _ (hr.ast hk) (hf.ast hk)⟩
theorem r_alen {k0 t m : Nat} (ho : T.lookup pc = some (31, n, a, b, ix, w, z)) (hk : rarr k0 = some (t, m)) (ht : t < 4 ∧ t ≠ 2) (k : rEv q qa d T Q (pc + n) ls (zI (Int32.ofNat m) :: st) s) : rEv q qa d T Q pc ls (zR (some (qa k0)) :: st) s := fun h0 h hr hf => zEv.step ho ⟨qa k0, st, m, rfl, by rw [hr.2.1 k0 t m hk]; simp [zlen, ht], k h0 h hr hf⟩
theorem r_call {as r : List zV} {s' : rS} {v : Option zV} (ho : T.lookup pc = some (35, n, a, b, ix, w, z)) (hst : st = as.reverse ++ r) (hb : as.length = b) (hs : (r.map zcat).sum ≤ 8) (hk : zK a = 1 ∨ (zK a = 0 ∧ zci a = 10 ∧ ∃ t, as = zR (some q) :: t)) (hc : rFun q qa d a as s s' v) (k : rEv q qa d T Q (pc + n) ls (v.toList ++ r) s') : rEv q qa d T Q pc ls st s := by
  intro h0 h hr hf
  refine zEv.step ho ⟨as, r, 0, 0, hst, hb, hs, Nat.le_refl _, Nat.le_refl _, ?_, ?_⟩
  · rcases hk with hk | ⟨hk, hci, t, ht⟩
    · rw [hk]; trivial
    · rw [hk, hci]; exact ⟨q, t, _, ht, hr.1⟩
  · refine zCall_mono d a as h 0 0 _ _ (fun h' o ⟨s1, g1, g2, e1, e2⟩ => ?_) (hc h hr)
    subst e1; subst e2
    cases v with
    | none => exact k h0 h' g1 (hf.tr g2)
    | some v => exact k h0 h' g1 (hf.tr g2)
/-- a method's contract out of the walk of its body -/
theorem rFun.of {j : Nat} {as : List zV} {s s' : rS} {v : Option zV} {L : List (Option zV)} (hn : (zargs as).length ≤ zL j) (hT : ztb j = T) (hL : zent (zL j) as = L) (k : rEv q qa d T (fun t o => t = s' ∧ o = .inl v) 0 L [] s) : rFun q qa (d + 1) j as s s' v := fun h hr => ⟨hn, by rw [hT, hL]; exact k h h hr rFr.rf⟩
end
/-- conditions over numbers that are naturals -/
def ncnd (c a b : Nat) : Prop := match c with
  | 0 => a = b
  | 1 => ¬ a = b
  | 2 => a < b
  | 3 => b ≤ a
  | 4 => b < a
  | _ => a ≤ b
theorem zcnd_n {c a b : Nat} (ha : a < 2 ^ 31) (hb : b < 2 ^ 31) : zcnd c (nI a) (nI b) ↔ ncnd c a b := by
  match c with
  | 0 => exact nI_eq ha hb
  | 1 => exact not_congr (nI_eq ha hb)
  | 2 => exact nI_ltI ha hb
  | 3 => exact nI_leI hb ha
  | 4 => exact nI_ltI hb ha
  | n + 5 => exact nI_leI ha hb
section
variable {q : Nat} {qa : Nat → Nat} {d : Nat} {T : List (Nat × zOp)} {Q : rS → (Option zV ⊕ Nat) → Prop} {pc : Nat} {ls : List (Option zV)} {st : List zV} {s : rS} {n a b ix w : Nat} {z : Int}
theorem r_cmpN {x y : Nat} (hx : x < 2 ^ 31) (hy : y < 2 ^ 31) (ho : T.lookup pc = some (15, n, a, b, ix, w, z)) (k1 : ncnd a x y → rEv q qa d T Q b ls st s) (k2 : ¬ ncnd a x y → rEv q qa d T Q (pc + n) ls st s) : rEv q qa d T Q pc ls (zI (nI y) :: zI (nI x) :: st) s := r_cmp ho (fun c => k1 ((zcnd_n hx hy).mp c)) (fun c => k2 (fun e => c ((zcnd_n hx hy).mpr e)))
theorem r_ifN {x : Nat} (hx : x < 2 ^ 31) (ho : T.lookup pc = some (14, n, a, b, ix, w, z)) (k1 : ncnd a x 0 → rEv q qa d T Q b ls st s) (k2 : ¬ ncnd a x 0 → rEv q qa d T Q (pc + n) ls st s) : rEv q qa d T Q pc ls (zI (nI x) :: st) s := r_if ho (fun c => k1 ((zcnd_n (b := 0) hx (by decide)).mp c)) (fun c => k2 (fun e => c ((zcnd_n (b := 0) hx (by decide)).mpr e)))
theorem bI_0 {x : Bool} : bI x = 0 ↔ x = false := by cases x <;> simp [bI]
theorem r_ifB0 {x : Bool} (ho : T.lookup pc = some (14, n, 0, b, ix, w, z)) (k1 : x = false → rEv q qa d T Q b ls st s) (k2 : x = true → rEv q qa d T Q (pc + n) ls st s) : rEv q qa d T Q pc ls (zI (bI x) :: st) s := r_if ho (fun c => k1 (bI_0.mp c)) (fun c => k2 (by cases x with
  | true => rfl
  | false => exact absurd rfl c))
theorem r_ifB1 {x : Bool} (ho : T.lookup pc = some (14, n, 1, b, ix, w, z)) (k1 : x = true → rEv q qa d T Q b ls st s) (k2 : x = false → rEv q qa d T Q (pc + n) ls st s) : rEv q qa d T Q pc ls (zI (bI x) :: st) s := r_if ho (fun c => k1 (by cases x with
  | true => rfl
  | false => exact absurd rfl c)) (fun c => k2 (by cases x with
  | false => rfl
  | true => exact absurd (fun e => by exact absurd e (by decide)) c))
end
end
section
theorem bI_01 (b : Bool) : bI b = 0 ∨ bI b = 1 := by cases b <;> simp [bI]
theorem znar_b (b : Bool) : znar 3 (bI b) = bI b := by cases b <;> decide +kernel
theorem r_ialdN {q : Nat} {qa : Nat → Nat} {d : Nat} {T : List (Nat × zOp)} {Q : rS → (Option zV ⊕ Nat) → Prop} {pc : Nat} {ls : List (Option zV)} {st : List zV} {s : rS} {n a b ix w : Nat} {z : Int} {k0 m i : Nat} (ho : T.lookup pc = some (25, n, a, b, ix, w, z)) (hk : rarr k0 = some (a, m)) (hi : i < m) (hm : m < 2 ^ 31) (k : rEv q qa d T Q (pc + n) ls (zI (rar s k0 i) :: st) s) : rEv q qa d T Q pc ls (zI (nI i) :: zR (some (qa k0)) :: st) s := r_iald (t := 0) ho hk (vp_in_nI hi hm) (by rw [nI_clamp (by omega)]; exact k)
theorem r_iastN {q : Nat} {qa : Nat → Nat} {d : Nat} {T : List (Nat × zOp)} {Q : rS → (Option zV ⊕ Nat) → Prop} {pc : Nat} {ls : List (Option zV)} {st : List zV} {n a b ix w : Nat} {z : Int} {k0 m i : Nat} {x x' : Int32} {c n0 a0 v0 f0 : Nat} {b0 : Bool} {r0 : rA} (ho : T.lookup pc = some (26, n, a, b, ix, w, z)) (hk : rarr k0 = some (a, m)) (hi : i < m) (hm : m < 2 ^ 31) (hx : znar a x = x') (k : rEv q qa d T Q (pc + n) ls st (c, n0, a0, b0, v0, f0, rset r0 k0 i x')) : rEv q qa d T Q pc ls (zI x :: zI (nI i) :: zR (some (qa k0)) :: st) (c, n0, a0, b0, v0, f0, r0) := r_iast ho hk (vp_in_nI hi hm) hx (by rw [nI_clamp (by omega)]; exact k)

theorem ret_t {b : Bool} (h : b = true) : (Sum.inl (some (zI (nI 1))) : Option zV ⊕ Nat) = .inl (some (zI (bI b))) := by subst h; rfl
theorem ret_f {b : Bool} (h : b = false) : (Sum.inl (some (zI (nI 0))) : Option zV ⊕ Nat) = .inl (some (zI (bI b))) := by subst h; rfl
def isIn (x lo hi : Int32) : Bool := !decide (x < lo) && !decide (hi < x)
def isDg (x : Int32) : Bool := !decide (x < nI 48) && !decide (nI 57 < x)
def isWd (x : Int32) : Bool := isDg x || (!decide (x < nI 65) && decide (x ≤ nI 90)) || (!decide (x < nI 97) && decide (x ≤ nI 122)) || !decide (¬ x = nI 45)
/-- what is ahead in the text -/
def ahd (n a : Nat) (b : Bool) (t : Nat → Int32) : Int32 := if b = false ∧ a < n then t a else -1
set_option maxHeartbeats 1000000 in
theorem c_thrown {q : Nat} {qa : Nat → Nat} {d c n a v f : Nat} {b : Bool} {r : rA}   : rFun q qa (d + 1) 97 [zR (some q)] (c, n, a, b, v, f, r) (c, n, a, b, v, f, r) (some (zI (nI c))) := by
  refine rFun.of (T := tb_97) (L := [some (zR (some q))]) (Nat.le_of_ble_eq_true rfl) rfl rfl ?_
  refine r_ald rfl rfl ?_
  refine r_get rfl rfl ?_
  refine r_ret rfl ⟨_, rfl⟩ ?_
  exact ⟨rfl, rfl⟩
set_option maxHeartbeats 1000000 in
theorem c_in {q : Nat} {qa : Nat → Nat} {d c n a v f : Nat} {b : Bool} {r : rA} {x lo hi : Int32}  : rFun q qa (d + 1) 98 [zI (x), zI (lo), zI (hi)] (c, n, a, b, v, f, r) (c, n, a, b, v, f, r) (some (zI (bI (isIn x lo hi)))) := by
  refine rFun.of (T := tb_98) (L := [some (zI (x)), some (zI (lo)), some (zI (hi))]) (Nat.le_of_ble_eq_true rfl) rfl rfl ?_
  refine r_ild rfl rfl ?_
  refine r_ild rfl rfl ?_
  refine r_cmp rfl (fun h_1 => ?_) (fun h_1 => ?_)
  · replace h_1 : (x) < (lo) := h_1
    refine r_ico (x := (nI 0)) rfl rfl ?_
    refine r_ret rfl ⟨_, rfl, Or.inl rfl⟩ ?_
    exact ⟨rfl, ret_f (by simp [isIn, *])⟩
  · replace h_1 : ¬ ((x) < (lo)) := h_1
    refine r_ild rfl rfl ?_
    refine r_ild rfl rfl ?_
    refine r_cmp rfl (fun h_2 => ?_) (fun h_2 => ?_)
    · replace h_2 : (hi) < (x) := h_2
      refine r_ico (x := (nI 0)) rfl rfl ?_
      refine r_ret rfl ⟨_, rfl, Or.inl rfl⟩ ?_
      exact ⟨rfl, ret_f (by simp [isIn, *])⟩
    · replace h_2 : ¬ ((hi) < (x)) := h_2
      refine r_ico (x := (nI 1)) rfl rfl ?_
      refine r_go rfl ?_
      refine r_ret rfl ⟨_, rfl, Or.inr rfl⟩ ?_
      exact ⟨rfl, ret_t (by simp [isIn, *])⟩
set_option maxHeartbeats 1000000 in
theorem c_isDigit {q : Nat} {qa : Nat → Nat} {d c n a v f : Nat} {b : Bool} {r : rA} {x : Int32}  : rFun q qa (d + 1) 101 [zI (x)] (c, n, a, b, v, f, r) (c, n, a, b, v, f, r) (some (zI (bI (isDg x)))) := by
  refine rFun.of (T := tb_101) (L := [some (zI (x))]) (Nat.le_of_ble_eq_true rfl) rfl rfl ?_
  refine r_ild rfl rfl ?_
  refine r_ico (x := (nI 48)) rfl rfl ?_
  refine r_cmp rfl (fun h_1 => ?_) (fun h_1 => ?_)
  · replace h_1 : (x) < (nI 48) := h_1
    refine r_ico (x := (nI 0)) rfl rfl ?_
    refine r_ret rfl ⟨_, rfl, Or.inl rfl⟩ ?_
    exact ⟨rfl, ret_f (by simp [isDg, *])⟩
  · replace h_1 : ¬ ((x) < (nI 48)) := h_1
    refine r_ild rfl rfl ?_
    refine r_ico (x := (nI 57)) rfl rfl ?_
    refine r_cmp rfl (fun h_2 => ?_) (fun h_2 => ?_)
    · replace h_2 : (nI 57) < (x) := h_2
      refine r_ico (x := (nI 0)) rfl rfl ?_
      refine r_ret rfl ⟨_, rfl, Or.inl rfl⟩ ?_
      exact ⟨rfl, ret_f (by simp [isDg, *])⟩
    · replace h_2 : ¬ ((nI 57) < (x)) := h_2
      refine r_ico (x := (nI 1)) rfl rfl ?_
      refine r_go rfl ?_
      refine r_ret rfl ⟨_, rfl, Or.inr rfl⟩ ?_
      exact ⟨rfl, ret_t (by simp [isDg, *])⟩
set_option maxHeartbeats 1000000 in
theorem c_isOfWord {q : Nat} {qa : Nat → Nat} {d c n a v f : Nat} {b : Bool} {r : rA} {x : Int32}  : rFun q qa (d + 2) 102 [zI (x)] (c, n, a, b, v, f, r) (c, n, a, b, v, f, r) (some (zI (bI (isWd x)))) := by
  refine rFun.of (d := d + 1) (T := tb_102) (L := [some (zI (x))]) (Nat.le_of_ble_eq_true rfl) rfl rfl ?_
  refine r_ild rfl rfl ?_
  refine r_call (as := [zI (x)]) (r := []) (s' := (c, n, a, b, v, f, r)) (v := some (zI (bI (isDg (x))))) rfl rfl rfl (Nat.le_of_ble_eq_true rfl) (Or.inl rfl) c_isDigit ?_
  refine r_ifB1 rfl (fun h_1 => ?_) (fun h_1 => ?_)
  · refine r_ico (x := (nI 1)) rfl rfl ?_
    refine r_go rfl ?_
    refine r_ret rfl ⟨_, rfl, Or.inr rfl⟩ ?_
    exact ⟨rfl, ret_t (by simp [isWd, *])⟩
  · refine r_ild rfl rfl ?_
    refine r_ico (x := (nI 65)) rfl rfl ?_
    refine r_cmp rfl (fun h_2 => ?_) (fun h_2 => ?_)
    · replace h_2 : (x) < (nI 65) := h_2
      refine r_ild rfl rfl ?_
      refine r_ico (x := (nI 97)) rfl rfl ?_
      refine r_cmp rfl (fun h_3 => ?_) (fun h_3 => ?_)
      · replace h_3 : (x) < (nI 97) := h_3
        refine r_ild rfl rfl ?_
        refine r_ico (x := (nI 45)) rfl rfl ?_
        refine r_cmp rfl (fun h_4 => ?_) (fun h_4 => ?_)
        · replace h_4 : ¬ (x) = (nI 45) := h_4
          refine r_ico (x := (nI 0)) rfl rfl ?_
          refine r_ret rfl ⟨_, rfl, Or.inl rfl⟩ ?_
          exact ⟨rfl, ret_f (by simp [isWd, *])⟩
        · replace h_4 : (x) = (nI 45) := Decidable.of_not_not h_4
          refine r_ico (x := (nI 1)) rfl rfl ?_
          refine r_go rfl ?_
          refine r_ret rfl ⟨_, rfl, Or.inr rfl⟩ ?_
          exact ⟨rfl, ret_t (by simp [isWd, *])⟩
      · replace h_3 : ¬ ((x) < (nI 97)) := h_3
        refine r_ild rfl rfl ?_
        refine r_ico (x := (nI 122)) rfl rfl ?_
        refine r_cmp rfl (fun h_5 => ?_) (fun h_5 => ?_)
        · replace h_5 : (x) ≤ (nI 122) := h_5
          refine r_ico (x := (nI 1)) rfl rfl ?_
          refine r_go rfl ?_
          refine r_ret rfl ⟨_, rfl, Or.inr rfl⟩ ?_
          exact ⟨rfl, ret_t (by simp [isWd, *])⟩
        · replace h_5 : ¬ ((x) ≤ (nI 122)) := h_5
          refine r_ild rfl rfl ?_
          refine r_ico (x := (nI 45)) rfl rfl ?_
          refine r_cmp rfl (fun h_6 => ?_) (fun h_6 => ?_)
          · replace h_6 : ¬ (x) = (nI 45) := h_6
            refine r_ico (x := (nI 0)) rfl rfl ?_
            refine r_ret rfl ⟨_, rfl, Or.inl rfl⟩ ?_
            exact ⟨rfl, ret_f (by simp [isWd, *])⟩
          · replace h_6 : (x) = (nI 45) := Decidable.of_not_not h_6
            refine r_ico (x := (nI 1)) rfl rfl ?_
            refine r_go rfl ?_
            refine r_ret rfl ⟨_, rfl, Or.inr rfl⟩ ?_
            exact ⟨rfl, ret_t (by simp [isWd, *])⟩
    · replace h_2 : ¬ ((x) < (nI 65)) := h_2
      refine r_ild rfl rfl ?_
      refine r_ico (x := (nI 90)) rfl rfl ?_
      refine r_cmp rfl (fun h_7 => ?_) (fun h_7 => ?_)
      · replace h_7 : (x) ≤ (nI 90) := h_7
        refine r_ico (x := (nI 1)) rfl rfl ?_
        refine r_go rfl ?_
        refine r_ret rfl ⟨_, rfl, Or.inr rfl⟩ ?_
        exact ⟨rfl, ret_t (by simp [isWd, *])⟩
      · replace h_7 : ¬ ((x) ≤ (nI 90)) := h_7
        refine r_ild rfl rfl ?_
        refine r_ico (x := (nI 97)) rfl rfl ?_
        refine r_cmp rfl (fun h_8 => ?_) (fun h_8 => ?_)
        · replace h_8 : (x) < (nI 97) := h_8
          refine r_ild rfl rfl ?_
          refine r_ico (x := (nI 45)) rfl rfl ?_
          refine r_cmp rfl (fun h_9 => ?_) (fun h_9 => ?_)
          · replace h_9 : ¬ (x) = (nI 45) := h_9
            refine r_ico (x := (nI 0)) rfl rfl ?_
            refine r_ret rfl ⟨_, rfl, Or.inl rfl⟩ ?_
            exact ⟨rfl, ret_f (by simp [isWd, *])⟩
          · replace h_9 : (x) = (nI 45) := Decidable.of_not_not h_9
            refine r_ico (x := (nI 1)) rfl rfl ?_
            refine r_go rfl ?_
            refine r_ret rfl ⟨_, rfl, Or.inr rfl⟩ ?_
            exact ⟨rfl, ret_t (by simp [isWd, *])⟩
        · replace h_8 : ¬ ((x) < (nI 97)) := h_8
          refine r_ild rfl rfl ?_
          refine r_ico (x := (nI 122)) rfl rfl ?_
          refine r_cmp rfl (fun h_10 => ?_) (fun h_10 => ?_)
          · replace h_10 : (x) ≤ (nI 122) := h_10
            refine r_ico (x := (nI 1)) rfl rfl ?_
            refine r_go rfl ?_
            refine r_ret rfl ⟨_, rfl, Or.inr rfl⟩ ?_
            exact ⟨rfl, ret_t (by simp [isWd, *])⟩
          · replace h_10 : ¬ ((x) ≤ (nI 122)) := h_10
            refine r_ild rfl rfl ?_
            refine r_ico (x := (nI 45)) rfl rfl ?_
            refine r_cmp rfl (fun h_11 => ?_) (fun h_11 => ?_)
            · replace h_11 : ¬ (x) = (nI 45) := h_11
              refine r_ico (x := (nI 0)) rfl rfl ?_
              refine r_ret rfl ⟨_, rfl, Or.inl rfl⟩ ?_
              exact ⟨rfl, ret_f (by simp [isWd, *])⟩
            · replace h_11 : (x) = (nI 45) := Decidable.of_not_not h_11
              refine r_ico (x := (nI 1)) rfl rfl ?_
              refine r_go rfl ?_
              refine r_ret rfl ⟨_, rfl, Or.inr rfl⟩ ?_
              exact ⟨rfl, ret_t (by simp [isWd, *])⟩
set_option maxHeartbeats 1000000 in
theorem c_ahead {q : Nat} {qa : Nat → Nat} {d c n a v f : Nat} {b : Bool} {r : rA}  (hn : n ≤ 160) (ha : a < 100000) : rFun q qa (d + 1) 100 [zR (some q)] (c, n, a, b, v, f, r) (c, n, a, b, v, f, r) (some (zI (ahd n a b (r 2)))) := by
  refine rFun.of (T := tb_100) (L := [some (zR (some q))]) (Nat.le_of_ble_eq_true rfl) rfl rfl ?_
  refine r_ald rfl rfl ?_
  refine r_get rfl rfl ?_
  refine r_ifB1 rfl (fun h_1 => ?_) (fun h_1 => ?_)
  · refine r_ico (x := (-1)) rfl rfl ?_
    refine r_ret rfl ⟨_, rfl⟩ ?_
    exact ⟨rfl, by unfold ahd; rw [if_neg (by rintro ⟨g1, g2⟩; first | omega | simp_all)]⟩
  · refine r_ald rfl rfl ?_
    refine r_get rfl rfl ?_
    refine r_ald rfl rfl ?_
    refine r_get rfl rfl ?_
    refine r_cmpN (by omega) (by omega) rfl (fun h_2 => ?_) (fun h_2 => ?_)
    · replace h_2 : n ≤ a := h_2
      refine r_ico (x := (-1)) rfl rfl ?_
      refine r_ret rfl ⟨_, rfl⟩ ?_
      exact ⟨rfl, by unfold ahd; rw [if_neg (by rintro ⟨g1, g2⟩; first | omega | simp_all)]⟩
    · replace h_2 := Nat.not_le.mp h_2
      refine r_ald rfl rfl ?_
      refine r_get rfl rfl ?_
      refine r_ald rfl rfl ?_
      refine r_get rfl rfl ?_
      refine r_ialdN (k0 := 2) rfl rfl (by omega) (by decide) ?_
      refine r_go rfl ?_
      refine r_ret rfl ⟨_, rfl⟩ ?_
      exact ⟨rfl, by unfold ahd; rw [if_pos ⟨by assumption, by omega⟩]⟩
set_option maxHeartbeats 1000000 in
theorem c_take {q : Nat} {qa : Nat → Nat} {d c n a v f : Nat} {b : Bool} {r : rA} {x : Int32} (hn : n ≤ 160) (ha : a < 100000) : rFun q qa (d + 2) 103 [zR (some q), zI (x)] (c, n, a, b, v, f, r) (c, n, if ahd n a b (r 2) = x then a + 1 else a, if ahd n a b (r 2) = x then b else true, v, f, r) none := by
  refine rFun.of (d := d + 1) (T := tb_103) (L := [some (zR (some q)), some (zI (x))]) (Nat.le_of_ble_eq_true rfl) rfl rfl ?_
  refine r_ald rfl rfl ?_
  refine r_call (as := [zR (some q)]) (r := []) (s' := (c, n, a, b, v, f, r)) (v := some (zI (ahd n a b (r 2)))) rfl rfl rfl (Nat.le_of_ble_eq_true rfl) (Or.inr ⟨rfl, rfl, _, rfl⟩) (c_ahead (by omega) (by omega)) ?_
  refine r_ild rfl rfl ?_
  refine r_cmp rfl (fun h_1 => ?_) (fun h_1 => ?_)
  · replace h_1 : ¬ (ahd n a b (r 2)) = (x) := h_1
    refine r_ald rfl rfl ?_
    refine r_ico (x := (nI 1)) rfl rfl ?_
    refine r_put (s' := (c, n, a, true, v, f, r)) rfl (Nat.le_of_ble_eq_true rfl) ⟨_, rfl, Or.inr rfl⟩ rfl rfl ?_
    refine r_rtv rfl ?_
    exact ⟨by simp [*], rfl⟩
  · replace h_1 : (ahd n a b (r 2)) = (x) := Decidable.of_not_not h_1
    refine r_ald rfl rfl ?_
    refine r_dup rfl rfl ?_
    refine r_get rfl rfl ?_
    refine r_ico (x := (nI 1)) rfl rfl ?_
    refine r_ibi (v := (nI (a + 1))) rfl (nI_add _ _) ?_
    refine r_put (s' := (c, n, a + 1, b, v, f, r)) rfl (Nat.le_of_ble_eq_true rfl) ⟨_, rfl⟩ rfl rfl ?_
    refine r_go rfl ?_
    refine r_rtv rfl ?_
    exact ⟨by simp [*], rfl⟩
set_option maxHeartbeats 1000000 in
theorem c_begin {q : Nat} {qa : Nat → Nat} {d c n a v f : Nat} {b : Bool} {r : rA}   : rFun q qa (d + 1) 112 [zR (some q)] (c, n, a, b, v, f, r) (c, n, 0, false, v, f, r) none := by
  refine rFun.of (T := tb_112) (L := [some (zR (some q))]) (Nat.le_of_ble_eq_true rfl) rfl rfl ?_
  refine r_ald rfl rfl ?_
  refine r_ico (x := (nI 0)) rfl rfl ?_
  refine r_put (s' := (c, n, 0, b, v, f, r)) rfl (Nat.le_of_ble_eq_true rfl) ⟨_, rfl⟩ rfl rfl ?_
  refine r_ald rfl rfl ?_
  refine r_ico (x := (nI 0)) rfl rfl ?_
  refine r_put (s' := (c, n, 0, false, v, f, r)) rfl (Nat.le_of_ble_eq_true rfl) ⟨_, rfl, Or.inl rfl⟩ rfl rfl ?_
  refine r_rtv rfl ?_
  exact ⟨rfl, rfl⟩
set_option maxHeartbeats 1000000 in
theorem c_isRight {q : Nat} {qa : Nat → Nat} {d c n a v f : Nat} {b : Bool} {r : rA}  (hn : n ≤ 160) (ha : a < 100000) : rFun q qa (d + 1) 113 [zR (some q)] (c, n, a, b, v, f, r) (c, 0, a, b, v, f, r) (some (zI (bI (!b && decide (a = n))))) := by
  refine rFun.of (T := tb_113) (L := [some (zR (some q)), none]) (Nat.le_of_ble_eq_true rfl) rfl rfl ?_
  refine r_ald rfl rfl ?_
  refine r_get rfl rfl ?_
  refine r_ifB1 rfl (fun h_1 => ?_) (fun h_1 => ?_)
  · refine r_ico (x := (nI 0)) rfl rfl ?_
    refine r_ist (ls' := [some (zR (some q)), some (zI (nI 0))]) rfl (Nat.le_of_ble_eq_true rfl) rfl ?_
    refine r_ald rfl rfl ?_
    refine r_ico (x := (nI 0)) rfl rfl ?_
    refine r_put (s' := (c, 0, a, b, v, f, r)) rfl (Nat.le_of_ble_eq_true rfl) ⟨_, rfl⟩ rfl rfl ?_
    refine r_ild rfl rfl ?_
    refine r_ret rfl ⟨_, rfl, Or.inl rfl⟩ ?_
    exact ⟨rfl, ret_f (by simp [isIn, *])⟩
  · refine r_ald rfl rfl ?_
    refine r_get rfl rfl ?_
    refine r_ald rfl rfl ?_
    refine r_get rfl rfl ?_
    refine r_cmpN (by omega) (by omega) rfl (fun h_2 => ?_) (fun h_2 => ?_)
    · replace h_2 : ¬ a = n := h_2
      refine r_ico (x := (nI 0)) rfl rfl ?_
      refine r_ist (ls' := [some (zR (some q)), some (zI (nI 0))]) rfl (Nat.le_of_ble_eq_true rfl) rfl ?_
      refine r_ald rfl rfl ?_
      refine r_ico (x := (nI 0)) rfl rfl ?_
      refine r_put (s' := (c, 0, a, b, v, f, r)) rfl (Nat.le_of_ble_eq_true rfl) ⟨_, rfl⟩ rfl rfl ?_
      refine r_ild rfl rfl ?_
      refine r_ret rfl ⟨_, rfl, Or.inl rfl⟩ ?_
      exact ⟨rfl, ret_f (by simp [isIn, *])⟩
    · replace h_2 : a = n := Decidable.of_not_not h_2
      refine r_ico (x := (nI 1)) rfl rfl ?_
      refine r_go rfl ?_
      refine r_ist (ls' := [some (zR (some q)), some (zI (nI 1))]) rfl (Nat.le_of_ble_eq_true rfl) rfl ?_
      refine r_ald rfl rfl ?_
      refine r_ico (x := (nI 0)) rfl rfl ?_
      refine r_put (s' := (c, 0, a, b, v, f, r)) rfl (Nat.le_of_ble_eq_true rfl) ⟨_, rfl⟩ rfl rfl ?_
      refine r_ild rfl rfl ?_
      refine r_ret rfl ⟨_, rfl, Or.inr rfl⟩ ?_
      exact ⟨rfl, ret_t (by simp [isIn, *])⟩
set_option maxHeartbeats 1000000 in
theorem c_isVersion {q : Nat} {qa : Nat → Nat} {d c n a v f : Nat} {b : Bool} {r : rA} {x : Int32}  : rFun q qa (d + 2) 126 [zR (some q), zI (x)] (c, n, a, b, v, f, r) (c, n, a, b, v, f, r) (some (zI (bI (isIn x (nI 0) (nI v - nI 1))))) := by
  refine rFun.of (d := d + 1) (T := tb_126) (L := [some (zR (some q)), some (zI (x))]) (Nat.le_of_ble_eq_true rfl) rfl rfl ?_
  refine r_ild rfl rfl ?_
  refine r_ico (x := (nI 0)) rfl rfl ?_
  refine r_ald rfl rfl ?_
  refine r_get rfl rfl ?_
  refine r_ico (x := (nI 1)) rfl rfl ?_
  refine r_ibi (v := ((nI v) - (nI 1))) rfl rfl ?_
  refine r_call (as := [zI (x), zI (nI 0), zI ((nI v) - (nI 1))]) (r := []) (s' := (c, n, a, b, v, f, r)) (v := some (zI (bI (isIn (x) (nI 0) ((nI v) - (nI 1)))))) rfl rfl rfl (Nat.le_of_ble_eq_true rfl) (Or.inl rfl) (c_in) ?_
  refine r_ret rfl ⟨_, rfl, bI_01 _⟩ ?_
  exact ⟨rfl, rfl⟩
end
section
/-- how far a kind of byte goes -/
def spnF (p : Int32 → Bool) (t : Nat → Int32) : Nat → Nat → Nat
  | 0, a => a
  | k + 1, a => if p (t a) = true then spnF p t k (a + 1) else a
def spn (p : Int32 → Bool) (t : Nat → Int32) (n a : Nat) : Nat := spnF p t (n - a) a
theorem spn_end {p : Int32 → Bool} {t : Nat → Int32} {n a : Nat} (h : n ≤ a) : spn p t n a = a := by
  unfold spn
  rw [show n - a = 0 by omega]
  rfl
theorem spn_no {p : Int32 → Bool} {t : Nat → Int32} {n a : Nat} (h : p (t a) = false) : spn p t n a = a := by
  unfold spn
  cases hk : n - a with
  | zero => rfl
  | succ k => simp [spnF, h]
theorem spn_yes {p : Int32 → Bool} {t : Nat → Int32} {n a : Nat} (hn : a < n) (h : p (t a) = true) : spn p t n a = spn p t n (a + 1) := by
  unfold spn
  rw [show n - a = (n - (a + 1)) + 1 by omega]
  simp [spnF, h]
theorem spnF_ge {p : Int32 → Bool} {t : Nat → Int32} : ∀ (k a : Nat), a ≤ spnF p t k a ∧ spnF p t k a ≤ a + k
  | 0, a => ⟨Nat.le_refl _, Nat.le_refl _⟩
  | k + 1, a => by
    have := spnF_ge (p := p) (t := t) k (a + 1)
    unfold spnF
    split
    · omega
    · omega
theorem spn_ge {p : Int32 → Bool} {t : Nat → Int32} {n a : Nat} : a ≤ spn p t n a := (spnF_ge _ _).1
theorem spn_le {p : Int32 → Bool} {t : Nat → Int32} {n a : Nat} (h : a ≤ n) : spn p t n a ≤ n := by
  have := (spnF_ge (p := p) (t := t) (n - a) a).2
  unfold spn
  omega
theorem ahd_eq {n a : Nat} {b : Bool} {t : Nat → Int32} {x : Int32} (h : ahd n a b t = x) (hx : x ≠ -1) : b = false ∧ a < n ∧ t a = x := by
  unfold ahd at h
  split at h
  · rename_i g
    exact ⟨g.1, g.2, h⟩
  · exact absurd h.symm hx
theorem ahd_in {n a : Nat} {t : Nat → Int32} (h : a < n) : ahd n a false t = t a := by simp [ahd, h]
theorem ahd_out {n a : Nat} {b : Bool} {t : Nat → Int32} (h : n ≤ a) : ahd n a b t = -1 := by
  unfold ahd
  rw [if_neg (fun g => by omega)]
theorem ahd_bad {n a : Nat} {t : Nat → Int32} : ahd n a true t = -1 := by simp [ahd]
def isBl (x : Int32) : Bool := decide (x = nI 32)
theorem wd_m1 : isWd (-1) = false ∧ isDg (-1) = false := by decide +kernel
theorem ahd_wd {n a : Nat} {b : Bool} {t : Nat → Int32} {p : Int32 → Bool} (hp : p (-1) = false) (h : p (ahd n a b t) = true) : b = false ∧ a < n ∧ p (t a) = true := by
  by_cases g : b = false ∧ a < n
  · have e : ahd n a b t = t a := by unfold ahd; rw [if_pos g]
    rw [e] at h
    exact ⟨g.1, g.2, h⟩
  · have e : ahd n a b t = -1 := by unfold ahd; rw [if_neg g]
    rw [e, hp] at h
    cases h
set_option maxHeartbeats 1000000 in
theorem l_blanks {q : Nat} {qa : Nat → Nat} {d c n v f : Nat} {b : Bool} {r : rA} {Q : rS → (Option zV ⊕ Nat) → Prop} (hn : n ≤ 160) : ∀ (k a : Nat), n + 1 - a ≤ k → a < 90000 → a + k < 100000 → Q (c, n, (if b = true then a else spn isBl (r 2) n a), b, v, f, r) (.inl none) → rEv q qa (d + 1) tb_110 Q 0 [some (zR (some q))] [] (c, n, a, b, v, f, r) := by
  intro k
  induction k with
  | zero =>
    intro a hk ha ha2 hQ
    have e : ahd n a b (r 2) = -1 := ahd_out (by omega)
    refine r_ald rfl rfl ?_
    refine r_call (as := [zR (some q)]) (r := []) (s' := (c, n, a, b, v, f, r)) (v := some (zI (ahd n a b (r 2)))) rfl rfl rfl (Nat.le_of_ble_eq_true rfl) (Or.inr ⟨rfl, rfl, _, rfl⟩) (c_ahead (by omega) (by omega)) ?_
    refine r_ico (x := (nI 32)) rfl rfl ?_
    refine r_cmp rfl (fun h_1 => ?_) (fun h_1 => ?_)
    · refine r_rtv rfl ?_
      rw [spn_end (by omega)] at hQ
      simpa using hQ
    · rw [e] at h_1
      exact absurd (fun z => by revert z; decide +kernel) h_1
  | succ k ih =>
    intro a hk ha ha2 hQ
    refine r_ald rfl rfl ?_
    refine r_call (as := [zR (some q)]) (r := []) (s' := (c, n, a, b, v, f, r)) (v := some (zI (ahd n a b (r 2)))) rfl rfl rfl (Nat.le_of_ble_eq_true rfl) (Or.inr ⟨rfl, rfl, _, rfl⟩) (c_ahead (by omega) (by omega)) ?_
    refine r_ico (x := (nI 32)) rfl rfl ?_
    refine r_cmp rfl (fun h_1 => ?_) (fun h_1 => ?_)
    · replace h_1 : ¬ (ahd n a b (r 2)) = (nI 32) := h_1
      refine r_rtv rfl ?_
      have e : (if b = true then a else spn isBl (r 2) n a) = a := by
        cases b with
        | true => rfl
        | false =>
          by_cases g : a < n
          · rw [ahd_in g] at h_1
            exact spn_no (by simp [isBl, h_1])
          · exact spn_end (by omega)
      rw [e] at hQ
      exact hQ
    · replace h_1 : (ahd n a b (r 2)) = (nI 32) := Decidable.of_not_not h_1
      refine r_ald rfl rfl ?_
      refine r_dup rfl rfl ?_
      refine r_get rfl rfl ?_
      refine r_ico (x := (nI 1)) rfl rfl ?_
      refine r_ibi (v := (nI (a + 1))) rfl (nI_add _ _) ?_
      refine r_put (s' := (c, n, a + 1, b, v, f, r)) rfl (Nat.le_of_ble_eq_true rfl) ⟨_, rfl⟩ rfl rfl ?_
      refine r_go rfl ?_
      obtain ⟨g1, g2, g3⟩ := ahd_eq h_1 (by decide +kernel)
      subst g1
      exact ih (a + 1) (by omega) (by omega) (by omega) (by rw [spn_yes g2 (p := isBl) (by simp [isBl, g3])] at hQ; exact hQ)
theorem c_blanks {q : Nat} {qa : Nat → Nat} {d c n a v f : Nat} {b : Bool} {r : rA} (hn : n ≤ 160) (ha : a < 90000) : rFun q qa (d + 2) 110 [zR (some q)] (c, n, a, b, v, f, r) (c, n, (if b = true then a else spn isBl (r 2) n a), b, v, f, r) none := rFun.of (d := d + 1) (T := tb_110) (L := [some (zR (some q))]) (Nat.le_of_ble_eq_true rfl) rfl rfl (l_blanks hn (n + 1 - a) a (Nat.le_refl _) ha (by omega) ⟨rfl, rfl⟩)
end
section
/-- the digits' number -/
def dgv (t : Nat → Int32) (a : Nat) : Nat → Int32
  | 0 => nI 0
  | m + 1 => nI 10 * dgv t a m + t (a + m) - nI 48
def numEnd (t : Nat → Int32) (n l a : Nat) : Nat := spnF isDg t (min l (n - a)) a
theorem numEnd_no {t : Nat → Int32} {n l a : Nat} (h : n ≤ a ∨ l = 0 ∨ isDg (t a) = false) : numEnd t n l a = a := by
  unfold numEnd
  cases hk : min l (n - a) with
  | zero => rfl
  | succ k =>
    rcases h with h | h | h
    · omega
    · omega
    · simp [spnF, h]
theorem numEnd_yes {t : Nat → Int32} {n l a : Nat} (hn : a < n) (h : isDg (t a) = true) : numEnd t n (l + 1) a = numEnd t n l (a + 1) := by
  unfold numEnd
  rw [show min (l + 1) (n - a) = (min l (n - (a + 1))) + 1 by omega]
  simp [spnF, h]
theorem numEnd_ge {t : Nat → Int32} {n l a : Nat} : a ≤ numEnd t n l a ∧ numEnd t n l a ≤ a + l ∧ (a ≤ n → numEnd t n l a ≤ n) := by
  have := spnF_ge (p := isDg) (t := t) (min l (n - a)) a
  unfold numEnd
  omega
def numE (t : Nat → Int32) (n a : Nat) : Nat := numEnd t n (if t a = nI 48 then 1 else 10) a
def numA (n a : Nat) (b : Bool) (t : Nat → Int32) : Nat := if isDg (ahd n a b t) = true then numE t n a else a
def numB (n a : Nat) (b : Bool) (t : Nat → Int32) : Bool := if isDg (ahd n a b t) = true then decide (9 < numE t n a - a) else true
def numV (n a : Nat) (b : Bool) (t : Nat → Int32) : Int32 := if isDg (ahd n a b t) = true then dgv t a (min (numE t n a - a) 9) else nI 0
theorem dg48 : isDg (nI 48) = true := by decide +kernel
theorem ahd_dg {n a : Nat} {b : Bool} {t : Nat → Int32} (h : isDg (ahd n a b t) = true) : b = false ∧ a < n ∧ isDg (t a) = true := ahd_wd wd_m1.2 h
set_option maxHeartbeats 1000000 in
theorem l_numT {q : Nat} {qa : Nat → Nat} {d c n v f p : Nat} {r : rA} {Q : rS → (Option zV ⊕ Nat) → Prop} (hn : n ≤ 160) (hp : p < 90000) : ∀ (k m : Nat), 1 ≤ m + k → m ≤ 1 → (∀ e, e = numEnd (r 2) n (1 - m) (p + m) → Q (c, n, e, decide (9 < e - p), v, f, r) (.inl (some (zI (dgv (r 2) p (min (e - p) 9)))))) → rEv q qa (d + 2) tb_104 Q 36 [some (zR (some q)), some (zI (dgv (r 2) p (min m 9))), some (zI (nI m)), some (zI (bI (true)))] [] (c, n, p + m, false, v, f, r) := by
  intro k
  induction k with
  | zero =>
    intro m hk hm hQ
    have hm : m = 1 := by omega
    subst hm
    have hQ := hQ _ rfl
    rw [numEnd_no (Or.inr (Or.inl rfl))] at hQ
    refine r_ald rfl rfl ?_
    refine r_call (as := [zR (some q)]) (r := []) (s' := (c, n, p + 1, false, v, f, r)) (v := some (zI (ahd n (p + 1) false (r 2)))) rfl rfl rfl (Nat.le_of_ble_eq_true rfl) (Or.inr ⟨rfl, rfl, _, rfl⟩) (c_ahead (by omega) (by omega)) ?_
    refine r_call (as := [zI (ahd n (p + 1) false (r 2))]) (r := []) (s' := (c, n, p + 1, false, v, f, r)) (v := some (zI (bI (isDg (ahd n (p + 1) false (r 2)))))) rfl rfl rfl (Nat.le_of_ble_eq_true rfl) (Or.inl rfl) c_isDigit ?_
    refine r_ifB0 rfl (fun h_1 => ?_) (fun h_1 => ?_)
    · refine r_ald rfl rfl ?_
      refine r_ald rfl rfl ?_
      refine r_get rfl rfl ?_
      refine r_ifB1 rfl (fun h_2 => ?_) (fun h_2 => ?_)
      · cases h_2
      · refine r_ild rfl rfl ?_
        refine r_ico (x := (nI 9)) rfl rfl ?_
        refine r_cmpN (by omega) (by omega) rfl (fun h_3 => ?_) (fun h_3 => ?_)
        · replace h_3 : 1 ≤ 9 := h_3
          refine r_ico (x := (nI 0)) rfl rfl ?_
          refine r_put (s' := (c, n, p + 1, false, v, f, r)) rfl (Nat.le_of_ble_eq_true rfl) ⟨_, rfl, Or.inl rfl⟩ rfl rfl ?_
          refine r_ild rfl rfl ?_
          refine r_ret rfl ⟨_, rfl⟩ ?_
          have e1 : (p + 1) - p = 1 := by omega
          rw [e1] at hQ
          have e2 : decide (9 < 1) = false := by first | decide | (exfalso; omega)
          rw [e2] at hQ
          exact hQ
        · replace h_3 := Nat.not_le.mp h_3
          omega
    · refine r_ild rfl rfl ?_
      refine r_ild rfl rfl ?_
      refine r_ifB0 rfl (fun h_4 => ?_) (fun h_4 => ?_)
      · cases h_4
      · refine r_ico (x := (nI 1)) rfl rfl ?_
        refine r_go rfl ?_
        refine r_cmpN (by omega) (by omega) rfl (fun h_5 => ?_) (fun h_5 => ?_)
        · replace h_5 : 1 ≤ 1 := h_5
          refine r_ald rfl rfl ?_
          refine r_ald rfl rfl ?_
          refine r_get rfl rfl ?_
          refine r_ifB1 rfl (fun h_6 => ?_) (fun h_6 => ?_)
          · cases h_6
          · refine r_ild rfl rfl ?_
            refine r_ico (x := (nI 9)) rfl rfl ?_
            refine r_cmpN (by omega) (by omega) rfl (fun h_7 => ?_) (fun h_7 => ?_)
            · replace h_7 : 1 ≤ 9 := h_7
              refine r_ico (x := (nI 0)) rfl rfl ?_
              refine r_put (s' := (c, n, p + 1, false, v, f, r)) rfl (Nat.le_of_ble_eq_true rfl) ⟨_, rfl, Or.inl rfl⟩ rfl rfl ?_
              refine r_ild rfl rfl ?_
              refine r_ret rfl ⟨_, rfl⟩ ?_
              have e1 : (p + 1) - p = 1 := by omega
              rw [e1] at hQ
              have e2 : decide (9 < 1) = false := by first | decide | (exfalso; omega)
              rw [e2] at hQ
              exact hQ
            · replace h_7 := Nat.not_le.mp h_7
              omega
        · replace h_5 := Nat.not_le.mp h_5
          omega
  | succ k ih =>
    intro m hk hm hQ
    refine r_ald rfl rfl ?_
    refine r_call (as := [zR (some q)]) (r := []) (s' := (c, n, p + m, false, v, f, r)) (v := some (zI (ahd n (p + m) false (r 2)))) rfl rfl rfl (Nat.le_of_ble_eq_true rfl) (Or.inr ⟨rfl, rfl, _, rfl⟩) (c_ahead (by omega) (by omega)) ?_
    refine r_call (as := [zI (ahd n (p + m) false (r 2))]) (r := []) (s' := (c, n, p + m, false, v, f, r)) (v := some (zI (bI (isDg (ahd n (p + m) false (r 2)))))) rfl rfl rfl (Nat.le_of_ble_eq_true rfl) (Or.inl rfl) c_isDigit ?_
    refine r_ifB0 rfl (fun h_1 => ?_) (fun h_1 => ?_)
    · refine r_ald rfl rfl ?_
      refine r_ald rfl rfl ?_
      refine r_get rfl rfl ?_
      refine r_ifB1 rfl (fun h_2 => ?_) (fun h_2 => ?_)
      · cases h_2
      · refine r_ild rfl rfl ?_
        refine r_ico (x := (nI 9)) rfl rfl ?_
        refine r_cmpN (by omega) (by omega) rfl (fun h_3 => ?_) (fun h_3 => ?_)
        · replace h_3 : m ≤ 9 := h_3
          refine r_ico (x := (nI 0)) rfl rfl ?_
          refine r_put (s' := (c, n, p + m, false, v, f, r)) rfl (Nat.le_of_ble_eq_true rfl) ⟨_, rfl, Or.inl rfl⟩ rfl rfl ?_
          refine r_ild rfl rfl ?_
          refine r_ret rfl ⟨_, rfl⟩ ?_
          have e0 : numEnd (r 2) n (1 - m) (p + m) = p + m := numEnd_no (by
            first
            | exact Or.inr (Or.inl (by omega))
            | (by_cases g : p + m < n
               · rw [ahd_in g] at h_1
                 exact Or.inr (Or.inr h_1)
               · exact Or.inl (by omega)))
          have hQ := hQ _ e0.symm
          rw [show p + m - p = m by omega] at hQ
          have e2 : decide (9 < m) = false := by first | (simp; omega) | (exfalso; omega)
          rw [e2] at hQ
          exact hQ
        · replace h_3 := Nat.not_le.mp h_3
          refine r_ico (x := (nI 1)) rfl rfl ?_
          refine r_go rfl ?_
          refine r_put (s' := (c, n, p + m, true, v, f, r)) rfl (Nat.le_of_ble_eq_true rfl) ⟨_, rfl, Or.inr rfl⟩ rfl rfl ?_
          refine r_ild rfl rfl ?_
          refine r_ret rfl ⟨_, rfl⟩ ?_
          have e0 : numEnd (r 2) n (1 - m) (p + m) = p + m := numEnd_no (by
            first
            | exact Or.inr (Or.inl (by omega))
            | (by_cases g : p + m < n
               · rw [ahd_in g] at h_1
                 exact Or.inr (Or.inr h_1)
               · exact Or.inl (by omega)))
          have hQ := hQ _ e0.symm
          rw [show p + m - p = m by omega] at hQ
          have e2 : decide (9 < m) = true := by first | (simp; omega) | (exfalso; omega)
          rw [e2] at hQ
          exact hQ
    · obtain ⟨-, g2, g3⟩ := ahd_dg h_1
      refine r_ild rfl rfl ?_
      refine r_ild rfl rfl ?_
      refine r_ifB0 rfl (fun h_4 => ?_) (fun h_4 => ?_)
      · cases h_4
      · refine r_ico (x := (nI 1)) rfl rfl ?_
        refine r_go rfl ?_
        refine r_cmpN (by omega) (by omega) rfl (fun h_5 => ?_) (fun h_5 => ?_)
        · replace h_5 : 1 ≤ m := h_5
          refine r_ald rfl rfl ?_
          refine r_ald rfl rfl ?_
          refine r_get rfl rfl ?_
          refine r_ifB1 rfl (fun h_6 => ?_) (fun h_6 => ?_)
          · cases h_6
          · refine r_ild rfl rfl ?_
            refine r_ico (x := (nI 9)) rfl rfl ?_
            refine r_cmpN (by omega) (by omega) rfl (fun h_7 => ?_) (fun h_7 => ?_)
            · replace h_7 : m ≤ 9 := h_7
              refine r_ico (x := (nI 0)) rfl rfl ?_
              refine r_put (s' := (c, n, p + m, false, v, f, r)) rfl (Nat.le_of_ble_eq_true rfl) ⟨_, rfl, Or.inl rfl⟩ rfl rfl ?_
              refine r_ild rfl rfl ?_
              refine r_ret rfl ⟨_, rfl⟩ ?_
              have e0 : numEnd (r 2) n (1 - m) (p + m) = p + m := numEnd_no (by
                first
                | exact Or.inr (Or.inl (by omega))
                | (by_cases g : p + m < n
                   · rw [ahd_in g] at h_1
                     exact Or.inr (Or.inr h_1)
                   · exact Or.inl (by omega)))
              have hQ := hQ _ e0.symm
              rw [show p + m - p = m by omega] at hQ
              have e2 : decide (9 < m) = false := by first | (simp; omega) | (exfalso; omega)
              rw [e2] at hQ
              exact hQ
            · replace h_7 := Nat.not_le.mp h_7
              refine r_ico (x := (nI 1)) rfl rfl ?_
              refine r_go rfl ?_
              refine r_put (s' := (c, n, p + m, true, v, f, r)) rfl (Nat.le_of_ble_eq_true rfl) ⟨_, rfl, Or.inr rfl⟩ rfl rfl ?_
              refine r_ild rfl rfl ?_
              refine r_ret rfl ⟨_, rfl⟩ ?_
              have e0 : numEnd (r 2) n (1 - m) (p + m) = p + m := numEnd_no (by
                first
                | exact Or.inr (Or.inl (by omega))
                | (by_cases g : p + m < n
                   · rw [ahd_in g] at h_1
                     exact Or.inr (Or.inr h_1)
                   · exact Or.inl (by omega)))
              have hQ := hQ _ e0.symm
              rw [show p + m - p = m by omega] at hQ
              have e2 : decide (9 < m) = true := by first | (simp; omega) | (exfalso; omega)
              rw [e2] at hQ
              exact hQ
        · replace h_5 := Nat.not_le.mp h_5
          have J82_7 : ∀ (x82_8 : Int32), x82_8 = (dgv (r 2) p (min (m + 1) 9)) → rEv q qa (d + 2) tb_104 Q 82 [some (zR (some q)), some (zI (dgv (r 2) p (min m 9))), some (zI (nI m)), some (zI (bI (true)))] [zI (x82_8)] (c, n, p + m, false, v, f, r) := by
            intro x82_8 hxx82_8
            refine r_ist (ls' := [some (zR (some q)), some (zI (x82_8)), some (zI (nI m)), some (zI (bI (true)))]) rfl (Nat.le_of_ble_eq_true rfl) rfl ?_
            refine r_inc (x' := (nI (m + 1))) (ls' := [some (zR (some q)), some (zI (x82_8)), some (zI (nI (m + 1))), some (zI (bI (true)))]) rfl rfl (nI_1 _) rfl ?_
            refine r_ald rfl rfl ?_
            refine r_dup rfl rfl ?_
            refine r_get rfl rfl ?_
            refine r_ico (x := (nI 1)) rfl rfl ?_
            refine r_ibi (v := (nI (p + m + 1))) rfl (nI_add _ _) ?_
            refine r_put (s' := (c, n, p + m + 1, false, v, f, r)) rfl (Nat.le_of_ble_eq_true rfl) ⟨_, rfl⟩ rfl rfl ?_
            refine r_go rfl ?_
            subst hxx82_8
            refine ih (m + 1) (by omega) (by omega) (fun e he => hQ e ?_)
            rw [he, show 1 - m = (1 - (m + 1)) + 1 by omega, numEnd_yes g2 g3]; rfl
          refine r_ild rfl rfl ?_
          refine r_ico (x := (nI 9)) rfl rfl ?_
          refine r_cmpN (by omega) (by omega) rfl (fun h_9 => ?_) (fun h_9 => ?_)
          · replace h_9 : 9 ≤ m := h_9
            refine r_ild rfl rfl ?_
            exact J82_7 (dgv (r 2) p (min m 9)) (by rw [show min (m + 1) 9 = 9 by omega, show min m 9 = 9 by omega])
          · replace h_9 := Nat.not_le.mp h_9
            refine r_ico (x := (nI 10)) rfl rfl ?_
            refine r_ild rfl rfl ?_
            refine r_ibi (v := ((nI 10) * (dgv (r 2) p (min m 9)))) rfl rfl ?_
            refine r_ald rfl rfl ?_
            refine r_call (as := [zR (some q)]) (r := [zI ((nI 10) * (dgv (r 2) p (min m 9)))]) (s' := (c, n, p + m, false, v, f, r)) (v := some (zI (ahd n (p + m) false (r 2)))) rfl rfl rfl (Nat.le_of_ble_eq_true rfl) (Or.inr ⟨rfl, rfl, _, rfl⟩) (c_ahead (by omega) (by omega)) ?_
            refine r_ibi (v := (((nI 10) * (dgv (r 2) p (min m 9))) + (ahd n (p + m) false (r 2)))) rfl rfl ?_
            refine r_ico (x := (nI 48)) rfl rfl ?_
            refine r_ibi (v := ((((nI 10) * (dgv (r 2) p (min m 9))) + (ahd n (p + m) false (r 2))) - (nI 48))) rfl rfl ?_
            refine r_go rfl ?_
            exact J82_7 ((((nI 10) * (dgv (r 2) p (min m 9))) + (ahd n (p + m) false (r 2))) - (nI 48)) (by rw [ahd_in g2]; rw [show min (m + 1) 9 = m + 1 by omega, show min m 9 = m by omega]; rfl)
set_option maxHeartbeats 1000000 in
theorem l_numF {q : Nat} {qa : Nat → Nat} {d c n v f p : Nat} {r : rA} {Q : rS → (Option zV ⊕ Nat) → Prop} (hn : n ≤ 160) (hp : p < 90000) : ∀ (k m : Nat), 10 ≤ m + k → m ≤ 10 → (∀ e, e = numEnd (r 2) n (10 - m) (p + m) → Q (c, n, e, decide (9 < e - p), v, f, r) (.inl (some (zI (dgv (r 2) p (min (e - p) 9)))))) → rEv q qa (d + 2) tb_104 Q 36 [some (zR (some q)), some (zI (dgv (r 2) p (min m 9))), some (zI (nI m)), some (zI (bI (false)))] [] (c, n, p + m, false, v, f, r) := by
  intro k
  induction k with
  | zero =>
    intro m hk hm hQ
    have hm : m = 10 := by omega
    subst hm
    have hQ := hQ _ rfl
    rw [numEnd_no (Or.inr (Or.inl rfl))] at hQ
    refine r_ald rfl rfl ?_
    refine r_call (as := [zR (some q)]) (r := []) (s' := (c, n, p + 10, false, v, f, r)) (v := some (zI (ahd n (p + 10) false (r 2)))) rfl rfl rfl (Nat.le_of_ble_eq_true rfl) (Or.inr ⟨rfl, rfl, _, rfl⟩) (c_ahead (by omega) (by omega)) ?_
    refine r_call (as := [zI (ahd n (p + 10) false (r 2))]) (r := []) (s' := (c, n, p + 10, false, v, f, r)) (v := some (zI (bI (isDg (ahd n (p + 10) false (r 2)))))) rfl rfl rfl (Nat.le_of_ble_eq_true rfl) (Or.inl rfl) c_isDigit ?_
    refine r_ifB0 rfl (fun h_1 => ?_) (fun h_1 => ?_)
    · refine r_ald rfl rfl ?_
      refine r_ald rfl rfl ?_
      refine r_get rfl rfl ?_
      refine r_ifB1 rfl (fun h_2 => ?_) (fun h_2 => ?_)
      · cases h_2
      · refine r_ild rfl rfl ?_
        refine r_ico (x := (nI 9)) rfl rfl ?_
        refine r_cmpN (by omega) (by omega) rfl (fun h_3 => ?_) (fun h_3 => ?_)
        · replace h_3 : 10 ≤ 9 := h_3
          omega
        · replace h_3 := Nat.not_le.mp h_3
          refine r_ico (x := (nI 1)) rfl rfl ?_
          refine r_go rfl ?_
          refine r_put (s' := (c, n, p + 10, true, v, f, r)) rfl (Nat.le_of_ble_eq_true rfl) ⟨_, rfl, Or.inr rfl⟩ rfl rfl ?_
          refine r_ild rfl rfl ?_
          refine r_ret rfl ⟨_, rfl⟩ ?_
          have e1 : (p + 10) - p = 10 := by omega
          rw [e1] at hQ
          have e2 : decide (9 < 10) = true := by first | decide | (exfalso; omega)
          rw [e2] at hQ
          exact hQ
    · refine r_ild rfl rfl ?_
      refine r_ild rfl rfl ?_
      refine r_ifB0 rfl (fun h_4 => ?_) (fun h_4 => ?_)
      · refine r_ico (x := (nI 10)) rfl rfl ?_
        refine r_cmpN (by omega) (by omega) rfl (fun h_5 => ?_) (fun h_5 => ?_)
        · replace h_5 : 10 ≤ 10 := h_5
          refine r_ald rfl rfl ?_
          refine r_ald rfl rfl ?_
          refine r_get rfl rfl ?_
          refine r_ifB1 rfl (fun h_6 => ?_) (fun h_6 => ?_)
          · cases h_6
          · refine r_ild rfl rfl ?_
            refine r_ico (x := (nI 9)) rfl rfl ?_
            refine r_cmpN (by omega) (by omega) rfl (fun h_7 => ?_) (fun h_7 => ?_)
            · replace h_7 : 10 ≤ 9 := h_7
              omega
            · replace h_7 := Nat.not_le.mp h_7
              refine r_ico (x := (nI 1)) rfl rfl ?_
              refine r_go rfl ?_
              refine r_put (s' := (c, n, p + 10, true, v, f, r)) rfl (Nat.le_of_ble_eq_true rfl) ⟨_, rfl, Or.inr rfl⟩ rfl rfl ?_
              refine r_ild rfl rfl ?_
              refine r_ret rfl ⟨_, rfl⟩ ?_
              have e1 : (p + 10) - p = 10 := by omega
              rw [e1] at hQ
              have e2 : decide (9 < 10) = true := by first | decide | (exfalso; omega)
              rw [e2] at hQ
              exact hQ
        · replace h_5 := Nat.not_le.mp h_5
          omega
      · cases h_4
  | succ k ih =>
    intro m hk hm hQ
    refine r_ald rfl rfl ?_
    refine r_call (as := [zR (some q)]) (r := []) (s' := (c, n, p + m, false, v, f, r)) (v := some (zI (ahd n (p + m) false (r 2)))) rfl rfl rfl (Nat.le_of_ble_eq_true rfl) (Or.inr ⟨rfl, rfl, _, rfl⟩) (c_ahead (by omega) (by omega)) ?_
    refine r_call (as := [zI (ahd n (p + m) false (r 2))]) (r := []) (s' := (c, n, p + m, false, v, f, r)) (v := some (zI (bI (isDg (ahd n (p + m) false (r 2)))))) rfl rfl rfl (Nat.le_of_ble_eq_true rfl) (Or.inl rfl) c_isDigit ?_
    refine r_ifB0 rfl (fun h_1 => ?_) (fun h_1 => ?_)
    · refine r_ald rfl rfl ?_
      refine r_ald rfl rfl ?_
      refine r_get rfl rfl ?_
      refine r_ifB1 rfl (fun h_2 => ?_) (fun h_2 => ?_)
      · cases h_2
      · refine r_ild rfl rfl ?_
        refine r_ico (x := (nI 9)) rfl rfl ?_
        refine r_cmpN (by omega) (by omega) rfl (fun h_3 => ?_) (fun h_3 => ?_)
        · replace h_3 : m ≤ 9 := h_3
          refine r_ico (x := (nI 0)) rfl rfl ?_
          refine r_put (s' := (c, n, p + m, false, v, f, r)) rfl (Nat.le_of_ble_eq_true rfl) ⟨_, rfl, Or.inl rfl⟩ rfl rfl ?_
          refine r_ild rfl rfl ?_
          refine r_ret rfl ⟨_, rfl⟩ ?_
          have e0 : numEnd (r 2) n (10 - m) (p + m) = p + m := numEnd_no (by
            first
            | exact Or.inr (Or.inl (by omega))
            | (by_cases g : p + m < n
               · rw [ahd_in g] at h_1
                 exact Or.inr (Or.inr h_1)
               · exact Or.inl (by omega)))
          have hQ := hQ _ e0.symm
          rw [show p + m - p = m by omega] at hQ
          have e2 : decide (9 < m) = false := by first | (simp; omega) | (exfalso; omega)
          rw [e2] at hQ
          exact hQ
        · replace h_3 := Nat.not_le.mp h_3
          refine r_ico (x := (nI 1)) rfl rfl ?_
          refine r_go rfl ?_
          refine r_put (s' := (c, n, p + m, true, v, f, r)) rfl (Nat.le_of_ble_eq_true rfl) ⟨_, rfl, Or.inr rfl⟩ rfl rfl ?_
          refine r_ild rfl rfl ?_
          refine r_ret rfl ⟨_, rfl⟩ ?_
          have e0 : numEnd (r 2) n (10 - m) (p + m) = p + m := numEnd_no (by
            first
            | exact Or.inr (Or.inl (by omega))
            | (by_cases g : p + m < n
               · rw [ahd_in g] at h_1
                 exact Or.inr (Or.inr h_1)
               · exact Or.inl (by omega)))
          have hQ := hQ _ e0.symm
          rw [show p + m - p = m by omega] at hQ
          have e2 : decide (9 < m) = true := by first | (simp; omega) | (exfalso; omega)
          rw [e2] at hQ
          exact hQ
    · obtain ⟨-, g2, g3⟩ := ahd_dg h_1
      refine r_ild rfl rfl ?_
      refine r_ild rfl rfl ?_
      refine r_ifB0 rfl (fun h_4 => ?_) (fun h_4 => ?_)
      · refine r_ico (x := (nI 10)) rfl rfl ?_
        refine r_cmpN (by omega) (by omega) rfl (fun h_5 => ?_) (fun h_5 => ?_)
        · replace h_5 : 10 ≤ m := h_5
          refine r_ald rfl rfl ?_
          refine r_ald rfl rfl ?_
          refine r_get rfl rfl ?_
          refine r_ifB1 rfl (fun h_6 => ?_) (fun h_6 => ?_)
          · cases h_6
          · refine r_ild rfl rfl ?_
            refine r_ico (x := (nI 9)) rfl rfl ?_
            refine r_cmpN (by omega) (by omega) rfl (fun h_7 => ?_) (fun h_7 => ?_)
            · replace h_7 : m ≤ 9 := h_7
              refine r_ico (x := (nI 0)) rfl rfl ?_
              refine r_put (s' := (c, n, p + m, false, v, f, r)) rfl (Nat.le_of_ble_eq_true rfl) ⟨_, rfl, Or.inl rfl⟩ rfl rfl ?_
              refine r_ild rfl rfl ?_
              refine r_ret rfl ⟨_, rfl⟩ ?_
              have e0 : numEnd (r 2) n (10 - m) (p + m) = p + m := numEnd_no (by
                first
                | exact Or.inr (Or.inl (by omega))
                | (by_cases g : p + m < n
                   · rw [ahd_in g] at h_1
                     exact Or.inr (Or.inr h_1)
                   · exact Or.inl (by omega)))
              have hQ := hQ _ e0.symm
              rw [show p + m - p = m by omega] at hQ
              have e2 : decide (9 < m) = false := by first | (simp; omega) | (exfalso; omega)
              rw [e2] at hQ
              exact hQ
            · replace h_7 := Nat.not_le.mp h_7
              refine r_ico (x := (nI 1)) rfl rfl ?_
              refine r_go rfl ?_
              refine r_put (s' := (c, n, p + m, true, v, f, r)) rfl (Nat.le_of_ble_eq_true rfl) ⟨_, rfl, Or.inr rfl⟩ rfl rfl ?_
              refine r_ild rfl rfl ?_
              refine r_ret rfl ⟨_, rfl⟩ ?_
              have e0 : numEnd (r 2) n (10 - m) (p + m) = p + m := numEnd_no (by
                first
                | exact Or.inr (Or.inl (by omega))
                | (by_cases g : p + m < n
                   · rw [ahd_in g] at h_1
                     exact Or.inr (Or.inr h_1)
                   · exact Or.inl (by omega)))
              have hQ := hQ _ e0.symm
              rw [show p + m - p = m by omega] at hQ
              have e2 : decide (9 < m) = true := by first | (simp; omega) | (exfalso; omega)
              rw [e2] at hQ
              exact hQ
        · replace h_5 := Nat.not_le.mp h_5
          have J82_7 : ∀ (x82_8 : Int32), x82_8 = (dgv (r 2) p (min (m + 1) 9)) → rEv q qa (d + 2) tb_104 Q 82 [some (zR (some q)), some (zI (dgv (r 2) p (min m 9))), some (zI (nI m)), some (zI (bI (false)))] [zI (x82_8)] (c, n, p + m, false, v, f, r) := by
            intro x82_8 hxx82_8
            refine r_ist (ls' := [some (zR (some q)), some (zI (x82_8)), some (zI (nI m)), some (zI (bI (false)))]) rfl (Nat.le_of_ble_eq_true rfl) rfl ?_
            refine r_inc (x' := (nI (m + 1))) (ls' := [some (zR (some q)), some (zI (x82_8)), some (zI (nI (m + 1))), some (zI (bI (false)))]) rfl rfl (nI_1 _) rfl ?_
            refine r_ald rfl rfl ?_
            refine r_dup rfl rfl ?_
            refine r_get rfl rfl ?_
            refine r_ico (x := (nI 1)) rfl rfl ?_
            refine r_ibi (v := (nI (p + m + 1))) rfl (nI_add _ _) ?_
            refine r_put (s' := (c, n, p + m + 1, false, v, f, r)) rfl (Nat.le_of_ble_eq_true rfl) ⟨_, rfl⟩ rfl rfl ?_
            refine r_go rfl ?_
            subst hxx82_8
            refine ih (m + 1) (by omega) (by omega) (fun e he => hQ e ?_)
            rw [he, show 10 - m = (10 - (m + 1)) + 1 by omega, numEnd_yes g2 g3]; rfl
          refine r_ild rfl rfl ?_
          refine r_ico (x := (nI 9)) rfl rfl ?_
          refine r_cmpN (by omega) (by omega) rfl (fun h_9 => ?_) (fun h_9 => ?_)
          · replace h_9 : 9 ≤ m := h_9
            refine r_ild rfl rfl ?_
            exact J82_7 (dgv (r 2) p (min m 9)) (by rw [show min (m + 1) 9 = 9 by omega, show min m 9 = 9 by omega])
          · replace h_9 := Nat.not_le.mp h_9
            refine r_ico (x := (nI 10)) rfl rfl ?_
            refine r_ild rfl rfl ?_
            refine r_ibi (v := ((nI 10) * (dgv (r 2) p (min m 9)))) rfl rfl ?_
            refine r_ald rfl rfl ?_
            refine r_call (as := [zR (some q)]) (r := [zI ((nI 10) * (dgv (r 2) p (min m 9)))]) (s' := (c, n, p + m, false, v, f, r)) (v := some (zI (ahd n (p + m) false (r 2)))) rfl rfl rfl (Nat.le_of_ble_eq_true rfl) (Or.inr ⟨rfl, rfl, _, rfl⟩) (c_ahead (by omega) (by omega)) ?_
            refine r_ibi (v := (((nI 10) * (dgv (r 2) p (min m 9))) + (ahd n (p + m) false (r 2)))) rfl rfl ?_
            refine r_ico (x := (nI 48)) rfl rfl ?_
            refine r_ibi (v := ((((nI 10) * (dgv (r 2) p (min m 9))) + (ahd n (p + m) false (r 2))) - (nI 48))) rfl rfl ?_
            refine r_go rfl ?_
            exact J82_7 ((((nI 10) * (dgv (r 2) p (min m 9))) + (ahd n (p + m) false (r 2))) - (nI 48)) (by rw [ahd_in g2]; rw [show min (m + 1) 9 = m + 1 by omega, show min m 9 = m by omega]; rfl)
      · cases h_4
set_option maxHeartbeats 1000000 in
theorem c_number {q : Nat} {qa : Nat → Nat} {d c n a v f : Nat} {b : Bool} {r : rA}  (hn : n ≤ 160) (ha : a < 90000) : rFun q qa (d + 3) 104 [zR (some q)] (c, n, a, b, v, f, r) (c, n, numA n a b (r 2), numB n a b (r 2), v, f, r) (some (zI (numV n a b (r 2)))) := by
  refine rFun.of (d := d + 2) (T := tb_104) (L := [some (zR (some q)), none, none, none]) (Nat.le_of_ble_eq_true rfl) rfl rfl ?_
  refine r_ald rfl rfl ?_
  refine r_call (as := [zR (some q)]) (r := []) (s' := (c, n, a, b, v, f, r)) (v := some (zI (ahd n a b (r 2)))) rfl rfl rfl (Nat.le_of_ble_eq_true rfl) (Or.inr ⟨rfl, rfl, _, rfl⟩) (c_ahead (by omega) (by omega)) ?_
  refine r_call (as := [zI (ahd n a b (r 2))]) (r := []) (s' := (c, n, a, b, v, f, r)) (v := some (zI (bI (isDg (ahd n a b (r 2)))))) rfl rfl rfl (Nat.le_of_ble_eq_true rfl) (Or.inl rfl) c_isDigit ?_
  refine r_ifB1 rfl (fun h_1 => ?_) (fun h_1 => ?_)
  · refine r_ico (x := (nI 0)) rfl rfl ?_
    refine r_ist (ls' := [some (zR (some q)), some (zI (nI 0)), none, none]) rfl (Nat.le_of_ble_eq_true rfl) rfl ?_
    refine r_ico (x := (nI 0)) rfl rfl ?_
    refine r_ist (ls' := [some (zR (some q)), some (zI (nI 0)), some (zI (nI 0)), none]) rfl (Nat.le_of_ble_eq_true rfl) rfl ?_
    refine r_ald rfl rfl ?_
    refine r_call (as := [zR (some q)]) (r := []) (s' := (c, n, a, b, v, f, r)) (v := some (zI (ahd n a b (r 2)))) rfl rfl rfl (Nat.le_of_ble_eq_true rfl) (Or.inr ⟨rfl, rfl, _, rfl⟩) (c_ahead (by omega) (by omega)) ?_
    refine r_ico (x := (nI 48)) rfl rfl ?_
    refine r_cmp rfl (fun h_2 => ?_) (fun h_2 => ?_)
    · replace h_2 : ¬ (ahd n a b (r 2)) = (nI 48) := h_2
      refine r_ico (x := (nI 0)) rfl rfl ?_
      refine r_ist (ls' := [some (zR (some q)), some (zI (nI 0)), some (zI (nI 0)), some (zI (nI 0))]) rfl (Nat.le_of_ble_eq_true rfl) rfl ?_
      obtain ⟨g1, g2, g3⟩ := ahd_dg h_1
      subst g1
      rw [ahd_in g2] at h_1 h_2
      exact l_numF (p := a) hn (by omega) 10 0 (by omega) (by omega) (fun e he => ⟨by simp [numA, numB, numE, ahd_in g2, h_1, h_2, he], by simp [numV, numE, ahd_in g2, h_1, h_2, he]⟩)
    · replace h_2 : (ahd n a b (r 2)) = (nI 48) := Decidable.of_not_not h_2
      refine r_ico (x := (nI 1)) rfl rfl ?_
      refine r_go rfl ?_
      refine r_ist (ls' := [some (zR (some q)), some (zI (nI 0)), some (zI (nI 0)), some (zI (nI 1))]) rfl (Nat.le_of_ble_eq_true rfl) rfl ?_
      obtain ⟨g1, g2, g3⟩ := ahd_dg h_1
      subst g1
      rw [ahd_in g2] at h_1 h_2
      exact l_numT (p := a) hn (by omega) 1 0 (by omega) (by omega) (fun e he => ⟨by simp [numA, numB, numE, ahd_in g2, h_1, h_2, he, dg48], by simp [numV, numE, ahd_in g2, h_1, h_2, he, dg48]⟩)
  · refine r_ald rfl rfl ?_
    refine r_ico (x := (nI 1)) rfl rfl ?_
    refine r_put (s' := (c, n, a, true, v, f, r)) rfl (Nat.le_of_ble_eq_true rfl) ⟨_, rfl, Or.inr rfl⟩ rfl rfl ?_
    refine r_ico (x := (nI 0)) rfl rfl ?_
    refine r_ret rfl ⟨_, rfl⟩ ?_
    exact ⟨by simp [numA, numB, h_1], by simp [numV, h_1]⟩
end
section
theorem spn_lem {p : Int32 → Bool} {t : Nat → Int32} {n a : Nat} : spn p t n a ≤ max n a := by
  by_cases h : a ≤ n
  · have := spn_le (p := p) (t := t) h
    omega
  · rw [spn_end (by omega)]
    omega
/-- are they digits, all of them? -/
def alld (t : Nat → Int32) : Nat → Nat → Bool
  | 0, _ => true
  | k + 1, a => isDg (t a) && alld t k (a + 1)
/-- a word of m bytes from a on is no good -/
def wbad (nb : Bool) (t : Nat → Int32) (m a : Nat) : Bool := decide (m = 0) || (nb && alld t m a && (decide (9 < m) || (!decide (m ≤ 1) && decide (t a = nI 48))))
/-- words with points between: where they end, and whether one was no good -/
def wrF (nb : Bool) (t : Nat → Int32) (n : Nat) : Nat → Nat → Nat × Bool
  | 0, a => (a, true)
  | k + 1, a => if wbad nb t (spn isWd t n a - a) a = true then (spn isWd t n a, true) else if ahd n (spn isWd t n a) false t = nI 46 then wrF nb t n k (spn isWd t n a + 1) else (spn isWd t n a, false)
def wr (nb : Bool) (t : Nat → Int32) (n a : Nat) : Nat × Bool := wrF nb t n (n + 1 - a) a
set_option maxHeartbeats 1000000 in
theorem l_wrin {q : Nat} {qa : Nat → Nat} {d c n v f p : Nat} {nb : Bool} {x2 x5 : Option zV} {r : rA} {Q : rS → (Option zV ⊕ Nat) → Prop} (hn : n ≤ 160) : ∀ (k a : Nat) (dg : Bool), n + 1 - a ≤ k → a + k < 100000 → (∀ e, e = spn isWd (r 2) n a → rEv q qa (d + 2) tb_105 Q 66 [some (zR (some q)), some (zI (bI nb)), x2, some (zI (nI p)), some (zI (bI (dg && alld (r 2) (e - a) a))), x5] [] (c, n, e, false, v, f, r)) → rEv q qa (d + 2) tb_105 Q 21 [some (zR (some q)), some (zI (bI (nb))), x2, some (zI (nI p)), some (zI (bI (dg))), x5] [] (c, n, a, false, v, f, r) := by
  intro k
  induction k with
  | zero =>
    intro a dg hk ha2 K
    have K := K _ rfl
    rw [spn_end (by omega), Nat.sub_self] at K
    simp only [alld, Bool.and_true] at K
    have e0 : isWd (ahd n a false (r 2)) = false := by rw [ahd_out (by omega)]; exact wd_m1.1
    refine r_ald rfl rfl ?_
    refine r_call (as := [zR (some q)]) (r := []) (s' := (c, n, a, false, v, f, r)) (v := some (zI (ahd n a false (r 2)))) rfl rfl rfl (Nat.le_of_ble_eq_true rfl) (Or.inr ⟨rfl, rfl, _, rfl⟩) (c_ahead (by omega) (by omega)) ?_
    refine r_call (as := [zI (ahd n a false (r 2))]) (r := []) (s' := (c, n, a, false, v, f, r)) (v := some (zI (bI (isWd (ahd n a false (r 2)))))) rfl rfl rfl (Nat.le_of_ble_eq_true rfl) (Or.inl rfl) c_isOfWord ?_
    refine r_ifB0 rfl (fun h_1 => ?_) (fun h_1 => ?_)
    · exact K
    · rw [e0] at h_1; cases h_1
  | succ k ih =>
    intro a dg hk ha2 K
    refine r_ald rfl rfl ?_
    refine r_call (as := [zR (some q)]) (r := []) (s' := (c, n, a, false, v, f, r)) (v := some (zI (ahd n a false (r 2)))) rfl rfl rfl (Nat.le_of_ble_eq_true rfl) (Or.inr ⟨rfl, rfl, _, rfl⟩) (c_ahead (by omega) (by omega)) ?_
    refine r_call (as := [zI (ahd n a false (r 2))]) (r := []) (s' := (c, n, a, false, v, f, r)) (v := some (zI (bI (isWd (ahd n a false (r 2)))))) rfl rfl rfl (Nat.le_of_ble_eq_true rfl) (Or.inl rfl) c_isOfWord ?_
    refine r_ifB0 rfl (fun h_1 => ?_) (fun h_1 => ?_)
    · have K := K _ rfl
      rw [show spn isWd (r 2) n a = a from (by
      by_cases g : a < n
      · rw [ahd_in g] at h_1
        exact spn_no h_1
      · exact spn_end (by omega)), Nat.sub_self] at K
      simp only [alld, Bool.and_true] at K
      exact K
    · obtain ⟨-, g2, g3⟩ := ahd_wd (p := isWd) wd_m1.1 h_1
      have J51_1 : ∀ (x51_2 : Bool), x51_2 = (dg && isDg (r 2 a)) → rEv q qa (d + 2) tb_105 Q 51 [some (zR (some q)), some (zI (bI (nb))), x2, some (zI (nI p)), some (zI (bI (dg))), x5] [zI (bI (x51_2))] (c, n, a, false, v, f, r) := by
        intro x51_2 hxx51_2
        refine r_ist (ls' := [some (zR (some q)), some (zI (bI (nb))), x2, some (zI (nI p)), some (zI (bI (x51_2))), x5]) rfl (Nat.le_of_ble_eq_true rfl) rfl ?_
        refine r_ald rfl rfl ?_
        refine r_dup rfl rfl ?_
        refine r_get rfl rfl ?_
        refine r_ico (x := (nI 1)) rfl rfl ?_
        refine r_ibi (v := (nI (a + 1))) rfl (nI_add _ _) ?_
        refine r_put (s' := (c, n, a + 1, false, v, f, r)) rfl (Nat.le_of_ble_eq_true rfl) ⟨_, rfl⟩ rfl rfl ?_
        refine r_go rfl ?_
        refine ih (a + 1) x51_2 (by omega) (by omega) (fun e he => ?_)
        have he1 := K e (by rw [he, spn_yes g2 g3])
        have he2 : a + 1 ≤ e := by rw [he]; exact spn_ge
        rw [show e - a = (e - (a + 1)) + 1 by omega] at he1
        subst hxx51_2
        rw [Bool.and_assoc]
        exact he1
      obtain ⟨-, g2, g3⟩ := ahd_wd (p := isWd) wd_m1.1 h_1
      refine r_ild rfl rfl ?_
      refine r_ifB0 rfl (fun h_3 => ?_) (fun h_3 => ?_)
      · refine r_ico (x := (nI 0)) rfl rfl ?_
        exact J51_1 false (by first | (rw [ahd_in g2] at *; simp_all; done) | simp_all)
      · refine r_ald rfl rfl ?_
        refine r_call (as := [zR (some q)]) (r := []) (s' := (c, n, a, false, v, f, r)) (v := some (zI (ahd n a false (r 2)))) rfl rfl rfl (Nat.le_of_ble_eq_true rfl) (Or.inr ⟨rfl, rfl, _, rfl⟩) (c_ahead (by omega) (by omega)) ?_
        refine r_call (as := [zI (ahd n a false (r 2))]) (r := []) (s' := (c, n, a, false, v, f, r)) (v := some (zI (bI (isDg (ahd n a false (r 2)))))) rfl rfl rfl (Nat.le_of_ble_eq_true rfl) (Or.inl rfl) c_isDigit ?_
        refine r_ifB0 rfl (fun h_4 => ?_) (fun h_4 => ?_)
        · refine r_ico (x := (nI 0)) rfl rfl ?_
          exact J51_1 false (by first | (rw [ahd_in g2] at *; simp_all; done) | simp_all)
        · refine r_ico (x := (nI 1)) rfl rfl ?_
          refine r_go rfl ?_
          exact J51_1 true (by first | (rw [ahd_in g2] at *; simp_all; done) | simp_all)
theorem l_wrst {q : Nat} {qa : Nat → Nat} {d c n a v f : Nat} {b nb : Bool} {x3 x4 x5 : Option zV} {r : rA} {Q : rS → (Option zV ⊕ Nat) → Prop} (hQ : Q (c, n, a, b, v, f, r) (.inl none)) : rEv q qa (d + 2) tb_105 Q 2 [some (zR (some q)), some (zI (bI (nb))), some (zI (bI (false))), x3, x4, x5] [] (c, n, a, b, v, f, r) := by
  refine r_ild rfl rfl ?_
  refine r_ifB0 rfl (fun h_1 => ?_) (fun h_1 => ?_)
  · refine r_rtv rfl ?_
    exact hQ
  · cases h_1
set_option maxHeartbeats 1000000 in
theorem l_wr {q : Nat} {qa : Nat → Nat} {d c n v f : Nat} {nb : Bool} {r : rA} {Q : rS → (Option zV ⊕ Nat) → Prop} (hn : n ≤ 160) : ∀ (k a : Nat) (x3 x4 x5 : Option zV), n + 1 - a ≤ k → 0 < k → a ≤ n → Q (c, n, (wrF nb (r 2) n k a).1, (wrF nb (r 2) n k a).2, v, f, r) (.inl none) → rEv q qa (d + 2) tb_105 Q 2 [some (zR (some q)), some (zI (bI (nb))), some (zI (bI (true))), x3, x4, x5] [] (c, n, a, false, v, f, r) := by
  intro k
  induction k with
  | zero =>
    intro a x3 x4 x5 hk hk0
    omega
  | succ k ih =>
    intro a x3 x4 x5 hk hk0 ha2 hQ
    refine r_ild rfl rfl ?_
    refine r_ifB0 rfl (fun h_1 => ?_) (fun h_1 => ?_)
    · cases h_1
    · refine r_ald rfl rfl ?_
      refine r_get rfl rfl ?_
      refine r_ifB1 rfl (fun h_2 => ?_) (fun h_2 => ?_)
      · cases h_2
      · refine r_ald rfl rfl ?_
        refine r_get rfl rfl ?_
        refine r_ist (ls' := [some (zR (some q)), some (zI (bI (nb))), some (zI (bI (true))), some (zI (nI a)), x4, x5]) rfl (Nat.le_of_ble_eq_true rfl) rfl ?_
        refine r_ico (x := (nI 1)) rfl rfl ?_
        refine r_ist (ls' := [some (zR (some q)), some (zI (bI (nb))), some (zI (bI (true))), some (zI (nI a)), some (zI (nI 1)), x5]) rfl (Nat.le_of_ble_eq_true rfl) rfl ?_
        refine l_wrin hn (n + 1 - a) a true (Nat.le_refl _) (by omega) (fun e he => ?_)
        have he1 : a ≤ e := by rw [he]; exact spn_ge
        have he2 : e ≤ max n a := by rw [he]; exact spn_lem
        rw [Bool.true_and]
        refine r_ald rfl rfl ?_
        refine r_get rfl rfl ?_
        refine r_ild rfl rfl ?_
        refine r_ibi (v := (nI (e - a))) rfl (pk_sub he1) ?_
        refine r_ist (ls' := [some (zR (some q)), some (zI (bI (nb))), some (zI (bI (true))), some (zI (nI a)), some (zI (bI (alld (r 2) (e - a) a))), some (zI (nI (e - a)))]) rfl (Nat.le_of_ble_eq_true rfl) rfl ?_
        refine r_ald rfl rfl ?_
        refine r_ald rfl rfl ?_
        have J125_2 : ∀ (x125_3 : Bool), x125_3 = (wbad nb (r 2) (e - a) a) → rEv q qa (d + 2) tb_105 Q 125 [some (zR (some q)), some (zI (bI (nb))), some (zI (bI (true))), some (zI (nI a)), some (zI (bI (alld (r 2) (e - a) a))), some (zI (nI (e - a)))] [zI (bI (x125_3)), zR (some q)] (c, n, e, false, v, f, r) := by
          intro x125_3 hxx125_3
          refine r_put (s' := (c, n, e, x125_3, v, f, r)) rfl (Nat.le_of_ble_eq_true rfl) ⟨_, rfl, bI_01 _⟩ rfl rfl ?_
          refine r_ald rfl rfl ?_
          have J142_3 : ∀ (x142_4 : Bool), x142_4 = (decide (ahd n e x125_3 (r 2) = nI 46)) → rEv q qa (d + 2) tb_105 Q 142 [some (zR (some q)), some (zI (bI (nb))), some (zI (bI (true))), some (zI (nI a)), some (zI (bI (alld (r 2) (e - a) a))), some (zI (nI (e - a)))] [zI (bI (x142_4))] (c, n, e, x125_3, v, f, r) := by
            intro x142_4 hxx142_4
            refine r_ist (ls' := [some (zR (some q)), some (zI (bI (nb))), some (zI (bI (x142_4))), some (zI (nI a)), some (zI (bI (alld (r 2) (e - a) a))), some (zI (nI (e - a)))]) rfl (Nat.le_of_ble_eq_true rfl) rfl ?_
            refine r_ald rfl rfl ?_
            refine r_ild rfl rfl ?_
            refine r_ifB0 rfl (fun h_5 => ?_) (fun h_5 => ?_)
            · refine r_ald rfl rfl ?_
              refine r_get rfl rfl ?_
              refine r_put (s' := (c, n, e, x125_3, v, f, r)) rfl (Nat.le_of_ble_eq_true rfl) ⟨_, rfl⟩ rfl rfl ?_
              refine r_go rfl ?_
              rw [wrF, ← he, ← hxx125_3] at hQ
              replace hxx142_4 : decide (ahd n e x125_3 (r 2) = nI 46) = false := by rw [← hxx142_4]; assumption
              have hm : x142_4 = false := by assumption
              rw [hm]
              refine l_wrst ?_
              cases x125_3 with
              | true => simpa using hQ
              | false =>
                have h9 : ¬ ahd n e false (r 2) = nI 46 := by simpa using hxx142_4
                rw [if_neg (by simp), if_neg h9] at hQ
                exact hQ
            · refine r_ald rfl rfl ?_
              refine r_get rfl rfl ?_
              refine r_ico (x := (nI 1)) rfl rfl ?_
              refine r_ibi (v := (nI (e + 1))) rfl (nI_add _ _) ?_
              refine r_go rfl ?_
              refine r_put (s' := (c, n, e + 1, x125_3, v, f, r)) rfl (Nat.le_of_ble_eq_true rfl) ⟨_, rfl⟩ rfl rfl ?_
              refine r_go rfl ?_
              rw [wrF, ← he, ← hxx125_3] at hQ
              have hm : x142_4 = true := by assumption
              have h9 : ahd n e x125_3 (r 2) = nI 46 := by rw [hm] at hxx142_4; simpa using hxx142_4.symm
              obtain ⟨g1, g2, g3⟩ := ahd_eq h9 (by decide +kernel)
              rw [g1] at h9 hQ ⊢
              rw [hm]
              rw [if_neg (by simp), if_pos h9] at hQ
              exact ih (e + 1) _ _ _ (by omega) (by omega) (by omega) hQ
          refine r_call (as := [zR (some q)]) (r := []) (s' := (c, n, e, x125_3, v, f, r)) (v := some (zI (ahd n e x125_3 (r 2)))) rfl rfl rfl (Nat.le_of_ble_eq_true rfl) (Or.inr ⟨rfl, rfl, _, rfl⟩) (c_ahead (by omega) (by omega)) ?_
          refine r_ico (x := (nI 46)) rfl rfl ?_
          refine r_cmp rfl (fun h_6 => ?_) (fun h_6 => ?_)
          · replace h_6 : ¬ (ahd n e x125_3 (r 2)) = (nI 46) := h_6
            refine r_ico (x := (nI 0)) rfl rfl ?_
            exact J142_3 false (by first | exact (decide_eq_true (by assumption)).symm | exact (decide_eq_false (by assumption)).symm)
          · replace h_6 : (ahd n e x125_3 (r 2)) = (nI 46) := Decidable.of_not_not h_6
            refine r_ico (x := (nI 1)) rfl rfl ?_
            refine r_go rfl ?_
            exact J142_3 true (by first | exact (decide_eq_true (by assumption)).symm | exact (decide_eq_false (by assumption)).symm)
        refine r_get rfl rfl ?_
        refine r_ifB1 rfl (fun h_7 => ?_) (fun h_7 => ?_)
        · cases h_7
        · refine r_ild rfl rfl ?_
          refine r_ifN (by omega) rfl (fun h_8 => ?_) (fun h_8 => ?_)
          · replace h_8 : e - a = 0 := h_8
            refine r_ico (x := (nI 1)) rfl rfl ?_
            refine r_go rfl ?_
            exact J125_2 true (by clear hQ ih he J125_2; generalize e - a = m at *; unfold wbad; simp [*])
          · replace h_8 : ¬ (e - a = 0) := h_8
            refine r_ild rfl rfl ?_
            refine r_ifB0 rfl (fun h_9 => ?_) (fun h_9 => ?_)
            · refine r_ico (x := (nI 0)) rfl rfl ?_
              exact J125_2 false (by clear hQ ih he J125_2; generalize e - a = m at *; unfold wbad; simp [*])
            · refine r_ild rfl rfl ?_
              refine r_ifB0 rfl (fun h_10 => ?_) (fun h_10 => ?_)
              · refine r_ico (x := (nI 0)) rfl rfl ?_
                exact J125_2 false (by clear hQ ih he J125_2; generalize e - a = m at *; unfold wbad; simp [*])
              · refine r_ild rfl rfl ?_
                refine r_ico (x := (nI 9)) rfl rfl ?_
                refine r_cmpN (by omega) (by omega) rfl (fun h_11 => ?_) (fun h_11 => ?_)
                · replace h_11 : 9 < e - a := h_11
                  refine r_ico (x := (nI 1)) rfl rfl ?_
                  refine r_go rfl ?_
                  exact J125_2 true (by clear hQ ih he J125_2; generalize e - a = m at *; unfold wbad; simp [*])
                · replace h_11 := Nat.not_lt.mp h_11
                  refine r_ild rfl rfl ?_
                  refine r_ico (x := (nI 1)) rfl rfl ?_
                  refine r_cmpN (by omega) (by omega) rfl (fun h_12 => ?_) (fun h_12 => ?_)
                  · replace h_12 : e - a ≤ 1 := h_12
                    refine r_ico (x := (nI 0)) rfl rfl ?_
                    exact J125_2 false (by clear hQ ih he J125_2; generalize e - a = m at *; unfold wbad; simp [*])
                  · replace h_12 := Nat.not_le.mp h_12
                    refine r_ald rfl rfl ?_
                    refine r_get rfl rfl ?_
                    refine r_ild rfl rfl ?_
                    refine r_ialdN (k0 := 2) rfl rfl (by omega) (by decide) ?_
                    refine r_ico (x := (nI 48)) rfl rfl ?_
                    refine r_cmp rfl (fun h_13 => ?_) (fun h_13 => ?_)
                    · replace h_13 : ¬ (r 2 a) = (nI 48) := h_13
                      refine r_ico (x := (nI 0)) rfl rfl ?_
                      exact J125_2 false (by clear hQ ih he J125_2; generalize e - a = m at *; unfold wbad; simp [*])
                    · replace h_13 : (r 2 a) = (nI 48) := Decidable.of_not_not h_13
                      refine r_ico (x := (nI 1)) rfl rfl ?_
                      refine r_go rfl ?_
                      exact J125_2 true (by clear hQ ih he J125_2; generalize e - a = m at *; unfold wbad; simp [*])
set_option maxHeartbeats 1000000 in
theorem c_wordRow {q : Nat} {qa : Nat → Nat} {d c n a v f : Nat} {b : Bool} {r : rA} {nb : Bool} (hn : n ≤ 160) (ha : a < 80000) (hb : a ≤ n) : rFun q qa (d + 3) 105 [zR (some q), zI (bI (nb))] (c, n, a, false, v, f, r) (c, n, (wr nb (r 2) n a).1, (wr nb (r 2) n a).2, v, f, r) none := by
  refine rFun.of (d := d + 2) (T := tb_105) (L := [some (zR (some q)), some (zI (bI (nb))), none, none, none, none]) (Nat.le_of_ble_eq_true rfl) rfl rfl ?_
  refine r_ico (x := (nI 1)) rfl rfl ?_
  refine r_ist (ls' := [some (zR (some q)), some (zI (bI (nb))), some (zI (nI 1)), none, none, none]) rfl (Nat.le_of_ble_eq_true rfl) rfl ?_
  exact l_wr hn (n + 1 - a) a _ _ _ (Nat.le_refl _) (by omega) (by omega) ⟨rfl, rfl⟩
set_option maxHeartbeats 1000000 in
theorem c_wordRowB {q : Nat} {qa : Nat → Nat} {d c n a v f : Nat} {b : Bool} {r : rA} {nb : Bool}  : rFun q qa (d + 3) 105 [zR (some q), zI (bI (nb))] (c, n, a, true, v, f, r) (c, n, a, true, v, f, r) none := by
  refine rFun.of (d := d + 2) (T := tb_105) (L := [some (zR (some q)), some (zI (bI (nb))), none, none, none, none]) (Nat.le_of_ble_eq_true rfl) rfl rfl ?_
  refine r_ico (x := (nI 1)) rfl rfl ?_
  refine r_ist (ls' := [some (zR (some q)), some (zI (bI (nb))), some (zI (nI 1)), none, none, none]) rfl (Nat.le_of_ble_eq_true rfl) rfl ?_
  refine r_ild rfl rfl ?_
  refine r_ifN (by omega) rfl (fun h_1 => ?_) (fun h_1 => ?_)
  · replace h_1 : 1 = 0 := h_1
    omega
  · replace h_1 : ¬ (1 = 0) := h_1
    refine r_ald rfl rfl ?_
    refine r_get rfl rfl ?_
    refine r_ifB1 rfl (fun h_2 => ?_) (fun h_2 => ?_)
    · refine r_rtv rfl ?_
      exact ⟨rfl, rfl⟩
    · cases h_2
end
section
/-- words of the text, laid into a row -/
def cpR (r : rA) (k0 o p m : Nat) : rA := fun j => if j = k0 then (fun i => if o ≤ i ∧ i < o + m then r 2 (p + (i - o)) else r k0 i) else r j
theorem cpR_0 (r : rA) (k0 o p : Nat) : cpR r k0 o p 0 = r := by
  funext j i
  unfold cpR
  split
  · rename_i h
    subst h
    show (if _ then _ else _) = _
    rw [if_neg (by omega)]
  · rfl
theorem cpR_n {r : rA} {k0 o p m j : Nat} (h : j ≠ k0) : cpR r k0 o p m j = r j := by simp [cpR, h]
theorem cpR_s {r : rA} {k0 o p m : Nat} (h : k0 ≠ 2) : rset (cpR r k0 o p m) k0 (o + m) (cpR r k0 o p m 2 (p + m)) = cpR r k0 o p (m + 1) := by
  funext j i
  unfold rset
  split
  · rename_i hj
    subst hj
    rw [cpR_n (fun z => h z.symm)]
    unfold upd cpR
    simp only [if_true]
    by_cases hi : i = o + m
    · subst hi
      rw [if_pos rfl, if_pos (by omega)]
      congr 1
      omega
    · rw [if_neg hi]
      by_cases g : o ≤ i ∧ i < o + m
      · rw [if_pos g, if_pos (by omega)]
      · rw [if_neg g, if_neg (by omega)]
  · rename_i hj
    rw [cpR_n hj, cpR_n hj]
theorem wrF_le {nb : Bool} {t : Nat → Int32} {n : Nat} : ∀ (k a : Nat), a ≤ n → a ≤ (wrF nb t n k a).1 ∧ (wrF nb t n k a).1 ≤ n
  | 0, a, h => ⟨Nat.le_refl _, h⟩
  | k + 1, a, h => by
    have h1 : a ≤ spn isWd t n a := spn_ge
    have h2 : spn isWd t n a ≤ n := spn_le h
    unfold wrF
    split
    · exact ⟨h1, h2⟩
    · split
      · rename_i g
        obtain ⟨-, g2, -⟩ := ahd_eq g (by decide +kernel)
        have := wrF_le (nb := nb) (t := t) (n := n) k (spn isWd t n a + 1) (by omega)
        omega
      · exact ⟨h1, h2⟩
theorem wr_le {nb : Bool} {t : Nat → Int32} {n a : Nat} (h : a ≤ n) : a ≤ (wr nb t n a).1 ∧ (wr nb t n a).1 ≤ n := wrF_le _ _ h
/-- what beforeWords(row) does: at, bad, the arrays -/
def bwF (row n a : Nat) (b : Bool) (r : rA) : Nat × Bool × rA :=
  if ahd n a b (r 2) = nI 45 then
    if (wr true (r 2) n (a + 1)).2 || decide (24 < (wr true (r 2) n (a + 1)).1 - (a + 1)) then ((wr true (r 2) n (a + 1)).1, true, rset (rset r 8 row (nI 0)) 8 row (nI ((wr true (r 2) n (a + 1)).1 - (a + 1))))
    else ((wr true (r 2) n (a + 1)).1, false, rset (cpR (rset r 8 row (nI 0)) 9 (24 * row) (a + 1) ((wr true (r 2) n (a + 1)).1 - (a + 1))) 8 row (nI ((wr true (r 2) n (a + 1)).1 - (a + 1))))
  else (a, b, rset r 8 row (nI 0))
set_option maxHeartbeats 1000000 in
theorem l_bw {q : Nat} {qa : Nat → Nat} {d c n a v f row p m : Nat} {r : rA} {Q : rS → (Option zV ⊕ Nat) → Prop} (hrow : row < 900) (hm : m ≤ 24) (hp : p + m ≤ 160) (hQ : Q (c, n, a, false, v, f, rset (cpR r 9 (24 * row) p m) 8 row (nI m)) (.inl none)) : ∀ (i k : Nat), m ≤ k + i → k ≤ m → rEv q qa (d + 3) tb_106 Q 69 [some (zR (some q)), some (zI (nI row)), some (zI (nI p)), some (zI (nI m)), some (zI (nI k))] [] (c, n, a, false, v, f, cpR r 9 (24 * row) p k) := by
  intro i
  induction i with
  | zero =>
    intro k h1 h2
    have h3 : m = k := by omega
    subst h3
    refine r_ild rfl rfl ?_
    refine r_ild rfl rfl ?_
    refine r_cmpN (by omega) (by omega) rfl (fun h_1 => ?_) (fun h_1 => ?_)
    · replace h_1 : m ≤ m := h_1
      refine r_ald rfl rfl ?_
      refine r_get rfl rfl ?_
      refine r_ild rfl rfl ?_
      refine r_ild rfl rfl ?_
      refine r_iastN (k0 := 8) (x' := (nI m)) rfl rfl (by omega) (by decide) rfl ?_
      refine r_rtv rfl ?_
      exact hQ
    · replace h_1 := Nat.not_le.mp h_1
      omega
  | succ i ih =>
    intro k h1 h2
    refine r_ild rfl rfl ?_
    refine r_ild rfl rfl ?_
    refine r_cmpN (by omega) (by omega) rfl (fun h_1 => ?_) (fun h_1 => ?_)
    · replace h_1 : m ≤ k := h_1
      refine r_ald rfl rfl ?_
      refine r_get rfl rfl ?_
      refine r_ild rfl rfl ?_
      refine r_ild rfl rfl ?_
      refine r_iastN (k0 := 8) (x' := (nI m)) rfl rfl (by omega) (by decide) rfl ?_
      refine r_rtv rfl ?_
      have h3 : m = k := by omega
      subst h3
      exact hQ
    · replace h_1 := Nat.not_le.mp h_1
      refine r_ald rfl rfl ?_
      refine r_get rfl rfl ?_
      refine r_ifB1 rfl (fun h_2 => ?_) (fun h_2 => ?_)
      · cases h_2
      · refine r_ald rfl rfl ?_
        refine r_get rfl rfl ?_
        refine r_ico (x := (nI 24)) rfl rfl ?_
        refine r_ild rfl rfl ?_
        refine r_ibi (v := (nI (24 * row))) rfl (pk_mul _ _) ?_
        refine r_ild rfl rfl ?_
        refine r_ibi (v := (nI (24 * row + k))) rfl (nI_add _ _) ?_
        refine r_ald rfl rfl ?_
        refine r_get rfl rfl ?_
        refine r_ild rfl rfl ?_
        refine r_ild rfl rfl ?_
        refine r_ibi (v := (nI (p + k))) rfl (nI_add _ _) ?_
        refine r_ialdN (k0 := 2) rfl rfl (by omega) (by decide) ?_
        refine r_iastN (k0 := 9) (x' := ((cpR r 9 (24 * row) p k) 2 (p + k))) rfl rfl (by omega) (by decide) rfl ?_
        refine r_inc (x' := (nI (k + 1))) (ls' := [some (zR (some q)), some (zI (nI row)), some (zI (nI p)), some (zI (nI m)), some (zI (nI (k + 1)))]) rfl rfl (nI_1 _) rfl ?_
        refine r_go rfl ?_
        rw [cpR_s (by decide)]
        exact ih (k + 1) (by omega) (by omega)
set_option maxHeartbeats 1000000 in
theorem l_bwB {q : Nat} {qa : Nat → Nat} {d c n a v f row p m : Nat} {r : rA} {Q : rS → (Option zV ⊕ Nat) → Prop} (hrow : row < 900) (hm : m < 90000) (hQ : Q (c, n, a, true, v, f, rset r 8 row (nI m)) (.inl none)) : rEv q qa (d + 3) tb_106 Q 69 [some (zR (some q)), some (zI (nI row)), some (zI (nI p)), some (zI (nI m)), some (zI (nI 0))] [] (c, n, a, true, v, f, r) := by
  refine r_ild rfl rfl ?_
  refine r_ild rfl rfl ?_
  refine r_cmpN (by omega) (by omega) rfl (fun h_1 => ?_) (fun h_1 => ?_)
  · replace h_1 : m ≤ 0 := h_1
    refine r_ald rfl rfl ?_
    refine r_get rfl rfl ?_
    refine r_ild rfl rfl ?_
    refine r_ild rfl rfl ?_
    refine r_iastN (k0 := 8) (x' := (nI m)) rfl rfl (by omega) (by decide) rfl ?_
    refine r_rtv rfl ?_
    exact hQ
  · replace h_1 := Nat.not_le.mp h_1
    refine r_ald rfl rfl ?_
    refine r_get rfl rfl ?_
    refine r_ifB1 rfl (fun h_2 => ?_) (fun h_2 => ?_)
    · refine r_ald rfl rfl ?_
      refine r_get rfl rfl ?_
      refine r_ild rfl rfl ?_
      refine r_ild rfl rfl ?_
      refine r_iastN (k0 := 8) (x' := (nI m)) rfl rfl (by omega) (by decide) rfl ?_
      refine r_rtv rfl ?_
      exact hQ
    · cases h_2
set_option maxHeartbeats 1000000 in
theorem c_beforeWords {q : Nat} {qa : Nat → Nat} {d c n a v f row : Nat} {b : Bool} {r : rA} (hrow : row < 900) (hn : n ≤ 160) (ha : a < 80000) : rFun q qa (d + 4) 106 [zR (some q), zI (nI row)] (c, n, a, b, v, f, r) (c, n, (bwF row n a b r).1, (bwF row n a b r).2.1, v, f, (bwF row n a b r).2.2) none := by
  refine rFun.of (d := d + 3) (T := tb_106) (L := [some (zR (some q)), some (zI (nI row)), none, none, none]) (Nat.le_of_ble_eq_true rfl) rfl rfl ?_
  refine r_ald rfl rfl ?_
  refine r_get rfl rfl ?_
  refine r_ild rfl rfl ?_
  refine r_ico (x := (nI 0)) rfl rfl ?_
  refine r_iastN (k0 := 8) (x' := (nI 0)) rfl rfl (by omega) (by decide) rfl ?_
  refine r_ald rfl rfl ?_
  refine r_call (as := [zR (some q)]) (r := []) (s' := (c, n, a, b, v, f, rset r 8 row (nI 0))) (v := some (zI (ahd n a b ((rset r 8 row (nI 0)) 2)))) rfl rfl rfl (Nat.le_of_ble_eq_true rfl) (Or.inr ⟨rfl, rfl, _, rfl⟩) (c_ahead (by omega) (by omega)) ?_
  refine r_ico (x := (nI 45)) rfl rfl ?_
  refine r_cmp rfl (fun h_1 => ?_) (fun h_1 => ?_)
  · replace h_1 : (ahd n a b ((rset r 8 row (nI 0)) 2)) = (nI 45) := h_1
    rw [rset_n _ _ _ (by decide)] at h_1
    obtain ⟨g1, g2, g3⟩ := ahd_eq h_1 (by decide +kernel)
    subst g1
    have hw := wr_le (nb := true) (t := r 2) (n := n) (a := a + 1) (by omega)
    refine r_ald rfl rfl ?_
    refine r_dup rfl rfl ?_
    refine r_get rfl rfl ?_
    refine r_ico (x := (nI 1)) rfl rfl ?_
    refine r_ibi (v := (nI (a + 1))) rfl (nI_add _ _) ?_
    refine r_put (s' := (c, n, a + 1, false, v, f, rset r 8 row (nI 0))) rfl (Nat.le_of_ble_eq_true rfl) ⟨_, rfl⟩ rfl rfl ?_
    refine r_ald rfl rfl ?_
    refine r_get rfl rfl ?_
    refine r_ist (ls' := [some (zR (some q)), some (zI (nI row)), some (zI (nI (a + 1))), none, none]) rfl (Nat.le_of_ble_eq_true rfl) rfl ?_
    refine r_ald rfl rfl ?_
    refine r_ico (x := (nI 1)) rfl rfl ?_
    refine r_call (as := [zR (some q), zI (nI 1)]) (r := []) (s' := (c, n, (wr true ((rset r 8 row (nI 0)) 2) n (a + 1)).1, (wr true ((rset r 8 row (nI 0)) 2) n (a + 1)).2, v, f, rset r 8 row (nI 0))) (v := none) rfl rfl rfl (Nat.le_of_ble_eq_true rfl) (Or.inr ⟨rfl, rfl, _, rfl⟩) (c_wordRow (b := false) (nb := true) (by omega) (by omega) (by omega)) ?_
    rw [rset_n _ _ _ (by decide)]
    have hF : bwF row n a false r = if (wr true (r 2) n (a + 1)).2 || decide (24 < (wr true (r 2) n (a + 1)).1 - (a + 1)) then ((wr true (r 2) n (a + 1)).1, true, rset (rset r 8 row (nI 0)) 8 row (nI ((wr true (r 2) n (a + 1)).1 - (a + 1)))) else ((wr true (r 2) n (a + 1)).1, false, rset (cpR (rset r 8 row (nI 0)) 9 (24 * row) (a + 1) ((wr true (r 2) n (a + 1)).1 - (a + 1))) 8 row (nI ((wr true (r 2) n (a + 1)).1 - (a + 1)))) := by unfold bwF; rw [if_pos h_1]
    rw [hF]
    generalize (wr true (r 2) n (a + 1)).1 = e at *
    generalize (wr true (r 2) n (a + 1)).2 = bd at *
    refine r_ald rfl rfl ?_
    refine r_get rfl rfl ?_
    refine r_ild rfl rfl ?_
    refine r_ibi (v := (nI (e - (a + 1)))) rfl (pk_sub (by omega)) ?_
    refine r_ist (ls' := [some (zR (some q)), some (zI (nI row)), some (zI (nI (a + 1))), some (zI (nI (e - (a + 1)))), none]) rfl (Nat.le_of_ble_eq_true rfl) rfl ?_
    refine r_ald rfl rfl ?_
    refine r_ald rfl rfl ?_
    refine r_get rfl rfl ?_
    refine r_ifB1 rfl (fun h_2 => ?_) (fun h_2 => ?_)
    · refine r_ico (x := (nI 1)) rfl rfl ?_
      refine r_go rfl ?_
      refine r_put (s' := (c, n, e, true, v, f, rset r 8 row (nI 0))) rfl (Nat.le_of_ble_eq_true rfl) ⟨_, rfl, Or.inr rfl⟩ rfl rfl ?_
      refine r_ico (x := (nI 0)) rfl rfl ?_
      refine r_ist (ls' := [some (zR (some q)), some (zI (nI row)), some (zI (nI (a + 1))), some (zI (nI (e - (a + 1)))), some (zI (nI 0))]) rfl (Nat.le_of_ble_eq_true rfl) rfl ?_
      rw [if_pos (by first | (rw [h_2]; rfl) | (simp; right; omega))]
      exact l_bwB hrow (by omega) ⟨rfl, rfl⟩
    · refine r_ild rfl rfl ?_
      refine r_ico (x := (nI 24)) rfl rfl ?_
      refine r_cmpN (by omega) (by omega) rfl (fun h_3 => ?_) (fun h_3 => ?_)
      · replace h_3 : e - (a + 1) ≤ 24 := h_3
        refine r_ico (x := (nI 0)) rfl rfl ?_
        refine r_put (s' := (c, n, e, false, v, f, rset r 8 row (nI 0))) rfl (Nat.le_of_ble_eq_true rfl) ⟨_, rfl, Or.inl rfl⟩ rfl rfl ?_
        refine r_ico (x := (nI 0)) rfl rfl ?_
        refine r_ist (ls' := [some (zR (some q)), some (zI (nI row)), some (zI (nI (a + 1))), some (zI (nI (e - (a + 1)))), some (zI (nI 0))]) rfl (Nat.le_of_ble_eq_true rfl) rfl ?_
        rw [if_neg (by rw [h_2]; simp; omega)]
        exact Eq.mp (congrArg (fun z => rEv q qa (d + 3) tb_106 _ 69 _ [] (c, n, e, false, v, f, z)) (cpR_0 (rset r 8 row (nI 0)) 9 (24 * row) (a + 1))) (l_bw hrow (by omega) (by omega) ⟨rfl, rfl⟩ (e - (a + 1)) 0 (by omega) (by omega))
      · replace h_3 := Nat.not_le.mp h_3
        refine r_ico (x := (nI 1)) rfl rfl ?_
        refine r_go rfl ?_
        refine r_put (s' := (c, n, e, true, v, f, rset r 8 row (nI 0))) rfl (Nat.le_of_ble_eq_true rfl) ⟨_, rfl, Or.inr rfl⟩ rfl rfl ?_
        refine r_ico (x := (nI 0)) rfl rfl ?_
        refine r_ist (ls' := [some (zR (some q)), some (zI (nI row)), some (zI (nI (a + 1))), some (zI (nI (e - (a + 1)))), some (zI (nI 0))]) rfl (Nat.le_of_ble_eq_true rfl) rfl ?_
        rw [if_pos (by first | (rw [h_2]; rfl) | (simp; right; omega))]
        exact l_bwB hrow (by omega) ⟨rfl, rfl⟩
  · replace h_1 : ¬ ((ahd n a b ((rset r 8 row (nI 0)) 2)) = (nI 45)) := h_1
    refine r_rtv rfl ?_
    rw [rset_n _ _ _ (by decide)] at h_1
    simp [bwF, h_1]
end
section
theorem numA_le {n a : Nat} {b : Bool} {t : Nat → Int32} (h : a ≤ n) : a ≤ numA n a b t ∧ numA n a b t ≤ n := by
  unfold numA
  split
  · have := numEnd_ge (t := t) (n := n) (l := if t a = nI 48 then 1 else 10) (a := a)
    unfold numE
    omega
  · omega
def tkA (n a : Nat) (b : Bool) (t : Nat → Int32) (x : Int32) : Nat := if ahd n a b t = x then a + 1 else a
def tkB (n a : Nat) (b : Bool) (t : Nat → Int32) (x : Int32) : Bool := if ahd n a b t = x then b else true
theorem tkA_le {n a : Nat} {b : Bool} {t : Nat → Int32} {x : Int32} (h : a ≤ n) (hx : x ≠ -1) : a ≤ tkA n a b t x ∧ tkA n a b t x ≤ n := by
  unfold tkA
  split
  · rename_i g
    obtain ⟨-, g2, -⟩ := ahd_eq g hx
    omega
  · omega
theorem bwF_le {row n a : Nat} {b : Bool} {r : rA} (h : a ≤ n) : a ≤ (bwF row n a b r).1 ∧ (bwF row n a b r).1 ≤ n := by
  unfold bwF
  split
  · rename_i g
    obtain ⟨-, g2, -⟩ := ahd_eq g (by decide +kernel)
    have := wr_le (nb := true) (t := r 2) (n := n) (a := a + 1) (by omega)
    split
    · show a ≤ (wr true (r 2) n (a + 1)).1 ∧ (wr true (r 2) n (a + 1)).1 ≤ n
      omega
    · show a ≤ (wr true (r 2) n (a + 1)).1 ∧ (wr true (r 2) n (a + 1)).1 ≤ n
      omega
  · exact ⟨Nat.le_refl _, h⟩
/-- beforeWords leaves the other arrays -/
theorem bwF_arr {row n a : Nat} {b : Bool} {r : rA} {j : Nat} (h8 : j ≠ 8) (h9 : j ≠ 9) : (bwF row n a b r).2.2 j = r j := by
  unfold bwF
  split
  · split
    · show rset (rset r 8 row (nI 0)) 8 row _ j = _
      rw [rset_n _ _ _ h8, rset_n _ _ _ h8]
    · show rset (cpR (rset r 8 row (nI 0)) 9 _ _ _) 8 row _ j = _
      rw [rset_n _ _ _ h8, cpR_n h9, rset_n _ _ _ h8]
  · show rset r 8 row (nI 0) j = _
    rw [rset_n _ _ _ h8]
/-- three numbers with points between: at, bad, the numbers -/
def vnF (n a : Nat) (b : Bool) (t : Nat → Int32) : Nat × Bool × Int32 × Int32 × Int32 :=
  let a1 := numA n a b t
  let b1 := numB n a b t
  let a2 := tkA n a1 b1 t (nI 46)
  let b2 := tkB n a1 b1 t (nI 46)
  let a3 := numA n a2 b2 t
  let b3 := numB n a2 b2 t
  let a4 := tkA n a3 b3 t (nI 46)
  let b4 := tkB n a3 b3 t (nI 46)
  (numA n a4 b4 t, numB n a4 b4 t, numV n a b t, numV n a2 b2 t, numV n a4 b4 t)
def pbF (n a : Nat) (b : Bool) (t : Nat → Int32) : Nat × Bool := if ahd n a b t = nI 43 then wr false t n (a + 1) else (a, b)
/-- what version() does: at, bad, the arrays -/
def verF (n a : Nat) (b : Bool) (r : rA) : Nat × Bool × rA :=
  let u := vnF n a b (r 2)
  let w := bwF 40 n u.1 u.2.1 (rset (rset (rset r 5 40 u.2.2.1) 6 40 u.2.2.2.1) 7 40 u.2.2.2.2)
  let x := pbF n w.1 w.2.1 (r 2)
  if x.2 || decide (24 < x.1 - a) then (x.1, true, rset w.2.2 18 40 (nI (x.1 - a))) else (x.1, false, rset (cpR w.2.2 19 960 a (x.1 - a)) 18 40 (nI (x.1 - a)))
/-- which sign is ahead, and what is behind it -/
def sgF (n a : Nat) (b : Bool) (t : Nat → Int32) : Nat × Int32 :=
  if ahd n a b t = nI 94 then (a + 1, nI 1) else if ahd n a b t = nI 126 then (a + 1, nI 2) else if ahd n a b t = nI 61 then (a + 1, nI 3)
  else if ahd n a b t = nI 60 then (if ahd n (a + 1) b t = nI 61 then (a + 1 + 1, nI 7) else (a + 1, nI 6))
  else if ahd n a b t = nI 62 then (if ahd n (a + 1) b t = nI 61 then (a + 1 + 1, nI 5) else (a + 1, nI 4)) else (a, -1)
set_option maxHeartbeats 1000000 in
theorem c_signAhead {q : Nat} {qa : Nat → Nat} {d c n a v f : Nat} {b : Bool} {r : rA}  (hn : n ≤ 160) (ha : a < 80000) : rFun q qa (d + 2) 108 [zR (some q)] (c, n, a, b, v, f, r) (c, n, (sgF n a b (r 2)).1, b, v, f, r) (some (zI ((sgF n a b (r 2)).2))) := by
  refine rFun.of (d := d + 1) (T := tb_108) (L := [some (zR (some q)), none, none]) (Nat.le_of_ble_eq_true rfl) rfl rfl ?_
  refine r_ald rfl rfl ?_
  refine r_call (as := [zR (some q)]) (r := []) (s' := (c, n, a, b, v, f, r)) (v := some (zI (ahd n a b (r 2)))) rfl rfl rfl (Nat.le_of_ble_eq_true rfl) (Or.inr ⟨rfl, rfl, _, rfl⟩) (c_ahead (by omega) (by omega)) ?_
  refine r_ist (ls' := [some (zR (some q)), some (zI (ahd n a b (r 2))), none]) rfl (Nat.le_of_ble_eq_true rfl) rfl ?_
  refine r_ild rfl rfl ?_
  refine r_ico (x := (nI 94)) rfl rfl ?_
  refine r_cmp rfl (fun h_1 => ?_) (fun h_1 => ?_)
  · replace h_1 : (ahd n a b (r 2)) = (nI 94) := h_1
    refine r_ald rfl rfl ?_
    refine r_dup rfl rfl ?_
    refine r_get rfl rfl ?_
    refine r_ico (x := (nI 1)) rfl rfl ?_
    refine r_ibi (v := (nI (a + 1))) rfl (nI_add _ _) ?_
    refine r_put (s' := (c, n, a + 1, b, v, f, r)) rfl (Nat.le_of_ble_eq_true rfl) ⟨_, rfl⟩ rfl rfl ?_
    refine r_ild rfl rfl ?_
    refine r_ico (x := (nI 94)) rfl rfl ?_
    refine r_cmp rfl (fun h_2 => ?_) (fun h_2 => ?_)
    · replace h_2 : ¬ (ahd n a b (r 2)) = (nI 94) := h_2
      exact absurd h_1 h_2
    · replace h_2 : (ahd n a b (r 2)) = (nI 94) := Decidable.of_not_not h_2
      refine r_ico (x := (nI 1)) rfl rfl ?_
      refine r_go rfl ?_
      refine r_ret rfl ⟨_, rfl⟩ ?_
      simp [sgF, *, nI_eq]
  · replace h_1 : ¬ ((ahd n a b (r 2)) = (nI 94)) := h_1
    refine r_ild rfl rfl ?_
    refine r_ico (x := (nI 126)) rfl rfl ?_
    refine r_cmp rfl (fun h_3 => ?_) (fun h_3 => ?_)
    · replace h_3 : (ahd n a b (r 2)) = (nI 126) := h_3
      refine r_ald rfl rfl ?_
      refine r_dup rfl rfl ?_
      refine r_get rfl rfl ?_
      refine r_ico (x := (nI 1)) rfl rfl ?_
      refine r_ibi (v := (nI (a + 1))) rfl (nI_add _ _) ?_
      refine r_put (s' := (c, n, a + 1, b, v, f, r)) rfl (Nat.le_of_ble_eq_true rfl) ⟨_, rfl⟩ rfl rfl ?_
      refine r_ild rfl rfl ?_
      refine r_ico (x := (nI 94)) rfl rfl ?_
      refine r_cmp rfl (fun h_4 => ?_) (fun h_4 => ?_)
      · replace h_4 : ¬ (ahd n a b (r 2)) = (nI 94) := h_4
        refine r_ild rfl rfl ?_
        refine r_ico (x := (nI 126)) rfl rfl ?_
        refine r_cmp rfl (fun h_5 => ?_) (fun h_5 => ?_)
        · replace h_5 : ¬ (ahd n a b (r 2)) = (nI 126) := h_5
          exact absurd h_3 h_5
        · replace h_5 : (ahd n a b (r 2)) = (nI 126) := Decidable.of_not_not h_5
          refine r_ico (x := (nI 2)) rfl rfl ?_
          refine r_go rfl ?_
          refine r_ret rfl ⟨_, rfl⟩ ?_
          simp [sgF, *, nI_eq]
      · replace h_4 : (ahd n a b (r 2)) = (nI 94) := Decidable.of_not_not h_4
        rw [h_3] at h_4; exact absurd h_4 (by decide +kernel)
    · replace h_3 : ¬ ((ahd n a b (r 2)) = (nI 126)) := h_3
      refine r_ild rfl rfl ?_
      refine r_ico (x := (nI 61)) rfl rfl ?_
      refine r_cmp rfl (fun h_6 => ?_) (fun h_6 => ?_)
      · replace h_6 : ¬ (ahd n a b (r 2)) = (nI 61) := h_6
        refine r_ild rfl rfl ?_
        refine r_ico (x := (nI 60)) rfl rfl ?_
        refine r_cmp rfl (fun h_7 => ?_) (fun h_7 => ?_)
        · replace h_7 : (ahd n a b (r 2)) = (nI 60) := h_7
          refine r_ald rfl rfl ?_
          refine r_dup rfl rfl ?_
          refine r_get rfl rfl ?_
          refine r_ico (x := (nI 1)) rfl rfl ?_
          refine r_ibi (v := (nI (a + 1))) rfl (nI_add _ _) ?_
          refine r_put (s' := (c, n, a + 1, b, v, f, r)) rfl (Nat.le_of_ble_eq_true rfl) ⟨_, rfl⟩ rfl rfl ?_
          refine r_ald rfl rfl ?_
          refine r_call (as := [zR (some q)]) (r := []) (s' := (c, n, a + 1, b, v, f, r)) (v := some (zI (ahd n (a + 1) b (r 2)))) rfl rfl rfl (Nat.le_of_ble_eq_true rfl) (Or.inr ⟨rfl, rfl, _, rfl⟩) (c_ahead (by omega) (by omega)) ?_
          refine r_ico (x := (nI 61)) rfl rfl ?_
          refine r_cmp rfl (fun h_8 => ?_) (fun h_8 => ?_)
          · replace h_8 : ¬ (ahd n (a + 1) b (r 2)) = (nI 61) := h_8
            refine r_ico (x := (nI 0)) rfl rfl ?_
            refine r_ist (ls' := [some (zR (some q)), some (zI (ahd n a b (r 2))), some (zI (nI 0))]) rfl (Nat.le_of_ble_eq_true rfl) rfl ?_
            refine r_ald rfl rfl ?_
            refine r_ild rfl rfl ?_
            refine r_ifN (by omega) rfl (fun h_9 => ?_) (fun h_9 => ?_)
            · replace h_9 : 0 = 0 := h_9
              refine r_ald rfl rfl ?_
              refine r_get rfl rfl ?_
              refine r_put (s' := (c, n, a + 1, b, v, f, r)) rfl (Nat.le_of_ble_eq_true rfl) ⟨_, rfl⟩ rfl rfl ?_
              refine r_ild rfl rfl ?_
              refine r_ico (x := (nI 62)) rfl rfl ?_
              refine r_cmp rfl (fun h_10 => ?_) (fun h_10 => ?_)
              · replace h_10 : ¬ (ahd n a b (r 2)) = (nI 62) := h_10
                refine r_ild rfl rfl ?_
                refine r_ifN (by omega) rfl (fun h_11 => ?_) (fun h_11 => ?_)
                · replace h_11 : 0 = 0 := h_11
                  refine r_ico (x := (nI 6)) rfl rfl ?_
                  refine r_ret rfl ⟨_, rfl⟩ ?_
                  simp [sgF, *, nI_eq]
                · replace h_11 : ¬ (0 = 0) := h_11
                  omega
              · replace h_10 : (ahd n a b (r 2)) = (nI 62) := Decidable.of_not_not h_10
                rw [h_7] at h_10; exact absurd h_10 (by decide +kernel)
            · replace h_9 : ¬ (0 = 0) := h_9
              omega
          · replace h_8 : (ahd n (a + 1) b (r 2)) = (nI 61) := Decidable.of_not_not h_8
            refine r_ico (x := (nI 1)) rfl rfl ?_
            refine r_go rfl ?_
            refine r_ist (ls' := [some (zR (some q)), some (zI (ahd n a b (r 2))), some (zI (nI 1))]) rfl (Nat.le_of_ble_eq_true rfl) rfl ?_
            refine r_ald rfl rfl ?_
            refine r_ild rfl rfl ?_
            refine r_ifN (by omega) rfl (fun h_12 => ?_) (fun h_12 => ?_)
            · replace h_12 : 1 = 0 := h_12
              omega
            · replace h_12 : ¬ (1 = 0) := h_12
              refine r_ald rfl rfl ?_
              refine r_get rfl rfl ?_
              refine r_ico (x := (nI 1)) rfl rfl ?_
              refine r_ibi (v := (nI (a + 1 + 1))) rfl (nI_add _ _) ?_
              refine r_go rfl ?_
              refine r_put (s' := (c, n, a + 1 + 1, b, v, f, r)) rfl (Nat.le_of_ble_eq_true rfl) ⟨_, rfl⟩ rfl rfl ?_
              refine r_ild rfl rfl ?_
              refine r_ico (x := (nI 62)) rfl rfl ?_
              refine r_cmp rfl (fun h_13 => ?_) (fun h_13 => ?_)
              · replace h_13 : ¬ (ahd n a b (r 2)) = (nI 62) := h_13
                refine r_ild rfl rfl ?_
                refine r_ifN (by omega) rfl (fun h_14 => ?_) (fun h_14 => ?_)
                · replace h_14 : 1 = 0 := h_14
                  omega
                · replace h_14 : ¬ (1 = 0) := h_14
                  refine r_ico (x := (nI 7)) rfl rfl ?_
                  refine r_go rfl ?_
                  refine r_ret rfl ⟨_, rfl⟩ ?_
                  simp [sgF, *, nI_eq]
              · replace h_13 : (ahd n a b (r 2)) = (nI 62) := Decidable.of_not_not h_13
                rw [h_7] at h_13; exact absurd h_13 (by decide +kernel)
        · replace h_7 : ¬ ((ahd n a b (r 2)) = (nI 60)) := h_7
          refine r_ild rfl rfl ?_
          refine r_ico (x := (nI 62)) rfl rfl ?_
          refine r_cmp rfl (fun h_15 => ?_) (fun h_15 => ?_)
          · replace h_15 : (ahd n a b (r 2)) = (nI 62) := h_15
            refine r_ald rfl rfl ?_
            refine r_dup rfl rfl ?_
            refine r_get rfl rfl ?_
            refine r_ico (x := (nI 1)) rfl rfl ?_
            refine r_ibi (v := (nI (a + 1))) rfl (nI_add _ _) ?_
            refine r_put (s' := (c, n, a + 1, b, v, f, r)) rfl (Nat.le_of_ble_eq_true rfl) ⟨_, rfl⟩ rfl rfl ?_
            refine r_ald rfl rfl ?_
            refine r_call (as := [zR (some q)]) (r := []) (s' := (c, n, a + 1, b, v, f, r)) (v := some (zI (ahd n (a + 1) b (r 2)))) rfl rfl rfl (Nat.le_of_ble_eq_true rfl) (Or.inr ⟨rfl, rfl, _, rfl⟩) (c_ahead (by omega) (by omega)) ?_
            refine r_ico (x := (nI 61)) rfl rfl ?_
            refine r_cmp rfl (fun h_16 => ?_) (fun h_16 => ?_)
            · replace h_16 : ¬ (ahd n (a + 1) b (r 2)) = (nI 61) := h_16
              refine r_ico (x := (nI 0)) rfl rfl ?_
              refine r_ist (ls' := [some (zR (some q)), some (zI (ahd n a b (r 2))), some (zI (nI 0))]) rfl (Nat.le_of_ble_eq_true rfl) rfl ?_
              refine r_ald rfl rfl ?_
              refine r_ild rfl rfl ?_
              refine r_ifN (by omega) rfl (fun h_17 => ?_) (fun h_17 => ?_)
              · replace h_17 : 0 = 0 := h_17
                refine r_ald rfl rfl ?_
                refine r_get rfl rfl ?_
                refine r_put (s' := (c, n, a + 1, b, v, f, r)) rfl (Nat.le_of_ble_eq_true rfl) ⟨_, rfl⟩ rfl rfl ?_
                refine r_ild rfl rfl ?_
                refine r_ico (x := (nI 62)) rfl rfl ?_
                refine r_cmp rfl (fun h_18 => ?_) (fun h_18 => ?_)
                · replace h_18 : ¬ (ahd n a b (r 2)) = (nI 62) := h_18
                  exact absurd h_15 h_18
                · replace h_18 : (ahd n a b (r 2)) = (nI 62) := Decidable.of_not_not h_18
                  refine r_ild rfl rfl ?_
                  refine r_ifN (by omega) rfl (fun h_19 => ?_) (fun h_19 => ?_)
                  · replace h_19 : 0 = 0 := h_19
                    refine r_ico (x := (nI 4)) rfl rfl ?_
                    refine r_go rfl ?_
                    refine r_ret rfl ⟨_, rfl⟩ ?_
                    simp [sgF, *, nI_eq]
                  · replace h_19 : ¬ (0 = 0) := h_19
                    omega
              · replace h_17 : ¬ (0 = 0) := h_17
                omega
            · replace h_16 : (ahd n (a + 1) b (r 2)) = (nI 61) := Decidable.of_not_not h_16
              refine r_ico (x := (nI 1)) rfl rfl ?_
              refine r_go rfl ?_
              refine r_ist (ls' := [some (zR (some q)), some (zI (ahd n a b (r 2))), some (zI (nI 1))]) rfl (Nat.le_of_ble_eq_true rfl) rfl ?_
              refine r_ald rfl rfl ?_
              refine r_ild rfl rfl ?_
              refine r_ifN (by omega) rfl (fun h_20 => ?_) (fun h_20 => ?_)
              · replace h_20 : 1 = 0 := h_20
                omega
              · replace h_20 : ¬ (1 = 0) := h_20
                refine r_ald rfl rfl ?_
                refine r_get rfl rfl ?_
                refine r_ico (x := (nI 1)) rfl rfl ?_
                refine r_ibi (v := (nI (a + 1 + 1))) rfl (nI_add _ _) ?_
                refine r_go rfl ?_
                refine r_put (s' := (c, n, a + 1 + 1, b, v, f, r)) rfl (Nat.le_of_ble_eq_true rfl) ⟨_, rfl⟩ rfl rfl ?_
                refine r_ild rfl rfl ?_
                refine r_ico (x := (nI 62)) rfl rfl ?_
                refine r_cmp rfl (fun h_21 => ?_) (fun h_21 => ?_)
                · replace h_21 : ¬ (ahd n a b (r 2)) = (nI 62) := h_21
                  exact absurd h_15 h_21
                · replace h_21 : (ahd n a b (r 2)) = (nI 62) := Decidable.of_not_not h_21
                  refine r_ild rfl rfl ?_
                  refine r_ifN (by omega) rfl (fun h_22 => ?_) (fun h_22 => ?_)
                  · replace h_22 : 1 = 0 := h_22
                    omega
                  · replace h_22 : ¬ (1 = 0) := h_22
                    refine r_ico (x := (nI 5)) rfl rfl ?_
                    refine r_go rfl ?_
                    refine r_ret rfl ⟨_, rfl⟩ ?_
                    simp [sgF, *, nI_eq]
          · replace h_15 : ¬ ((ahd n a b (r 2)) = (nI 62)) := h_15
            refine r_ico (x := (-1)) rfl rfl ?_
            refine r_ret rfl ⟨_, rfl⟩ ?_
            simp [sgF, *, nI_eq]
      · replace h_6 : (ahd n a b (r 2)) = (nI 61) := Decidable.of_not_not h_6
        refine r_ald rfl rfl ?_
        refine r_dup rfl rfl ?_
        refine r_get rfl rfl ?_
        refine r_ico (x := (nI 1)) rfl rfl ?_
        refine r_ibi (v := (nI (a + 1))) rfl (nI_add _ _) ?_
        refine r_put (s' := (c, n, a + 1, b, v, f, r)) rfl (Nat.le_of_ble_eq_true rfl) ⟨_, rfl⟩ rfl rfl ?_
        refine r_ild rfl rfl ?_
        refine r_ico (x := (nI 94)) rfl rfl ?_
        refine r_cmp rfl (fun h_23 => ?_) (fun h_23 => ?_)
        · replace h_23 : ¬ (ahd n a b (r 2)) = (nI 94) := h_23
          refine r_ild rfl rfl ?_
          refine r_ico (x := (nI 126)) rfl rfl ?_
          refine r_cmp rfl (fun h_24 => ?_) (fun h_24 => ?_)
          · replace h_24 : ¬ (ahd n a b (r 2)) = (nI 126) := h_24
            refine r_ico (x := (nI 3)) rfl rfl ?_
            refine r_ret rfl ⟨_, rfl⟩ ?_
            simp [sgF, *, nI_eq]
          · replace h_24 : (ahd n a b (r 2)) = (nI 126) := Decidable.of_not_not h_24
            rw [h_6] at h_24; exact absurd h_24 (by decide +kernel)
        · replace h_23 : (ahd n a b (r 2)) = (nI 94) := Decidable.of_not_not h_23
          rw [h_6] at h_23; exact absurd h_23 (by decide +kernel)
set_option maxHeartbeats 1000000 in
theorem l_ver {q : Nat} {qa : Nat → Nat} {d c n a v f p m : Nat} {r : rA} {Q : rS → (Option zV ⊕ Nat) → Prop} (hm : m ≤ 24) (hp : p + m ≤ 160) (hQ : Q (c, n, a, false, v, f, rset (cpR r 19 960 p m) 18 40 (nI m)) (.inl none)) : ∀ (i k : Nat), m ≤ k + i → k ≤ m → rEv q qa (d + 4) tb_107 Q 111 [some (zR (some q)), some (zI (nI p)), some (zI (nI m)), some (zI (nI k))] [] (c, n, a, false, v, f, cpR r 19 960 p k) := by
  intro i
  induction i with
  | zero =>
    intro k h1 h2
    have h3 : m = k := by omega
    subst h3
    refine r_ild rfl rfl ?_
    refine r_ild rfl rfl ?_
    refine r_cmpN (by omega) (by omega) rfl (fun h_1 => ?_) (fun h_1 => ?_)
    · replace h_1 : m ≤ m := h_1
      refine r_ald rfl rfl ?_
      refine r_get rfl rfl ?_
      refine r_ico (x := (nI 40)) rfl rfl ?_
      refine r_ild rfl rfl ?_
      refine r_iastN (k0 := 18) (x' := (nI m)) rfl rfl (by omega) (by decide) rfl ?_
      refine r_rtv rfl ?_
      exact hQ
    · replace h_1 := Nat.not_le.mp h_1
      omega
  | succ i ih =>
    intro k h1 h2
    refine r_ild rfl rfl ?_
    refine r_ild rfl rfl ?_
    refine r_cmpN (by omega) (by omega) rfl (fun h_1 => ?_) (fun h_1 => ?_)
    · replace h_1 : m ≤ k := h_1
      refine r_ald rfl rfl ?_
      refine r_get rfl rfl ?_
      refine r_ico (x := (nI 40)) rfl rfl ?_
      refine r_ild rfl rfl ?_
      refine r_iastN (k0 := 18) (x' := (nI m)) rfl rfl (by omega) (by decide) rfl ?_
      refine r_rtv rfl ?_
      have h3 : m = k := by omega
      subst h3
      exact hQ
    · replace h_1 := Nat.not_le.mp h_1
      refine r_ald rfl rfl ?_
      refine r_get rfl rfl ?_
      refine r_ifB1 rfl (fun h_2 => ?_) (fun h_2 => ?_)
      · cases h_2
      · refine r_ald rfl rfl ?_
        refine r_get rfl rfl ?_
        refine r_ico (x := (nI 960)) rfl rfl ?_
        refine r_ild rfl rfl ?_
        refine r_ibi (v := (nI (960 + k))) rfl (nI_add _ _) ?_
        refine r_ald rfl rfl ?_
        refine r_get rfl rfl ?_
        refine r_ild rfl rfl ?_
        refine r_ild rfl rfl ?_
        refine r_ibi (v := (nI (p + k))) rfl (nI_add _ _) ?_
        refine r_ialdN (k0 := 2) rfl rfl (by omega) (by decide) ?_
        refine r_iastN (k0 := 19) (x' := ((cpR r 19 960 p k) 2 (p + k))) rfl rfl (by omega) (by decide) rfl ?_
        refine r_inc (x' := (nI (k + 1))) (ls' := [some (zR (some q)), some (zI (nI p)), some (zI (nI m)), some (zI (nI (k + 1)))]) rfl rfl (nI_1 _) rfl ?_
        refine r_go rfl ?_
        rw [cpR_s (by decide)]
        exact ih (k + 1) (by omega) (by omega)
set_option maxHeartbeats 1000000 in
theorem l_verB {q : Nat} {qa : Nat → Nat} {d c n a v f p m : Nat} {r : rA} {Q : rS → (Option zV ⊕ Nat) → Prop} (hm : m < 90000) (hQ : Q (c, n, a, true, v, f, rset r 18 40 (nI m)) (.inl none)) : rEv q qa (d + 4) tb_107 Q 111 [some (zR (some q)), some (zI (nI p)), some (zI (nI m)), some (zI (nI 0))] [] (c, n, a, true, v, f, r) := by
  refine r_ild rfl rfl ?_
  refine r_ild rfl rfl ?_
  refine r_cmpN (by omega) (by omega) rfl (fun h_1 => ?_) (fun h_1 => ?_)
  · replace h_1 : m ≤ 0 := h_1
    refine r_ald rfl rfl ?_
    refine r_get rfl rfl ?_
    refine r_ico (x := (nI 40)) rfl rfl ?_
    refine r_ild rfl rfl ?_
    refine r_iastN (k0 := 18) (x' := (nI m)) rfl rfl (by omega) (by decide) rfl ?_
    refine r_rtv rfl ?_
    exact hQ
  · replace h_1 := Nat.not_le.mp h_1
    refine r_ald rfl rfl ?_
    refine r_get rfl rfl ?_
    refine r_ifB1 rfl (fun h_2 => ?_) (fun h_2 => ?_)
    · refine r_ald rfl rfl ?_
      refine r_get rfl rfl ?_
      refine r_ico (x := (nI 40)) rfl rfl ?_
      refine r_ild rfl rfl ?_
      refine r_iastN (k0 := 18) (x' := (nI m)) rfl rfl (by omega) (by decide) rfl ?_
      refine r_rtv rfl ?_
      exact hQ
    · cases h_2
set_option maxHeartbeats 2000000 in
theorem c_version {q : Nat} {qa : Nat → Nat} {d c n a v f : Nat} {b : Bool} {r : rA} (hn : n ≤ 160) (ha : a ≤ n) : rFun q qa (d + 5) 107 [zR (some q)] (c, n, a, b, v, f, r) (c, n, (verF n a b r).1, (verF n a b r).2.1, v, f, (verF n a b r).2.2) none := by
  refine rFun.of (d := d + 4) (T := tb_107) (L := [some (zR (some q)), none, none, none]) (Nat.le_of_ble_eq_true rfl) rfl rfl ?_
  refine r_ald rfl rfl ?_
  refine r_get rfl rfl ?_
  refine r_ist (ls' := [some (zR (some q)), some (zI (nI a)), none, none]) rfl (Nat.le_of_ble_eq_true rfl) rfl ?_
  refine r_ald rfl rfl ?_
  refine r_get rfl rfl ?_
  refine r_ico (x := (nI 40)) rfl rfl ?_
  refine r_ald rfl rfl ?_
  obtain ⟨a1, ha1⟩ : ∃ x, x = numA n a b (r 2) := ⟨_, rfl⟩
  obtain ⟨b1, hb1⟩ : ∃ x, x = numB n a b (r 2) := ⟨_, rfl⟩
  obtain ⟨v1, hv1⟩ : ∃ x, x = numV n a b (r 2) := ⟨_, rfl⟩
  have la1 := numA_le (n := n) (a := a) (b := b) (t := r 2) (by omega)
  rw [← ha1] at la1
  refine r_call (as := [zR (some q)]) (r := [zI (nI 40), zR (some (qa 5))]) (s' := (c, n, a1, b1, v, f, r)) (v := some (zI (v1))) rfl rfl rfl (Nat.le_of_ble_eq_true rfl) (Or.inr ⟨rfl, rfl, _, rfl⟩) (by rw [ha1, hb1, hv1]; exact c_number (by omega) (by omega)) ?_
  refine r_iastN (k0 := 5) (x' := (v1)) rfl rfl (by omega) (by decide) rfl ?_
  refine r_ald rfl rfl ?_
  refine r_ico (x := (nI 46)) rfl rfl ?_
  obtain ⟨a2, ha2⟩ : ∃ x, x = tkA n a1 b1 (r 2) (nI 46) := ⟨_, rfl⟩
  obtain ⟨b2, hb2⟩ : ∃ x, x = tkB n a1 b1 (r 2) (nI 46) := ⟨_, rfl⟩
  have la2 := tkA_le (n := n) (a := a1) (b := b1) (t := r 2) (x := (nI 46)) (by omega) (by decide +kernel)
  rw [← ha2] at la2
  refine r_call (as := [zR (some q), zI (nI 46)]) (r := []) (s' := (c, n, a2, b2, v, f, rset r 5 40 (v1))) (v := none) rfl rfl rfl (Nat.le_of_ble_eq_true rfl) (Or.inr ⟨rfl, rfl, _, rfl⟩) (by rw [ha2, hb2]; exact c_take (by omega) (by omega)) ?_
  refine r_ald rfl rfl ?_
  refine r_get rfl rfl ?_
  refine r_ico (x := (nI 40)) rfl rfl ?_
  refine r_ald rfl rfl ?_
  obtain ⟨a3, ha3⟩ : ∃ x, x = numA n a2 b2 (r 2) := ⟨_, rfl⟩
  obtain ⟨b3, hb3⟩ : ∃ x, x = numB n a2 b2 (r 2) := ⟨_, rfl⟩
  obtain ⟨v3, hv3⟩ : ∃ x, x = numV n a2 b2 (r 2) := ⟨_, rfl⟩
  have la3 := numA_le (n := n) (a := a2) (b := b2) (t := r 2) (by omega)
  rw [← ha3] at la3
  refine r_call (as := [zR (some q)]) (r := [zI (nI 40), zR (some (qa 6))]) (s' := (c, n, a3, b3, v, f, rset r 5 40 (v1))) (v := some (zI (v3))) rfl rfl rfl (Nat.le_of_ble_eq_true rfl) (Or.inr ⟨rfl, rfl, _, rfl⟩) (by rw [ha3, hb3, hv3]; exact c_number (by omega) (by omega)) ?_
  refine r_iastN (k0 := 6) (x' := (v3)) rfl rfl (by omega) (by decide) rfl ?_
  refine r_ald rfl rfl ?_
  refine r_ico (x := (nI 46)) rfl rfl ?_
  obtain ⟨a4, ha4⟩ : ∃ x, x = tkA n a3 b3 (r 2) (nI 46) := ⟨_, rfl⟩
  obtain ⟨b4, hb4⟩ : ∃ x, x = tkB n a3 b3 (r 2) (nI 46) := ⟨_, rfl⟩
  have la4 := tkA_le (n := n) (a := a3) (b := b3) (t := r 2) (x := (nI 46)) (by omega) (by decide +kernel)
  rw [← ha4] at la4
  refine r_call (as := [zR (some q), zI (nI 46)]) (r := []) (s' := (c, n, a4, b4, v, f, rset (rset r 5 40 (v1)) 6 40 (v3))) (v := none) rfl rfl rfl (Nat.le_of_ble_eq_true rfl) (Or.inr ⟨rfl, rfl, _, rfl⟩) (by rw [ha4, hb4]; exact c_take (by omega) (by omega)) ?_
  refine r_ald rfl rfl ?_
  refine r_get rfl rfl ?_
  refine r_ico (x := (nI 40)) rfl rfl ?_
  refine r_ald rfl rfl ?_
  obtain ⟨a5, ha5⟩ : ∃ x, x = numA n a4 b4 (r 2) := ⟨_, rfl⟩
  obtain ⟨b5, hb5⟩ : ∃ x, x = numB n a4 b4 (r 2) := ⟨_, rfl⟩
  obtain ⟨v5, hv5⟩ : ∃ x, x = numV n a4 b4 (r 2) := ⟨_, rfl⟩
  have la5 := numA_le (n := n) (a := a4) (b := b4) (t := r 2) (by omega)
  rw [← ha5] at la5
  refine r_call (as := [zR (some q)]) (r := [zI (nI 40), zR (some (qa 7))]) (s' := (c, n, a5, b5, v, f, rset (rset r 5 40 (v1)) 6 40 (v3))) (v := some (zI (v5))) rfl rfl rfl (Nat.le_of_ble_eq_true rfl) (Or.inr ⟨rfl, rfl, _, rfl⟩) (by rw [ha5, hb5, hv5]; exact c_number (by omega) (by omega)) ?_
  refine r_iastN (k0 := 7) (x' := (v5)) rfl rfl (by omega) (by decide) rfl ?_
  refine r_ald rfl rfl ?_
  refine r_ico (x := (nI 40)) rfl rfl ?_
  obtain ⟨w6, hw6⟩ : ∃ x, x = bwF 40 n a5 b5 (rset (rset (rset r 5 40 (v1)) 6 40 (v3)) 7 40 (v5)) := ⟨_, rfl⟩
  have lw6 := bwF_le (row := 40) (n := n) (a := a5) (b := b5) (r := rset (rset (rset r 5 40 (v1)) 6 40 (v3)) 7 40 (v5)) (by omega)
  have tw6 : w6.2.2 2 = r 2 := by rw [hw6]; exact bwF_arr (by decide) (by decide)
  rw [← hw6] at lw6
  obtain ⟨a6, b6, r6⟩ := w6
  replace tw6 : r6 2 = r 2 := tw6
  replace lw6 : a5 ≤ a6 ∧ a6 ≤ n := lw6
  refine r_call (as := [zR (some q), zI (nI 40)]) (r := []) (s' := (c, n, a6, b6, v, f, r6)) (v := none) rfl rfl rfl (Nat.le_of_ble_eq_true rfl) (Or.inr ⟨rfl, rfl, _, rfl⟩) (by have h9 := c_beforeWords (q := q) (qa := qa) (d := d) (c := c) (n := n) (a := a5) (v := v) (f := f) (row := 40) (b := b5) (r := rset (rset (rset r 5 40 (v1)) 6 40 (v3)) 7 40 (v5)) (by omega) (by omega) (by omega); rw [← hw6] at h9; exact h9) ?_
  refine r_ald rfl rfl ?_
  refine r_call (as := [zR (some q)]) (r := []) (s' := (c, n, a6, b6, v, f, r6)) (v := some (zI (ahd n a6 b6 (r 2)))) rfl rfl rfl (Nat.le_of_ble_eq_true rfl) (Or.inr ⟨rfl, rfl, _, rfl⟩) (by have h9 := c_ahead (q := q) (qa := qa) (d := d + 3) (c := c) (n := n) (a := a6) (v := v) (f := f) (b := b6) (r := r6) (by omega) (by omega); rw [tw6] at h9; exact h9) ?_
  refine r_ico (x := (nI 43)) rfl rfl ?_
  refine r_cmp rfl (fun h_1 => ?_) (fun h_1 => ?_)
  · replace h_1 : ¬ (ahd n a6 b6 (r 2)) = (nI 43) := h_1
    refine r_ald rfl rfl ?_
    refine r_get rfl rfl ?_
    refine r_ild rfl rfl ?_
    refine r_ibi (v := (nI (a6 - a))) rfl (pk_sub (by omega)) ?_
    refine r_ist (ls' := [some (zR (some q)), some (zI (nI a)), some (zI (nI (a6 - a))), none]) rfl (Nat.le_of_ble_eq_true rfl) rfl ?_
    have e1 : vnF n a b (r 2) = (a5, b5, v1, v3, v5) := by unfold vnF; simp only [← ha1, ← hb1, ← hv1, ← ha2, ← hb2, ← ha3, ← hb3, ← hv3, ← ha4, ← hb4, ← ha5, ← hb5, ← hv5]
    have e2 : pbF n a6 b6 (r 2) = (a6, b6) := by unfold pbF; rw [if_neg h_1]
    have e3 : verF n a b r = if b6 || decide (24 < a6 - a) then (a6, true, rset r6 18 40 (nI (a6 - a))) else (a6, false, rset (cpR r6 19 960 a (a6 - a)) 18 40 (nI (a6 - a))) := by unfold verF; simp only [e1, ← hw6, e2]
    rw [e3]
    refine r_ald rfl rfl ?_
    refine r_ald rfl rfl ?_
    refine r_get rfl rfl ?_
    refine r_ifB1 rfl (fun h_2 => ?_) (fun h_2 => ?_)
    · refine r_ico (x := (nI 1)) rfl rfl ?_
      refine r_go rfl ?_
      refine r_put (s' := (c, n, a6, true, v, f, r6)) rfl (Nat.le_of_ble_eq_true rfl) ⟨_, rfl, Or.inr rfl⟩ rfl rfl ?_
      refine r_ico (x := (nI 0)) rfl rfl ?_
      refine r_ist (ls' := [some (zR (some q)), some (zI (nI a)), some (zI (nI (a6 - a))), some (zI (nI 0))]) rfl (Nat.le_of_ble_eq_true rfl) rfl ?_
      rw [if_pos (by first | (rw [h_2]; rfl) | (simp; right; omega))]
      exact l_verB (by omega) ⟨rfl, rfl⟩
    · refine r_ild rfl rfl ?_
      refine r_ico (x := (nI 24)) rfl rfl ?_
      refine r_cmpN (by omega) (by omega) rfl (fun h_3 => ?_) (fun h_3 => ?_)
      · replace h_3 : a6 - a ≤ 24 := h_3
        refine r_ico (x := (nI 0)) rfl rfl ?_
        refine r_put (s' := (c, n, a6, false, v, f, r6)) rfl (Nat.le_of_ble_eq_true rfl) ⟨_, rfl, Or.inl rfl⟩ rfl rfl ?_
        refine r_ico (x := (nI 0)) rfl rfl ?_
        refine r_ist (ls' := [some (zR (some q)), some (zI (nI a)), some (zI (nI (a6 - a))), some (zI (nI 0))]) rfl (Nat.le_of_ble_eq_true rfl) rfl ?_
        rw [if_neg (by rw [h_2]; simp; omega)]
        exact Eq.mp (congrArg (fun z => rEv q qa (d + 4) tb_107 _ 111 _ [] (c, n, a6, false, v, f, z)) (cpR_0 r6 19 960 a)) (l_ver (by omega) (by omega) ⟨rfl, rfl⟩ (a6 - a) 0 (by omega) (by omega))
      · replace h_3 := Nat.not_le.mp h_3
        refine r_ico (x := (nI 1)) rfl rfl ?_
        refine r_go rfl ?_
        refine r_put (s' := (c, n, a6, true, v, f, r6)) rfl (Nat.le_of_ble_eq_true rfl) ⟨_, rfl, Or.inr rfl⟩ rfl rfl ?_
        refine r_ico (x := (nI 0)) rfl rfl ?_
        refine r_ist (ls' := [some (zR (some q)), some (zI (nI a)), some (zI (nI (a6 - a))), some (zI (nI 0))]) rfl (Nat.le_of_ble_eq_true rfl) rfl ?_
        rw [if_pos (by first | (rw [h_2]; rfl) | (simp; right; omega))]
        exact l_verB (by omega) ⟨rfl, rfl⟩
  · replace h_1 : (ahd n a6 b6 (r 2)) = (nI 43) := Decidable.of_not_not h_1
    obtain ⟨g1, g2, g3⟩ := ahd_eq h_1 (by decide +kernel)
    subst g1
    refine r_ald rfl rfl ?_
    refine r_dup rfl rfl ?_
    refine r_get rfl rfl ?_
    refine r_ico (x := (nI 1)) rfl rfl ?_
    refine r_ibi (v := (nI (a6 + 1))) rfl (nI_add _ _) ?_
    refine r_put (s' := (c, n, a6 + 1, false, v, f, r6)) rfl (Nat.le_of_ble_eq_true rfl) ⟨_, rfl⟩ rfl rfl ?_
    refine r_ald rfl rfl ?_
    refine r_ico (x := (nI 0)) rfl rfl ?_
    obtain ⟨u7, hu7⟩ : ∃ x, x = wr false (r 2) n (a6 + 1) := ⟨_, rfl⟩
    have lu7 := wr_le (nb := false) (t := r 2) (n := n) (a := a6 + 1) (by omega)
    rw [← hu7] at lu7
    obtain ⟨a7, b7⟩ := u7
    replace lu7 : a6 + 1 ≤ a7 ∧ a7 ≤ n := lu7
    refine r_call (as := [zR (some q), zI (nI 0)]) (r := []) (s' := (c, n, a7, b7, v, f, r6)) (v := none) rfl rfl rfl (Nat.le_of_ble_eq_true rfl) (Or.inr ⟨rfl, rfl, _, rfl⟩) (by have h9 := c_wordRow (q := q) (qa := qa) (d := d + 1) (c := c) (n := n) (a := a6 + 1) (v := v) (f := f) (nb := false) (b := false) (r := r6) (by omega) (by omega) (by omega); rw [tw6, ← hu7] at h9; exact h9) ?_
    refine r_ald rfl rfl ?_
    refine r_get rfl rfl ?_
    refine r_ild rfl rfl ?_
    refine r_ibi (v := (nI (a7 - a))) rfl (pk_sub (by omega)) ?_
    refine r_ist (ls' := [some (zR (some q)), some (zI (nI a)), some (zI (nI (a7 - a))), none]) rfl (Nat.le_of_ble_eq_true rfl) rfl ?_
    have e1 : vnF n a b (r 2) = (a5, b5, v1, v3, v5) := by unfold vnF; simp only [← ha1, ← hb1, ← hv1, ← ha2, ← hb2, ← ha3, ← hb3, ← hv3, ← ha4, ← hb4, ← ha5, ← hb5, ← hv5]
    have e2 : pbF n a6 false (r 2) = (a7, b7) := by unfold pbF; rw [if_pos h_1, ← hu7]
    have e3 : verF n a b r = if b7 || decide (24 < a7 - a) then (a7, true, rset r6 18 40 (nI (a7 - a))) else (a7, false, rset (cpR r6 19 960 a (a7 - a)) 18 40 (nI (a7 - a))) := by unfold verF; simp only [e1, ← hw6, e2]
    rw [e3]
    refine r_ald rfl rfl ?_
    refine r_ald rfl rfl ?_
    refine r_get rfl rfl ?_
    refine r_ifB1 rfl (fun h_4 => ?_) (fun h_4 => ?_)
    · refine r_ico (x := (nI 1)) rfl rfl ?_
      refine r_go rfl ?_
      refine r_put (s' := (c, n, a7, true, v, f, r6)) rfl (Nat.le_of_ble_eq_true rfl) ⟨_, rfl, Or.inr rfl⟩ rfl rfl ?_
      refine r_ico (x := (nI 0)) rfl rfl ?_
      refine r_ist (ls' := [some (zR (some q)), some (zI (nI a)), some (zI (nI (a7 - a))), some (zI (nI 0))]) rfl (Nat.le_of_ble_eq_true rfl) rfl ?_
      rw [if_pos (by first | (rw [h_4]; rfl) | (simp; right; omega))]
      exact l_verB (by omega) ⟨rfl, rfl⟩
    · refine r_ild rfl rfl ?_
      refine r_ico (x := (nI 24)) rfl rfl ?_
      refine r_cmpN (by omega) (by omega) rfl (fun h_5 => ?_) (fun h_5 => ?_)
      · replace h_5 : a7 - a ≤ 24 := h_5
        refine r_ico (x := (nI 0)) rfl rfl ?_
        refine r_put (s' := (c, n, a7, false, v, f, r6)) rfl (Nat.le_of_ble_eq_true rfl) ⟨_, rfl, Or.inl rfl⟩ rfl rfl ?_
        refine r_ico (x := (nI 0)) rfl rfl ?_
        refine r_ist (ls' := [some (zR (some q)), some (zI (nI a)), some (zI (nI (a7 - a))), some (zI (nI 0))]) rfl (Nat.le_of_ble_eq_true rfl) rfl ?_
        rw [if_neg (by rw [h_4]; simp; omega)]
        exact Eq.mp (congrArg (fun z => rEv q qa (d + 4) tb_107 _ 111 _ [] (c, n, a7, false, v, f, z)) (cpR_0 r6 19 960 a)) (l_ver (by omega) (by omega) ⟨rfl, rfl⟩ (a7 - a) 0 (by omega) (by omega))
      · replace h_5 := Nat.not_le.mp h_5
        refine r_ico (x := (nI 1)) rfl rfl ?_
        refine r_go rfl ?_
        refine r_put (s' := (c, n, a7, true, v, f, r6)) rfl (Nat.le_of_ble_eq_true rfl) ⟨_, rfl, Or.inr rfl⟩ rfl rfl ?_
        refine r_ico (x := (nI 0)) rfl rfl ?_
        refine r_ist (ls' := [some (zR (some q)), some (zI (nI a)), some (zI (nI (a7 - a))), some (zI (nI 0))]) rfl (Nat.le_of_ble_eq_true rfl) rfl ?_
        rw [if_pos (by first | (rw [h_4]; rfl) | (simp; right; omega))]
        exact l_verB (by omega) ⟨rfl, rfl⟩
end
section
def cm0 (row : Nat) (r : rA) : rA := rset (rset (rset (rset (rset (rset r 11 row (nI 0)) 5 row (nI 0)) 6 row (nI 0)) 7 row (nI 0)) 8 row (nI 0)) 10 row (nI 0)
/-- a comparator behind its second point; neg: it has no sign; p: where its version begins -/
def cm3 (row n a : Nat) (b neg : Bool) (p : Nat) (r : rA) : Nat × Bool × rA :=
  if ahd n a b (r 2) = nI 42 ∧ neg = true then (a + 1, b, rset r 10 row (nI 3)) else
    let w := bwF row n (numA n a b (r 2)) (numB n a b (r 2)) (rset (rset (rset r 6 row (r 6 row)) 7 row (numV n a b (r 2))) 11 row (nI 3))
    (w.1, w.2.1 || decide (24 < w.1 - p), w.2.2)
def cm2 (row n a : Nat) (b neg : Bool) (p : Nat) (r : rA) : Nat × Bool × rA :=
  if ahd n a b (r 2) = nI 42 ∧ neg = true then (a + 1, b, rset r 10 row (nI 3)) else
    let r1 := rset (rset (rset r 6 row (numV n a b (r 2))) 7 row (nI 0)) 11 row (nI 2)
    if ahd n (numA n a b (r 2)) (numB n a b (r 2)) (r 2) = nI 46 then cm3 row n (numA n a b (r 2) + 1) (numB n a b (r 2)) neg p r1 else (numA n a b (r 2), numB n a b (r 2), r1)
def cm1 (row n a : Nat) (b neg : Bool) (r : rA) : Nat × Bool × rA :=
  let r1 := rset (rset r 5 row (numV n a b (r 2))) 11 row (nI 1)
  if ahd n (numA n a b (r 2)) (numB n a b (r 2)) (r 2) = nI 46 then cm2 row n (numA n a b (r 2) + 1) (numB n a b (r 2)) neg a r1 else (numA n a b (r 2), numB n a b (r 2), r1)
/-- what comparator(row) does: at, bad, the arrays -/
def cmpF (row n a : Nat) (b : Bool) (r : rA) : Nat × Bool × rA :=
  if ahd n a b (r 2) = nI 42 then (a + 1, b, cm0 row r) else
    cm1 row n (sgF n a b (r 2)).1 b (decide ((sgF n a b (r 2)).2 < 0)) (rset (cm0 row r) 10 row (if 0 ≤ (sgF n a b (r 2)).2 then (sgF n a b (r 2)).2 else nI 1))
theorem sgF_le {n a : Nat} {b : Bool} {t : Nat → Int32} (h : a ≤ n) : a ≤ (sgF n a b t).1 ∧ (sgF n a b t).1 ≤ n := by
  have k : ∀ {x : Int32} {m : Nat}, ahd n m b t = x → x ≠ -1 → m < n := fun h1 h2 => (ahd_eq h1 h2).2.1
  unfold sgF
  split
  · rename_i g; have := k g (by decide +kernel); exact ⟨by show a ≤ a + 1; omega, by show a + 1 ≤ n; omega⟩
  · split
    · rename_i g; have := k g (by decide +kernel); exact ⟨by show a ≤ a + 1; omega, by show a + 1 ≤ n; omega⟩
    · split
      · rename_i g; have := k g (by decide +kernel); exact ⟨by show a ≤ a + 1; omega, by show a + 1 ≤ n; omega⟩
      · split
        · rename_i g; have := k g (by decide +kernel)
          split
          · rename_i g2; have := k g2 (by decide +kernel); exact ⟨by show a ≤ a + 1 + 1; omega, by show a + 1 + 1 ≤ n; omega⟩
          · exact ⟨by show a ≤ a + 1; omega, by show a + 1 ≤ n; omega⟩
        · split
          · rename_i g; have := k g (by decide +kernel)
            split
            · rename_i g2; have := k g2 (by decide +kernel); exact ⟨by show a ≤ a + 1 + 1; omega, by show a + 1 + 1 ≤ n; omega⟩
            · exact ⟨by show a ≤ a + 1; omega, by show a + 1 ≤ n; omega⟩
          · exact ⟨Nat.le_refl _, h⟩
set_option maxHeartbeats 2000000 in
theorem l_cm3 {q : Nat} {qa : Nat → Nat} {d c n a v f row p : Nat} {b : Bool} {sv : Int32} {x5 : Option zV} {r : rA} {Q : rS → (Option zV ⊕ Nat) → Prop} (hrow : row < 900) (hn : n ≤ 160) (ha : a < n) (hpa : p ≤ a) (hp : r 11 row = nI 2) (hQ : Q (c, n, (cm3 row n (a + 1) b (decide (sv < 0)) p r).1, (cm3 row n (a + 1) b (decide (sv < 0)) p r).2.1, v, f, (cm3 row n (a + 1) b (decide (sv < 0)) p r).2.2) (.inl none)) : rEv q qa (d + 4) tb_109 Q 135 [some (zR (some q)), some (zI (nI row)), some (zI (sv)), some (zI (nI p)), some (zI (nI 1)), x5] [] (c, n, a, b, v, f, r) := by
  refine r_ald rfl rfl ?_
  refine r_dup rfl rfl ?_
  refine r_get rfl rfl ?_
  refine r_ico (x := (nI 1)) rfl rfl ?_
  refine r_ibi (v := (nI (a + 1))) rfl (nI_add _ _) ?_
  refine r_put (s' := (c, n, a + 1, b, v, f, r)) rfl (Nat.le_of_ble_eq_true rfl) ⟨_, rfl⟩ rfl rfl ?_
  refine r_ald rfl rfl ?_
  refine r_call (as := [zR (some q)]) (r := []) (s' := (c, n, a + 1, b, v, f, r)) (v := some (zI (ahd n (a + 1) b (r 2)))) rfl rfl rfl (Nat.le_of_ble_eq_true rfl) (Or.inr ⟨rfl, rfl, _, rfl⟩) (c_ahead (by omega) (by omega)) ?_
  refine r_ico (x := (nI 42)) rfl rfl ?_
  refine r_cmp rfl (fun h_1 => ?_) (fun h_1 => ?_)
  · replace h_1 : ¬ (ahd n (a + 1) b (r 2)) = (nI 42) := h_1
    rw [cm3, if_neg (fun z => h_1 z.1)] at hQ
    refine r_ald rfl rfl ?_
    obtain ⟨a8, ha8⟩ : ∃ x, x = numA n (a + 1) b (r 2) := ⟨_, rfl⟩
    obtain ⟨b8, hb8⟩ : ∃ x, x = numB n (a + 1) b (r 2) := ⟨_, rfl⟩
    obtain ⟨v8, hv8⟩ : ∃ x, x = numV n (a + 1) b (r 2) := ⟨_, rfl⟩
    have la8 := numA_le (n := n) (a := a + 1) (b := b) (t := r 2) (by omega)
    rw [← ha8] at la8
    refine r_call (as := [zR (some q)]) (r := []) (s' := (c, n, a8, b8, v, f, r)) (v := some (zI (v8))) rfl rfl rfl (Nat.le_of_ble_eq_true rfl) (Or.inr ⟨rfl, rfl, _, rfl⟩) (by rw [ha8, hb8, hv8]; exact c_number (by omega) (by omega)) ?_
    refine r_ist (ls' := [some (zR (some q)), some (zI (nI row)), some (zI (sv)), some (zI (nI p)), some (zI (nI 1)), some (zI (v8))]) rfl (Nat.le_of_ble_eq_true rfl) rfl ?_
    refine r_ald rfl rfl ?_
    refine r_get rfl rfl ?_
    refine r_ild rfl rfl ?_
    refine r_ald rfl rfl ?_
    refine r_get rfl rfl ?_
    refine r_ild rfl rfl ?_
    refine r_ialdN (k0 := 11) rfl rfl (by omega) (by decide) ?_
    refine r_top (y := (nI 2)) (by simp [rar, rset, upd, hp]) ?_
    refine r_ico (x := (nI 1)) rfl rfl ?_
    refine r_cmpN (by omega) (by omega) rfl (fun h_2 => ?_) (fun h_2 => ?_)
    · replace h_2 : ¬ 2 = 1 := h_2
      refine r_ald rfl rfl ?_
      refine r_get rfl rfl ?_
      refine r_ild rfl rfl ?_
      refine r_ialdN (k0 := 6) rfl rfl (by omega) (by decide) ?_
      refine r_iastN (k0 := 6) (x' := (r 6 row)) rfl rfl (by omega) (by decide) rfl ?_
      refine r_ald rfl rfl ?_
      refine r_get rfl rfl ?_
      refine r_ild rfl rfl ?_
      refine r_ald rfl rfl ?_
      refine r_get rfl rfl ?_
      refine r_ild rfl rfl ?_
      refine r_ialdN (k0 := 11) rfl rfl (by omega) (by decide) ?_
      refine r_top (y := (nI 2)) (by simp [rar, rset, upd, hp]) ?_
      refine r_ico (x := (nI 2)) rfl rfl ?_
      refine r_cmpN (by omega) (by omega) rfl (fun h_3 => ?_) (fun h_3 => ?_)
      · replace h_3 : ¬ 2 = 2 := h_3
        omega
      · replace h_3 : 2 = 2 := Decidable.of_not_not h_3
        refine r_ild rfl rfl ?_
        refine r_go rfl ?_
        refine r_iastN (k0 := 7) (x' := (v8)) rfl rfl (by omega) (by decide) rfl ?_
        refine r_ald rfl rfl ?_
        refine r_get rfl rfl ?_
        refine r_ild rfl rfl ?_
        refine r_dup2 rfl rfl rfl ?_
        refine r_ialdN (k0 := 11) rfl rfl (by omega) (by decide) ?_
        refine r_top (y := (nI 2)) (by simp [rar, rset, upd, hp]) ?_
        refine r_ico (x := (nI 1)) rfl rfl ?_
        refine r_ibi (v := (nI 3)) rfl (nI_add 2 1) ?_
        refine r_iastN (k0 := 11) (x' := (nI 3)) rfl rfl (by omega) (by decide) rfl ?_
        refine r_ald rfl rfl ?_
        refine r_call (as := [zR (some q)]) (r := []) (s' := (c, n, a8, b8, v, f, rset (rset (rset r 6 row (r 6 row)) 7 row (v8)) 11 row (nI 3))) (v := some (zI (ahd n a8 b8 (r 2)))) rfl rfl rfl (Nat.le_of_ble_eq_true rfl) (Or.inr ⟨rfl, rfl, _, rfl⟩) (c_ahead (by omega) (by omega)) ?_
        refine r_ico (x := (nI 46)) rfl rfl ?_
        refine r_cmp rfl (fun h_4 => ?_) (fun h_4 => ?_)
        · replace h_4 : ¬ (ahd n a8 b8 (r 2)) = (nI 46) := h_4
          refine r_ico (x := (nI 0)) rfl rfl ?_
          refine r_ist (ls' := [some (zR (some q)), some (zI (nI row)), some (zI (sv)), some (zI (nI p)), some (zI (nI 0)), some (zI (v8))]) rfl (Nat.le_of_ble_eq_true rfl) rfl ?_
          refine r_go rfl ?_
          refine r_ild rfl rfl ?_
          refine r_ifN (by omega) rfl (fun h_5 => ?_) (fun h_5 => ?_)
          · replace h_5 : 0 = 0 := h_5
            refine r_ald rfl rfl ?_
            refine r_get rfl rfl ?_
            refine r_ild rfl rfl ?_
            refine r_ialdN (k0 := 11) rfl rfl (by omega) (by decide) ?_
            refine r_top (y := (nI 3)) (by simp [rar, rset, upd, hp]) ?_
            refine r_ico (x := (nI 3)) rfl rfl ?_
            refine r_cmpN (by omega) (by omega) rfl (fun h_6 => ?_) (fun h_6 => ?_)
            · replace h_6 : ¬ 3 = 3 := h_6
              omega
            · replace h_6 : 3 = 3 := Decidable.of_not_not h_6
              refine r_ald rfl rfl ?_
              refine r_ild rfl rfl ?_
              obtain ⟨w9, hw9⟩ : ∃ x, x = bwF row n a8 b8 (rset (rset (rset r 6 row (r 6 row)) 7 row (v8)) 11 row (nI 3)) := ⟨_, rfl⟩
              have lw9 := bwF_le (row := row) (n := n) (a := a8) (b := b8) (r := rset (rset (rset r 6 row (r 6 row)) 7 row (v8)) 11 row (nI 3)) (by omega)
              have tw9 : w9.2.2 2 = r 2 := by rw [hw9]; exact bwF_arr (by decide) (by decide)
              rw [← hw9] at lw9
              obtain ⟨a9, b9, r9⟩ := w9
              replace tw9 : r9 2 = r 2 := tw9
              replace lw9 : a8 ≤ a9 ∧ a9 ≤ n := lw9
              refine r_call (as := [zR (some q), zI (nI row)]) (r := []) (s' := (c, n, a9, b9, v, f, r9)) (v := none) rfl rfl rfl (Nat.le_of_ble_eq_true rfl) (Or.inr ⟨rfl, rfl, _, rfl⟩) (by have h9 := c_beforeWords (q := q) (qa := qa) (d := d) (c := c) (n := n) (a := a8) (v := v) (f := f) (row := row) (b := b8) (r := rset (rset (rset r 6 row (r 6 row)) 7 row (v8)) 11 row (nI 3)) (by omega) (by omega) (by omega); rw [← hw9] at h9; exact h9) ?_
              simp only [← ha8, ← hb8, ← hv8, ← hw9] at hQ
              refine r_ald rfl rfl ?_
              refine r_ald rfl rfl ?_
              refine r_get rfl rfl ?_
              refine r_ifB1 rfl (fun h_7 => ?_) (fun h_7 => ?_)
              · refine r_ico (x := (nI 1)) rfl rfl ?_
                refine r_go rfl ?_
                refine r_put (s' := (c, n, a9, true, v, f, r9)) rfl (Nat.le_of_ble_eq_true rfl) ⟨_, rfl, Or.inr rfl⟩ rfl rfl ?_
                refine r_rtv rfl ?_
                have e9 : (b9 || decide (24 < a9 - p)) = true := by first | (rw [h_7]; rfl) | (rw [h_6]; simp; omega)
                rw [e9] at hQ
                exact hQ
              · refine r_ald rfl rfl ?_
                refine r_get rfl rfl ?_
                refine r_ild rfl rfl ?_
                refine r_ibi (v := (nI (a9 - p))) rfl (pk_sub (by omega)) ?_
                refine r_ico (x := (nI 24)) rfl rfl ?_
                refine r_cmpN (by omega) (by omega) rfl (fun h_8 => ?_) (fun h_8 => ?_)
                · replace h_8 : a9 - p ≤ 24 := h_8
                  refine r_ico (x := (nI 0)) rfl rfl ?_
                  refine r_put (s' := (c, n, a9, false, v, f, r9)) rfl (Nat.le_of_ble_eq_true rfl) ⟨_, rfl, Or.inl rfl⟩ rfl rfl ?_
                  refine r_rtv rfl ?_
                  have e9 : (b9 || decide (24 < a9 - p)) = false := by first | (rw [h_8]; rfl) | (rw [h_7]; simp; omega)
                  rw [e9] at hQ
                  exact hQ
                · replace h_8 := Nat.not_le.mp h_8
                  refine r_ico (x := (nI 1)) rfl rfl ?_
                  refine r_go rfl ?_
                  refine r_put (s' := (c, n, a9, true, v, f, r9)) rfl (Nat.le_of_ble_eq_true rfl) ⟨_, rfl, Or.inr rfl⟩ rfl rfl ?_
                  refine r_rtv rfl ?_
                  have e9 : (b9 || decide (24 < a9 - p)) = true := by first | (rw [h_8]; rfl) | (rw [h_7]; simp; omega)
                  rw [e9] at hQ
                  exact hQ
          · replace h_5 : ¬ (0 = 0) := h_5
            omega
        · replace h_4 : (ahd n a8 b8 (r 2)) = (nI 46) := Decidable.of_not_not h_4
          refine r_ico (x := (nI 1)) rfl rfl ?_
          refine r_go rfl ?_
          refine r_ist (ls' := [some (zR (some q)), some (zI (nI row)), some (zI (sv)), some (zI (nI p)), some (zI (nI 1)), some (zI (v8))]) rfl (Nat.le_of_ble_eq_true rfl) rfl ?_
          refine r_go rfl ?_
          refine r_ild rfl rfl ?_
          refine r_ifN (by omega) rfl (fun h_9 => ?_) (fun h_9 => ?_)
          · replace h_9 : 1 = 0 := h_9
            omega
          · replace h_9 : ¬ (1 = 0) := h_9
            refine r_ald rfl rfl ?_
            refine r_get rfl rfl ?_
            refine r_ild rfl rfl ?_
            refine r_ialdN (k0 := 11) rfl rfl (by omega) (by decide) ?_
            refine r_top (y := (nI 3)) (by simp [rar, rset, upd, hp]) ?_
            refine r_ico (x := (nI 3)) rfl rfl ?_
            refine r_cmpN (by omega) (by omega) rfl (fun h_10 => ?_) (fun h_10 => ?_)
            · replace h_10 : 3 ≤ 3 := h_10
              refine r_ald rfl rfl ?_
              refine r_get rfl rfl ?_
              refine r_ild rfl rfl ?_
              refine r_ialdN (k0 := 11) rfl rfl (by omega) (by decide) ?_
              refine r_top (y := (nI 3)) (by simp [rar, rset, upd, hp]) ?_
              refine r_ico (x := (nI 3)) rfl rfl ?_
              refine r_cmpN (by omega) (by omega) rfl (fun h_11 => ?_) (fun h_11 => ?_)
              · replace h_11 : ¬ 3 = 3 := h_11
                omega
              · replace h_11 : 3 = 3 := Decidable.of_not_not h_11
                refine r_ald rfl rfl ?_
                refine r_ild rfl rfl ?_
                obtain ⟨w10, hw10⟩ : ∃ x, x = bwF row n a8 b8 (rset (rset (rset r 6 row (r 6 row)) 7 row (v8)) 11 row (nI 3)) := ⟨_, rfl⟩
                have lw10 := bwF_le (row := row) (n := n) (a := a8) (b := b8) (r := rset (rset (rset r 6 row (r 6 row)) 7 row (v8)) 11 row (nI 3)) (by omega)
                have tw10 : w10.2.2 2 = r 2 := by rw [hw10]; exact bwF_arr (by decide) (by decide)
                rw [← hw10] at lw10
                obtain ⟨a10, b10, r10⟩ := w10
                replace tw10 : r10 2 = r 2 := tw10
                replace lw10 : a8 ≤ a10 ∧ a10 ≤ n := lw10
                refine r_call (as := [zR (some q), zI (nI row)]) (r := []) (s' := (c, n, a10, b10, v, f, r10)) (v := none) rfl rfl rfl (Nat.le_of_ble_eq_true rfl) (Or.inr ⟨rfl, rfl, _, rfl⟩) (by have h9 := c_beforeWords (q := q) (qa := qa) (d := d) (c := c) (n := n) (a := a8) (v := v) (f := f) (row := row) (b := b8) (r := rset (rset (rset r 6 row (r 6 row)) 7 row (v8)) 11 row (nI 3)) (by omega) (by omega) (by omega); rw [← hw10] at h9; exact h9) ?_
                simp only [← ha8, ← hb8, ← hv8, ← hw10] at hQ
                refine r_ald rfl rfl ?_
                refine r_ald rfl rfl ?_
                refine r_get rfl rfl ?_
                refine r_ifB1 rfl (fun h_12 => ?_) (fun h_12 => ?_)
                · refine r_ico (x := (nI 1)) rfl rfl ?_
                  refine r_go rfl ?_
                  refine r_put (s' := (c, n, a10, true, v, f, r10)) rfl (Nat.le_of_ble_eq_true rfl) ⟨_, rfl, Or.inr rfl⟩ rfl rfl ?_
                  refine r_rtv rfl ?_
                  have e9 : (b10 || decide (24 < a10 - p)) = true := by first | (rw [h_12]; rfl) | (rw [h_11]; simp; omega)
                  rw [e9] at hQ
                  exact hQ
                · refine r_ald rfl rfl ?_
                  refine r_get rfl rfl ?_
                  refine r_ild rfl rfl ?_
                  refine r_ibi (v := (nI (a10 - p))) rfl (pk_sub (by omega)) ?_
                  refine r_ico (x := (nI 24)) rfl rfl ?_
                  refine r_cmpN (by omega) (by omega) rfl (fun h_13 => ?_) (fun h_13 => ?_)
                  · replace h_13 : a10 - p ≤ 24 := h_13
                    refine r_ico (x := (nI 0)) rfl rfl ?_
                    refine r_put (s' := (c, n, a10, false, v, f, r10)) rfl (Nat.le_of_ble_eq_true rfl) ⟨_, rfl, Or.inl rfl⟩ rfl rfl ?_
                    refine r_rtv rfl ?_
                    have e9 : (b10 || decide (24 < a10 - p)) = false := by first | (rw [h_13]; rfl) | (rw [h_12]; simp; omega)
                    rw [e9] at hQ
                    exact hQ
                  · replace h_13 := Nat.not_le.mp h_13
                    refine r_ico (x := (nI 1)) rfl rfl ?_
                    refine r_go rfl ?_
                    refine r_put (s' := (c, n, a10, true, v, f, r10)) rfl (Nat.le_of_ble_eq_true rfl) ⟨_, rfl, Or.inr rfl⟩ rfl rfl ?_
                    refine r_rtv rfl ?_
                    have e9 : (b10 || decide (24 < a10 - p)) = true := by first | (rw [h_13]; rfl) | (rw [h_12]; simp; omega)
                    rw [e9] at hQ
                    exact hQ
            · replace h_10 := Nat.not_le.mp h_10
              omega
    · replace h_2 : 2 = 1 := Decidable.of_not_not h_2
      omega
  · replace h_1 : (ahd n (a + 1) b (r 2)) = (nI 42) := Decidable.of_not_not h_1
    refine r_ild rfl rfl ?_
    refine r_if rfl (fun h_14 => ?_) (fun h_14 => ?_)
    · replace h_14 : 0 ≤ (sv) := h_14
      rw [cm3, if_neg (fun z => by simp at z; exact absurd z.2 (by simpa using h_14))] at hQ
      refine r_ald rfl rfl ?_
      obtain ⟨a11, ha11⟩ : ∃ x, x = numA n (a + 1) b (r 2) := ⟨_, rfl⟩
      obtain ⟨b11, hb11⟩ : ∃ x, x = numB n (a + 1) b (r 2) := ⟨_, rfl⟩
      obtain ⟨v11, hv11⟩ : ∃ x, x = numV n (a + 1) b (r 2) := ⟨_, rfl⟩
      have la11 := numA_le (n := n) (a := a + 1) (b := b) (t := r 2) (by omega)
      rw [← ha11] at la11
      refine r_call (as := [zR (some q)]) (r := []) (s' := (c, n, a11, b11, v, f, r)) (v := some (zI (v11))) rfl rfl rfl (Nat.le_of_ble_eq_true rfl) (Or.inr ⟨rfl, rfl, _, rfl⟩) (by rw [ha11, hb11, hv11]; exact c_number (by omega) (by omega)) ?_
      refine r_ist (ls' := [some (zR (some q)), some (zI (nI row)), some (zI (sv)), some (zI (nI p)), some (zI (nI 1)), some (zI (v11))]) rfl (Nat.le_of_ble_eq_true rfl) rfl ?_
      refine r_ald rfl rfl ?_
      refine r_get rfl rfl ?_
      refine r_ild rfl rfl ?_
      refine r_ald rfl rfl ?_
      refine r_get rfl rfl ?_
      refine r_ild rfl rfl ?_
      refine r_ialdN (k0 := 11) rfl rfl (by omega) (by decide) ?_
      refine r_top (y := (nI 2)) (by simp [rar, rset, upd, hp]) ?_
      refine r_ico (x := (nI 1)) rfl rfl ?_
      refine r_cmpN (by omega) (by omega) rfl (fun h_15 => ?_) (fun h_15 => ?_)
      · replace h_15 : ¬ 2 = 1 := h_15
        refine r_ald rfl rfl ?_
        refine r_get rfl rfl ?_
        refine r_ild rfl rfl ?_
        refine r_ialdN (k0 := 6) rfl rfl (by omega) (by decide) ?_
        refine r_iastN (k0 := 6) (x' := (r 6 row)) rfl rfl (by omega) (by decide) rfl ?_
        refine r_ald rfl rfl ?_
        refine r_get rfl rfl ?_
        refine r_ild rfl rfl ?_
        refine r_ald rfl rfl ?_
        refine r_get rfl rfl ?_
        refine r_ild rfl rfl ?_
        refine r_ialdN (k0 := 11) rfl rfl (by omega) (by decide) ?_
        refine r_top (y := (nI 2)) (by simp [rar, rset, upd, hp]) ?_
        refine r_ico (x := (nI 2)) rfl rfl ?_
        refine r_cmpN (by omega) (by omega) rfl (fun h_16 => ?_) (fun h_16 => ?_)
        · replace h_16 : ¬ 2 = 2 := h_16
          omega
        · replace h_16 : 2 = 2 := Decidable.of_not_not h_16
          refine r_ild rfl rfl ?_
          refine r_go rfl ?_
          refine r_iastN (k0 := 7) (x' := (v11)) rfl rfl (by omega) (by decide) rfl ?_
          refine r_ald rfl rfl ?_
          refine r_get rfl rfl ?_
          refine r_ild rfl rfl ?_
          refine r_dup2 rfl rfl rfl ?_
          refine r_ialdN (k0 := 11) rfl rfl (by omega) (by decide) ?_
          refine r_top (y := (nI 2)) (by simp [rar, rset, upd, hp]) ?_
          refine r_ico (x := (nI 1)) rfl rfl ?_
          refine r_ibi (v := (nI 3)) rfl (nI_add 2 1) ?_
          refine r_iastN (k0 := 11) (x' := (nI 3)) rfl rfl (by omega) (by decide) rfl ?_
          refine r_ald rfl rfl ?_
          refine r_call (as := [zR (some q)]) (r := []) (s' := (c, n, a11, b11, v, f, rset (rset (rset r 6 row (r 6 row)) 7 row (v11)) 11 row (nI 3))) (v := some (zI (ahd n a11 b11 (r 2)))) rfl rfl rfl (Nat.le_of_ble_eq_true rfl) (Or.inr ⟨rfl, rfl, _, rfl⟩) (c_ahead (by omega) (by omega)) ?_
          refine r_ico (x := (nI 46)) rfl rfl ?_
          refine r_cmp rfl (fun h_17 => ?_) (fun h_17 => ?_)
          · replace h_17 : ¬ (ahd n a11 b11 (r 2)) = (nI 46) := h_17
            refine r_ico (x := (nI 0)) rfl rfl ?_
            refine r_ist (ls' := [some (zR (some q)), some (zI (nI row)), some (zI (sv)), some (zI (nI p)), some (zI (nI 0)), some (zI (v11))]) rfl (Nat.le_of_ble_eq_true rfl) rfl ?_
            refine r_go rfl ?_
            refine r_ild rfl rfl ?_
            refine r_ifN (by omega) rfl (fun h_18 => ?_) (fun h_18 => ?_)
            · replace h_18 : 0 = 0 := h_18
              refine r_ald rfl rfl ?_
              refine r_get rfl rfl ?_
              refine r_ild rfl rfl ?_
              refine r_ialdN (k0 := 11) rfl rfl (by omega) (by decide) ?_
              refine r_top (y := (nI 3)) (by simp [rar, rset, upd, hp]) ?_
              refine r_ico (x := (nI 3)) rfl rfl ?_
              refine r_cmpN (by omega) (by omega) rfl (fun h_19 => ?_) (fun h_19 => ?_)
              · replace h_19 : ¬ 3 = 3 := h_19
                omega
              · replace h_19 : 3 = 3 := Decidable.of_not_not h_19
                refine r_ald rfl rfl ?_
                refine r_ild rfl rfl ?_
                obtain ⟨w12, hw12⟩ : ∃ x, x = bwF row n a11 b11 (rset (rset (rset r 6 row (r 6 row)) 7 row (v11)) 11 row (nI 3)) := ⟨_, rfl⟩
                have lw12 := bwF_le (row := row) (n := n) (a := a11) (b := b11) (r := rset (rset (rset r 6 row (r 6 row)) 7 row (v11)) 11 row (nI 3)) (by omega)
                have tw12 : w12.2.2 2 = r 2 := by rw [hw12]; exact bwF_arr (by decide) (by decide)
                rw [← hw12] at lw12
                obtain ⟨a12, b12, r12⟩ := w12
                replace tw12 : r12 2 = r 2 := tw12
                replace lw12 : a11 ≤ a12 ∧ a12 ≤ n := lw12
                refine r_call (as := [zR (some q), zI (nI row)]) (r := []) (s' := (c, n, a12, b12, v, f, r12)) (v := none) rfl rfl rfl (Nat.le_of_ble_eq_true rfl) (Or.inr ⟨rfl, rfl, _, rfl⟩) (by have h9 := c_beforeWords (q := q) (qa := qa) (d := d) (c := c) (n := n) (a := a11) (v := v) (f := f) (row := row) (b := b11) (r := rset (rset (rset r 6 row (r 6 row)) 7 row (v11)) 11 row (nI 3)) (by omega) (by omega) (by omega); rw [← hw12] at h9; exact h9) ?_
                simp only [← ha11, ← hb11, ← hv11, ← hw12] at hQ
                refine r_ald rfl rfl ?_
                refine r_ald rfl rfl ?_
                refine r_get rfl rfl ?_
                refine r_ifB1 rfl (fun h_20 => ?_) (fun h_20 => ?_)
                · refine r_ico (x := (nI 1)) rfl rfl ?_
                  refine r_go rfl ?_
                  refine r_put (s' := (c, n, a12, true, v, f, r12)) rfl (Nat.le_of_ble_eq_true rfl) ⟨_, rfl, Or.inr rfl⟩ rfl rfl ?_
                  refine r_rtv rfl ?_
                  have e9 : (b12 || decide (24 < a12 - p)) = true := by first | (rw [h_20]; rfl) | (rw [h_19]; simp; omega)
                  rw [e9] at hQ
                  exact hQ
                · refine r_ald rfl rfl ?_
                  refine r_get rfl rfl ?_
                  refine r_ild rfl rfl ?_
                  refine r_ibi (v := (nI (a12 - p))) rfl (pk_sub (by omega)) ?_
                  refine r_ico (x := (nI 24)) rfl rfl ?_
                  refine r_cmpN (by omega) (by omega) rfl (fun h_21 => ?_) (fun h_21 => ?_)
                  · replace h_21 : a12 - p ≤ 24 := h_21
                    refine r_ico (x := (nI 0)) rfl rfl ?_
                    refine r_put (s' := (c, n, a12, false, v, f, r12)) rfl (Nat.le_of_ble_eq_true rfl) ⟨_, rfl, Or.inl rfl⟩ rfl rfl ?_
                    refine r_rtv rfl ?_
                    have e9 : (b12 || decide (24 < a12 - p)) = false := by first | (rw [h_21]; rfl) | (rw [h_20]; simp; omega)
                    rw [e9] at hQ
                    exact hQ
                  · replace h_21 := Nat.not_le.mp h_21
                    refine r_ico (x := (nI 1)) rfl rfl ?_
                    refine r_go rfl ?_
                    refine r_put (s' := (c, n, a12, true, v, f, r12)) rfl (Nat.le_of_ble_eq_true rfl) ⟨_, rfl, Or.inr rfl⟩ rfl rfl ?_
                    refine r_rtv rfl ?_
                    have e9 : (b12 || decide (24 < a12 - p)) = true := by first | (rw [h_21]; rfl) | (rw [h_20]; simp; omega)
                    rw [e9] at hQ
                    exact hQ
            · replace h_18 : ¬ (0 = 0) := h_18
              omega
          · replace h_17 : (ahd n a11 b11 (r 2)) = (nI 46) := Decidable.of_not_not h_17
            refine r_ico (x := (nI 1)) rfl rfl ?_
            refine r_go rfl ?_
            refine r_ist (ls' := [some (zR (some q)), some (zI (nI row)), some (zI (sv)), some (zI (nI p)), some (zI (nI 1)), some (zI (v11))]) rfl (Nat.le_of_ble_eq_true rfl) rfl ?_
            refine r_go rfl ?_
            refine r_ild rfl rfl ?_
            refine r_ifN (by omega) rfl (fun h_22 => ?_) (fun h_22 => ?_)
            · replace h_22 : 1 = 0 := h_22
              omega
            · replace h_22 : ¬ (1 = 0) := h_22
              refine r_ald rfl rfl ?_
              refine r_get rfl rfl ?_
              refine r_ild rfl rfl ?_
              refine r_ialdN (k0 := 11) rfl rfl (by omega) (by decide) ?_
              refine r_top (y := (nI 3)) (by simp [rar, rset, upd, hp]) ?_
              refine r_ico (x := (nI 3)) rfl rfl ?_
              refine r_cmpN (by omega) (by omega) rfl (fun h_23 => ?_) (fun h_23 => ?_)
              · replace h_23 : 3 ≤ 3 := h_23
                refine r_ald rfl rfl ?_
                refine r_get rfl rfl ?_
                refine r_ild rfl rfl ?_
                refine r_ialdN (k0 := 11) rfl rfl (by omega) (by decide) ?_
                refine r_top (y := (nI 3)) (by simp [rar, rset, upd, hp]) ?_
                refine r_ico (x := (nI 3)) rfl rfl ?_
                refine r_cmpN (by omega) (by omega) rfl (fun h_24 => ?_) (fun h_24 => ?_)
                · replace h_24 : ¬ 3 = 3 := h_24
                  omega
                · replace h_24 : 3 = 3 := Decidable.of_not_not h_24
                  refine r_ald rfl rfl ?_
                  refine r_ild rfl rfl ?_
                  obtain ⟨w13, hw13⟩ : ∃ x, x = bwF row n a11 b11 (rset (rset (rset r 6 row (r 6 row)) 7 row (v11)) 11 row (nI 3)) := ⟨_, rfl⟩
                  have lw13 := bwF_le (row := row) (n := n) (a := a11) (b := b11) (r := rset (rset (rset r 6 row (r 6 row)) 7 row (v11)) 11 row (nI 3)) (by omega)
                  have tw13 : w13.2.2 2 = r 2 := by rw [hw13]; exact bwF_arr (by decide) (by decide)
                  rw [← hw13] at lw13
                  obtain ⟨a13, b13, r13⟩ := w13
                  replace tw13 : r13 2 = r 2 := tw13
                  replace lw13 : a11 ≤ a13 ∧ a13 ≤ n := lw13
                  refine r_call (as := [zR (some q), zI (nI row)]) (r := []) (s' := (c, n, a13, b13, v, f, r13)) (v := none) rfl rfl rfl (Nat.le_of_ble_eq_true rfl) (Or.inr ⟨rfl, rfl, _, rfl⟩) (by have h9 := c_beforeWords (q := q) (qa := qa) (d := d) (c := c) (n := n) (a := a11) (v := v) (f := f) (row := row) (b := b11) (r := rset (rset (rset r 6 row (r 6 row)) 7 row (v11)) 11 row (nI 3)) (by omega) (by omega) (by omega); rw [← hw13] at h9; exact h9) ?_
                  simp only [← ha11, ← hb11, ← hv11, ← hw13] at hQ
                  refine r_ald rfl rfl ?_
                  refine r_ald rfl rfl ?_
                  refine r_get rfl rfl ?_
                  refine r_ifB1 rfl (fun h_25 => ?_) (fun h_25 => ?_)
                  · refine r_ico (x := (nI 1)) rfl rfl ?_
                    refine r_go rfl ?_
                    refine r_put (s' := (c, n, a13, true, v, f, r13)) rfl (Nat.le_of_ble_eq_true rfl) ⟨_, rfl, Or.inr rfl⟩ rfl rfl ?_
                    refine r_rtv rfl ?_
                    have e9 : (b13 || decide (24 < a13 - p)) = true := by first | (rw [h_25]; rfl) | (rw [h_24]; simp; omega)
                    rw [e9] at hQ
                    exact hQ
                  · refine r_ald rfl rfl ?_
                    refine r_get rfl rfl ?_
                    refine r_ild rfl rfl ?_
                    refine r_ibi (v := (nI (a13 - p))) rfl (pk_sub (by omega)) ?_
                    refine r_ico (x := (nI 24)) rfl rfl ?_
                    refine r_cmpN (by omega) (by omega) rfl (fun h_26 => ?_) (fun h_26 => ?_)
                    · replace h_26 : a13 - p ≤ 24 := h_26
                      refine r_ico (x := (nI 0)) rfl rfl ?_
                      refine r_put (s' := (c, n, a13, false, v, f, r13)) rfl (Nat.le_of_ble_eq_true rfl) ⟨_, rfl, Or.inl rfl⟩ rfl rfl ?_
                      refine r_rtv rfl ?_
                      have e9 : (b13 || decide (24 < a13 - p)) = false := by first | (rw [h_26]; rfl) | (rw [h_25]; simp; omega)
                      rw [e9] at hQ
                      exact hQ
                    · replace h_26 := Nat.not_le.mp h_26
                      refine r_ico (x := (nI 1)) rfl rfl ?_
                      refine r_go rfl ?_
                      refine r_put (s' := (c, n, a13, true, v, f, r13)) rfl (Nat.le_of_ble_eq_true rfl) ⟨_, rfl, Or.inr rfl⟩ rfl rfl ?_
                      refine r_rtv rfl ?_
                      have e9 : (b13 || decide (24 < a13 - p)) = true := by first | (rw [h_26]; rfl) | (rw [h_25]; simp; omega)
                      rw [e9] at hQ
                      exact hQ
              · replace h_23 := Nat.not_le.mp h_23
                omega
      · replace h_15 : 2 = 1 := Decidable.of_not_not h_15
        omega
    · replace h_14 : ¬ (0 ≤ (sv)) := h_14
      refine r_ald rfl rfl ?_
      refine r_dup rfl rfl ?_
      refine r_get rfl rfl ?_
      refine r_ico (x := (nI 1)) rfl rfl ?_
      refine r_ibi (v := (nI (a + 1 + 1))) rfl (nI_add _ _) ?_
      refine r_put (s' := (c, n, a + 1 + 1, b, v, f, r)) rfl (Nat.le_of_ble_eq_true rfl) ⟨_, rfl⟩ rfl rfl ?_
      refine r_ald rfl rfl ?_
      refine r_get rfl rfl ?_
      refine r_ild rfl rfl ?_
      refine r_ico (x := (nI 3)) rfl rfl ?_
      refine r_iastN (k0 := 10) (x' := (nI 3)) rfl rfl (by omega) (by decide) rfl ?_
      refine r_rtv rfl ?_
      rw [cm3, if_pos ⟨h_1, by simpa using h_14⟩] at hQ
      exact hQ
set_option maxHeartbeats 2000000 in
theorem l_cm2 {q : Nat} {qa : Nat → Nat} {d c n a v f row p : Nat} {b : Bool} {sv : Int32} {x5 : Option zV} {r : rA} {Q : rS → (Option zV ⊕ Nat) → Prop} (hrow : row < 900) (hn : n ≤ 160) (ha : a < n) (hpa : p ≤ a) (hp : r 11 row = nI 1) (hQ : Q (c, n, (cm2 row n (a + 1) b (decide (sv < 0)) p r).1, (cm2 row n (a + 1) b (decide (sv < 0)) p r).2.1, v, f, (cm2 row n (a + 1) b (decide (sv < 0)) p r).2.2) (.inl none)) : rEv q qa (d + 4) tb_109 Q 135 [some (zR (some q)), some (zI (nI row)), some (zI (sv)), some (zI (nI p)), some (zI (nI 1)), x5] [] (c, n, a, b, v, f, r) := by
  refine r_ald rfl rfl ?_
  refine r_dup rfl rfl ?_
  refine r_get rfl rfl ?_
  refine r_ico (x := (nI 1)) rfl rfl ?_
  refine r_ibi (v := (nI (a + 1))) rfl (nI_add _ _) ?_
  refine r_put (s' := (c, n, a + 1, b, v, f, r)) rfl (Nat.le_of_ble_eq_true rfl) ⟨_, rfl⟩ rfl rfl ?_
  refine r_ald rfl rfl ?_
  refine r_call (as := [zR (some q)]) (r := []) (s' := (c, n, a + 1, b, v, f, r)) (v := some (zI (ahd n (a + 1) b (r 2)))) rfl rfl rfl (Nat.le_of_ble_eq_true rfl) (Or.inr ⟨rfl, rfl, _, rfl⟩) (c_ahead (by omega) (by omega)) ?_
  refine r_ico (x := (nI 42)) rfl rfl ?_
  refine r_cmp rfl (fun h_1 => ?_) (fun h_1 => ?_)
  · replace h_1 : ¬ (ahd n (a + 1) b (r 2)) = (nI 42) := h_1
    rw [cm2, if_neg (fun z => h_1 z.1)] at hQ
    refine r_ald rfl rfl ?_
    obtain ⟨a14, ha14⟩ : ∃ x, x = numA n (a + 1) b (r 2) := ⟨_, rfl⟩
    obtain ⟨b14, hb14⟩ : ∃ x, x = numB n (a + 1) b (r 2) := ⟨_, rfl⟩
    obtain ⟨v14, hv14⟩ : ∃ x, x = numV n (a + 1) b (r 2) := ⟨_, rfl⟩
    have la14 := numA_le (n := n) (a := a + 1) (b := b) (t := r 2) (by omega)
    rw [← ha14] at la14
    refine r_call (as := [zR (some q)]) (r := []) (s' := (c, n, a14, b14, v, f, r)) (v := some (zI (v14))) rfl rfl rfl (Nat.le_of_ble_eq_true rfl) (Or.inr ⟨rfl, rfl, _, rfl⟩) (by rw [ha14, hb14, hv14]; exact c_number (by omega) (by omega)) ?_
    refine r_ist (ls' := [some (zR (some q)), some (zI (nI row)), some (zI (sv)), some (zI (nI p)), some (zI (nI 1)), some (zI (v14))]) rfl (Nat.le_of_ble_eq_true rfl) rfl ?_
    refine r_ald rfl rfl ?_
    refine r_get rfl rfl ?_
    refine r_ild rfl rfl ?_
    refine r_ald rfl rfl ?_
    refine r_get rfl rfl ?_
    refine r_ild rfl rfl ?_
    refine r_ialdN (k0 := 11) rfl rfl (by omega) (by decide) ?_
    refine r_top (y := (nI 1)) (by simp [rar, rset, upd, hp]) ?_
    refine r_ico (x := (nI 1)) rfl rfl ?_
    refine r_cmpN (by omega) (by omega) rfl (fun h_2 => ?_) (fun h_2 => ?_)
    · replace h_2 : ¬ 1 = 1 := h_2
      omega
    · replace h_2 : 1 = 1 := Decidable.of_not_not h_2
      refine r_ild rfl rfl ?_
      refine r_go rfl ?_
      refine r_iastN (k0 := 6) (x' := (v14)) rfl rfl (by omega) (by decide) rfl ?_
      refine r_ald rfl rfl ?_
      refine r_get rfl rfl ?_
      refine r_ild rfl rfl ?_
      refine r_ald rfl rfl ?_
      refine r_get rfl rfl ?_
      refine r_ild rfl rfl ?_
      refine r_ialdN (k0 := 11) rfl rfl (by omega) (by decide) ?_
      refine r_top (y := (nI 1)) (by simp [rar, rset, upd, hp]) ?_
      refine r_ico (x := (nI 2)) rfl rfl ?_
      refine r_cmpN (by omega) (by omega) rfl (fun h_3 => ?_) (fun h_3 => ?_)
      · replace h_3 : ¬ 1 = 2 := h_3
        refine r_ico (x := (nI 0)) rfl rfl ?_
        refine r_iastN (k0 := 7) (x' := (nI 0)) rfl rfl (by omega) (by decide) rfl ?_
        refine r_ald rfl rfl ?_
        refine r_get rfl rfl ?_
        refine r_ild rfl rfl ?_
        refine r_dup2 rfl rfl rfl ?_
        refine r_ialdN (k0 := 11) rfl rfl (by omega) (by decide) ?_
        refine r_top (y := (nI 1)) (by simp [rar, rset, upd, hp]) ?_
        refine r_ico (x := (nI 1)) rfl rfl ?_
        refine r_ibi (v := (nI 2)) rfl (nI_add 1 1) ?_
        refine r_iastN (k0 := 11) (x' := (nI 2)) rfl rfl (by omega) (by decide) rfl ?_
        refine r_ald rfl rfl ?_
        refine r_call (as := [zR (some q)]) (r := []) (s' := (c, n, a14, b14, v, f, rset (rset (rset r 6 row (v14)) 7 row (nI 0)) 11 row (nI 2))) (v := some (zI (ahd n a14 b14 (r 2)))) rfl rfl rfl (Nat.le_of_ble_eq_true rfl) (Or.inr ⟨rfl, rfl, _, rfl⟩) (c_ahead (by omega) (by omega)) ?_
        refine r_ico (x := (nI 46)) rfl rfl ?_
        refine r_cmp rfl (fun h_4 => ?_) (fun h_4 => ?_)
        · replace h_4 : ¬ (ahd n a14 b14 (r 2)) = (nI 46) := h_4
          refine r_ico (x := (nI 0)) rfl rfl ?_
          refine r_ist (ls' := [some (zR (some q)), some (zI (nI row)), some (zI (sv)), some (zI (nI p)), some (zI (nI 0)), some (zI (v14))]) rfl (Nat.le_of_ble_eq_true rfl) rfl ?_
          refine r_go rfl ?_
          refine r_ild rfl rfl ?_
          refine r_ifN (by omega) rfl (fun h_5 => ?_) (fun h_5 => ?_)
          · replace h_5 : 0 = 0 := h_5
            rw [← ha14, ← hb14, ← hv14] at hQ
            simp only [if_neg h_4] at hQ
            refine r_ald rfl rfl ?_
            refine r_get rfl rfl ?_
            refine r_ild rfl rfl ?_
            refine r_ialdN (k0 := 11) rfl rfl (by omega) (by decide) ?_
            refine r_top (y := (nI 2)) (by simp [rar, rset, upd, hp]) ?_
            refine r_ico (x := (nI 3)) rfl rfl ?_
            refine r_cmpN (by omega) (by omega) rfl (fun h_6 => ?_) (fun h_6 => ?_)
            · replace h_6 : ¬ 2 = 3 := h_6
              refine r_rtv rfl ?_
              exact hQ
            · replace h_6 : 2 = 3 := Decidable.of_not_not h_6
              omega
          · replace h_5 : ¬ (0 = 0) := h_5
            omega
        · replace h_4 : (ahd n a14 b14 (r 2)) = (nI 46) := Decidable.of_not_not h_4
          refine r_ico (x := (nI 1)) rfl rfl ?_
          refine r_go rfl ?_
          refine r_ist (ls' := [some (zR (some q)), some (zI (nI row)), some (zI (sv)), some (zI (nI p)), some (zI (nI 1)), some (zI (v14))]) rfl (Nat.le_of_ble_eq_true rfl) rfl ?_
          refine r_go rfl ?_
          refine r_ild rfl rfl ?_
          refine r_ifN (by omega) rfl (fun h_7 => ?_) (fun h_7 => ?_)
          · replace h_7 : 1 = 0 := h_7
            omega
          · replace h_7 : ¬ (1 = 0) := h_7
            refine r_ald rfl rfl ?_
            refine r_get rfl rfl ?_
            refine r_ild rfl rfl ?_
            refine r_ialdN (k0 := 11) rfl rfl (by omega) (by decide) ?_
            refine r_top (y := (nI 2)) (by simp [rar, rset, upd, hp]) ?_
            refine r_ico (x := (nI 3)) rfl rfl ?_
            refine r_cmpN (by omega) (by omega) rfl (fun h_8 => ?_) (fun h_8 => ?_)
            · replace h_8 : 3 ≤ 2 := h_8
              omega
            · replace h_8 := Nat.not_le.mp h_8
              rw [← ha14, ← hb14, ← hv14] at hQ
              simp only [if_pos h_4] at hQ
              obtain ⟨-, g2, -⟩ := ahd_eq h_4 (by decide +kernel)
              exact l_cm3 hrow hn (by omega) (by omega) (by simp [rset, upd]) hQ
      · replace h_3 : 1 = 2 := Decidable.of_not_not h_3
        omega
  · replace h_1 : (ahd n (a + 1) b (r 2)) = (nI 42) := Decidable.of_not_not h_1
    refine r_ild rfl rfl ?_
    refine r_if rfl (fun h_9 => ?_) (fun h_9 => ?_)
    · replace h_9 : 0 ≤ (sv) := h_9
      rw [cm2, if_neg (fun z => by simp at z; exact absurd z.2 (by simpa using h_9))] at hQ
      refine r_ald rfl rfl ?_
      obtain ⟨a15, ha15⟩ : ∃ x, x = numA n (a + 1) b (r 2) := ⟨_, rfl⟩
      obtain ⟨b15, hb15⟩ : ∃ x, x = numB n (a + 1) b (r 2) := ⟨_, rfl⟩
      obtain ⟨v15, hv15⟩ : ∃ x, x = numV n (a + 1) b (r 2) := ⟨_, rfl⟩
      have la15 := numA_le (n := n) (a := a + 1) (b := b) (t := r 2) (by omega)
      rw [← ha15] at la15
      refine r_call (as := [zR (some q)]) (r := []) (s' := (c, n, a15, b15, v, f, r)) (v := some (zI (v15))) rfl rfl rfl (Nat.le_of_ble_eq_true rfl) (Or.inr ⟨rfl, rfl, _, rfl⟩) (by rw [ha15, hb15, hv15]; exact c_number (by omega) (by omega)) ?_
      refine r_ist (ls' := [some (zR (some q)), some (zI (nI row)), some (zI (sv)), some (zI (nI p)), some (zI (nI 1)), some (zI (v15))]) rfl (Nat.le_of_ble_eq_true rfl) rfl ?_
      refine r_ald rfl rfl ?_
      refine r_get rfl rfl ?_
      refine r_ild rfl rfl ?_
      refine r_ald rfl rfl ?_
      refine r_get rfl rfl ?_
      refine r_ild rfl rfl ?_
      refine r_ialdN (k0 := 11) rfl rfl (by omega) (by decide) ?_
      refine r_top (y := (nI 1)) (by simp [rar, rset, upd, hp]) ?_
      refine r_ico (x := (nI 1)) rfl rfl ?_
      refine r_cmpN (by omega) (by omega) rfl (fun h_10 => ?_) (fun h_10 => ?_)
      · replace h_10 : ¬ 1 = 1 := h_10
        omega
      · replace h_10 : 1 = 1 := Decidable.of_not_not h_10
        refine r_ild rfl rfl ?_
        refine r_go rfl ?_
        refine r_iastN (k0 := 6) (x' := (v15)) rfl rfl (by omega) (by decide) rfl ?_
        refine r_ald rfl rfl ?_
        refine r_get rfl rfl ?_
        refine r_ild rfl rfl ?_
        refine r_ald rfl rfl ?_
        refine r_get rfl rfl ?_
        refine r_ild rfl rfl ?_
        refine r_ialdN (k0 := 11) rfl rfl (by omega) (by decide) ?_
        refine r_top (y := (nI 1)) (by simp [rar, rset, upd, hp]) ?_
        refine r_ico (x := (nI 2)) rfl rfl ?_
        refine r_cmpN (by omega) (by omega) rfl (fun h_11 => ?_) (fun h_11 => ?_)
        · replace h_11 : ¬ 1 = 2 := h_11
          refine r_ico (x := (nI 0)) rfl rfl ?_
          refine r_iastN (k0 := 7) (x' := (nI 0)) rfl rfl (by omega) (by decide) rfl ?_
          refine r_ald rfl rfl ?_
          refine r_get rfl rfl ?_
          refine r_ild rfl rfl ?_
          refine r_dup2 rfl rfl rfl ?_
          refine r_ialdN (k0 := 11) rfl rfl (by omega) (by decide) ?_
          refine r_top (y := (nI 1)) (by simp [rar, rset, upd, hp]) ?_
          refine r_ico (x := (nI 1)) rfl rfl ?_
          refine r_ibi (v := (nI 2)) rfl (nI_add 1 1) ?_
          refine r_iastN (k0 := 11) (x' := (nI 2)) rfl rfl (by omega) (by decide) rfl ?_
          refine r_ald rfl rfl ?_
          refine r_call (as := [zR (some q)]) (r := []) (s' := (c, n, a15, b15, v, f, rset (rset (rset r 6 row (v15)) 7 row (nI 0)) 11 row (nI 2))) (v := some (zI (ahd n a15 b15 (r 2)))) rfl rfl rfl (Nat.le_of_ble_eq_true rfl) (Or.inr ⟨rfl, rfl, _, rfl⟩) (c_ahead (by omega) (by omega)) ?_
          refine r_ico (x := (nI 46)) rfl rfl ?_
          refine r_cmp rfl (fun h_12 => ?_) (fun h_12 => ?_)
          · replace h_12 : ¬ (ahd n a15 b15 (r 2)) = (nI 46) := h_12
            refine r_ico (x := (nI 0)) rfl rfl ?_
            refine r_ist (ls' := [some (zR (some q)), some (zI (nI row)), some (zI (sv)), some (zI (nI p)), some (zI (nI 0)), some (zI (v15))]) rfl (Nat.le_of_ble_eq_true rfl) rfl ?_
            refine r_go rfl ?_
            refine r_ild rfl rfl ?_
            refine r_ifN (by omega) rfl (fun h_13 => ?_) (fun h_13 => ?_)
            · replace h_13 : 0 = 0 := h_13
              rw [← ha15, ← hb15, ← hv15] at hQ
              simp only [if_neg h_12] at hQ
              refine r_ald rfl rfl ?_
              refine r_get rfl rfl ?_
              refine r_ild rfl rfl ?_
              refine r_ialdN (k0 := 11) rfl rfl (by omega) (by decide) ?_
              refine r_top (y := (nI 2)) (by simp [rar, rset, upd, hp]) ?_
              refine r_ico (x := (nI 3)) rfl rfl ?_
              refine r_cmpN (by omega) (by omega) rfl (fun h_14 => ?_) (fun h_14 => ?_)
              · replace h_14 : ¬ 2 = 3 := h_14
                refine r_rtv rfl ?_
                exact hQ
              · replace h_14 : 2 = 3 := Decidable.of_not_not h_14
                omega
            · replace h_13 : ¬ (0 = 0) := h_13
              omega
          · replace h_12 : (ahd n a15 b15 (r 2)) = (nI 46) := Decidable.of_not_not h_12
            refine r_ico (x := (nI 1)) rfl rfl ?_
            refine r_go rfl ?_
            refine r_ist (ls' := [some (zR (some q)), some (zI (nI row)), some (zI (sv)), some (zI (nI p)), some (zI (nI 1)), some (zI (v15))]) rfl (Nat.le_of_ble_eq_true rfl) rfl ?_
            refine r_go rfl ?_
            refine r_ild rfl rfl ?_
            refine r_ifN (by omega) rfl (fun h_15 => ?_) (fun h_15 => ?_)
            · replace h_15 : 1 = 0 := h_15
              omega
            · replace h_15 : ¬ (1 = 0) := h_15
              refine r_ald rfl rfl ?_
              refine r_get rfl rfl ?_
              refine r_ild rfl rfl ?_
              refine r_ialdN (k0 := 11) rfl rfl (by omega) (by decide) ?_
              refine r_top (y := (nI 2)) (by simp [rar, rset, upd, hp]) ?_
              refine r_ico (x := (nI 3)) rfl rfl ?_
              refine r_cmpN (by omega) (by omega) rfl (fun h_16 => ?_) (fun h_16 => ?_)
              · replace h_16 : 3 ≤ 2 := h_16
                omega
              · replace h_16 := Nat.not_le.mp h_16
                rw [← ha15, ← hb15, ← hv15] at hQ
                simp only [if_pos h_12] at hQ
                obtain ⟨-, g2, -⟩ := ahd_eq h_12 (by decide +kernel)
                exact l_cm3 hrow hn (by omega) (by omega) (by simp [rset, upd]) hQ
        · replace h_11 : 1 = 2 := Decidable.of_not_not h_11
          omega
    · replace h_9 : ¬ (0 ≤ (sv)) := h_9
      refine r_ald rfl rfl ?_
      refine r_dup rfl rfl ?_
      refine r_get rfl rfl ?_
      refine r_ico (x := (nI 1)) rfl rfl ?_
      refine r_ibi (v := (nI (a + 1 + 1))) rfl (nI_add _ _) ?_
      refine r_put (s' := (c, n, a + 1 + 1, b, v, f, r)) rfl (Nat.le_of_ble_eq_true rfl) ⟨_, rfl⟩ rfl rfl ?_
      refine r_ald rfl rfl ?_
      refine r_get rfl rfl ?_
      refine r_ild rfl rfl ?_
      refine r_ico (x := (nI 3)) rfl rfl ?_
      refine r_iastN (k0 := 10) (x' := (nI 3)) rfl rfl (by omega) (by decide) rfl ?_
      refine r_rtv rfl ?_
      rw [cm2, if_pos ⟨h_1, by simpa using h_9⟩] at hQ
      exact hQ
end
section
theorem cm3_ok {row n a : Nat} {b neg : Bool} {p : Nat} {r : rA} (h : a ≤ n) : (a ≤ (cm3 row n a b neg p r).1 ∧ (cm3 row n a b neg p r).1 ≤ n) ∧ ∀ j, j ≠ 6 → j ≠ 7 → j ≠ 8 → j ≠ 9 → j ≠ 10 → j ≠ 11 → (cm3 row n a b neg p r).2.2 j = r j := by
  unfold cm3
  split
  · rename_i g
    have := (ahd_eq g.1 (by decide +kernel)).2.1
    exact ⟨⟨Nat.le_succ _, this⟩, fun j _ _ _ _ h5 _ => rset_n _ _ _ h5⟩
  · have h1 := numA_le (n := n) (a := a) (b := b) (t := r 2) h
    have h2 := bwF_le (row := row) (n := n) (a := numA n a b (r 2)) (b := numB n a b (r 2)) (r := rset (rset (rset r 6 row (r 6 row)) 7 row (numV n a b (r 2))) 11 row (nI 3)) h1.2
    refine ⟨⟨Nat.le_trans h1.1 h2.1, h2.2⟩, fun j g1 g2 g3 g4 g5 g6 => ?_⟩
    show (bwF row n _ _ _).2.2 j = _
    rw [bwF_arr g3 g4, rset_n _ _ _ g6, rset_n _ _ _ g2, rset_n _ _ _ g1]
theorem cm2_ok {row n a : Nat} {b neg : Bool} {p : Nat} {r : rA} (h : a ≤ n) : (a ≤ (cm2 row n a b neg p r).1 ∧ (cm2 row n a b neg p r).1 ≤ n) ∧ ∀ j, j ≠ 6 → j ≠ 7 → j ≠ 8 → j ≠ 9 → j ≠ 10 → j ≠ 11 → (cm2 row n a b neg p r).2.2 j = r j := by
  unfold cm2
  split
  · rename_i g
    have := (ahd_eq g.1 (by decide +kernel)).2.1
    exact ⟨⟨Nat.le_succ _, this⟩, fun j _ _ _ _ h5 _ => rset_n _ _ _ h5⟩
  · have h1 := numA_le (n := n) (a := a) (b := b) (t := r 2) h
    dsimp only
    split
    · rename_i g
      have g2 := (ahd_eq g (by decide +kernel)).2.1
      have h2 := cm3_ok (row := row) (n := n) (a := numA n a b (r 2) + 1) (b := numB n a b (r 2)) (neg := neg) (p := p) (r := rset (rset (rset r 6 row (numV n a b (r 2))) 7 row (nI 0)) 11 row (nI 2)) g2
      refine ⟨⟨by omega, h2.1.2⟩, fun j g1 g2 g3 g4 g5 g6 => ?_⟩
      rw [h2.2 j g1 g2 g3 g4 g5 g6, rset_n _ _ _ g6, rset_n _ _ _ g2, rset_n _ _ _ g1]
    · refine ⟨h1, fun j g1 g2 g3 g4 g5 g6 => ?_⟩
      show rset _ 11 row _ j = _
      rw [rset_n _ _ _ g6, rset_n _ _ _ g2, rset_n _ _ _ g1]
theorem cm1_ok {row n a : Nat} {b neg : Bool} {r : rA} (h : a ≤ n) : (a ≤ (cm1 row n a b neg r).1 ∧ (cm1 row n a b neg r).1 ≤ n) ∧ ∀ j, j ≠ 5 → j ≠ 6 → j ≠ 7 → j ≠ 8 → j ≠ 9 → j ≠ 10 → j ≠ 11 → (cm1 row n a b neg r).2.2 j = r j := by
  have h1 := numA_le (n := n) (a := a) (b := b) (t := r 2) h
  unfold cm1
  dsimp only
  split
  · rename_i g
    have g2 := (ahd_eq g (by decide +kernel)).2.1
    have h2 := cm2_ok (row := row) (n := n) (a := numA n a b (r 2) + 1) (b := numB n a b (r 2)) (neg := neg) (p := a) (r := rset (rset r 5 row (numV n a b (r 2))) 11 row (nI 1)) g2
    refine ⟨⟨by omega, h2.1.2⟩, fun j g0 g1 g2 g3 g4 g5 g6 => ?_⟩
    rw [h2.2 j g1 g2 g3 g4 g5 g6, rset_n _ _ _ g6, rset_n _ _ _ g0]
  · refine ⟨h1, fun j g0 g1 g2 g3 g4 g5 g6 => ?_⟩
    show rset _ 11 row _ j = _
    rw [rset_n _ _ _ g6, rset_n _ _ _ g0]
theorem cm0_n {row : Nat} {r : rA} {j : Nat} (g0 : j ≠ 5) (g1 : j ≠ 6) (g2 : j ≠ 7) (g3 : j ≠ 8) (g5 : j ≠ 10) (g6 : j ≠ 11) : cm0 row r j = r j := by
  unfold cm0
  rw [rset_n _ _ _ g5, rset_n _ _ _ g3, rset_n _ _ _ g2, rset_n _ _ _ g1, rset_n _ _ _ g0, rset_n _ _ _ g6]
theorem cmpF_ok {row n a : Nat} {b : Bool} {r : rA} (h : a ≤ n) : (a ≤ (cmpF row n a b r).1 ∧ (cmpF row n a b r).1 ≤ n) ∧ ∀ j, j ≠ 5 → j ≠ 6 → j ≠ 7 → j ≠ 8 → j ≠ 9 → j ≠ 10 → j ≠ 11 → (cmpF row n a b r).2.2 j = r j := by
  unfold cmpF
  split
  · rename_i g
    have := (ahd_eq g (by decide +kernel)).2.1
    exact ⟨⟨Nat.le_succ _, this⟩, fun j g0 g1 g2 g3 _ g5 g6 => cm0_n g0 g1 g2 g3 g5 g6⟩
  · have h1 := sgF_le (n := n) (a := a) (b := b) (t := r 2) h
    have h2 := cm1_ok (row := row) (n := n) (a := (sgF n a b (r 2)).1) (b := b) (neg := decide ((sgF n a b (r 2)).2 < 0)) (r := rset (cm0 row r) 10 row (if 0 ≤ (sgF n a b (r 2)).2 then (sgF n a b (r 2)).2 else nI 1)) h1.2
    refine ⟨⟨Nat.le_trans h1.1 h2.1.1, h2.1.2⟩, fun j g0 g1 g2 g3 g4 g5 g6 => ?_⟩
    rw [h2.2 j g0 g1 g2 g3 g4 g5 g6, rset_n _ _ _ g5, cm0_n g0 g1 g2 g3 g5 g6]
/-- what requirement(r0) does, from its i-th comparator on: at, bad, how many, the arrays -/
def rqF (r0 n : Nat) : Nat → Nat → Nat → rA → Nat × Bool × Nat × rA
  | 0, i, a, r => (a, true, i, r)
  | k + 1, i, a, r =>
    let a1 := if decide (i = 4) = true then a else spn isBl (r 2) n a
    let w := cmpF (41 + 4 * r0 + (if i < 4 then i else 3)) n a1 (decide (i = 4)) r
    let a2 := if w.2.1 = true then w.1 else spn isBl (r 2) n w.1
    if ahd n a2 w.2.1 (r 2) = nI 44 then rqF r0 n k (i + 1) (a2 + 1) w.2.2 else (a2, w.2.1, i + 1, w.2.2)
set_option maxHeartbeats 2000000 in
theorem c_comparator {q : Nat} {qa : Nat → Nat} {d c n a v f row : Nat} {b : Bool} {r : rA} (hrow : row < 900) (hn : n ≤ 160) (ha : a ≤ n) : rFun q qa (d + 5) 109 [zR (some q), zI (nI row)] (c, n, a, b, v, f, r) (c, n, (cmpF row n a b r).1, (cmpF row n a b r).2.1, v, f, (cmpF row n a b r).2.2) none := by
  refine rFun.of (d := d + 4) (T := tb_109) (L := [some (zR (some q)), some (zI (nI row)), none, none, none, none]) (Nat.le_of_ble_eq_true rfl) rfl rfl ?_
  refine r_ald rfl rfl ?_
  refine r_get rfl rfl ?_
  refine r_ild rfl rfl ?_
  refine r_ico (x := (nI 0)) rfl rfl ?_
  refine r_iastN (k0 := 11) (x' := (nI 0)) rfl rfl (by omega) (by decide) rfl ?_
  refine r_ald rfl rfl ?_
  refine r_get rfl rfl ?_
  refine r_ild rfl rfl ?_
  refine r_ico (x := (nI 0)) rfl rfl ?_
  refine r_iastN (k0 := 5) (x' := (nI 0)) rfl rfl (by omega) (by decide) rfl ?_
  refine r_ald rfl rfl ?_
  refine r_get rfl rfl ?_
  refine r_ild rfl rfl ?_
  refine r_ico (x := (nI 0)) rfl rfl ?_
  refine r_iastN (k0 := 6) (x' := (nI 0)) rfl rfl (by omega) (by decide) rfl ?_
  refine r_ald rfl rfl ?_
  refine r_get rfl rfl ?_
  refine r_ild rfl rfl ?_
  refine r_ico (x := (nI 0)) rfl rfl ?_
  refine r_iastN (k0 := 7) (x' := (nI 0)) rfl rfl (by omega) (by decide) rfl ?_
  refine r_ald rfl rfl ?_
  refine r_get rfl rfl ?_
  refine r_ild rfl rfl ?_
  refine r_ico (x := (nI 0)) rfl rfl ?_
  refine r_iastN (k0 := 8) (x' := (nI 0)) rfl rfl (by omega) (by decide) rfl ?_
  refine r_ald rfl rfl ?_
  refine r_get rfl rfl ?_
  refine r_ild rfl rfl ?_
  refine r_ico (x := (nI 0)) rfl rfl ?_
  refine r_iastN (k0 := 10) (x' := (nI 0)) rfl rfl (by omega) (by decide) rfl ?_
  refine r_ald rfl rfl ?_
  refine r_call (as := [zR (some q)]) (r := []) (s' := (c, n, a, b, v, f, rset (rset (rset (rset (rset (rset r 11 row (nI 0)) 5 row (nI 0)) 6 row (nI 0)) 7 row (nI 0)) 8 row (nI 0)) 10 row (nI 0))) (v := some (zI (ahd n a b (r 2)))) rfl rfl rfl (Nat.le_of_ble_eq_true rfl) (Or.inr ⟨rfl, rfl, _, rfl⟩) (c_ahead (by omega) (by omega)) ?_
  refine r_ico (x := (nI 42)) rfl rfl ?_
  refine r_cmp rfl (fun h_1 => ?_) (fun h_1 => ?_)
  · replace h_1 : ¬ (ahd n a b (r 2)) = (nI 42) := h_1
    refine r_ald rfl rfl ?_
    obtain ⟨g16, hg16⟩ : ∃ x, x = sgF n a b (r 2) := ⟨_, rfl⟩
    have lg16 := sgF_le (n := n) (a := a) (b := b) (t := r 2) (by omega)
    rw [← hg16] at lg16
    obtain ⟨a16, sv⟩ := g16
    replace lg16 : a ≤ a16 ∧ a16 ≤ n := lg16
    refine r_call (as := [zR (some q)]) (r := []) (s' := (c, n, a16, b, v, f, rset (rset (rset (rset (rset (rset r 11 row (nI 0)) 5 row (nI 0)) 6 row (nI 0)) 7 row (nI 0)) 8 row (nI 0)) 10 row (nI 0))) (v := some (zI (sv))) rfl rfl rfl (Nat.le_of_ble_eq_true rfl) (Or.inr ⟨rfl, rfl, _, rfl⟩) (by have h9 := c_signAhead (q := q) (qa := qa) (d := d + 2) (c := c) (n := n) (a := a) (v := v) (f := f) (b := b) (r := rset (rset (rset (rset (rset (rset r 11 row (nI 0)) 5 row (nI 0)) 6 row (nI 0)) 7 row (nI 0)) 8 row (nI 0)) 10 row (nI 0)) (by omega) (by omega); rw [show (rset (rset (rset (rset (rset (rset r 11 row (nI 0)) 5 row (nI 0)) 6 row (nI 0)) 7 row (nI 0)) 8 row (nI 0)) 10 row (nI 0)) 2 = r 2 from rfl, ← hg16] at h9; exact h9) ?_
    refine r_ist (ls' := [some (zR (some q)), some (zI (nI row)), some (zI (sv)), none, none, none]) rfl (Nat.le_of_ble_eq_true rfl) rfl ?_
    refine r_ald rfl rfl ?_
    refine r_get rfl rfl ?_
    refine r_ild rfl rfl ?_
    refine r_ild rfl rfl ?_
    refine r_if rfl (fun h_2 => ?_) (fun h_2 => ?_)
    · replace h_2 : 0 ≤ (sv) := h_2
      refine r_ild rfl rfl ?_
      refine r_iastN (k0 := 10) (x' := (sv)) rfl rfl (by omega) (by decide) rfl ?_
      have e0 : cmpF row n a b r = cm1 row n a16 b (decide (sv < 0)) (rset (rset (rset (rset (rset (rset (rset r 11 row (nI 0)) 5 row (nI 0)) 6 row (nI 0)) 7 row (nI 0)) 8 row (nI 0)) 10 row (nI 0)) 10 row (sv)) := by unfold cmpF; rw [if_neg h_1, ← hg16]; rw [if_pos h_2]; rfl
      rw [e0]
      refine r_ald rfl rfl ?_
      refine r_get rfl rfl ?_
      refine r_ist (ls' := [some (zR (some q)), some (zI (nI row)), some (zI (sv)), some (zI (nI a16)), none, none]) rfl (Nat.le_of_ble_eq_true rfl) rfl ?_
      refine r_ald rfl rfl ?_
      refine r_get rfl rfl ?_
      refine r_ild rfl rfl ?_
      refine r_ald rfl rfl ?_
      obtain ⟨a17, ha17⟩ : ∃ x, x = numA n a16 b (r 2) := ⟨_, rfl⟩
      obtain ⟨b17, hb17⟩ : ∃ x, x = numB n a16 b (r 2) := ⟨_, rfl⟩
      obtain ⟨v17, hv17⟩ : ∃ x, x = numV n a16 b (r 2) := ⟨_, rfl⟩
      have la17 := numA_le (n := n) (a := a16) (b := b) (t := r 2) (by omega)
      rw [← ha17] at la17
      refine r_call (as := [zR (some q)]) (r := [zI (nI row), zR (some (qa 5))]) (s' := (c, n, a17, b17, v, f, rset (rset (rset (rset (rset (rset (rset r 11 row (nI 0)) 5 row (nI 0)) 6 row (nI 0)) 7 row (nI 0)) 8 row (nI 0)) 10 row (nI 0)) 10 row (sv))) (v := some (zI (v17))) rfl rfl rfl (Nat.le_of_ble_eq_true rfl) (Or.inr ⟨rfl, rfl, _, rfl⟩) (by rw [ha17, hb17, hv17]; exact c_number (by omega) (by omega)) ?_
      refine r_iastN (k0 := 5) (x' := (v17)) rfl rfl (by omega) (by decide) rfl ?_
      refine r_ald rfl rfl ?_
      refine r_get rfl rfl ?_
      refine r_ild rfl rfl ?_
      refine r_ico (x := (nI 1)) rfl rfl ?_
      refine r_iastN (k0 := 11) (x' := (nI 1)) rfl rfl (by omega) (by decide) rfl ?_
      refine r_ald rfl rfl ?_
      refine r_call (as := [zR (some q)]) (r := []) (s' := (c, n, a17, b17, v, f, rset (rset (rset (rset (rset (rset (rset (rset (rset r 11 row (nI 0)) 5 row (nI 0)) 6 row (nI 0)) 7 row (nI 0)) 8 row (nI 0)) 10 row (nI 0)) 10 row (sv)) 5 row (v17)) 11 row (nI 1))) (v := some (zI (ahd n a17 b17 (r 2)))) rfl rfl rfl (Nat.le_of_ble_eq_true rfl) (Or.inr ⟨rfl, rfl, _, rfl⟩) (c_ahead (by omega) (by omega)) ?_
      refine r_ico (x := (nI 46)) rfl rfl ?_
      refine r_cmp rfl (fun h_3 => ?_) (fun h_3 => ?_)
      · replace h_3 : ¬ (ahd n a17 b17 (r 2)) = (nI 46) := h_3
        refine r_ico (x := (nI 0)) rfl rfl ?_
        refine r_ist (ls' := [some (zR (some q)), some (zI (nI row)), some (zI (sv)), some (zI (nI a16)), some (zI (nI 0)), none]) rfl (Nat.le_of_ble_eq_true rfl) rfl ?_
        unfold cm1
        rw [show (rset (rset (rset (rset (rset (rset (rset r 11 row (nI 0)) 5 row (nI 0)) 6 row (nI 0)) 7 row (nI 0)) 8 row (nI 0)) 10 row (nI 0)) 10 row (sv)) 2 = r 2 from rfl, ← ha17, ← hb17, ← hv17]
        dsimp only
        rw [if_neg h_3]
        refine r_ild rfl rfl ?_
        refine r_ifN (by omega) rfl (fun h_4 => ?_) (fun h_4 => ?_)
        · replace h_4 : 0 = 0 := h_4
          refine r_ald rfl rfl ?_
          refine r_get rfl rfl ?_
          refine r_ild rfl rfl ?_
          refine r_ialdN (k0 := 11) rfl rfl (by omega) (by decide) ?_
          refine r_top (y := (nI 1)) (by simp [rar, rset, upd, if_true]) ?_
          refine r_ico (x := (nI 3)) rfl rfl ?_
          refine r_cmpN (by omega) (by omega) rfl (fun h_5 => ?_) (fun h_5 => ?_)
          · replace h_5 : ¬ 1 = 3 := h_5
            refine r_rtv rfl ?_
            exact ⟨rfl, rfl⟩
          · replace h_5 : 1 = 3 := Decidable.of_not_not h_5
            omega
        · replace h_4 : ¬ (0 = 0) := h_4
          omega
      · replace h_3 : (ahd n a17 b17 (r 2)) = (nI 46) := Decidable.of_not_not h_3
        refine r_ico (x := (nI 1)) rfl rfl ?_
        refine r_go rfl ?_
        refine r_ist (ls' := [some (zR (some q)), some (zI (nI row)), some (zI (sv)), some (zI (nI a16)), some (zI (nI 1)), none]) rfl (Nat.le_of_ble_eq_true rfl) rfl ?_
        unfold cm1
        rw [show (rset (rset (rset (rset (rset (rset (rset r 11 row (nI 0)) 5 row (nI 0)) 6 row (nI 0)) 7 row (nI 0)) 8 row (nI 0)) 10 row (nI 0)) 10 row (sv)) 2 = r 2 from rfl, ← ha17, ← hb17, ← hv17]
        dsimp only
        rw [if_pos h_3]
        refine r_ild rfl rfl ?_
        refine r_ifN (by omega) rfl (fun h_6 => ?_) (fun h_6 => ?_)
        · replace h_6 : 1 = 0 := h_6
          omega
        · replace h_6 : ¬ (1 = 0) := h_6
          refine r_ald rfl rfl ?_
          refine r_get rfl rfl ?_
          refine r_ild rfl rfl ?_
          refine r_ialdN (k0 := 11) rfl rfl (by omega) (by decide) ?_
          refine r_top (y := (nI 1)) (by simp [rar, rset, upd, if_true]) ?_
          refine r_ico (x := (nI 3)) rfl rfl ?_
          refine r_cmpN (by omega) (by omega) rfl (fun h_7 => ?_) (fun h_7 => ?_)
          · replace h_7 : 3 ≤ 1 := h_7
            omega
          · replace h_7 := Nat.not_le.mp h_7
            obtain ⟨-, g2, -⟩ := ahd_eq h_3 (by decide +kernel)
            exact l_cm2 hrow hn (by omega) (by omega) (by simp [rset, upd]) ⟨rfl, rfl⟩
    · replace h_2 : ¬ (0 ≤ (sv)) := h_2
      refine r_ico (x := (nI 1)) rfl rfl ?_
      refine r_go rfl ?_
      refine r_iastN (k0 := 10) (x' := (nI 1)) rfl rfl (by omega) (by decide) rfl ?_
      have e0 : cmpF row n a b r = cm1 row n a16 b (decide (sv < 0)) (rset (rset (rset (rset (rset (rset (rset r 11 row (nI 0)) 5 row (nI 0)) 6 row (nI 0)) 7 row (nI 0)) 8 row (nI 0)) 10 row (nI 0)) 10 row (nI 1)) := by unfold cmpF; rw [if_neg h_1, ← hg16]; rw [if_neg h_2]; rfl
      rw [e0]
      refine r_ald rfl rfl ?_
      refine r_get rfl rfl ?_
      refine r_ist (ls' := [some (zR (some q)), some (zI (nI row)), some (zI (sv)), some (zI (nI a16)), none, none]) rfl (Nat.le_of_ble_eq_true rfl) rfl ?_
      refine r_ald rfl rfl ?_
      refine r_get rfl rfl ?_
      refine r_ild rfl rfl ?_
      refine r_ald rfl rfl ?_
      obtain ⟨a18, ha18⟩ : ∃ x, x = numA n a16 b (r 2) := ⟨_, rfl⟩
      obtain ⟨b18, hb18⟩ : ∃ x, x = numB n a16 b (r 2) := ⟨_, rfl⟩
      obtain ⟨v18, hv18⟩ : ∃ x, x = numV n a16 b (r 2) := ⟨_, rfl⟩
      have la18 := numA_le (n := n) (a := a16) (b := b) (t := r 2) (by omega)
      rw [← ha18] at la18
      refine r_call (as := [zR (some q)]) (r := [zI (nI row), zR (some (qa 5))]) (s' := (c, n, a18, b18, v, f, rset (rset (rset (rset (rset (rset (rset r 11 row (nI 0)) 5 row (nI 0)) 6 row (nI 0)) 7 row (nI 0)) 8 row (nI 0)) 10 row (nI 0)) 10 row (nI 1))) (v := some (zI (v18))) rfl rfl rfl (Nat.le_of_ble_eq_true rfl) (Or.inr ⟨rfl, rfl, _, rfl⟩) (by rw [ha18, hb18, hv18]; exact c_number (by omega) (by omega)) ?_
      refine r_iastN (k0 := 5) (x' := (v18)) rfl rfl (by omega) (by decide) rfl ?_
      refine r_ald rfl rfl ?_
      refine r_get rfl rfl ?_
      refine r_ild rfl rfl ?_
      refine r_ico (x := (nI 1)) rfl rfl ?_
      refine r_iastN (k0 := 11) (x' := (nI 1)) rfl rfl (by omega) (by decide) rfl ?_
      refine r_ald rfl rfl ?_
      refine r_call (as := [zR (some q)]) (r := []) (s' := (c, n, a18, b18, v, f, rset (rset (rset (rset (rset (rset (rset (rset (rset r 11 row (nI 0)) 5 row (nI 0)) 6 row (nI 0)) 7 row (nI 0)) 8 row (nI 0)) 10 row (nI 0)) 10 row (nI 1)) 5 row (v18)) 11 row (nI 1))) (v := some (zI (ahd n a18 b18 (r 2)))) rfl rfl rfl (Nat.le_of_ble_eq_true rfl) (Or.inr ⟨rfl, rfl, _, rfl⟩) (c_ahead (by omega) (by omega)) ?_
      refine r_ico (x := (nI 46)) rfl rfl ?_
      refine r_cmp rfl (fun h_8 => ?_) (fun h_8 => ?_)
      · replace h_8 : ¬ (ahd n a18 b18 (r 2)) = (nI 46) := h_8
        refine r_ico (x := (nI 0)) rfl rfl ?_
        refine r_ist (ls' := [some (zR (some q)), some (zI (nI row)), some (zI (sv)), some (zI (nI a16)), some (zI (nI 0)), none]) rfl (Nat.le_of_ble_eq_true rfl) rfl ?_
        unfold cm1
        rw [show (rset (rset (rset (rset (rset (rset (rset r 11 row (nI 0)) 5 row (nI 0)) 6 row (nI 0)) 7 row (nI 0)) 8 row (nI 0)) 10 row (nI 0)) 10 row (nI 1)) 2 = r 2 from rfl, ← ha18, ← hb18, ← hv18]
        dsimp only
        rw [if_neg h_8]
        refine r_ild rfl rfl ?_
        refine r_ifN (by omega) rfl (fun h_9 => ?_) (fun h_9 => ?_)
        · replace h_9 : 0 = 0 := h_9
          refine r_ald rfl rfl ?_
          refine r_get rfl rfl ?_
          refine r_ild rfl rfl ?_
          refine r_ialdN (k0 := 11) rfl rfl (by omega) (by decide) ?_
          refine r_top (y := (nI 1)) (by simp [rar, rset, upd, if_true]) ?_
          refine r_ico (x := (nI 3)) rfl rfl ?_
          refine r_cmpN (by omega) (by omega) rfl (fun h_10 => ?_) (fun h_10 => ?_)
          · replace h_10 : ¬ 1 = 3 := h_10
            refine r_rtv rfl ?_
            exact ⟨rfl, rfl⟩
          · replace h_10 : 1 = 3 := Decidable.of_not_not h_10
            omega
        · replace h_9 : ¬ (0 = 0) := h_9
          omega
      · replace h_8 : (ahd n a18 b18 (r 2)) = (nI 46) := Decidable.of_not_not h_8
        refine r_ico (x := (nI 1)) rfl rfl ?_
        refine r_go rfl ?_
        refine r_ist (ls' := [some (zR (some q)), some (zI (nI row)), some (zI (sv)), some (zI (nI a16)), some (zI (nI 1)), none]) rfl (Nat.le_of_ble_eq_true rfl) rfl ?_
        unfold cm1
        rw [show (rset (rset (rset (rset (rset (rset (rset r 11 row (nI 0)) 5 row (nI 0)) 6 row (nI 0)) 7 row (nI 0)) 8 row (nI 0)) 10 row (nI 0)) 10 row (nI 1)) 2 = r 2 from rfl, ← ha18, ← hb18, ← hv18]
        dsimp only
        rw [if_pos h_8]
        refine r_ild rfl rfl ?_
        refine r_ifN (by omega) rfl (fun h_11 => ?_) (fun h_11 => ?_)
        · replace h_11 : 1 = 0 := h_11
          omega
        · replace h_11 : ¬ (1 = 0) := h_11
          refine r_ald rfl rfl ?_
          refine r_get rfl rfl ?_
          refine r_ild rfl rfl ?_
          refine r_ialdN (k0 := 11) rfl rfl (by omega) (by decide) ?_
          refine r_top (y := (nI 1)) (by simp [rar, rset, upd, if_true]) ?_
          refine r_ico (x := (nI 3)) rfl rfl ?_
          refine r_cmpN (by omega) (by omega) rfl (fun h_12 => ?_) (fun h_12 => ?_)
          · replace h_12 : 3 ≤ 1 := h_12
            omega
          · replace h_12 := Nat.not_le.mp h_12
            obtain ⟨-, g2, -⟩ := ahd_eq h_8 (by decide +kernel)
            exact l_cm2 hrow hn (by omega) (by omega) (by simp [rset, upd]) ⟨rfl, rfl⟩
  · replace h_1 : (ahd n a b (r 2)) = (nI 42) := Decidable.of_not_not h_1
    refine r_ald rfl rfl ?_
    refine r_dup rfl rfl ?_
    refine r_get rfl rfl ?_
    refine r_ico (x := (nI 1)) rfl rfl ?_
    refine r_ibi (v := (nI (a + 1))) rfl (nI_add _ _) ?_
    refine r_put (s' := (c, n, a + 1, b, v, f, rset (rset (rset (rset (rset (rset r 11 row (nI 0)) 5 row (nI 0)) 6 row (nI 0)) 7 row (nI 0)) 8 row (nI 0)) 10 row (nI 0))) rfl (Nat.le_of_ble_eq_true rfl) ⟨_, rfl⟩ rfl rfl ?_
    refine r_rtv rfl ?_
    rw [cmpF, if_pos h_1]
    exact ⟨rfl, rfl⟩
end
section
theorem cmpF_bad {row n a : Nat} {r : rA} : (cmpF row n a true r).2.1 = true := by
  have h1 : ∀ (x : Nat), ahd n x true (r 2) = -1 := fun x => ahd_bad
  have h2 : numB n a true (r 2) = true ∧ numA n a true (r 2) = a := by simp [numB, numA, ahd_bad, wd_m1.2]
  have h3 : sgF n a true (r 2) = (a, -1) := by
    unfold sgF
    rw [ahd_bad, if_neg (by decide +kernel), if_neg (by decide +kernel), if_neg (by decide +kernel), if_neg (by decide +kernel), if_neg (by decide +kernel)]
  unfold cmpF
  rw [ahd_bad, if_neg (by decide +kernel), h3]
  unfold cm1
  show (if ahd n (numA n a true (r 2)) (numB n a true (r 2)) (r 2) = nI 46 then (_ : Nat × Bool × rA) else (_ : Nat × Bool × rA)).2.1 = true
  rw [h2.1, h2.2, ahd_bad, if_neg (by decide +kernel)]
  exact h2.1
set_option maxHeartbeats 2000000 in
theorem l_rq {q : Nat} {qa : Nat → Nat} {d c n v f r0 : Nat} {Q : rS → (Option zV ⊕ Nat) → Prop} (hr0 : r0 < 214) (hn : n ≤ 160) : ∀ (k i a : Nat) (r : rA), 5 ≤ i + k → i ≤ 4 → a ≤ n → Q (c, n, (rqF r0 n k i a r).1, (rqF r0 n k i a r).2.1, v, f, rset (rqF r0 n k i a r).2.2.2 12 r0 (nI (rqF r0 n k i a r).2.2.1)) (.inl none) → rEv q qa (d + 5) tb_111 Q 4 [some (zR (some q)), some (zI (nI r0)), some (zI (nI i)), some (zI (nI 1))] [] (c, n, a, false, v, f, r) := by
  intro k
  induction k with
  | zero =>
    intro i a r h1 h2
    omega
  | succ k ih =>
    intro i a r h1 h2 ha hQ
    refine r_ild rfl rfl ?_
    refine r_ifN (by omega) rfl (fun h_1 => ?_) (fun h_1 => ?_)
    · replace h_1 : 1 = 0 := h_1
      omega
    · replace h_1 : ¬ (1 = 0) := h_1
      refine r_ald rfl rfl ?_
      refine r_get rfl rfl ?_
      refine r_ifB1 rfl (fun h_2 => ?_) (fun h_2 => ?_)
      · cases h_2
      · refine r_ald rfl rfl ?_
        refine r_ild rfl rfl ?_
        refine r_ico (x := (nI 4)) rfl rfl ?_
        refine r_cmpN (by omega) (by omega) rfl (fun h_3 => ?_) (fun h_3 => ?_)
        · replace h_3 : ¬ i = 4 := h_3
          refine r_ico (x := (nI 0)) rfl rfl ?_
          refine r_put (s' := (c, n, a, false, v, f, r)) rfl (Nat.le_of_ble_eq_true rfl) ⟨_, rfl, Or.inl rfl⟩ rfl rfl ?_
          refine r_ald rfl rfl ?_
          obtain ⟨a19, ha19⟩ : ∃ x, x = spn isBl (r 2) n a := ⟨_, rfl⟩
          have la19 : a ≤ a19 ∧ a19 ≤ n := by rw [ha19]; exact ⟨spn_ge, spn_le (by omega)⟩
          refine r_call (as := [zR (some q)]) (r := []) (s' := (c, n, a19, false, v, f, r)) (v := none) rfl rfl rfl (Nat.le_of_ble_eq_true rfl) (Or.inr ⟨rfl, rfl, _, rfl⟩) (by rw [ha19]; exact c_blanks (by omega) (by omega)) ?_
          refine r_ald rfl rfl ?_
          refine r_ico (x := (nI 41)) rfl rfl ?_
          refine r_ico (x := (nI 4)) rfl rfl ?_
          refine r_ild rfl rfl ?_
          refine r_ibi (v := (nI (4 * r0))) rfl (pk_mul _ _) ?_
          refine r_ibi (v := (nI (41 + (4 * r0)))) rfl (nI_add _ _) ?_
          refine r_ild rfl rfl ?_
          refine r_ico (x := (nI 4)) rfl rfl ?_
          refine r_cmpN (by omega) (by omega) rfl (fun h_4 => ?_) (fun h_4 => ?_)
          · replace h_4 : 4 ≤ i := h_4
            refine r_ico (x := (nI 3)) rfl rfl ?_
            omega
          · replace h_4 := Nat.not_le.mp h_4
            refine r_ild rfl rfl ?_
            refine r_go rfl ?_
            refine r_ibi (v := (nI (41 + (4 * r0) + i))) rfl (nI_add _ _) ?_
            obtain ⟨w20, hw20⟩ : ∃ x, x = cmpF (41 + (4 * r0) + i) n a19 false r := ⟨_, rfl⟩
            have ok20 := cmpF_ok (row := 41 + (4 * r0) + i) (n := n) (a := a19) (b := false) (r := r) (by omega)
            rw [← hw20] at ok20
            obtain ⟨a20, b20, r20⟩ := w20
            have tw20 : r20 2 = r 2 := ok20.2 2 (by decide) (by decide) (by decide) (by decide) (by decide) (by decide) (by decide)
            have lw20 : a19 ≤ a20 ∧ a20 ≤ n := ok20.1
            clear ok20
            refine r_call (as := [zR (some q), zI (nI (41 + (4 * r0) + i))]) (r := []) (s' := (c, n, a20, b20, v, f, r20)) (v := none) rfl rfl rfl (Nat.le_of_ble_eq_true rfl) (Or.inr ⟨rfl, rfl, _, rfl⟩) (by have h9 := c_comparator (q := q) (qa := qa) (d := d) (c := c) (n := n) (a := a19) (v := v) (f := f) (row := 41 + (4 * r0) + i) (b := false) (r := r) (by omega) (by omega) (by omega); rw [← hw20] at h9; exact h9) ?_
            refine r_inc (x' := (nI (i + 1))) (ls' := [some (zR (some q)), some (zI (nI r0)), some (zI (nI (i + 1))), some (zI (nI 1))]) rfl rfl (nI_1 _) rfl ?_
            refine r_ald rfl rfl ?_
            obtain ⟨a21, ha21⟩ : ∃ x, x = (if b20 = true then a20 else spn isBl (r 2) n a20) := ⟨_, rfl⟩
            have la21 : a20 ≤ a21 ∧ a21 ≤ n := by rw [ha21]; split <;> first | omega | exact ⟨spn_ge, spn_le (by omega)⟩
            refine r_call (as := [zR (some q)]) (r := []) (s' := (c, n, a21, b20, v, f, r20)) (v := none) rfl rfl rfl (Nat.le_of_ble_eq_true rfl) (Or.inr ⟨rfl, rfl, _, rfl⟩) (by have h9 := c_blanks (q := q) (qa := qa) (d := d + 3) (c := c) (n := n) (a := a20) (v := v) (f := f) (b := b20) (r := r20) (by omega) (by omega); rw [tw20, ← ha21] at h9; exact h9) ?_
            have e1 : rqF r0 n (k + 1) i a r = if ahd n a21 b20 (r 2) = nI 44 then rqF r0 n k (i + 1) (a21 + 1) r20 else (a21, b20, i + 1, r20) := by
              rw [rqF]
              rw [show decide (i = 4) = false by simp; omega, show (if i < 4 then i else 3) = i by split <;> omega]
              try dsimp only
              rw [show (if false = true then a else spn isBl (r 2) n a) = spn isBl (r 2) n a from rfl, ← ha19, ← hw20]
              try dsimp only
              rw [← ha21]
            rw [e1] at hQ
            clear e1
            refine r_ald rfl rfl ?_
            refine r_call (as := [zR (some q)]) (r := []) (s' := (c, n, a21, b20, v, f, r20)) (v := some (zI (ahd n a21 b20 (r 2)))) rfl rfl rfl (Nat.le_of_ble_eq_true rfl) (Or.inr ⟨rfl, rfl, _, rfl⟩) (by have h9 := c_ahead (q := q) (qa := qa) (d := d + 4) (c := c) (n := n) (a := a21) (v := v) (f := f) (b := b20) (r := r20) (by omega) (by omega); rw [tw20] at h9; exact h9) ?_
            refine r_ico (x := (nI 44)) rfl rfl ?_
            refine r_cmp rfl (fun h_5 => ?_) (fun h_5 => ?_)
            · replace h_5 : ¬ (ahd n a21 b20 (r 2)) = (nI 44) := h_5
              refine r_ico (x := (nI 0)) rfl rfl ?_
              refine r_ist (ls' := [some (zR (some q)), some (zI (nI r0)), some (zI (nI (i + 1))), some (zI (nI 0))]) rfl (Nat.le_of_ble_eq_true rfl) rfl ?_
              refine r_ald rfl rfl ?_
              refine r_ild rfl rfl ?_
              refine r_ifN (by omega) rfl (fun h_6 => ?_) (fun h_6 => ?_)
              · replace h_6 : 0 = 0 := h_6
                refine r_ald rfl rfl ?_
                refine r_get rfl rfl ?_
                refine r_put (s' := (c, n, a21, b20, v, f, r20)) rfl (Nat.le_of_ble_eq_true rfl) ⟨_, rfl⟩ rfl rfl ?_
                refine r_go rfl ?_
                refine r_ild rfl rfl ?_
                refine r_ifN (by omega) rfl (fun h_7 => ?_) (fun h_7 => ?_)
                · replace h_7 : 0 = 0 := h_7
                  refine r_ald rfl rfl ?_
                  refine r_get rfl rfl ?_
                  refine r_ild rfl rfl ?_
                  refine r_ild rfl rfl ?_
                  refine r_iastN (k0 := 12) (x' := (nI (i + 1))) rfl rfl (by omega) (by decide) rfl ?_
                  refine r_rtv rfl ?_
                  rw [if_neg h_5] at hQ
                  exact hQ
                · replace h_7 : ¬ (0 = 0) := h_7
                  omega
              · replace h_6 : ¬ (0 = 0) := h_6
                omega
            · replace h_5 : (ahd n a21 b20 (r 2)) = (nI 44) := Decidable.of_not_not h_5
              refine r_ico (x := (nI 1)) rfl rfl ?_
              refine r_go rfl ?_
              refine r_ist (ls' := [some (zR (some q)), some (zI (nI r0)), some (zI (nI (i + 1))), some (zI (nI 1))]) rfl (Nat.le_of_ble_eq_true rfl) rfl ?_
              refine r_ald rfl rfl ?_
              refine r_ild rfl rfl ?_
              refine r_ifN (by omega) rfl (fun h_8 => ?_) (fun h_8 => ?_)
              · replace h_8 : 1 = 0 := h_8
                omega
              · replace h_8 : ¬ (1 = 0) := h_8
                refine r_ald rfl rfl ?_
                refine r_get rfl rfl ?_
                refine r_ico (x := (nI 1)) rfl rfl ?_
                refine r_ibi (v := (nI (a21 + 1))) rfl (nI_add _ _) ?_
                refine r_go rfl ?_
                refine r_put (s' := (c, n, a21 + 1, b20, v, f, r20)) rfl (Nat.le_of_ble_eq_true rfl) ⟨_, rfl⟩ rfl rfl ?_
                refine r_go rfl ?_
                rw [if_pos h_5] at hQ
                obtain ⟨g1, g2, -⟩ := ahd_eq h_5 (by decide +kernel)
                subst g1
                exact ih (i + 1) (a21 + 1) r20 (by omega) (by omega) (by omega) hQ
        · replace h_3 : i = 4 := Decidable.of_not_not h_3
          refine r_ico (x := (nI 1)) rfl rfl ?_
          refine r_go rfl ?_
          refine r_put (s' := (c, n, a, true, v, f, r)) rfl (Nat.le_of_ble_eq_true rfl) ⟨_, rfl, Or.inr rfl⟩ rfl rfl ?_
          refine r_ald rfl rfl ?_
          refine r_call (as := [zR (some q)]) (r := []) (s' := (c, n, a, true, v, f, r)) (v := none) rfl rfl rfl (Nat.le_of_ble_eq_true rfl) (Or.inr ⟨rfl, rfl, _, rfl⟩) (c_blanks (by omega) (by omega)) ?_
          refine r_ald rfl rfl ?_
          refine r_ico (x := (nI 41)) rfl rfl ?_
          refine r_ico (x := (nI 4)) rfl rfl ?_
          refine r_ild rfl rfl ?_
          refine r_ibi (v := (nI (4 * r0))) rfl (pk_mul _ _) ?_
          refine r_ibi (v := (nI (41 + (4 * r0)))) rfl (nI_add _ _) ?_
          refine r_ild rfl rfl ?_
          refine r_ico (x := (nI 4)) rfl rfl ?_
          refine r_cmpN (by omega) (by omega) rfl (fun h_9 => ?_) (fun h_9 => ?_)
          · replace h_9 : 4 ≤ i := h_9
            refine r_ico (x := (nI 3)) rfl rfl ?_
            refine r_ibi (v := (nI (41 + (4 * r0) + 3))) rfl (nI_add _ _) ?_
            obtain ⟨w22, hw22⟩ : ∃ x, x = cmpF (41 + (4 * r0) + 3) n a true r := ⟨_, rfl⟩
            have ok22 := cmpF_ok (row := 41 + (4 * r0) + 3) (n := n) (a := a) (b := true) (r := r) (by omega)
            rw [← hw22] at ok22
            obtain ⟨a22, b22, r22⟩ := w22
            have tw22 : r22 2 = r 2 := ok22.2 2 (by decide) (by decide) (by decide) (by decide) (by decide) (by decide) (by decide)
            have lw22 : a ≤ a22 ∧ a22 ≤ n := ok22.1
            clear ok22
            refine r_call (as := [zR (some q), zI (nI (41 + (4 * r0) + 3))]) (r := []) (s' := (c, n, a22, b22, v, f, r22)) (v := none) rfl rfl rfl (Nat.le_of_ble_eq_true rfl) (Or.inr ⟨rfl, rfl, _, rfl⟩) (by have h9 := c_comparator (q := q) (qa := qa) (d := d) (c := c) (n := n) (a := a) (v := v) (f := f) (row := 41 + (4 * r0) + 3) (b := true) (r := r) (by omega) (by omega) (by omega); rw [← hw22] at h9; exact h9) ?_
            refine r_inc (x' := (nI (i + 1))) (ls' := [some (zR (some q)), some (zI (nI r0)), some (zI (nI (i + 1))), some (zI (nI 1))]) rfl rfl (nI_1 _) rfl ?_
            refine r_ald rfl rfl ?_
            obtain ⟨a23, ha23⟩ : ∃ x, x = (if b22 = true then a22 else spn isBl (r 2) n a22) := ⟨_, rfl⟩
            have la23 : a22 ≤ a23 ∧ a23 ≤ n := by rw [ha23]; split <;> first | omega | exact ⟨spn_ge, spn_le (by omega)⟩
            refine r_call (as := [zR (some q)]) (r := []) (s' := (c, n, a23, b22, v, f, r22)) (v := none) rfl rfl rfl (Nat.le_of_ble_eq_true rfl) (Or.inr ⟨rfl, rfl, _, rfl⟩) (by have h9 := c_blanks (q := q) (qa := qa) (d := d + 3) (c := c) (n := n) (a := a22) (v := v) (f := f) (b := b22) (r := r22) (by omega) (by omega); rw [tw22, ← ha23] at h9; exact h9) ?_
            have e1 : rqF r0 n (k + 1) i a r = if ahd n a23 b22 (r 2) = nI 44 then rqF r0 n k (i + 1) (a23 + 1) r22 else (a23, b22, i + 1, r22) := by
              rw [rqF]
              rw [show decide (i = 4) = true by simp; omega, show (if i < 4 then i else 3) = 3 by split <;> omega]
              try dsimp only
              rw [show (if true = true then a else spn isBl (r 2) n a) = a from rfl, ← hw22]
              try dsimp only
              rw [← ha23]
            rw [e1] at hQ
            clear e1
            refine r_ald rfl rfl ?_
            refine r_call (as := [zR (some q)]) (r := []) (s' := (c, n, a23, b22, v, f, r22)) (v := some (zI (ahd n a23 b22 (r 2)))) rfl rfl rfl (Nat.le_of_ble_eq_true rfl) (Or.inr ⟨rfl, rfl, _, rfl⟩) (by have h9 := c_ahead (q := q) (qa := qa) (d := d + 4) (c := c) (n := n) (a := a23) (v := v) (f := f) (b := b22) (r := r22) (by omega) (by omega); rw [tw22] at h9; exact h9) ?_
            refine r_ico (x := (nI 44)) rfl rfl ?_
            refine r_cmp rfl (fun h_10 => ?_) (fun h_10 => ?_)
            · replace h_10 : ¬ (ahd n a23 b22 (r 2)) = (nI 44) := h_10
              refine r_ico (x := (nI 0)) rfl rfl ?_
              refine r_ist (ls' := [some (zR (some q)), some (zI (nI r0)), some (zI (nI (i + 1))), some (zI (nI 0))]) rfl (Nat.le_of_ble_eq_true rfl) rfl ?_
              refine r_ald rfl rfl ?_
              refine r_ild rfl rfl ?_
              refine r_ifN (by omega) rfl (fun h_11 => ?_) (fun h_11 => ?_)
              · replace h_11 : 0 = 0 := h_11
                refine r_ald rfl rfl ?_
                refine r_get rfl rfl ?_
                refine r_put (s' := (c, n, a23, b22, v, f, r22)) rfl (Nat.le_of_ble_eq_true rfl) ⟨_, rfl⟩ rfl rfl ?_
                refine r_go rfl ?_
                refine r_ild rfl rfl ?_
                refine r_ifN (by omega) rfl (fun h_12 => ?_) (fun h_12 => ?_)
                · replace h_12 : 0 = 0 := h_12
                  refine r_ald rfl rfl ?_
                  refine r_get rfl rfl ?_
                  refine r_ild rfl rfl ?_
                  refine r_ild rfl rfl ?_
                  refine r_iastN (k0 := 12) (x' := (nI (i + 1))) rfl rfl (by omega) (by decide) rfl ?_
                  refine r_rtv rfl ?_
                  rw [if_neg h_10] at hQ
                  exact hQ
                · replace h_12 : ¬ (0 = 0) := h_12
                  omega
              · replace h_11 : ¬ (0 = 0) := h_11
                omega
            · replace h_10 : (ahd n a23 b22 (r 2)) = (nI 44) := Decidable.of_not_not h_10
              refine r_ico (x := (nI 1)) rfl rfl ?_
              refine r_go rfl ?_
              refine r_ist (ls' := [some (zR (some q)), some (zI (nI r0)), some (zI (nI (i + 1))), some (zI (nI 1))]) rfl (Nat.le_of_ble_eq_true rfl) rfl ?_
              refine r_ald rfl rfl ?_
              refine r_ild rfl rfl ?_
              refine r_ifN (by omega) rfl (fun h_13 => ?_) (fun h_13 => ?_)
              · replace h_13 : 1 = 0 := h_13
                omega
              · replace h_13 : ¬ (1 = 0) := h_13
                refine r_ald rfl rfl ?_
                refine r_get rfl rfl ?_
                refine r_ico (x := (nI 1)) rfl rfl ?_
                refine r_ibi (v := (nI (a23 + 1))) rfl (nI_add _ _) ?_
                refine r_go rfl ?_
                refine r_put (s' := (c, n, a23 + 1, b22, v, f, r22)) rfl (Nat.le_of_ble_eq_true rfl) ⟨_, rfl⟩ rfl rfl ?_
                refine r_go rfl ?_
                rw [if_pos h_10] at hQ
                obtain ⟨g1, g2, -⟩ := ahd_eq h_10 (by decide +kernel)
                have h9 := cmpF_bad (row := 41 + 4 * r0 + 3) (n := n) (a := a) (r := r)
                rw [← hw22] at h9
                replace h9 : b22 = true := h9
                rw [g1] at h9; cases h9
          · replace h_9 := Nat.not_le.mp h_9
            refine r_ild rfl rfl ?_
            refine r_go rfl ?_
            omega
/-- what requirement(r0) does -/
def rqR (r0 n a : Nat) (r : rA) : Nat × Bool × rA := ((rqF r0 n 5 0 a r).1, (rqF r0 n 5 0 a r).2.1, rset (rqF r0 n 5 0 a r).2.2.2 12 r0 (nI (rqF r0 n 5 0 a r).2.2.1))
set_option maxHeartbeats 1000000 in
theorem c_requirement {q : Nat} {qa : Nat → Nat} {d c n a v f : Nat} {b : Bool} {r : rA} {r0 : Nat} (hr0 : r0 < 214) (hn : n ≤ 160) (ha : a ≤ n) : rFun q qa (d + 6) 111 [zR (some q), zI (nI r0)] (c, n, a, false, v, f, r) (c, n, (rqR r0 n a r).1, (rqR r0 n a r).2.1, v, f, (rqR r0 n a r).2.2) none := by
  refine rFun.of (d := d + 5) (T := tb_111) (L := [some (zR (some q)), some (zI (nI r0)), none, none]) (Nat.le_of_ble_eq_true rfl) rfl rfl ?_
  refine r_ico (x := (nI 0)) rfl rfl ?_
  refine r_ist (ls' := [some (zR (some q)), some (zI (nI r0)), some (zI (nI 0)), none]) rfl (Nat.le_of_ble_eq_true rfl) rfl ?_
  refine r_ico (x := (nI 1)) rfl rfl ?_
  refine r_ist (ls' := [some (zR (some q)), some (zI (nI r0)), some (zI (nI 0)), some (zI (nI 1))]) rfl (Nat.le_of_ble_eq_true rfl) rfl ?_
  exact l_rq hr0 hn 5 0 a r (by omega) (by omega) ha ⟨rfl, rfl⟩
end
section
theorem rqF_ok {r0 n : Nat} : ∀ (k i a : Nat) (r : rA), a ≤ n → (a ≤ (rqF r0 n k i a r).1 ∧ (rqF r0 n k i a r).1 ≤ n) ∧ ∀ j, j ≠ 5 → j ≠ 6 → j ≠ 7 → j ≠ 8 → j ≠ 9 → j ≠ 10 → j ≠ 11 → (rqF r0 n k i a r).2.2.2 j = r j
  | 0, i, a, r, h => ⟨⟨Nat.le_refl _, h⟩, fun _ _ _ _ _ _ _ _ => rfl⟩
  | k + 1, i, a, r, h => by
    rw [rqF]
    try dsimp only
    have h1 : a ≤ (if decide (i = 4) = true then a else spn isBl (r 2) n a) ∧ (if decide (i = 4) = true then a else spn isBl (r 2) n a) ≤ n := by
      split
      · omega
      · exact ⟨spn_ge, spn_le h⟩
    generalize (if decide (i = 4) = true then a else spn isBl (r 2) n a) = a1 at h1 ⊢
    have h2 := cmpF_ok (row := 41 + 4 * r0 + (if i < 4 then i else 3)) (n := n) (a := a1) (b := decide (i = 4)) (r := r) h1.2
    generalize cmpF (41 + 4 * r0 + (if i < 4 then i else 3)) n a1 (decide (i = 4)) r = w at h2 ⊢
    obtain ⟨a2, b2, r2⟩ := w
    dsimp only at h2 ⊢
    have h3 : a2 ≤ (if b2 = true then a2 else spn isBl (r 2) n a2) ∧ (if b2 = true then a2 else spn isBl (r 2) n a2) ≤ n := by
      split
      · omega
      · exact ⟨spn_ge, spn_le h2.1.2⟩
    generalize (if b2 = true then a2 else spn isBl (r 2) n a2) = a3 at h3 ⊢
    split
    · rename_i g
      have g2 := (ahd_eq g (by decide +kernel)).2.1
      have ih := rqF_ok (r0 := r0) (n := n) k (i + 1) (a3 + 1) r2 g2
      refine ⟨by omega, fun j g1 g2 g3 g4 g5 g6 g7 => ?_⟩
      rw [ih.2 j g1 g2 g3 g4 g5 g6 g7, h2.2 j g1 g2 g3 g4 g5 g6 g7]
    · exact ⟨by show a ≤ a3 ∧ a3 ≤ n; omega, h2.2⟩
theorem rqR_ok {r0 n a : Nat} {r : rA} (h : a ≤ n) : (a ≤ (rqR r0 n a r).1 ∧ (rqR r0 n a r).1 ≤ n) ∧ ∀ j, j ≠ 5 → j ≠ 6 → j ≠ 7 → j ≠ 8 → j ≠ 9 → j ≠ 10 → j ≠ 11 → j ≠ 12 → (rqR r0 n a r).2.2 j = r j := by
  have h1 := rqF_ok (r0 := r0) (n := n) 5 0 a r h
  refine ⟨h1.1, fun j g1 g2 g3 g4 g5 g6 g7 g8 => ?_⟩
  show rset _ 12 r0 _ j = _
  rw [rset_n _ _ _ g8, h1.2 j g1 g2 g3 g4 g5 g6 g7]
theorem vnF_le {n a : Nat} {b : Bool} {t : Nat → Int32} (h : a ≤ n) : a ≤ (vnF n a b t).1 ∧ (vnF n a b t).1 ≤ n := by
  unfold vnF
  dsimp only
  have h1 := numA_le (n := n) (a := a) (b := b) (t := t) h
  have h2 := tkA_le (n := n) (a := numA n a b t) (b := numB n a b t) (t := t) (x := nI 46) h1.2 (by decide +kernel)
  have h3 := numA_le (n := n) (a := tkA n (numA n a b t) (numB n a b t) t (nI 46)) (b := tkB n (numA n a b t) (numB n a b t) t (nI 46)) (t := t) h2.2
  generalize tkA n (numA n a b t) (numB n a b t) t (nI 46) = a2 at *
  generalize tkB n (numA n a b t) (numB n a b t) t (nI 46) = b2 at *
  have h4 := tkA_le (n := n) (a := numA n a2 b2 t) (b := numB n a2 b2 t) (t := t) (x := nI 46) h3.2 (by decide +kernel)
  generalize tkA n (numA n a2 b2 t) (numB n a2 b2 t) t (nI 46) = a4 at *
  have h5 := numA_le (n := n) (a := a4) (b := tkB n (numA n a2 b2 t) (numB n a2 b2 t) t (nI 46)) (t := t) h4.2
  omega
theorem verF_ok {n a : Nat} {b : Bool} {r : rA} (h : a ≤ n) : (verF n a b r).1 ≤ n ∧ ∀ j, j ≠ 5 → j ≠ 6 → j ≠ 7 → j ≠ 8 → j ≠ 9 → j ≠ 18 → j ≠ 19 → (verF n a b r).2.2 j = r j := by
  unfold verF
  dsimp only
  have h1 := vnF_le (n := n) (a := a) (b := b) (t := r 2) h
  generalize vnF n a b (r 2) = u at *
  obtain ⟨a1, b1, v1, v2, v3⟩ := u
  dsimp only at *
  have h2 := bwF_le (row := 40) (n := n) (a := a1) (b := b1) (r := rset (rset (rset r 5 40 v1) 6 40 v2) 7 40 v3) h1.2
  have h3 : ∀ j, j ≠ 5 → j ≠ 6 → j ≠ 7 → j ≠ 8 → j ≠ 9 → (bwF 40 n a1 b1 (rset (rset (rset r 5 40 v1) 6 40 v2) 7 40 v3)).2.2 j = r j := fun j g1 g2 g3 g4 g5 => by rw [bwF_arr g4 g5, rset_n _ _ _ g3, rset_n _ _ _ g2, rset_n _ _ _ g1]
  generalize bwF 40 n a1 b1 (rset (rset (rset r 5 40 v1) 6 40 v2) 7 40 v3) = w at *
  obtain ⟨a2, b2, r2⟩ := w
  dsimp only at *
  have h4 : (pbF n a2 b2 (r 2)).1 ≤ n := by
    unfold pbF
    split
    · rename_i g
      exact (wr_le (ahd_eq g (by decide +kernel)).2.1).2
    · exact h2.2
  split
  · exact ⟨h4, fun j g1 g2 g3 g4 g5 g6 g7 => by show rset r2 18 40 _ j = _; rw [rset_n _ _ _ g6]; exact h3 j g1 g2 g3 g4 g5⟩
  · exact ⟨h4, fun j g1 g2 g3 g4 g5 g6 g7 => by show rset (cpR r2 19 960 a _) 18 40 _ j = _; rw [rset_n _ _ _ g6, cpR_n g7]; exact h3 j g1 g2 g3 g4 g5⟩
def anyP (r : rA) (p : Int32) : Nat → Bool
  | 0 => false
  | k + 1 => anyP r p k || decide (r 13 (200 + k) = p)
/-- the needs behind a published version, from the i-th on: at, bad, the arrays -/
def puF (n : Nat) : Nat → Nat → Nat → rA → Nat × Bool × rA
  | 0, _, a, r => (a, true, r)
  | k + 1, i, a, r =>
    if ahd n a false (r 2) = nI 59 then
      let p := ahd n (a + 1) false (r 2) - nI 48
      let b1 := decide (i = 5) || !isIn p (nI 0) (nI 7)
      let a2 := tkA n (a + 1 + 1) b1 (r 2) (nI 32)
      let b2 := tkB n (a + 1 + 1) b1 (r 2) (nI 32)
      if (b2 || anyP r p i) = true then (a2, true, r) else
        let w := rqR (208 + i) n a2 (rset r 13 (200 + i) p)
        if w.2.1 = true then (w.1, true, rset w.2.2 14 40 (nI (i + 1))) else puF n k (i + 1) w.1 (rset w.2.2 14 40 (nI (i + 1)))
    else (a, false, r)
/-- what publication() does: at, bad, the arrays -/
def pubF (n : Nat) (r : rA) : Nat × Bool × rA :=
  let w := verF n 0 false r
  if w.2.1 = true then (w.1, true, rset w.2.2 14 40 (nI 0)) else puF n 6 0 w.1 (rset w.2.2 14 40 (nI 0))
theorem tkA_c {n a : Nat} {b : Bool} {t : Nat → Int32} {x : Int32} : a ≤ tkA n a b t x ∧ tkA n a b t x ≤ a + 1 := by
  unfold tkA
  split <;> omega
theorem tk_ok {n a : Nat} {b : Bool} {t : Nat → Int32} {x : Int32} (hx : x ≠ -1) (h : tkB n a b t x = false) : tkA n a b t x ≤ n ∧ b = false := by
  unfold tkB at h
  unfold tkA
  split at h
  · rename_i g
    rw [if_pos g]
    have := ahd_eq g hx
    exact ⟨this.2.1, this.1⟩
  · cases h
set_option maxHeartbeats 1000000 in
theorem l_pk {q : Nat} {qa : Nat → Nat} {d c n a v f i : Nat} {pv : Int32} {b0 : Bool} {r : rA} {Q : rS → (Option zV ⊕ Nat) → Prop} (hi : i ≤ 5) (K : ∀ x3, rEv q qa (d + 6) tb_122 Q 141 [some (zR (some q)), some (zI (nI i)), some (zI pv), x3] [] (c, n, a, (b0 || anyP r pv i), v, f, r)) : ∀ (j k : Nat), i ≤ k + j → k ≤ i → rEv q qa (d + 6) tb_122 Q 100 [some (zR (some q)), some (zI (nI i)), some (zI (pv)), some (zI (nI k))] [] (c, n, a, b0 || anyP r pv k, v, f, r) := by
  intro j
  induction j with
  | zero =>
    intro k h1 h2
    have h3 : i = k := by omega
    subst h3
    refine r_ild rfl rfl ?_
    refine r_ild rfl rfl ?_
    refine r_cmpN (by omega) (by omega) rfl (fun h_1 => ?_) (fun h_1 => ?_)
    · replace h_1 : i ≤ i := h_1
      exact K _
    · replace h_1 := Nat.not_le.mp h_1
      omega
  | succ j ih =>
    intro k h1 h2
    refine r_ild rfl rfl ?_
    refine r_ild rfl rfl ?_
    refine r_cmpN (by omega) (by omega) rfl (fun h_1 => ?_) (fun h_1 => ?_)
    · replace h_1 : i ≤ k := h_1
      have h3 : i = k := by omega
      subst h3
      exact K _
    · replace h_1 := Nat.not_le.mp h_1
      refine r_ald rfl rfl ?_
      refine r_ald rfl rfl ?_
      refine r_get rfl rfl ?_
      refine r_ifB1 rfl (fun h_2 => ?_) (fun h_2 => ?_)
      · refine r_ico (x := (nI 1)) rfl rfl ?_
        refine r_go rfl ?_
        refine r_put (s' := (c, n, a, true, v, f, r)) rfl (Nat.le_of_ble_eq_true rfl) ⟨_, rfl, Or.inr rfl⟩ rfl rfl ?_
        refine r_inc (x' := (nI (k + 1))) (ls' := [some (zR (some q)), some (zI (nI i)), some (zI (pv)), some (zI (nI (k + 1)))]) rfl rfl (nI_1 _) rfl ?_
        refine r_go rfl ?_
        have e9 : (b0 || anyP r pv (k + 1)) = true := by rw [anyP, ← Bool.or_assoc, h_2]; rfl
        have h9 := ih (k + 1) (by omega) (by omega)
        rw [e9] at h9
        exact h9
      · refine r_ald rfl rfl ?_
        refine r_get rfl rfl ?_
        refine r_ico (x := (nI 200)) rfl rfl ?_
        refine r_ild rfl rfl ?_
        refine r_ibi (v := (nI (200 + k))) rfl (nI_add _ _) ?_
        refine r_ialdN (k0 := 13) rfl rfl (by omega) (by decide) ?_
        refine r_ild rfl rfl ?_
        refine r_cmp rfl (fun h_3 => ?_) (fun h_3 => ?_)
        · replace h_3 : ¬ (r 13 (200 + k)) = (pv) := h_3
          refine r_ico (x := (nI 0)) rfl rfl ?_
          refine r_put (s' := (c, n, a, false, v, f, r)) rfl (Nat.le_of_ble_eq_true rfl) ⟨_, rfl, Or.inl rfl⟩ rfl rfl ?_
          refine r_inc (x' := (nI (k + 1))) (ls' := [some (zR (some q)), some (zI (nI i)), some (zI (pv)), some (zI (nI (k + 1)))]) rfl rfl (nI_1 _) rfl ?_
          refine r_go rfl ?_
          have e9 : (b0 || anyP r pv (k + 1)) = false := by rw [anyP, ← Bool.or_assoc, h_2, decide_eq_false h_3]; rfl
          have h9 := ih (k + 1) (by omega) (by omega)
          rw [e9] at h9
          exact h9
        · replace h_3 : (r 13 (200 + k)) = (pv) := Decidable.of_not_not h_3
          refine r_ico (x := (nI 1)) rfl rfl ?_
          refine r_go rfl ?_
          refine r_put (s' := (c, n, a, true, v, f, r)) rfl (Nat.le_of_ble_eq_true rfl) ⟨_, rfl, Or.inr rfl⟩ rfl rfl ?_
          refine r_inc (x' := (nI (k + 1))) (ls' := [some (zR (some q)), some (zI (nI i)), some (zI (pv)), some (zI (nI (k + 1)))]) rfl rfl (nI_1 _) rfl ?_
          refine r_go rfl ?_
          have e9 : (b0 || anyP r pv (k + 1)) = true := by rw [anyP, ← Bool.or_assoc, h_2, decide_eq_true h_3]; rfl
          have h9 := ih (k + 1) (by omega) (by omega)
          rw [e9] at h9
          exact h9
theorem l_puB {q : Nat} {qa : Nat → Nat} {d c n a v f : Nat} {x1 x2 x3 : Option zV} {r : rA} {Q : rS → (Option zV ⊕ Nat) → Prop} (hn : n ≤ 160) (ha : a < 90000) (hQ : Q (c, n, a, true, v, f, r) (.inl none)) : rEv q qa (d + 6) tb_122 Q 16 [some (zR (some q)), x1, x2, x3] [] (c, n, a, true, v, f, r) := by
  refine r_ald rfl rfl ?_
  refine r_call (as := [zR (some q)]) (r := []) (s' := (c, n, a, true, v, f, r)) (v := some (zI (ahd n a true (r 2)))) rfl rfl rfl (Nat.le_of_ble_eq_true rfl) (Or.inr ⟨rfl, rfl, _, rfl⟩) (c_ahead (by omega) (by omega)) ?_
  refine r_ico (x := (nI 59)) rfl rfl ?_
  refine r_cmp rfl (fun h_1 => ?_) (fun h_1 => ?_)
  · replace h_1 : ¬ (ahd n a true (r 2)) = (nI 59) := h_1
    refine r_rtv rfl ?_
    exact hQ
  · replace h_1 : (ahd n a true (r 2)) = (nI 59) := Decidable.of_not_not h_1
    rw [ahd_bad] at h_1; exact absurd h_1 (by decide +kernel)
set_option maxHeartbeats 4000000 in
theorem l_pu {q : Nat} {qa : Nat → Nat} {d c n v f : Nat} {Q : rS → (Option zV ⊕ Nat) → Prop} (hn : n ≤ 160) : ∀ (k i a : Nat) (r : rA) (x1 x2 x3 : Option zV), 6 ≤ i + k → i ≤ 5 → a ≤ n → r 14 40 = nI i → Q (c, n, (puF n k i a r).1, (puF n k i a r).2.1, v, f, (puF n k i a r).2.2) (.inl none) → rEv q qa (d + 6) tb_122 Q 16 [some (zR (some q)), x1, x2, x3] [] (c, n, a, false, v, f, r) := by
  intro k
  induction k with
  | zero =>
    intro i a r x1 x2 x3 h1 h2
    omega
  | succ k ih =>
    intro i a r x1 x2 x3 h1 h2 ha hp hQ
    rw [puF] at hQ
    refine r_ald rfl rfl ?_
    refine r_call (as := [zR (some q)]) (r := []) (s' := (c, n, a, false, v, f, r)) (v := some (zI (ahd n a false (r 2)))) rfl rfl rfl (Nat.le_of_ble_eq_true rfl) (Or.inr ⟨rfl, rfl, _, rfl⟩) (c_ahead (by omega) (by omega)) ?_
    refine r_ico (x := (nI 59)) rfl rfl ?_
    refine r_cmp rfl (fun h_1 => ?_) (fun h_1 => ?_)
    · replace h_1 : ¬ (ahd n a false (r 2)) = (nI 59) := h_1
      refine r_rtv rfl ?_
      rw [if_neg h_1] at hQ
      exact hQ
    · replace h_1 : (ahd n a false (r 2)) = (nI 59) := Decidable.of_not_not h_1
      rw [if_pos h_1] at hQ
      have g2 := (ahd_eq h_1 (by decide +kernel)).2.1
      refine r_ald rfl rfl ?_
      refine r_dup rfl rfl ?_
      refine r_get rfl rfl ?_
      refine r_ico (x := (nI 1)) rfl rfl ?_
      refine r_ibi (v := (nI (a + 1))) rfl (nI_add _ _) ?_
      refine r_put (s' := (c, n, a + 1, false, v, f, r)) rfl (Nat.le_of_ble_eq_true rfl) ⟨_, rfl⟩ rfl rfl ?_
      refine r_ald rfl rfl ?_
      refine r_get rfl rfl ?_
      refine r_ico (x := (nI 40)) rfl rfl ?_
      refine r_ialdN (k0 := 14) rfl rfl (by omega) (by decide) ?_
      refine r_top (y := (nI i)) hp ?_
      refine r_ist (ls' := [some (zR (some q)), some (zI (nI i)), x2, x3]) rfl (Nat.le_of_ble_eq_true rfl) rfl ?_
      refine r_ald rfl rfl ?_
      refine r_call (as := [zR (some q)]) (r := []) (s' := (c, n, a + 1, false, v, f, r)) (v := some (zI (ahd n (a + 1) false (r 2)))) rfl rfl rfl (Nat.le_of_ble_eq_true rfl) (Or.inr ⟨rfl, rfl, _, rfl⟩) (c_ahead (by omega) (by omega)) ?_
      refine r_ico (x := (nI 48)) rfl rfl ?_
      refine r_ibi (v := ((ahd n (a + 1) false (r 2)) - (nI 48))) rfl rfl ?_
      refine r_ist (ls' := [some (zR (some q)), some (zI (nI i)), some (zI ((ahd n (a + 1) false (r 2)) - (nI 48))), x3]) rfl (Nat.le_of_ble_eq_true rfl) rfl ?_
      refine r_ald rfl rfl ?_
      refine r_ald rfl rfl ?_
      have J79_1 : ∀ (x79_2 : Bool), x79_2 = (decide (i = 5) || !isIn (ahd n (a + 1) false (r 2) - nI 48) (nI 0) (nI 7)) → rEv q qa (d + 6) tb_122 Q 79 [some (zR (some q)), some (zI (nI i)), some (zI ((ahd n (a + 1) false (r 2)) - (nI 48))), x3] [zI (bI (x79_2)), zR (some q)] (c, n, a + 1, false, v, f, r) := by
        intro x79_2 hxx79_2
        refine r_put (s' := (c, n, a + 1, x79_2, v, f, r)) rfl (Nat.le_of_ble_eq_true rfl) ⟨_, rfl, bI_01 _⟩ rfl rfl ?_
        refine r_ald rfl rfl ?_
        refine r_dup rfl rfl ?_
        refine r_get rfl rfl ?_
        refine r_ico (x := (nI 1)) rfl rfl ?_
        refine r_ibi (v := (nI (a + 1 + 1))) rfl (nI_add _ _) ?_
        refine r_put (s' := (c, n, a + 1 + 1, x79_2, v, f, r)) rfl (Nat.le_of_ble_eq_true rfl) ⟨_, rfl⟩ rfl rfl ?_
        refine r_ald rfl rfl ?_
        refine r_ico (x := (nI 32)) rfl rfl ?_
        obtain ⟨a24, ha24⟩ : ∃ x, x = tkA n (a + 1 + 1) x79_2 (r 2) (nI 32) := ⟨_, rfl⟩
        obtain ⟨b24, hb24⟩ : ∃ x, x = tkB n (a + 1 + 1) x79_2 (r 2) (nI 32) := ⟨_, rfl⟩
        have la24 : a + 1 + 1 ≤ a24 ∧ a24 ≤ a + 1 + 1 + 1 := by rw [ha24]; exact tkA_c
        refine r_call (as := [zR (some q), zI (nI 32)]) (r := []) (s' := (c, n, a24, b24, v, f, r)) (v := none) rfl rfl rfl (Nat.le_of_ble_eq_true rfl) (Or.inr ⟨rfl, rfl, _, rfl⟩) (by rw [ha24, hb24]; exact c_take (by omega) (by omega)) ?_
        refine r_ico (x := (nI 0)) rfl rfl ?_
        refine r_ist (ls' := [some (zR (some q)), some (zI (nI i)), some (zI ((ahd n (a + 1) false (r 2)) - (nI 48))), some (zI (nI 0))]) rfl (Nat.le_of_ble_eq_true rfl) rfl ?_
        dsimp only at hQ
        rw [← hxx79_2] at hQ
        rw [← ha24, ← hb24] at hQ
        have lim : b24 = false → a24 ≤ n ∧ x79_2 = false := by rw [hb24, ha24]; exact tk_ok (by decide +kernel)
        have e100 : b24 = (b24 || anyP r (ahd n (a + 1) false (r 2) - nI 48) 0) := by simp [anyP]
        suffices h9 : ∀ y, y = (b24 || anyP r (ahd n (a + 1) false (r 2) - nI 48) 0) → rEv q qa (d + 6) tb_122 Q 100 [some (zR (some q)), some (zI (nI i)), some (zI (ahd n (a + 1) false (r 2) - nI 48)), some (zI (nI 0))] [] (c, n, a24, y, v, f, r) from h9 _ e100
        intro y hy
        subst hy
        refine l_pk h2 (fun x4 => ?_) i 0 (by omega) (by omega)
        refine r_ald rfl rfl ?_
        refine r_get rfl rfl ?_
        refine r_ifB1 rfl (fun h_3 => ?_) (fun h_3 => ?_)
        · refine r_go rfl ?_
          rw [h_3] at hQ ⊢
          rw [if_pos rfl] at hQ
          exact l_puB hn (by omega) hQ
        · rw [h_3] at hQ ⊢
          rw [if_neg (by decide)] at hQ
          have hbb : b24 = false := (Bool.or_eq_false_iff.mp h_3).1
          have lim := lim hbb
          have i5 : i < 5 := by have h8 := lim.2; rw [hxx79_2] at h8; have h7 := (Bool.or_eq_false_iff.mp h8).1; have h6 : ¬ i = 5 := of_decide_eq_false h7; omega
          refine r_ald rfl rfl ?_
          refine r_get rfl rfl ?_
          refine r_ico (x := (nI 200)) rfl rfl ?_
          refine r_ild rfl rfl ?_
          refine r_ibi (v := (nI (200 + i))) rfl (nI_add _ _) ?_
          refine r_ild rfl rfl ?_
          refine r_iastN (k0 := 13) (x' := (ahd n (a + 1) false (r 2) - nI 48)) rfl rfl (by omega) (by decide) rfl ?_
          refine r_ald rfl rfl ?_
          refine r_ico (x := (nI 208)) rfl rfl ?_
          refine r_ild rfl rfl ?_
          refine r_ibi (v := (nI (208 + i))) rfl (nI_add _ _) ?_
          obtain ⟨w25, hw25⟩ : ∃ x, x = rqR (208 + i) n a24 (rset r 13 (200 + i) (ahd n (a + 1) false (r 2) - nI 48)) := ⟨_, rfl⟩
          have ok25 := rqR_ok (r0 := 208 + i) (n := n) (a := a24) (r := rset r 13 (200 + i) (ahd n (a + 1) false (r 2) - nI 48)) (by omega)
          rw [← hw25] at ok25
          obtain ⟨a25, b25, r25⟩ := w25
          have lw25 : a24 ≤ a25 ∧ a25 ≤ n := ok25.1
          have nw25 : r25 14 40 = nI i := (congrFun (ok25.2 14 (by decide) (by decide) (by decide) (by decide) (by decide) (by decide) (by decide) (by decide)) 40).trans hp
          clear ok25
          refine r_call (as := [zR (some q), zI (nI (208 + i))]) (r := []) (s' := (c, n, a25, b25, v, f, r25)) (v := none) rfl rfl rfl (Nat.le_of_ble_eq_true rfl) (Or.inr ⟨rfl, rfl, _, rfl⟩) (by have h9 := c_requirement (q := q) (qa := qa) (d := d) (c := c) (n := n) (a := a24) (v := v) (f := f) (b := false) (r0 := 208 + i) (r := rset r 13 (200 + i) (ahd n (a + 1) false (r 2) - nI 48)) (by omega) (by omega) (by omega); rw [← hw25] at h9; exact h9) ?_
          refine r_ald rfl rfl ?_
          refine r_get rfl rfl ?_
          refine r_ico (x := (nI 40)) rfl rfl ?_
          refine r_dup2 rfl rfl rfl ?_
          refine r_ialdN (k0 := 14) rfl rfl (by omega) (by decide) ?_
          refine r_top (y := (nI i)) nw25 ?_
          refine r_ico (x := (nI 1)) rfl rfl ?_
          refine r_ibi (v := (nI (i + 1))) rfl (nI_add _ _) ?_
          refine r_iastN (k0 := 14) (x' := (nI (i + 1))) rfl rfl (by omega) (by decide) rfl ?_
          refine r_go rfl ?_
          rw [← hw25] at hQ
          dsimp only at hQ
          cases b25 with
          | true => exact l_puB hn (by omega) hQ
          | false => exact ih (i + 1) a25 _ _ _ _ (by omega) (by omega) (by omega) (by simp [rset, upd]) hQ
      refine r_get rfl rfl ?_
      refine r_ifB1 rfl (fun h_4 => ?_) (fun h_4 => ?_)
      · cases h_4
      · refine r_ild rfl rfl ?_
        refine r_ico (x := (nI 5)) rfl rfl ?_
        refine r_cmpN (by omega) (by omega) rfl (fun h_5 => ?_) (fun h_5 => ?_)
        · replace h_5 : i = 5 := h_5
          refine r_ico (x := (nI 1)) rfl rfl ?_
          refine r_go rfl ?_
          exact J79_1 true (by first | (rw [decide_eq_true h_5]; rfl) | (rw [decide_eq_false h_4, h_5]; rfl))
        · replace h_5 : ¬ (i = 5) := h_5
          refine r_ild rfl rfl ?_
          refine r_ico (x := (nI 0)) rfl rfl ?_
          refine r_ico (x := (nI 7)) rfl rfl ?_
          refine r_call (as := [zI ((ahd n (a + 1) false (r 2)) - (nI 48)), zI (nI 0), zI (nI 7)]) (r := [zR (some q)]) (s' := (c, n, a + 1, false, v, f, r)) (v := some (zI (bI (isIn ((ahd n (a + 1) false (r 2)) - (nI 48)) (nI 0) (nI 7))))) rfl rfl rfl (Nat.le_of_ble_eq_true rfl) (Or.inl rfl) (c_in) ?_
          refine r_ifB1 rfl (fun h_6 => ?_) (fun h_6 => ?_)
          · refine r_ico (x := (nI 0)) rfl rfl ?_
            exact J79_1 false (by first | (rw [decide_eq_true h_6]; rfl) | (rw [decide_eq_false h_5, h_6]; rfl))
          · refine r_ico (x := (nI 1)) rfl rfl ?_
            refine r_go rfl ?_
            exact J79_1 true (by first | (rw [decide_eq_true h_6]; rfl) | (rw [decide_eq_false h_5, h_6]; rfl))
end
section
/-- a row against three numbers without words -/
def oT (r : rA) (i : Nat) (x y z : Int32) : Int32 :=
  if r 5 i = x then (if r 6 i = y then (if r 7 i = z then (if r 8 i ≤ 0 then nI 0 else -1) else if z ≤ r 7 i then nI 1 else -1) else if y ≤ r 6 i then nI 1 else -1) else if x ≤ r 5 i then nI 1 else -1
set_option maxHeartbeats 1000000 in
theorem c_publication {q : Nat} {qa : Nat → Nat} {d c n a v f : Nat} {b : Bool} {r : rA}  (hn : n ≤ 160) : rFun q qa (d + 7) 122 [zR (some q)] (c, n, a, b, v, f, r) (c, n, (pubF n r).1, (pubF n r).2.1, v, f, (pubF n r).2.2) none := by
  refine rFun.of (d := d + 6) (T := tb_122) (L := [some (zR (some q)), none, none, none]) (Nat.le_of_ble_eq_true rfl) rfl rfl ?_
  refine r_ald rfl rfl ?_
  refine r_call (as := [zR (some q)]) (r := []) (s' := (c, n, 0, false, v, f, r)) (v := none) rfl rfl rfl (Nat.le_of_ble_eq_true rfl) (Or.inr ⟨rfl, rfl, _, rfl⟩) c_begin ?_
  refine r_ald rfl rfl ?_
  obtain ⟨w0, hw0⟩ : ∃ x, x = verF n 0 false r := ⟨_, rfl⟩
  have ok0 := verF_ok (n := n) (a := 0) (b := false) (r := r) (Nat.zero_le _)
  rw [← hw0] at ok0
  obtain ⟨a0, b0, r0⟩ := w0
  have la0 : a0 ≤ n := ok0.1
  refine r_call (as := [zR (some q)]) (r := []) (s' := (c, n, a0, b0, v, f, r0)) (v := none) rfl rfl rfl (Nat.le_of_ble_eq_true rfl) (Or.inr ⟨rfl, rfl, _, rfl⟩) (by have h9 := c_version (q := q) (qa := qa) (d := d + 1) (c := c) (n := n) (a := 0) (v := v) (f := f) (b := false) (r := r) hn (Nat.zero_le _); rw [← hw0] at h9; exact h9) ?_
  refine r_ald rfl rfl ?_
  refine r_get rfl rfl ?_
  refine r_ico (x := (nI 40)) rfl rfl ?_
  refine r_ico (x := (nI 0)) rfl rfl ?_
  refine r_iastN (k0 := 14) (x' := (nI 0)) rfl rfl (by omega) (by decide) rfl ?_
  have e1 : pubF n r = if b0 = true then (a0, true, rset r0 14 40 (nI 0)) else puF n 6 0 a0 (rset r0 14 40 (nI 0)) := by unfold pubF; rw [← hw0]
  rw [e1]
  cases b0 with
  | true => exact l_puB hn (by omega) ⟨rfl, rfl⟩
  | false => exact l_pu hn 6 0 a0 _ _ _ _ (by omega) (by omega) la0 (by simp [rset, upd]) ⟨rfl, rfl⟩
set_option maxHeartbeats 1000000 in
theorem c_asks {q : Nat} {qa : Nat → Nat} {d c n a v f : Nat} {b : Bool} {r : rA}  (hn : n ≤ 160) : rFun q qa (d + 7) 128 [zR (some q)] (c, n, a, b, v, f, r) (c, 0, (rqR 213 n 0 r).1, (rqR 213 n 0 r).2.1, v, f, (rqR 213 n 0 r).2.2) (some (zI (bI (!(rqR 213 n 0 r).2.1 && decide ((rqR 213 n 0 r).1 = n))))) := by
  refine rFun.of (d := d + 6) (T := tb_128) (L := [some (zR (some q))]) (Nat.le_of_ble_eq_true rfl) rfl rfl ?_
  refine r_ald rfl rfl ?_
  refine r_call (as := [zR (some q)]) (r := []) (s' := (c, n, 0, false, v, f, r)) (v := none) rfl rfl rfl (Nat.le_of_ble_eq_true rfl) (Or.inr ⟨rfl, rfl, _, rfl⟩) c_begin ?_
  refine r_ald rfl rfl ?_
  refine r_ico (x := (nI 213)) rfl rfl ?_
  obtain ⟨w0, hw0⟩ : ∃ x, x = rqR 213 n 0 r := ⟨_, rfl⟩
  have ok0 := rqR_ok (r0 := 213) (n := n) (a := 0) (r := r) (Nat.zero_le _)
  rw [← hw0] at ok0
  obtain ⟨a0, b0, r0⟩ := w0
  have la0 : a0 ≤ n := ok0.1.2
  refine r_call (as := [zR (some q), zI (nI 213)]) (r := []) (s' := (c, n, a0, b0, v, f, r0)) (v := none) rfl rfl rfl (Nat.le_of_ble_eq_true rfl) (Or.inr ⟨rfl, rfl, _, rfl⟩) (by have h9 := c_requirement (q := q) (qa := qa) (d := d) (c := c) (n := n) (a := 0) (v := v) (f := f) (b := false) (r0 := 213) (r := r) (by omega) hn (Nat.zero_le _); rw [← hw0] at h9; exact h9) ?_
  refine r_ald rfl rfl ?_
  refine r_call (as := [zR (some q)]) (r := []) (s' := (c, 0, a0, b0, v, f, r0)) (v := some (zI (bI (!b0 && decide (a0 = n))))) rfl rfl rfl (Nat.le_of_ble_eq_true rfl) (Or.inr ⟨rfl, rfl, _, rfl⟩) (c_isRight (by omega) (by omega)) ?_
  refine r_ret rfl ⟨_, rfl, bI_01 _⟩ ?_
  rw [← hw0]
  exact ⟨rfl, rfl⟩
set_option maxHeartbeats 1000000 in
theorem c_orderTo {q : Nat} {qa : Nat → Nat} {d c n a v f : Nat} {b : Bool} {r : rA} {i : Nat} {x y z : Int32} (hi : i < 900) : rFun q qa (d + 1) 118 [zR (some q), zI (nI i), zI (x), zI (y), zI (z)] (c, n, a, b, v, f, r) (c, n, a, b, v, f, r) (some (zI (oT r i x y z))) := by
  refine rFun.of (T := tb_118) (L := [some (zR (some q)), some (zI (nI i)), some (zI (x)), some (zI (y)), some (zI (z))]) (Nat.le_of_ble_eq_true rfl) rfl rfl ?_
  refine r_ald rfl rfl ?_
  refine r_get rfl rfl ?_
  refine r_ild rfl rfl ?_
  refine r_ialdN (k0 := 5) rfl rfl (by omega) (by decide) ?_
  refine r_ild rfl rfl ?_
  refine r_cmp rfl (fun h_1 => ?_) (fun h_1 => ?_)
  · replace h_1 : (r 5 i) = (x) := h_1
    refine r_ald rfl rfl ?_
    refine r_get rfl rfl ?_
    refine r_ild rfl rfl ?_
    refine r_ialdN (k0 := 6) rfl rfl (by omega) (by decide) ?_
    refine r_ild rfl rfl ?_
    refine r_cmp rfl (fun h_2 => ?_) (fun h_2 => ?_)
    · replace h_2 : (r 6 i) = (y) := h_2
      refine r_ald rfl rfl ?_
      refine r_get rfl rfl ?_
      refine r_ild rfl rfl ?_
      refine r_ialdN (k0 := 7) rfl rfl (by omega) (by decide) ?_
      refine r_ild rfl rfl ?_
      refine r_cmp rfl (fun h_3 => ?_) (fun h_3 => ?_)
      · replace h_3 : (r 7 i) = (z) := h_3
        refine r_ald rfl rfl ?_
        refine r_get rfl rfl ?_
        refine r_ild rfl rfl ?_
        refine r_ialdN (k0 := 8) rfl rfl (by omega) (by decide) ?_
        refine r_if rfl (fun h_4 => ?_) (fun h_4 => ?_)
        · replace h_4 : (r 8 i) ≤ 0 := h_4
          refine r_ico (x := (nI 0)) rfl rfl ?_
          refine r_ret rfl ⟨_, rfl⟩ ?_
          exact ⟨rfl, by simp [oT, *]⟩
        · replace h_4 : ¬ ((r 8 i) ≤ 0) := h_4
          refine r_ico (x := (-1)) rfl rfl ?_
          refine r_go rfl ?_
          refine r_ret rfl ⟨_, rfl⟩ ?_
          exact ⟨rfl, by simp [oT, *]⟩
      · replace h_3 : ¬ ((r 7 i) = (z)) := h_3
        refine r_ald rfl rfl ?_
        refine r_get rfl rfl ?_
        refine r_ild rfl rfl ?_
        refine r_ialdN (k0 := 7) rfl rfl (by omega) (by decide) ?_
        refine r_ild rfl rfl ?_
        refine r_cmp rfl (fun h_5 => ?_) (fun h_5 => ?_)
        · replace h_5 : (z) ≤ (r 7 i) := h_5
          refine r_ico (x := (nI 1)) rfl rfl ?_
          refine r_ret rfl ⟨_, rfl⟩ ?_
          exact ⟨rfl, by simp [oT, *]⟩
        · replace h_5 : ¬ ((z) ≤ (r 7 i)) := h_5
          refine r_ico (x := (-1)) rfl rfl ?_
          refine r_go rfl ?_
          refine r_ret rfl ⟨_, rfl⟩ ?_
          exact ⟨rfl, by simp [oT, *]⟩
    · replace h_2 : ¬ ((r 6 i) = (y)) := h_2
      refine r_ald rfl rfl ?_
      refine r_get rfl rfl ?_
      refine r_ild rfl rfl ?_
      refine r_ialdN (k0 := 6) rfl rfl (by omega) (by decide) ?_
      refine r_ild rfl rfl ?_
      refine r_cmp rfl (fun h_6 => ?_) (fun h_6 => ?_)
      · replace h_6 : (y) ≤ (r 6 i) := h_6
        refine r_ico (x := (nI 1)) rfl rfl ?_
        refine r_ret rfl ⟨_, rfl⟩ ?_
        exact ⟨rfl, by simp [oT, *]⟩
      · replace h_6 : ¬ ((y) ≤ (r 6 i)) := h_6
        refine r_ico (x := (-1)) rfl rfl ?_
        refine r_go rfl ?_
        refine r_ret rfl ⟨_, rfl⟩ ?_
        exact ⟨rfl, by simp [oT, *]⟩
  · replace h_1 : ¬ ((r 5 i) = (x)) := h_1
    refine r_ald rfl rfl ?_
    refine r_get rfl rfl ?_
    refine r_ild rfl rfl ?_
    refine r_ialdN (k0 := 5) rfl rfl (by omega) (by decide) ?_
    refine r_ild rfl rfl ?_
    refine r_cmp rfl (fun h_7 => ?_) (fun h_7 => ?_)
    · replace h_7 : (x) ≤ (r 5 i) := h_7
      refine r_ico (x := (nI 1)) rfl rfl ?_
      refine r_ret rfl ⟨_, rfl⟩ ?_
      exact ⟨rfl, by simp [oT, *]⟩
    · replace h_7 : ¬ ((x) ≤ (r 5 i)) := h_7
      refine r_ico (x := (-1)) rfl rfl ?_
      refine r_go rfl ?_
      refine r_ret rfl ⟨_, rfl⟩ ?_
      exact ⟨rfl, by simp [oT, *]⟩
end
section
def noPt (x : Int32) : Bool := !decide (x = nI 46)
/-- the words of a row -/
def rw9 (r : rA) (row : Nat) : Nat → Int32 := fun i => r 9 (24 * row + i)
theorem alld_s {t : Nat → Int32} : ∀ (k a : Nat), alld t (k + 1) a = (alld t k a && isDg (t (a + k)))
  | 0, a => by simp [alld]
  | k + 1, a => by
    rw [alld, alld_s k (a + 1), alld, Bool.and_assoc, show a + 1 + k = a + (k + 1) by omega]
/-- two words of la and lb bytes, from their k-th bytes on: by the first that differs, else by their lengths -/
def bcF (x y : Nat → Int32) (la lb : Nat) : Nat → Nat → Int32
  | 0, _ => nI 0
  | j + 1, k => if k < la ∧ k < lb then (if x k = y k then bcF x y la lb j (k + 1) else if y k ≤ x k then nI 1 else -1) else if la = lb then nI 0 else if lb ≤ la then nI 1 else -1
/-- two words by precedence -/
def cwF (x y : Nat → Int32) (la lb : Nat) : Int32 :=
  if alld x la 0 = alld y lb 0 then (if alld x la 0 = true ∧ ¬ la = lb then (if lb ≤ la then nI 1 else -1) else bcF x y la lb (la + 1) 0) else if alld x la 0 = true then -1 else nI 1
theorem alld_sh {t : Nat → Int32} : ∀ (k a : Nat), alld t k a = alld (fun i => t (a + i)) k 0 := by
  have h : ∀ (k a b : Nat) (u : Nat → Int32), (∀ i, i < k → u (b + i) = t (a + i)) → alld t k a = alld u k b := by
    intro k
    induction k with
    | zero => intros; rfl
    | succ k ih =>
      intro a b u hu
      rw [alld, alld, ih (a + 1) (b + 1) u (fun i hi => by rw [show b + 1 + i = b + (i + 1) by omega, show a + 1 + i = a + (i + 1) by omega]; exact hu (i + 1) (by omega))]
      have := hu 0 (by omega)
      simp at this
      rw [this]
  intro k a
  exact h k a 0 _ (fun i _ => by simp)
set_option maxHeartbeats 1000000 in
theorem l_we {q : Nat} {qa : Nat → Nat} {d c n a v f row p m : Nat} {b : Bool} {r : rA} {Q : rS → (Option zV ⊕ Nat) → Prop} (hrow : row < 900) (hm : m ≤ 24) (hS : r 8 row = nI m) : ∀ (j k : Nat), m ≤ k + j → k < 1000 → Q (c, n, a, b, v, f, r) (.inl (some (zI (nI (spn noPt (rw9 r row) m k))))) → rEv q qa d tb_114 Q 2 [some (zR (some q)), some (zI (nI row)), some (zI (nI p)), some (zI (nI k))] [] (c, n, a, b, v, f, r) := by
  intro j
  induction j with
  | zero =>
    intro k h1 h2 hQ
    rw [spn_end (by omega)] at hQ
    refine r_ild rfl rfl ?_
    refine r_ald rfl rfl ?_
    refine r_get rfl rfl ?_
    refine r_ild rfl rfl ?_
    refine r_ialdN (k0 := 8) rfl rfl (by omega) (by decide) ?_
    refine r_top (y := (nI m)) hS ?_
    refine r_cmpN (by omega) (by omega) rfl (fun h_1 => ?_) (fun h_1 => ?_)
    · replace h_1 : m ≤ k := h_1
      refine r_ild rfl rfl ?_
      refine r_ret rfl ⟨_, rfl⟩ ?_
      exact hQ
    · replace h_1 := Nat.not_le.mp h_1
      omega
  | succ j ih =>
    intro k h1 h2 hQ
    refine r_ild rfl rfl ?_
    refine r_ald rfl rfl ?_
    refine r_get rfl rfl ?_
    refine r_ild rfl rfl ?_
    refine r_ialdN (k0 := 8) rfl rfl (by omega) (by decide) ?_
    refine r_top (y := (nI m)) hS ?_
    refine r_cmpN (by omega) (by omega) rfl (fun h_1 => ?_) (fun h_1 => ?_)
    · replace h_1 : m ≤ k := h_1
      refine r_ild rfl rfl ?_
      refine r_ret rfl ⟨_, rfl⟩ ?_
      rw [spn_end h_1] at hQ
      exact hQ
    · replace h_1 := Nat.not_le.mp h_1
      refine r_ald rfl rfl ?_
      refine r_get rfl rfl ?_
      refine r_ico (x := (nI 24)) rfl rfl ?_
      refine r_ild rfl rfl ?_
      refine r_ibi (v := (nI (24 * row))) rfl (pk_mul _ _) ?_
      refine r_ild rfl rfl ?_
      refine r_ibi (v := (nI (24 * row + k))) rfl (nI_add _ _) ?_
      refine r_ialdN (k0 := 9) rfl rfl (by omega) (by decide) ?_
      refine r_ico (x := (nI 46)) rfl rfl ?_
      refine r_cmp rfl (fun h_2 => ?_) (fun h_2 => ?_)
      · replace h_2 : (r 9 (24 * row + k)) = (nI 46) := h_2
        refine r_ild rfl rfl ?_
        refine r_ret rfl ⟨_, rfl⟩ ?_
        rw [spn_no (by simp [noPt, rw9, h_2])] at hQ
        exact hQ
      · replace h_2 : ¬ ((r 9 (24 * row + k)) = (nI 46)) := h_2
        refine r_inc (x' := (nI (k + 1))) (ls' := [some (zR (some q)), some (zI (nI row)), some (zI (nI p)), some (zI (nI (k + 1)))]) rfl rfl (nI_1 _) rfl ?_
        refine r_go rfl ?_
        rw [spn_yes h_1 (by simp [noPt, rw9, h_2])] at hQ
        exact ih (k + 1) (by omega) (by omega) hQ
set_option maxHeartbeats 1000000 in
theorem c_wordEnd {q : Nat} {qa : Nat → Nat} {d c n a v f : Nat} {b : Bool} {r : rA} {row p m : Nat} (hrow : row < 900) (hm : m ≤ 24) (hS : r 8 row = nI m) (hp : p < 1000) : rFun q qa (d + 1) 114 [zR (some q), zI (nI row), zI (nI p)] (c, n, a, b, v, f, r) (c, n, a, b, v, f, r) (some (zI (nI (spn noPt (rw9 r row) m p)))) := by
  refine rFun.of (T := tb_114) (L := [some (zR (some q)), some (zI (nI row)), some (zI (nI p)), none]) (Nat.le_of_ble_eq_true rfl) rfl rfl ?_
  refine r_ild rfl rfl ?_
  refine r_ist (ls' := [some (zR (some q)), some (zI (nI row)), some (zI (nI p)), some (zI (nI p))]) rfl (Nat.le_of_ble_eq_true rfl) rfl ?_
  exact l_we hrow hm hS m p (by omega) hp ⟨rfl, rfl⟩
set_option maxHeartbeats 1000000 in
theorem l_nw {q : Nat} {qa : Nat → Nat} {d c n a v f row p e : Nat} {b : Bool} {r : rA} {Q : rS → (Option zV ⊕ Nat) → Prop} (hrow : row < 900) (he : e ≤ 24) (hQ : Q (c, n, a, b, v, f, r) (.inl (some (zI (bI (alld (rw9 r row) (e - p) p)))))) : ∀ (j k : Nat) (g : Bool), e ≤ k + j → p ≤ k → k < 1000 → (k ≤ e ∨ k = p) → g = alld (rw9 r row) (k - p) p → rEv q qa (d + 1) tb_115 Q 6 [some (zR (some q)), some (zI (nI row)), some (zI (nI p)), some (zI (nI e)), some (zI (bI (g))), some (zI (nI k))] [] (c, n, a, b, v, f, r) := by
  intro j
  induction j with
  | zero =>
    intro k g h1 h2 h3 h4 hg
    rw [show e - p = k - p by omega, ← hg] at hQ
    refine r_ild rfl rfl ?_
    refine r_ild rfl rfl ?_
    refine r_cmpN (by omega) (by omega) rfl (fun h_1 => ?_) (fun h_1 => ?_)
    · replace h_1 : e ≤ k := h_1
      refine r_ild rfl rfl ?_
      refine r_ret rfl ⟨_, rfl, bI_01 _⟩ ?_
      exact hQ
    · replace h_1 := Nat.not_le.mp h_1
      omega
  | succ j ih =>
    intro k g h1 h2 h3 h4 hg
    refine r_ild rfl rfl ?_
    refine r_ild rfl rfl ?_
    refine r_cmpN (by omega) (by omega) rfl (fun h_1 => ?_) (fun h_1 => ?_)
    · replace h_1 : e ≤ k := h_1
      refine r_ild rfl rfl ?_
      refine r_ret rfl ⟨_, rfl, bI_01 _⟩ ?_
      rw [show e - p = k - p by omega, ← hg] at hQ
      exact hQ
    · replace h_1 := Nat.not_le.mp h_1
      refine r_ild rfl rfl ?_
      refine r_ifB0 rfl (fun h_2 => ?_) (fun h_2 => ?_)
      · refine r_ico (x := (nI 0)) rfl rfl ?_
        refine r_ist (ls' := [some (zR (some q)), some (zI (nI row)), some (zI (nI p)), some (zI (nI e)), some (zI (nI 0)), some (zI (nI k))]) rfl (Nat.le_of_ble_eq_true rfl) rfl ?_
        refine r_inc (x' := (nI (k + 1))) (ls' := [some (zR (some q)), some (zI (nI row)), some (zI (nI p)), some (zI (nI e)), some (zI (nI 0)), some (zI (nI (k + 1)))]) rfl rfl (nI_1 _) rfl ?_
        refine r_go rfl ?_
        refine ih (k + 1) false (by omega) (by omega) (by omega) (by omega) ?_
        rw [show k + 1 - p = (k - p) + 1 by omega, alld_s, show p + (k - p) = k by omega]
        rw [← hg, h_2]; rfl
      · refine r_ald rfl rfl ?_
        refine r_get rfl rfl ?_
        refine r_ico (x := (nI 24)) rfl rfl ?_
        refine r_ild rfl rfl ?_
        refine r_ibi (v := (nI (24 * row))) rfl (pk_mul _ _) ?_
        refine r_ild rfl rfl ?_
        refine r_ibi (v := (nI (24 * row + k))) rfl (nI_add _ _) ?_
        refine r_ialdN (k0 := 9) rfl rfl (by omega) (by decide) ?_
        refine r_call (as := [zI (r 9 (24 * row + k))]) (r := []) (s' := (c, n, a, b, v, f, r)) (v := some (zI (bI (isDg (r 9 (24 * row + k)))))) rfl rfl rfl (Nat.le_of_ble_eq_true rfl) (Or.inl rfl) c_isDigit ?_
        refine r_ifB0 rfl (fun h_3 => ?_) (fun h_3 => ?_)
        · refine r_ico (x := (nI 0)) rfl rfl ?_
          refine r_ist (ls' := [some (zR (some q)), some (zI (nI row)), some (zI (nI p)), some (zI (nI e)), some (zI (nI 0)), some (zI (nI k))]) rfl (Nat.le_of_ble_eq_true rfl) rfl ?_
          refine r_inc (x' := (nI (k + 1))) (ls' := [some (zR (some q)), some (zI (nI row)), some (zI (nI p)), some (zI (nI e)), some (zI (nI 0)), some (zI (nI (k + 1)))]) rfl rfl (nI_1 _) rfl ?_
          refine r_go rfl ?_
          refine ih (k + 1) false (by omega) (by omega) (by omega) (by omega) ?_
          rw [show k + 1 - p = (k - p) + 1 by omega, alld_s, show p + (k - p) = k by omega]
          rw [← hg, h_2]; exact (h_3).symm
        · refine r_ico (x := (nI 1)) rfl rfl ?_
          refine r_go rfl ?_
          refine r_ist (ls' := [some (zR (some q)), some (zI (nI row)), some (zI (nI p)), some (zI (nI e)), some (zI (nI 1)), some (zI (nI k))]) rfl (Nat.le_of_ble_eq_true rfl) rfl ?_
          refine r_inc (x' := (nI (k + 1))) (ls' := [some (zR (some q)), some (zI (nI row)), some (zI (nI p)), some (zI (nI e)), some (zI (nI 1)), some (zI (nI (k + 1)))]) rfl rfl (nI_1 _) rfl ?_
          refine r_go rfl ?_
          refine ih (k + 1) true (by omega) (by omega) (by omega) (by omega) ?_
          rw [show k + 1 - p = (k - p) + 1 by omega, alld_s, show p + (k - p) = k by omega]
          rw [← hg, h_2]; exact (h_3).symm
set_option maxHeartbeats 1000000 in
theorem c_isNumberWord {q : Nat} {qa : Nat → Nat} {d c n a v f : Nat} {b : Bool} {r : rA} {row p e : Nat} (hrow : row < 900) (he : e ≤ 24) (hp : p < 1000) : rFun q qa (d + 2) 115 [zR (some q), zI (nI row), zI (nI p), zI (nI e)] (c, n, a, b, v, f, r) (c, n, a, b, v, f, r) (some (zI (bI (alld (rw9 r row) (e - p) p)))) := by
  refine rFun.of (d := d + 1) (T := tb_115) (L := [some (zR (some q)), some (zI (nI row)), some (zI (nI p)), some (zI (nI e)), none, none]) (Nat.le_of_ble_eq_true rfl) rfl rfl ?_
  refine r_ico (x := (nI 1)) rfl rfl ?_
  refine r_ist (ls' := [some (zR (some q)), some (zI (nI row)), some (zI (nI p)), some (zI (nI e)), some (zI (nI 1)), none]) rfl (Nat.le_of_ble_eq_true rfl) rfl ?_
  refine r_ild rfl rfl ?_
  refine r_ist (ls' := [some (zR (some q)), some (zI (nI row)), some (zI (nI p)), some (zI (nI e)), some (zI (nI 1)), some (zI (nI p))]) rfl (Nat.le_of_ble_eq_true rfl) rfl ?_
  exact l_nw hrow he ⟨rfl, rfl⟩ e p true (by omega) (by omega) (by omega) (by omega) (by simp [alld])
end
section
theorem bI_inj {x y : Bool} : bI x = bI y ↔ x = y := by cases x <;> cases y <;> simp [bI] <;> decide
set_option maxHeartbeats 1000000 in
theorem l_cw {q : Nat} {qa : Nat → Nat} {d c n a v f ra rb p s e t : Nat} {f1 f2 b : Bool} {r : rA} {Q : rS → (Option zV ⊕ Nat) → Prop} (hra : ra < 900) (hrb : rb < 900) (hp : p ≤ e) (hs : s ≤ t) (he : e ≤ 24) (ht : t ≤ 24) : ∀ (j k : Nat) (x10 x11 : Option zV), e - p < k + j → k ≤ e - p → k ≤ 24 → Q (c, n, a, b, v, f, r) (.inl (some (zI (bcF (fun j => rw9 r ra (p + j)) (fun j => rw9 r rb (s + j)) (e - p) (t - s) j k)))) → rEv q qa (d + 2) tb_116 Q 94 [some (zR (some q)), some (zI (nI ra)), some (zI (nI p)), some (zI (nI rb)), some (zI (nI s)), some (zI (nI e)), some (zI (nI t)), some (zI (bI (f1))), some (zI (bI (f2))), some (zI (nI k)), x10, x11] [] (c, n, a, b, v, f, r) := by
  intro j
  induction j with
  | zero =>
    intro k x10 x11 h1 h1b h2 hQ
    omega
  | succ j ih =>
    intro k x10 x11 h1 h1b h2 hQ
    rw [bcF] at hQ
    refine r_ild rfl rfl ?_
    refine r_ild rfl rfl ?_
    refine r_ibi (v := (nI (p + k))) rfl (nI_add _ _) ?_
    refine r_ild rfl rfl ?_
    refine r_cmpN (by omega) (by omega) rfl (fun h_1 => ?_) (fun h_1 => ?_)
    · replace h_1 : e ≤ p + k := h_1
      rw [if_neg (by omega)] at hQ
      refine r_ild rfl rfl ?_
      refine r_ild rfl rfl ?_
      refine r_ibi (v := (nI (e - p))) rfl (pk_sub (by omega)) ?_
      refine r_ild rfl rfl ?_
      refine r_ild rfl rfl ?_
      refine r_ibi (v := (nI (t - s))) rfl (pk_sub (by omega)) ?_
      refine r_cmpN (by omega) (by omega) rfl (fun h_2 => ?_) (fun h_2 => ?_)
      · replace h_2 : ¬ e - p = t - s := h_2
        refine r_ild rfl rfl ?_
        refine r_ild rfl rfl ?_
        refine r_ibi (v := (nI (e - p))) rfl (pk_sub (by omega)) ?_
        refine r_ild rfl rfl ?_
        refine r_ild rfl rfl ?_
        refine r_ibi (v := (nI (t - s))) rfl (pk_sub (by omega)) ?_
        refine r_cmpN (by omega) (by omega) rfl (fun h_3 => ?_) (fun h_3 => ?_)
        · replace h_3 : t - s ≤ e - p := h_3
          refine r_ico (x := (nI 1)) rfl rfl ?_
          refine r_ret rfl ⟨_, rfl⟩ ?_
          rw [if_neg (by omega), if_pos (by omega)] at hQ
          exact hQ
        · replace h_3 := Nat.not_le.mp h_3
          refine r_ico (x := (-1)) rfl rfl ?_
          refine r_go rfl ?_
          refine r_ret rfl ⟨_, rfl⟩ ?_
          rw [if_neg (by omega), if_neg (by omega)] at hQ
          exact hQ
      · replace h_2 : e - p = t - s := Decidable.of_not_not h_2
        refine r_ico (x := (nI 0)) rfl rfl ?_
        refine r_go rfl ?_
        refine r_ret rfl ⟨_, rfl⟩ ?_
        rw [if_pos (by omega)] at hQ
        exact hQ
    · replace h_1 := Nat.not_le.mp h_1
      refine r_ild rfl rfl ?_
      refine r_ild rfl rfl ?_
      refine r_ibi (v := (nI (s + k))) rfl (nI_add _ _) ?_
      refine r_ild rfl rfl ?_
      refine r_cmpN (by omega) (by omega) rfl (fun h_4 => ?_) (fun h_4 => ?_)
      · replace h_4 : t ≤ s + k := h_4
        rw [if_neg (by omega)] at hQ
        refine r_ild rfl rfl ?_
        refine r_ild rfl rfl ?_
        refine r_ibi (v := (nI (e - p))) rfl (pk_sub (by omega)) ?_
        refine r_ild rfl rfl ?_
        refine r_ild rfl rfl ?_
        refine r_ibi (v := (nI (t - s))) rfl (pk_sub (by omega)) ?_
        refine r_cmpN (by omega) (by omega) rfl (fun h_5 => ?_) (fun h_5 => ?_)
        · replace h_5 : ¬ e - p = t - s := h_5
          refine r_ild rfl rfl ?_
          refine r_ild rfl rfl ?_
          refine r_ibi (v := (nI (e - p))) rfl (pk_sub (by omega)) ?_
          refine r_ild rfl rfl ?_
          refine r_ild rfl rfl ?_
          refine r_ibi (v := (nI (t - s))) rfl (pk_sub (by omega)) ?_
          refine r_cmpN (by omega) (by omega) rfl (fun h_6 => ?_) (fun h_6 => ?_)
          · replace h_6 : t - s ≤ e - p := h_6
            refine r_ico (x := (nI 1)) rfl rfl ?_
            refine r_ret rfl ⟨_, rfl⟩ ?_
            rw [if_neg (by omega), if_pos (by omega)] at hQ
            exact hQ
          · replace h_6 := Nat.not_le.mp h_6
            refine r_ico (x := (-1)) rfl rfl ?_
            refine r_go rfl ?_
            refine r_ret rfl ⟨_, rfl⟩ ?_
            rw [if_neg (by omega), if_neg (by omega)] at hQ
            exact hQ
        · replace h_5 : e - p = t - s := Decidable.of_not_not h_5
          refine r_ico (x := (nI 0)) rfl rfl ?_
          refine r_go rfl ?_
          refine r_ret rfl ⟨_, rfl⟩ ?_
          rw [if_pos (by omega)] at hQ
          exact hQ
      · replace h_4 := Nat.not_le.mp h_4
        rw [if_pos ⟨by omega, by omega⟩] at hQ
        refine r_ald rfl rfl ?_
        refine r_get rfl rfl ?_
        refine r_ico (x := (nI 24)) rfl rfl ?_
        refine r_ild rfl rfl ?_
        refine r_ibi (v := (nI (24 * ra))) rfl (pk_mul _ _) ?_
        refine r_ild rfl rfl ?_
        refine r_ibi (v := (nI (24 * ra + p))) rfl (nI_add _ _) ?_
        refine r_ild rfl rfl ?_
        refine r_ibi (v := (nI (24 * ra + p + k))) rfl (nI_add _ _) ?_
        refine r_ialdN (k0 := 9) rfl rfl (by omega) (by decide) ?_
        refine r_ist (ls' := [some (zR (some q)), some (zI (nI ra)), some (zI (nI p)), some (zI (nI rb)), some (zI (nI s)), some (zI (nI e)), some (zI (nI t)), some (zI (bI (f1))), some (zI (bI (f2))), some (zI (nI k)), some (zI (r 9 (24 * ra + p + k))), x11]) rfl (Nat.le_of_ble_eq_true rfl) rfl ?_
        refine r_ald rfl rfl ?_
        refine r_get rfl rfl ?_
        refine r_ico (x := (nI 24)) rfl rfl ?_
        refine r_ild rfl rfl ?_
        refine r_ibi (v := (nI (24 * rb))) rfl (pk_mul _ _) ?_
        refine r_ild rfl rfl ?_
        refine r_ibi (v := (nI (24 * rb + s))) rfl (nI_add _ _) ?_
        refine r_ild rfl rfl ?_
        refine r_ibi (v := (nI (24 * rb + s + k))) rfl (nI_add _ _) ?_
        refine r_ialdN (k0 := 9) rfl rfl (by omega) (by decide) ?_
        refine r_ist (ls' := [some (zR (some q)), some (zI (nI ra)), some (zI (nI p)), some (zI (nI rb)), some (zI (nI s)), some (zI (nI e)), some (zI (nI t)), some (zI (bI (f1))), some (zI (bI (f2))), some (zI (nI k)), some (zI (r 9 (24 * ra + p + k))), some (zI (r 9 (24 * rb + s + k)))]) rfl (Nat.le_of_ble_eq_true rfl) rfl ?_
        refine r_ild rfl rfl ?_
        refine r_ild rfl rfl ?_
        refine r_cmp rfl (fun h_7 => ?_) (fun h_7 => ?_)
        · replace h_7 : (r 9 (24 * ra + p + k)) = (r 9 (24 * rb + s + k)) := h_7
          refine r_inc (x' := (nI (k + 1))) (ls' := [some (zR (some q)), some (zI (nI ra)), some (zI (nI p)), some (zI (nI rb)), some (zI (nI s)), some (zI (nI e)), some (zI (nI t)), some (zI (bI (f1))), some (zI (bI (f2))), some (zI (nI (k + 1))), some (zI (r 9 (24 * ra + p + k))), some (zI (r 9 (24 * rb + s + k)))]) rfl rfl (nI_1 _) rfl ?_
          refine r_go rfl ?_
          rw [if_pos (by show rw9 r ra (p + k) = rw9 r rb (s + k); simp only [rw9]; rw [show 24 * ra + (p + k) = 24 * ra + p + k by omega, show 24 * rb + (s + k) = 24 * rb + s + k by omega]; exact h_7)] at hQ
          exact ih (k + 1) _ _ (by omega) (by omega) (by omega) hQ
        · replace h_7 : ¬ ((r 9 (24 * ra + p + k)) = (r 9 (24 * rb + s + k))) := h_7
          refine r_ild rfl rfl ?_
          refine r_ild rfl rfl ?_
          refine r_cmp rfl (fun h_8 => ?_) (fun h_8 => ?_)
          · replace h_8 : (r 9 (24 * rb + s + k)) ≤ (r 9 (24 * ra + p + k)) := h_8
            refine r_ico (x := (nI 1)) rfl rfl ?_
            refine r_ret rfl ⟨_, rfl⟩ ?_
            rw [if_neg (by show rw9 r ra (p + k) = rw9 r rb (s + k) → False; intro z; apply h_7; simp only [rw9] at z; rw [show 24 * ra + p + k = 24 * ra + (p + k) by omega, show 24 * rb + s + k = 24 * rb + (s + k) by omega]; exact z), if_pos (by show rw9 r rb (s + k) ≤ rw9 r ra (p + k); simp only [rw9]; rw [show 24 * ra + (p + k) = 24 * ra + p + k by omega, show 24 * rb + (s + k) = 24 * rb + s + k by omega]; exact h_8)] at hQ
            exact hQ
          · replace h_8 : ¬ ((r 9 (24 * rb + s + k)) ≤ (r 9 (24 * ra + p + k))) := h_8
            refine r_ico (x := (-1)) rfl rfl ?_
            refine r_go rfl ?_
            refine r_ret rfl ⟨_, rfl⟩ ?_
            rw [if_neg (by show rw9 r ra (p + k) = rw9 r rb (s + k) → False; intro z; apply h_7; simp only [rw9] at z; rw [show 24 * ra + p + k = 24 * ra + (p + k) by omega, show 24 * rb + s + k = 24 * rb + (s + k) by omega]; exact z), if_neg (by show ¬ (rw9 r rb (s + k) ≤ rw9 r ra (p + k)); intro z; apply h_8; simp only [rw9] at z; rw [show 24 * ra + p + k = 24 * ra + (p + k) by omega, show 24 * rb + s + k = 24 * rb + (s + k) by omega]; exact z)] at hQ
            exact hQ
/-- the words of two rows from p and s on -/
def cwR (r : rA) (ra ma p rb mb s : Nat) : Int32 := cwF (fun j => rw9 r ra (p + j)) (fun j => rw9 r rb (s + j)) (spn noPt (rw9 r ra) ma p - p) (spn noPt (rw9 r rb) mb s - s)
set_option maxHeartbeats 2000000 in
theorem c_compareWords {q : Nat} {qa : Nat → Nat} {d c n a v f ra rb ma mb p s : Nat} {b : Bool} {r : rA} (hra : ra < 900) (hrb : rb < 900) (hma : ma ≤ 24) (hmb : mb ≤ 24) (hp : p < 24) (hs : s < 24) (hA : r 8 ra = nI ma) (hB : r 8 rb = nI mb) : rFun q qa (d + 3) 116 [zR (some q), zI (nI ra), zI (nI p), zI (nI rb), zI (nI s)] (c, n, a, b, v, f, r) (c, n, a, b, v, f, r) (some (zI (cwR r ra ma p rb mb s))) := by
  refine rFun.of (d := d + 2) (T := tb_116) (L := [some (zR (some q)), some (zI (nI ra)), some (zI (nI p)), some (zI (nI rb)), some (zI (nI s)), none, none, none, none, none, none, none]) (Nat.le_of_ble_eq_true rfl) rfl rfl ?_
  refine r_ald rfl rfl ?_
  refine r_ild rfl rfl ?_
  refine r_ild rfl rfl ?_
  obtain ⟨e26, he26⟩ : ∃ x, x = spn noPt (rw9 r ra) ma p := ⟨_, rfl⟩
  have le26 : p ≤ e26 ∧ e26 ≤ max ma p := by rw [he26]; exact ⟨spn_ge, spn_lem⟩
  refine r_call (as := [zR (some q), zI (nI ra), zI (nI p)]) (r := []) (s' := (c, n, a, b, v, f, r)) (v := some (zI (nI e26))) rfl rfl rfl (Nat.le_of_ble_eq_true rfl) (Or.inr ⟨rfl, rfl, _, rfl⟩) (by rw [he26]; exact c_wordEnd (by omega) (by omega) hA (by omega)) ?_
  refine r_ist (ls' := [some (zR (some q)), some (zI (nI ra)), some (zI (nI p)), some (zI (nI rb)), some (zI (nI s)), some (zI (nI e26)), none, none, none, none, none, none]) rfl (Nat.le_of_ble_eq_true rfl) rfl ?_
  refine r_ald rfl rfl ?_
  refine r_ild rfl rfl ?_
  refine r_ild rfl rfl ?_
  obtain ⟨e27, he27⟩ : ∃ x, x = spn noPt (rw9 r rb) mb s := ⟨_, rfl⟩
  have le27 : s ≤ e27 ∧ e27 ≤ max mb s := by rw [he27]; exact ⟨spn_ge, spn_lem⟩
  refine r_call (as := [zR (some q), zI (nI rb), zI (nI s)]) (r := []) (s' := (c, n, a, b, v, f, r)) (v := some (zI (nI e27))) rfl rfl rfl (Nat.le_of_ble_eq_true rfl) (Or.inr ⟨rfl, rfl, _, rfl⟩) (by rw [he27]; exact c_wordEnd (by omega) (by omega) hB (by omega)) ?_
  refine r_ist (ls' := [some (zR (some q)), some (zI (nI ra)), some (zI (nI p)), some (zI (nI rb)), some (zI (nI s)), some (zI (nI e26)), some (zI (nI e27)), none, none, none, none, none]) rfl (Nat.le_of_ble_eq_true rfl) rfl ?_
  refine r_ald rfl rfl ?_
  refine r_ild rfl rfl ?_
  refine r_ild rfl rfl ?_
  refine r_ild rfl rfl ?_
  obtain ⟨f28, hf28⟩ : ∃ x, x = alld (rw9 r ra) (e26 - p) p := ⟨_, rfl⟩
  refine r_call (as := [zR (some q), zI (nI ra), zI (nI p), zI (nI e26)]) (r := []) (s' := (c, n, a, b, v, f, r)) (v := some (zI (bI (f28)))) rfl rfl rfl (Nat.le_of_ble_eq_true rfl) (Or.inr ⟨rfl, rfl, _, rfl⟩) (by rw [hf28]; exact c_isNumberWord (by omega) (by omega) (by omega)) ?_
  refine r_ist (ls' := [some (zR (some q)), some (zI (nI ra)), some (zI (nI p)), some (zI (nI rb)), some (zI (nI s)), some (zI (nI e26)), some (zI (nI e27)), some (zI (bI (f28))), none, none, none, none]) rfl (Nat.le_of_ble_eq_true rfl) rfl ?_
  refine r_ald rfl rfl ?_
  refine r_ild rfl rfl ?_
  refine r_ild rfl rfl ?_
  refine r_ild rfl rfl ?_
  obtain ⟨f29, hf29⟩ : ∃ x, x = alld (rw9 r rb) (e27 - s) s := ⟨_, rfl⟩
  refine r_call (as := [zR (some q), zI (nI rb), zI (nI s), zI (nI e27)]) (r := []) (s' := (c, n, a, b, v, f, r)) (v := some (zI (bI (f29)))) rfl rfl rfl (Nat.le_of_ble_eq_true rfl) (Or.inr ⟨rfl, rfl, _, rfl⟩) (by rw [hf29]; exact c_isNumberWord (by omega) (by omega) (by omega)) ?_
  refine r_ist (ls' := [some (zR (some q)), some (zI (nI ra)), some (zI (nI p)), some (zI (nI rb)), some (zI (nI s)), some (zI (nI e26)), some (zI (nI e27)), some (zI (bI (f28))), some (zI (bI (f29))), none, none, none]) rfl (Nat.le_of_ble_eq_true rfl) rfl ?_
  have e0 : cwR r ra ma p rb mb s = (if f28 = f29 then (if f28 = true ∧ ¬ e26 - p = e27 - s then (if e27 - s ≤ e26 - p then nI 1 else -1) else bcF (fun j => rw9 r ra (p + j)) (fun j => rw9 r rb (s + j)) (e26 - p) (e27 - s) (e26 - p + 1) 0) else if f28 = true then -1 else nI 1) := by unfold cwR cwF; rw [← he26, ← he27, ← alld_sh, ← alld_sh, ← hf28, ← hf29]
  rw [e0]
  refine r_ild rfl rfl ?_
  refine r_ild rfl rfl ?_
  refine r_cmp rfl (fun h_1 => ?_) (fun h_1 => ?_)
  · replace h_1 : (bI (f28)) = (bI (f29)) := h_1
    refine r_ild rfl rfl ?_
    refine r_ifB0 rfl (fun h_2 => ?_) (fun h_2 => ?_)
    · refine r_ico (x := (nI 0)) rfl rfl ?_
      refine r_ist (ls' := [some (zR (some q)), some (zI (nI ra)), some (zI (nI p)), some (zI (nI rb)), some (zI (nI s)), some (zI (nI e26)), some (zI (nI e27)), some (zI (bI (f28))), some (zI (bI (f29))), some (zI (nI 0)), none, none]) rfl (Nat.le_of_ble_eq_true rfl) rfl ?_
      rw [if_pos (bI_inj.mp h_1), if_neg (by rw [h_2]; exact fun z => absurd z.1 (by decide))]
      exact l_cw hra hrb (by omega) (by omega) (by omega) (by omega) (e26 - p + 1) 0 _ _ (by omega) (by omega) (by omega) ⟨rfl, rfl⟩
    · refine r_ild rfl rfl ?_
      refine r_ild rfl rfl ?_
      refine r_ibi (v := (nI (e26 - p))) rfl (pk_sub (by omega)) ?_
      refine r_ild rfl rfl ?_
      refine r_ild rfl rfl ?_
      refine r_ibi (v := (nI (e27 - s))) rfl (pk_sub (by omega)) ?_
      refine r_cmpN (by omega) (by omega) rfl (fun h_3 => ?_) (fun h_3 => ?_)
      · replace h_3 : e26 - p = e27 - s := h_3
        refine r_ico (x := (nI 0)) rfl rfl ?_
        refine r_ist (ls' := [some (zR (some q)), some (zI (nI ra)), some (zI (nI p)), some (zI (nI rb)), some (zI (nI s)), some (zI (nI e26)), some (zI (nI e27)), some (zI (bI (f28))), some (zI (bI (f29))), some (zI (nI 0)), none, none]) rfl (Nat.le_of_ble_eq_true rfl) rfl ?_
        rw [if_pos (bI_inj.mp h_1), if_neg (fun z => z.2 h_3)]
        exact l_cw hra hrb (by omega) (by omega) (by omega) (by omega) (e26 - p + 1) 0 _ _ (by omega) (by omega) (by omega) ⟨rfl, rfl⟩
      · replace h_3 : ¬ (e26 - p = e27 - s) := h_3
        refine r_ild rfl rfl ?_
        refine r_ild rfl rfl ?_
        refine r_ibi (v := (nI (e26 - p))) rfl (pk_sub (by omega)) ?_
        refine r_ild rfl rfl ?_
        refine r_ild rfl rfl ?_
        refine r_ibi (v := (nI (e27 - s))) rfl (pk_sub (by omega)) ?_
        refine r_cmpN (by omega) (by omega) rfl (fun h_4 => ?_) (fun h_4 => ?_)
        · replace h_4 : e27 - s ≤ e26 - p := h_4
          refine r_ico (x := (nI 1)) rfl rfl ?_
          refine r_ret rfl ⟨_, rfl⟩ ?_
          rw [if_pos (bI_inj.mp h_1), if_pos ⟨h_2, h_3⟩, if_pos (by omega)]
          exact ⟨rfl, rfl⟩
        · replace h_4 := Nat.not_le.mp h_4
          refine r_ico (x := (-1)) rfl rfl ?_
          refine r_go rfl ?_
          refine r_ret rfl ⟨_, rfl⟩ ?_
          rw [if_pos (bI_inj.mp h_1), if_pos ⟨h_2, h_3⟩, if_neg (by omega)]
          exact ⟨rfl, rfl⟩
  · replace h_1 : ¬ ((bI (f28)) = (bI (f29))) := h_1
    refine r_ild rfl rfl ?_
    refine r_ifB0 rfl (fun h_5 => ?_) (fun h_5 => ?_)
    · refine r_ico (x := (nI 1)) rfl rfl ?_
      refine r_ret rfl ⟨_, rfl⟩ ?_
      rw [if_neg (fun z => h_1 (bI_inj.mpr z)), if_neg (by rw [h_5]; decide)]
      exact ⟨rfl, rfl⟩
    · refine r_ico (x := (-1)) rfl rfl ?_
      refine r_go rfl ?_
      refine r_ret rfl ⟨_, rfl⟩ ?_
      rw [if_neg (fun z => h_1 (bI_inj.mpr z)), if_pos h_5]
      exact ⟨rfl, rfl⟩
end
section
/-- the words of two rows, from p and s on -/
def owF (r : rA) (ra ma rb mb : Nat) : Nat → Nat → Nat → Int32
  | 0, _, _ => nI 0
  | j + 1, p, s => if p < ma ∧ s < mb then (if cwR r ra ma p rb mb s = 0 then owF r ra ma rb mb j (spn noPt (rw9 r ra) ma p + 1) (spn noPt (rw9 r rb) mb s + 1) else cwR r ra ma p rb mb s) else if ma ≤ p then (if mb ≤ s then nI 0 else -1) else nI 1
/-- the precedence of two rows -/
def ordF (r : rA) (ra ma rb mb : Nat) : Int32 :=
  if r 5 ra = r 5 rb ∧ r 6 ra = r 6 rb ∧ r 7 ra = r 7 rb then (if ma = 0 ∨ mb = 0 then (if ma = mb then nI 0 else if ma = 0 then nI 1 else -1) else owF r ra ma rb mb (ma + 1 + 1) 0 0) else oT r ra (r 5 rb) (r 6 rb) (r 7 rb)
set_option maxHeartbeats 2000000 in
theorem l_ord {q : Nat} {qa : Nat → Nat} {d c n a v f ra rb ma mb : Nat} {y : Int32} {b : Bool} {r : rA} {Q : rS → (Option zV ⊕ Nat) → Prop} (hra : ra < 900) (hrb : rb < 900) (hma : ma ≤ 24) (hmb : mb ≤ 24) (hA : r 8 ra = nI ma) (hB : r 8 rb = nI mb) : ∀ (j p s : Nat) (x7 x8 : Option zV), ma + 1 < p + j → p ≤ ma + 1 → s ≤ mb + 1 → Q (c, n, a, b, v, f, r) (.inl (some (zI (owF r ra ma rb mb j p s)))) → rEv q qa (d + 3) tb_117 Q 141 [some (zR (some q)), some (zI (nI ra)), some (zI (nI rb)), some (zI (y)), some (zI (nI 1)), some (zI (nI p)), some (zI (nI s)), x7, x8] [] (c, n, a, b, v, f, r) := by
  intro j
  induction j with
  | zero =>
    intro p s x7 x8 h1 h2 h3 hQ
    omega
  | succ j ih =>
    intro p s x7 x8 h1 h2 h3 hQ
    rw [owF] at hQ
    refine r_ild rfl rfl ?_
    refine r_ald rfl rfl ?_
    refine r_get rfl rfl ?_
    refine r_ild rfl rfl ?_
    refine r_ialdN (k0 := 8) rfl rfl (by omega) (by decide) ?_
    refine r_top (y := (nI ma)) hA ?_
    refine r_cmpN (by omega) (by omega) rfl (fun h_1 => ?_) (fun h_1 => ?_)
    · replace h_1 : ma ≤ p := h_1
      rw [if_neg (by omega)] at hQ
      refine r_ild rfl rfl ?_
      refine r_ald rfl rfl ?_
      refine r_get rfl rfl ?_
      refine r_ild rfl rfl ?_
      refine r_ialdN (k0 := 8) rfl rfl (by omega) (by decide) ?_
      refine r_top (y := (nI ma)) hA ?_
      refine r_cmpN (by omega) (by omega) rfl (fun h_2 => ?_) (fun h_2 => ?_)
      · replace h_2 : p < ma := h_2
        refine r_ico (x := (nI 0)) rfl rfl ?_
        refine r_ist (ls' := [some (zR (some q)), some (zI (nI ra)), some (zI (nI rb)), some (zI (y)), some (zI (nI 1)), some (zI (nI p)), some (zI (nI s)), some (zI (nI 0)), x8]) rfl (Nat.le_of_ble_eq_true rfl) rfl ?_
        refine r_ild rfl rfl ?_
        refine r_ald rfl rfl ?_
        refine r_get rfl rfl ?_
        refine r_ild rfl rfl ?_
        refine r_ialdN (k0 := 8) rfl rfl (by omega) (by decide) ?_
        refine r_top (y := (nI mb)) hB ?_
        refine r_cmpN (by omega) (by omega) rfl (fun h_3 => ?_) (fun h_3 => ?_)
        · replace h_3 : s < mb := h_3
          refine r_ico (x := (nI 0)) rfl rfl ?_
          refine r_ist (ls' := [some (zR (some q)), some (zI (nI ra)), some (zI (nI rb)), some (zI (y)), some (zI (nI 1)), some (zI (nI p)), some (zI (nI s)), some (zI (nI 0)), some (zI (nI 0))]) rfl (Nat.le_of_ble_eq_true rfl) rfl ?_
          refine r_ild rfl rfl ?_
          refine r_ild rfl rfl ?_
          refine r_cmpN (by omega) (by omega) rfl (fun h_4 => ?_) (fun h_4 => ?_)
          · replace h_4 : ¬ 0 = 0 := h_4
            omega
          · replace h_4 : 0 = 0 := Decidable.of_not_not h_4
            refine r_ico (x := (nI 0)) rfl rfl ?_
            refine r_go rfl ?_
            refine r_ret rfl ⟨_, rfl⟩ ?_
            first | (rw [if_pos (by omega), if_pos (by omega)] at hQ; exact hQ) | omega
        · replace h_3 := Nat.not_lt.mp h_3
          refine r_ico (x := (nI 1)) rfl rfl ?_
          refine r_go rfl ?_
          refine r_ist (ls' := [some (zR (some q)), some (zI (nI ra)), some (zI (nI rb)), some (zI (y)), some (zI (nI 1)), some (zI (nI p)), some (zI (nI s)), some (zI (nI 0)), some (zI (nI 1))]) rfl (Nat.le_of_ble_eq_true rfl) rfl ?_
          refine r_ild rfl rfl ?_
          refine r_ild rfl rfl ?_
          refine r_cmpN (by omega) (by omega) rfl (fun h_5 => ?_) (fun h_5 => ?_)
          · replace h_5 : ¬ 0 = 1 := h_5
            refine r_ild rfl rfl ?_
            refine r_ifN (by omega) rfl (fun h_6 => ?_) (fun h_6 => ?_)
            · replace h_6 : 0 = 0 := h_6
              refine r_ico (x := (nI 1)) rfl rfl ?_
              refine r_ret rfl ⟨_, rfl⟩ ?_
              first | (rw [if_neg (by omega)] at hQ; exact hQ) | omega
            · replace h_6 : ¬ (0 = 0) := h_6
              omega
          · replace h_5 : 0 = 1 := Decidable.of_not_not h_5
            omega
      · replace h_2 := Nat.not_lt.mp h_2
        refine r_ico (x := (nI 1)) rfl rfl ?_
        refine r_go rfl ?_
        refine r_ist (ls' := [some (zR (some q)), some (zI (nI ra)), some (zI (nI rb)), some (zI (y)), some (zI (nI 1)), some (zI (nI p)), some (zI (nI s)), some (zI (nI 1)), x8]) rfl (Nat.le_of_ble_eq_true rfl) rfl ?_
        refine r_ild rfl rfl ?_
        refine r_ald rfl rfl ?_
        refine r_get rfl rfl ?_
        refine r_ild rfl rfl ?_
        refine r_ialdN (k0 := 8) rfl rfl (by omega) (by decide) ?_
        refine r_top (y := (nI mb)) hB ?_
        refine r_cmpN (by omega) (by omega) rfl (fun h_7 => ?_) (fun h_7 => ?_)
        · replace h_7 : s < mb := h_7
          refine r_ico (x := (nI 0)) rfl rfl ?_
          refine r_ist (ls' := [some (zR (some q)), some (zI (nI ra)), some (zI (nI rb)), some (zI (y)), some (zI (nI 1)), some (zI (nI p)), some (zI (nI s)), some (zI (nI 1)), some (zI (nI 0))]) rfl (Nat.le_of_ble_eq_true rfl) rfl ?_
          refine r_ild rfl rfl ?_
          refine r_ild rfl rfl ?_
          refine r_cmpN (by omega) (by omega) rfl (fun h_8 => ?_) (fun h_8 => ?_)
          · replace h_8 : ¬ 1 = 0 := h_8
            refine r_ild rfl rfl ?_
            refine r_ifN (by omega) rfl (fun h_9 => ?_) (fun h_9 => ?_)
            · replace h_9 : 1 = 0 := h_9
              omega
            · replace h_9 : ¬ (1 = 0) := h_9
              refine r_ico (x := (-1)) rfl rfl ?_
              refine r_go rfl ?_
              refine r_ret rfl ⟨_, rfl⟩ ?_
              first | (rw [if_pos (by omega), if_neg (by omega)] at hQ; exact hQ) | omega
          · replace h_8 : 1 = 0 := Decidable.of_not_not h_8
            omega
        · replace h_7 := Nat.not_lt.mp h_7
          refine r_ico (x := (nI 1)) rfl rfl ?_
          refine r_go rfl ?_
          refine r_ist (ls' := [some (zR (some q)), some (zI (nI ra)), some (zI (nI rb)), some (zI (y)), some (zI (nI 1)), some (zI (nI p)), some (zI (nI s)), some (zI (nI 1)), some (zI (nI 1))]) rfl (Nat.le_of_ble_eq_true rfl) rfl ?_
          refine r_ild rfl rfl ?_
          refine r_ild rfl rfl ?_
          refine r_cmpN (by omega) (by omega) rfl (fun h_10 => ?_) (fun h_10 => ?_)
          · replace h_10 : ¬ 1 = 1 := h_10
            omega
          · replace h_10 : 1 = 1 := Decidable.of_not_not h_10
            refine r_ico (x := (nI 0)) rfl rfl ?_
            refine r_go rfl ?_
            refine r_ret rfl ⟨_, rfl⟩ ?_
            first | (rw [if_pos (by omega), if_pos (by omega)] at hQ; exact hQ) | omega
    · replace h_1 := Nat.not_le.mp h_1
      refine r_ild rfl rfl ?_
      refine r_ald rfl rfl ?_
      refine r_get rfl rfl ?_
      refine r_ild rfl rfl ?_
      refine r_ialdN (k0 := 8) rfl rfl (by omega) (by decide) ?_
      refine r_top (y := (nI mb)) hB ?_
      refine r_cmpN (by omega) (by omega) rfl (fun h_11 => ?_) (fun h_11 => ?_)
      · replace h_11 : mb ≤ s := h_11
        rw [if_neg (by omega)] at hQ
        refine r_ild rfl rfl ?_
        refine r_ald rfl rfl ?_
        refine r_get rfl rfl ?_
        refine r_ild rfl rfl ?_
        refine r_ialdN (k0 := 8) rfl rfl (by omega) (by decide) ?_
        refine r_top (y := (nI ma)) hA ?_
        refine r_cmpN (by omega) (by omega) rfl (fun h_12 => ?_) (fun h_12 => ?_)
        · replace h_12 : p < ma := h_12
          refine r_ico (x := (nI 0)) rfl rfl ?_
          refine r_ist (ls' := [some (zR (some q)), some (zI (nI ra)), some (zI (nI rb)), some (zI (y)), some (zI (nI 1)), some (zI (nI p)), some (zI (nI s)), some (zI (nI 0)), x8]) rfl (Nat.le_of_ble_eq_true rfl) rfl ?_
          refine r_ild rfl rfl ?_
          refine r_ald rfl rfl ?_
          refine r_get rfl rfl ?_
          refine r_ild rfl rfl ?_
          refine r_ialdN (k0 := 8) rfl rfl (by omega) (by decide) ?_
          refine r_top (y := (nI mb)) hB ?_
          refine r_cmpN (by omega) (by omega) rfl (fun h_13 => ?_) (fun h_13 => ?_)
          · replace h_13 : s < mb := h_13
            refine r_ico (x := (nI 0)) rfl rfl ?_
            refine r_ist (ls' := [some (zR (some q)), some (zI (nI ra)), some (zI (nI rb)), some (zI (y)), some (zI (nI 1)), some (zI (nI p)), some (zI (nI s)), some (zI (nI 0)), some (zI (nI 0))]) rfl (Nat.le_of_ble_eq_true rfl) rfl ?_
            refine r_ild rfl rfl ?_
            refine r_ild rfl rfl ?_
            refine r_cmpN (by omega) (by omega) rfl (fun h_14 => ?_) (fun h_14 => ?_)
            · replace h_14 : ¬ 0 = 0 := h_14
              omega
            · replace h_14 : 0 = 0 := Decidable.of_not_not h_14
              refine r_ico (x := (nI 0)) rfl rfl ?_
              refine r_go rfl ?_
              refine r_ret rfl ⟨_, rfl⟩ ?_
              first | (rw [if_pos (by omega), if_pos (by omega)] at hQ; exact hQ) | omega
          · replace h_13 := Nat.not_lt.mp h_13
            refine r_ico (x := (nI 1)) rfl rfl ?_
            refine r_go rfl ?_
            refine r_ist (ls' := [some (zR (some q)), some (zI (nI ra)), some (zI (nI rb)), some (zI (y)), some (zI (nI 1)), some (zI (nI p)), some (zI (nI s)), some (zI (nI 0)), some (zI (nI 1))]) rfl (Nat.le_of_ble_eq_true rfl) rfl ?_
            refine r_ild rfl rfl ?_
            refine r_ild rfl rfl ?_
            refine r_cmpN (by omega) (by omega) rfl (fun h_15 => ?_) (fun h_15 => ?_)
            · replace h_15 : ¬ 0 = 1 := h_15
              refine r_ild rfl rfl ?_
              refine r_ifN (by omega) rfl (fun h_16 => ?_) (fun h_16 => ?_)
              · replace h_16 : 0 = 0 := h_16
                refine r_ico (x := (nI 1)) rfl rfl ?_
                refine r_ret rfl ⟨_, rfl⟩ ?_
                first | (rw [if_neg (by omega)] at hQ; exact hQ) | omega
              · replace h_16 : ¬ (0 = 0) := h_16
                omega
            · replace h_15 : 0 = 1 := Decidable.of_not_not h_15
              omega
        · replace h_12 := Nat.not_lt.mp h_12
          refine r_ico (x := (nI 1)) rfl rfl ?_
          refine r_go rfl ?_
          refine r_ist (ls' := [some (zR (some q)), some (zI (nI ra)), some (zI (nI rb)), some (zI (y)), some (zI (nI 1)), some (zI (nI p)), some (zI (nI s)), some (zI (nI 1)), x8]) rfl (Nat.le_of_ble_eq_true rfl) rfl ?_
          refine r_ild rfl rfl ?_
          refine r_ald rfl rfl ?_
          refine r_get rfl rfl ?_
          refine r_ild rfl rfl ?_
          refine r_ialdN (k0 := 8) rfl rfl (by omega) (by decide) ?_
          refine r_top (y := (nI mb)) hB ?_
          refine r_cmpN (by omega) (by omega) rfl (fun h_17 => ?_) (fun h_17 => ?_)
          · replace h_17 : s < mb := h_17
            refine r_ico (x := (nI 0)) rfl rfl ?_
            refine r_ist (ls' := [some (zR (some q)), some (zI (nI ra)), some (zI (nI rb)), some (zI (y)), some (zI (nI 1)), some (zI (nI p)), some (zI (nI s)), some (zI (nI 1)), some (zI (nI 0))]) rfl (Nat.le_of_ble_eq_true rfl) rfl ?_
            refine r_ild rfl rfl ?_
            refine r_ild rfl rfl ?_
            refine r_cmpN (by omega) (by omega) rfl (fun h_18 => ?_) (fun h_18 => ?_)
            · replace h_18 : ¬ 1 = 0 := h_18
              refine r_ild rfl rfl ?_
              refine r_ifN (by omega) rfl (fun h_19 => ?_) (fun h_19 => ?_)
              · replace h_19 : 1 = 0 := h_19
                omega
              · replace h_19 : ¬ (1 = 0) := h_19
                refine r_ico (x := (-1)) rfl rfl ?_
                refine r_go rfl ?_
                refine r_ret rfl ⟨_, rfl⟩ ?_
                first | (rw [if_pos (by omega), if_neg (by omega)] at hQ; exact hQ) | omega
            · replace h_18 : 1 = 0 := Decidable.of_not_not h_18
              omega
          · replace h_17 := Nat.not_lt.mp h_17
            refine r_ico (x := (nI 1)) rfl rfl ?_
            refine r_go rfl ?_
            refine r_ist (ls' := [some (zR (some q)), some (zI (nI ra)), some (zI (nI rb)), some (zI (y)), some (zI (nI 1)), some (zI (nI p)), some (zI (nI s)), some (zI (nI 1)), some (zI (nI 1))]) rfl (Nat.le_of_ble_eq_true rfl) rfl ?_
            refine r_ild rfl rfl ?_
            refine r_ild rfl rfl ?_
            refine r_cmpN (by omega) (by omega) rfl (fun h_20 => ?_) (fun h_20 => ?_)
            · replace h_20 : ¬ 1 = 1 := h_20
              omega
            · replace h_20 : 1 = 1 := Decidable.of_not_not h_20
              refine r_ico (x := (nI 0)) rfl rfl ?_
              refine r_go rfl ?_
              refine r_ret rfl ⟨_, rfl⟩ ?_
              first | (rw [if_pos (by omega), if_pos (by omega)] at hQ; exact hQ) | omega
      · replace h_11 := Nat.not_le.mp h_11
        rw [if_pos ⟨by omega, by omega⟩] at hQ
        refine r_ald rfl rfl ?_
        refine r_ild rfl rfl ?_
        refine r_ild rfl rfl ?_
        refine r_ild rfl rfl ?_
        refine r_ild rfl rfl ?_
        refine r_call (as := [zR (some q), zI (nI ra), zI (nI p), zI (nI rb), zI (nI s)]) (r := []) (s' := (c, n, a, b, v, f, r)) (v := some (zI (cwR r ra ma p rb mb s))) rfl rfl rfl (Nat.le_of_ble_eq_true rfl) (Or.inr ⟨rfl, rfl, _, rfl⟩) (c_compareWords (by omega) (by omega) (by omega) (by omega) (by omega) (by omega) hA hB) ?_
        refine r_ist (ls' := [some (zR (some q)), some (zI (nI ra)), some (zI (nI rb)), some (zI (y)), some (zI (nI 1)), some (zI (nI p)), some (zI (nI s)), some (zI (cwR r ra ma p rb mb s)), x8]) rfl (Nat.le_of_ble_eq_true rfl) rfl ?_
        refine r_ild rfl rfl ?_
        refine r_if rfl (fun h_21 => ?_) (fun h_21 => ?_)
        · replace h_21 : (cwR r ra ma p rb mb s) = 0 := h_21
          refine r_ald rfl rfl ?_
          refine r_ild rfl rfl ?_
          refine r_ild rfl rfl ?_
          obtain ⟨e30, he30⟩ : ∃ x, x = spn noPt (rw9 r ra) ma p := ⟨_, rfl⟩
          have le30 : p ≤ e30 ∧ e30 ≤ max ma p := by rw [he30]; exact ⟨spn_ge, spn_lem⟩
          refine r_call (as := [zR (some q), zI (nI ra), zI (nI p)]) (r := []) (s' := (c, n, a, b, v, f, r)) (v := some (zI (nI e30))) rfl rfl rfl (Nat.le_of_ble_eq_true rfl) (Or.inr ⟨rfl, rfl, _, rfl⟩) (by rw [he30]; exact c_wordEnd (by omega) (by omega) hA (by omega)) ?_
          refine r_ico (x := (nI 1)) rfl rfl ?_
          refine r_ibi (v := (nI (e30 + 1))) rfl (nI_add _ _) ?_
          refine r_ist (ls' := [some (zR (some q)), some (zI (nI ra)), some (zI (nI rb)), some (zI (y)), some (zI (nI 1)), some (zI (nI (e30 + 1))), some (zI (nI s)), some (zI (cwR r ra ma p rb mb s)), x8]) rfl (Nat.le_of_ble_eq_true rfl) rfl ?_
          refine r_ald rfl rfl ?_
          refine r_ild rfl rfl ?_
          refine r_ild rfl rfl ?_
          obtain ⟨e31, he31⟩ : ∃ x, x = spn noPt (rw9 r rb) mb s := ⟨_, rfl⟩
          have le31 : s ≤ e31 ∧ e31 ≤ max mb s := by rw [he31]; exact ⟨spn_ge, spn_lem⟩
          refine r_call (as := [zR (some q), zI (nI rb), zI (nI s)]) (r := []) (s' := (c, n, a, b, v, f, r)) (v := some (zI (nI e31))) rfl rfl rfl (Nat.le_of_ble_eq_true rfl) (Or.inr ⟨rfl, rfl, _, rfl⟩) (by rw [he31]; exact c_wordEnd (by omega) (by omega) hB (by omega)) ?_
          refine r_ico (x := (nI 1)) rfl rfl ?_
          refine r_ibi (v := (nI (e31 + 1))) rfl (nI_add _ _) ?_
          refine r_ist (ls' := [some (zR (some q)), some (zI (nI ra)), some (zI (nI rb)), some (zI (y)), some (zI (nI 1)), some (zI (nI (e30 + 1))), some (zI (nI (e31 + 1))), some (zI (cwR r ra ma p rb mb s)), x8]) rfl (Nat.le_of_ble_eq_true rfl) rfl ?_
          refine r_go rfl ?_
          rw [if_pos h_21, ← he30, ← he31] at hQ
          exact ih _ _ _ _ (by omega) (by omega) (by omega) hQ
        · replace h_21 : ¬ ((cwR r ra ma p rb mb s) = 0) := h_21
          refine r_ild rfl rfl ?_
          refine r_ret rfl ⟨_, rfl⟩ ?_
          rw [if_neg h_21] at hQ
          exact hQ
set_option maxHeartbeats 2000000 in
theorem c_order {q : Nat} {qa : Nat → Nat} {d c n a v f ra rb ma mb : Nat} {b : Bool} {r : rA} (hra : ra < 900) (hrb : rb < 900) (hma : ma ≤ 24) (hmb : mb ≤ 24) (hA : r 8 ra = nI ma) (hB : r 8 rb = nI mb) : rFun q qa (d + 4) 117 [zR (some q), zI (nI ra), zI (nI rb)] (c, n, a, b, v, f, r) (c, n, a, b, v, f, r) (some (zI (ordF r ra ma rb mb))) := by
  refine rFun.of (d := d + 3) (T := tb_117) (L := [some (zR (some q)), some (zI (nI ra)), some (zI (nI rb)), none, none, none, none, none, none]) (Nat.le_of_ble_eq_true rfl) rfl rfl ?_
  refine r_ald rfl rfl ?_
  refine r_ild rfl rfl ?_
  refine r_ald rfl rfl ?_
  refine r_get rfl rfl ?_
  refine r_ild rfl rfl ?_
  refine r_ialdN (k0 := 5) rfl rfl (by omega) (by decide) ?_
  refine r_ald rfl rfl ?_
  refine r_get rfl rfl ?_
  refine r_ild rfl rfl ?_
  refine r_ialdN (k0 := 6) rfl rfl (by omega) (by decide) ?_
  refine r_ald rfl rfl ?_
  refine r_get rfl rfl ?_
  refine r_ild rfl rfl ?_
  refine r_ialdN (k0 := 7) rfl rfl (by omega) (by decide) ?_
  refine r_call (as := [zR (some q), zI (nI ra), zI (r 5 rb), zI (r 6 rb), zI (r 7 rb)]) (r := []) (s' := (c, n, a, b, v, f, r)) (v := some (zI (oT r ra (r 5 rb) (r 6 rb) (r 7 rb)))) rfl rfl rfl (Nat.le_of_ble_eq_true rfl) (Or.inr ⟨rfl, rfl, _, rfl⟩) (c_orderTo (by omega)) ?_
  refine r_ist (ls' := [some (zR (some q)), some (zI (nI ra)), some (zI (nI rb)), some (zI (oT r ra (r 5 rb) (r 6 rb) (r 7 rb))), none, none, none, none, none]) rfl (Nat.le_of_ble_eq_true rfl) rfl ?_
  refine r_ald rfl rfl ?_
  refine r_get rfl rfl ?_
  refine r_ild rfl rfl ?_
  refine r_ialdN (k0 := 5) rfl rfl (by omega) (by decide) ?_
  refine r_ald rfl rfl ?_
  refine r_get rfl rfl ?_
  refine r_ild rfl rfl ?_
  refine r_ialdN (k0 := 5) rfl rfl (by omega) (by decide) ?_
  refine r_cmp rfl (fun h_1 => ?_) (fun h_1 => ?_)
  · replace h_1 : ¬ (r 5 ra) = (r 5 rb) := h_1
    refine r_ico (x := (nI 0)) rfl rfl ?_
    refine r_ist (ls' := [some (zR (some q)), some (zI (nI ra)), some (zI (nI rb)), some (zI (oT r ra (r 5 rb) (r 6 rb) (r 7 rb))), some (zI (nI 0)), none, none, none, none]) rfl (Nat.le_of_ble_eq_true rfl) rfl ?_
    refine r_ild rfl rfl ?_
    refine r_ifN (by omega) rfl (fun h_2 => ?_) (fun h_2 => ?_)
    · replace h_2 : ¬ 0 = 0 := h_2
      omega
    · replace h_2 : 0 = 0 := Decidable.of_not_not h_2
      refine r_ild rfl rfl ?_
      refine r_ret rfl ⟨_, rfl⟩ ?_
      rw [ordF, if_neg (fun z => h_1 z.1)]
      exact ⟨rfl, rfl⟩
  · replace h_1 : (r 5 ra) = (r 5 rb) := Decidable.of_not_not h_1
    refine r_ald rfl rfl ?_
    refine r_get rfl rfl ?_
    refine r_ild rfl rfl ?_
    refine r_ialdN (k0 := 6) rfl rfl (by omega) (by decide) ?_
    refine r_ald rfl rfl ?_
    refine r_get rfl rfl ?_
    refine r_ild rfl rfl ?_
    refine r_ialdN (k0 := 6) rfl rfl (by omega) (by decide) ?_
    refine r_cmp rfl (fun h_3 => ?_) (fun h_3 => ?_)
    · replace h_3 : ¬ (r 6 ra) = (r 6 rb) := h_3
      refine r_ico (x := (nI 0)) rfl rfl ?_
      refine r_ist (ls' := [some (zR (some q)), some (zI (nI ra)), some (zI (nI rb)), some (zI (oT r ra (r 5 rb) (r 6 rb) (r 7 rb))), some (zI (nI 0)), none, none, none, none]) rfl (Nat.le_of_ble_eq_true rfl) rfl ?_
      refine r_ild rfl rfl ?_
      refine r_ifN (by omega) rfl (fun h_4 => ?_) (fun h_4 => ?_)
      · replace h_4 : ¬ 0 = 0 := h_4
        omega
      · replace h_4 : 0 = 0 := Decidable.of_not_not h_4
        refine r_ild rfl rfl ?_
        refine r_ret rfl ⟨_, rfl⟩ ?_
        rw [ordF, if_neg (fun z => h_3 z.2.1)]
        exact ⟨rfl, rfl⟩
    · replace h_3 : (r 6 ra) = (r 6 rb) := Decidable.of_not_not h_3
      refine r_ald rfl rfl ?_
      refine r_get rfl rfl ?_
      refine r_ild rfl rfl ?_
      refine r_ialdN (k0 := 7) rfl rfl (by omega) (by decide) ?_
      refine r_ald rfl rfl ?_
      refine r_get rfl rfl ?_
      refine r_ild rfl rfl ?_
      refine r_ialdN (k0 := 7) rfl rfl (by omega) (by decide) ?_
      refine r_cmp rfl (fun h_5 => ?_) (fun h_5 => ?_)
      · replace h_5 : ¬ (r 7 ra) = (r 7 rb) := h_5
        refine r_ico (x := (nI 0)) rfl rfl ?_
        refine r_ist (ls' := [some (zR (some q)), some (zI (nI ra)), some (zI (nI rb)), some (zI (oT r ra (r 5 rb) (r 6 rb) (r 7 rb))), some (zI (nI 0)), none, none, none, none]) rfl (Nat.le_of_ble_eq_true rfl) rfl ?_
        refine r_ild rfl rfl ?_
        refine r_ifN (by omega) rfl (fun h_6 => ?_) (fun h_6 => ?_)
        · replace h_6 : ¬ 0 = 0 := h_6
          omega
        · replace h_6 : 0 = 0 := Decidable.of_not_not h_6
          refine r_ild rfl rfl ?_
          refine r_ret rfl ⟨_, rfl⟩ ?_
          rw [ordF, if_neg (fun z => h_5 z.2.2)]
          exact ⟨rfl, rfl⟩
      · replace h_5 : (r 7 ra) = (r 7 rb) := Decidable.of_not_not h_5
        refine r_ico (x := (nI 1)) rfl rfl ?_
        refine r_go rfl ?_
        refine r_ist (ls' := [some (zR (some q)), some (zI (nI ra)), some (zI (nI rb)), some (zI (oT r ra (r 5 rb) (r 6 rb) (r 7 rb))), some (zI (nI 1)), none, none, none, none]) rfl (Nat.le_of_ble_eq_true rfl) rfl ?_
        refine r_ild rfl rfl ?_
        refine r_ifN (by omega) rfl (fun h_7 => ?_) (fun h_7 => ?_)
        · replace h_7 : ¬ 1 = 0 := h_7
          rw [ordF, if_pos ⟨h_1, h_3, h_5⟩]
          refine r_ald rfl rfl ?_
          refine r_get rfl rfl ?_
          refine r_ild rfl rfl ?_
          refine r_ialdN (k0 := 8) rfl rfl (by omega) (by decide) ?_
          refine r_top (y := (nI ma)) hA ?_
          refine r_ifN (by omega) rfl (fun h_8 => ?_) (fun h_8 => ?_)
          · replace h_8 : ma = 0 := h_8
            refine r_ald rfl rfl ?_
            refine r_get rfl rfl ?_
            refine r_ild rfl rfl ?_
            refine r_ialdN (k0 := 8) rfl rfl (by omega) (by decide) ?_
            refine r_top (y := (nI ma)) hA ?_
            refine r_ald rfl rfl ?_
            refine r_get rfl rfl ?_
            refine r_ild rfl rfl ?_
            refine r_ialdN (k0 := 8) rfl rfl (by omega) (by decide) ?_
            refine r_top (y := (nI mb)) hB ?_
            refine r_cmpN (by omega) (by omega) rfl (fun h_9 => ?_) (fun h_9 => ?_)
            · replace h_9 : ¬ ma = mb := h_9
              refine r_ald rfl rfl ?_
              refine r_get rfl rfl ?_
              refine r_ild rfl rfl ?_
              refine r_ialdN (k0 := 8) rfl rfl (by omega) (by decide) ?_
              refine r_top (y := (nI ma)) hA ?_
              refine r_ifN (by omega) rfl (fun h_10 => ?_) (fun h_10 => ?_)
              · replace h_10 : ¬ ma = 0 := h_10
                refine r_ico (x := (-1)) rfl rfl ?_
                refine r_ret rfl ⟨_, rfl⟩ ?_
                rw [if_pos (by omega), if_neg (by omega), if_neg (by omega)]
                exact ⟨rfl, rfl⟩
              · replace h_10 : ma = 0 := Decidable.of_not_not h_10
                refine r_ico (x := (nI 1)) rfl rfl ?_
                refine r_go rfl ?_
                refine r_ret rfl ⟨_, rfl⟩ ?_
                rw [if_pos (by omega), if_neg (by omega), if_pos (by omega)]
                exact ⟨rfl, rfl⟩
            · replace h_9 : ma = mb := Decidable.of_not_not h_9
              refine r_ico (x := (nI 0)) rfl rfl ?_
              refine r_go rfl ?_
              refine r_ret rfl ⟨_, rfl⟩ ?_
              rw [if_pos (by omega), if_pos (by omega)]
              exact ⟨rfl, rfl⟩
          · replace h_8 : ¬ (ma = 0) := h_8
            refine r_ald rfl rfl ?_
            refine r_get rfl rfl ?_
            refine r_ild rfl rfl ?_
            refine r_ialdN (k0 := 8) rfl rfl (by omega) (by decide) ?_
            refine r_top (y := (nI mb)) hB ?_
            refine r_ifN (by omega) rfl (fun h_11 => ?_) (fun h_11 => ?_)
            · replace h_11 : ¬ mb = 0 := h_11
              refine r_ico (x := (nI 0)) rfl rfl ?_
              refine r_ist (ls' := [some (zR (some q)), some (zI (nI ra)), some (zI (nI rb)), some (zI (oT r ra (r 5 rb) (r 6 rb) (r 7 rb))), some (zI (nI 1)), some (zI (nI 0)), none, none, none]) rfl (Nat.le_of_ble_eq_true rfl) rfl ?_
              refine r_ico (x := (nI 0)) rfl rfl ?_
              refine r_ist (ls' := [some (zR (some q)), some (zI (nI ra)), some (zI (nI rb)), some (zI (oT r ra (r 5 rb) (r 6 rb) (r 7 rb))), some (zI (nI 1)), some (zI (nI 0)), some (zI (nI 0)), none, none]) rfl (Nat.le_of_ble_eq_true rfl) rfl ?_
              rw [if_neg (by omega)]
              exact l_ord hra hrb hma hmb hA hB (ma + 1 + 1) 0 0 _ _ (by omega) (by omega) (by omega) ⟨rfl, rfl⟩
            · replace h_11 : mb = 0 := Decidable.of_not_not h_11
              refine r_ald rfl rfl ?_
              refine r_get rfl rfl ?_
              refine r_ild rfl rfl ?_
              refine r_ialdN (k0 := 8) rfl rfl (by omega) (by decide) ?_
              refine r_top (y := (nI ma)) hA ?_
              refine r_ald rfl rfl ?_
              refine r_get rfl rfl ?_
              refine r_ild rfl rfl ?_
              refine r_ialdN (k0 := 8) rfl rfl (by omega) (by decide) ?_
              refine r_top (y := (nI mb)) hB ?_
              refine r_cmpN (by omega) (by omega) rfl (fun h_12 => ?_) (fun h_12 => ?_)
              · replace h_12 : ¬ ma = mb := h_12
                refine r_ald rfl rfl ?_
                refine r_get rfl rfl ?_
                refine r_ild rfl rfl ?_
                refine r_ialdN (k0 := 8) rfl rfl (by omega) (by decide) ?_
                refine r_top (y := (nI ma)) hA ?_
                refine r_ifN (by omega) rfl (fun h_13 => ?_) (fun h_13 => ?_)
                · replace h_13 : ¬ ma = 0 := h_13
                  refine r_ico (x := (-1)) rfl rfl ?_
                  refine r_ret rfl ⟨_, rfl⟩ ?_
                  rw [if_pos (by omega), if_neg (by omega), if_neg (by omega)]
                  exact ⟨rfl, rfl⟩
                · replace h_13 : ma = 0 := Decidable.of_not_not h_13
                  refine r_ico (x := (nI 1)) rfl rfl ?_
                  refine r_go rfl ?_
                  refine r_ret rfl ⟨_, rfl⟩ ?_
                  rw [if_pos (by omega), if_neg (by omega), if_pos (by omega)]
                  exact ⟨rfl, rfl⟩
              · replace h_12 : ma = mb := Decidable.of_not_not h_12
                refine r_ico (x := (nI 0)) rfl rfl ?_
                refine r_go rfl ?_
                refine r_ret rfl ⟨_, rfl⟩ ?_
                rw [if_pos (by omega), if_pos (by omega)]
                exact ⟨rfl, rfl⟩
        · replace h_7 : 1 = 0 := Decidable.of_not_not h_7
          omega
end
section
/-- is a version below the first one that a comparator's numbers leave out upward? -/
def bnF (r : rA) (i k : Nat) (ct : Bool) : Bool :=
  if r 11 k = nI 1 ∨ (ct = true ∧ ¬ r 5 k ≤ 0) then !decide (0 ≤ oT r i (r 5 k + nI 1) (nI 0) (nI 0))
  else if ct = true ∧ r 11 k = nI 3 ∧ r 6 k = 0 then !decide (0 ≤ oT r i (nI 0) (nI 0) (r 7 k + nI 1)) else !decide (0 ≤ oT r i (r 5 k) (r 6 k + nI 1) (nI 0))
/-- does version i meet comparator k, whose sign is g? -/
def metF (r : rA) (g k mk i mi : Nat) : Bool := match g with
  | 0 => true
  | 1 => !decide (ordF r i mi k mk < 0) && bnF r i k true
  | 2 => !decide (ordF r i mi k mk < 0) && bnF r i k false
  | 3 => if r 11 k = nI 3 then decide (ordF r i mi k mk = 0) else !decide (ordF r i mi k mk < 0) && bnF r i k false
  | 4 => if r 11 k = nI 3 then !decide (ordF r i mi k mk ≤ 0) else !bnF r i k false
  | 5 => !decide (ordF r i mi k mk < 0)
  | 6 => !decide (0 ≤ ordF r i mi k mk)
  | _ => if r 11 k = nI 3 then !decide (0 < ordF r i mi k mk) else bnF r i k false
set_option maxHeartbeats 1000000 in
theorem c_isBelowNext {q : Nat} {qa : Nat → Nat} {d c n a v f : Nat} {b : Bool} {r : rA} {i k : Nat} {ct : Bool} (hi : i < 900) (hk : k < 900) : rFun q qa (d + 2) 119 [zR (some q), zI (nI i), zI (nI k), zI (bI (ct))] (c, n, a, b, v, f, r) (c, n, a, b, v, f, r) (some (zI (bI (bnF r i k ct)))) := by
  refine rFun.of (d := d + 1) (T := tb_119) (L := [some (zR (some q)), some (zI (nI i)), some (zI (nI k)), some (zI (bI (ct))), none, none, none, none]) (Nat.le_of_ble_eq_true rfl) rfl rfl ?_
  refine r_ald rfl rfl ?_
  refine r_get rfl rfl ?_
  refine r_ild rfl rfl ?_
  refine r_ialdN (k0 := 5) rfl rfl (by omega) (by decide) ?_
  refine r_ist (ls' := [some (zR (some q)), some (zI (nI i)), some (zI (nI k)), some (zI (bI (ct))), some (zI (r 5 k)), none, none, none]) rfl (Nat.le_of_ble_eq_true rfl) rfl ?_
  refine r_ald rfl rfl ?_
  refine r_get rfl rfl ?_
  refine r_ild rfl rfl ?_
  refine r_ialdN (k0 := 6) rfl rfl (by omega) (by decide) ?_
  refine r_ist (ls' := [some (zR (some q)), some (zI (nI i)), some (zI (nI k)), some (zI (bI (ct))), some (zI (r 5 k)), some (zI (r 6 k)), none, none]) rfl (Nat.le_of_ble_eq_true rfl) rfl ?_
  refine r_ald rfl rfl ?_
  refine r_get rfl rfl ?_
  refine r_ild rfl rfl ?_
  refine r_ialdN (k0 := 11) rfl rfl (by omega) (by decide) ?_
  refine r_ico (x := (nI 1)) rfl rfl ?_
  refine r_cmp rfl (fun h_1 => ?_) (fun h_1 => ?_)
  · replace h_1 : (r 11 k) = (nI 1) := h_1
    refine r_ico (x := (nI 1)) rfl rfl ?_
    refine r_go rfl ?_
    refine r_ist (ls' := [some (zR (some q)), some (zI (nI i)), some (zI (nI k)), some (zI (bI (ct))), some (zI (r 5 k)), some (zI (r 6 k)), some (zI (nI 1)), none]) rfl (Nat.le_of_ble_eq_true rfl) rfl ?_
    refine r_ild rfl rfl ?_
    refine r_ifN (by omega) rfl (fun h_2 => ?_) (fun h_2 => ?_)
    · replace h_2 : 1 = 0 := h_2
      omega
    · replace h_2 : ¬ (1 = 0) := h_2
      refine r_ald rfl rfl ?_
      refine r_ild rfl rfl ?_
      refine r_ild rfl rfl ?_
      refine r_ico (x := (nI 1)) rfl rfl ?_
      refine r_ibi (v := ((r 5 k) + (nI 1))) rfl rfl ?_
      refine r_ico (x := (nI 0)) rfl rfl ?_
      refine r_ico (x := (nI 0)) rfl rfl ?_
      refine r_call (as := [zR (some q), zI (nI i), zI ((r 5 k) + (nI 1)), zI (nI 0), zI (nI 0)]) (r := []) (s' := (c, n, a, b, v, f, r)) (v := some (zI (oT r i ((r 5 k) + (nI 1)) (nI 0) (nI 0)))) rfl rfl rfl (Nat.le_of_ble_eq_true rfl) (Or.inr ⟨rfl, rfl, _, rfl⟩) (c_orderTo (by omega)) ?_
      refine r_if rfl (fun h_3 => ?_) (fun h_3 => ?_)
      · replace h_3 : 0 ≤ (oT r i ((r 5 k) + (nI 1)) (nI 0) (nI 0)) := h_3
        refine r_ico (x := (nI 0)) rfl rfl ?_
        refine r_ret rfl ⟨_, rfl, Or.inl rfl⟩ ?_
        exact ⟨rfl, ret_f (by simp [bnF, *, nI_eq])⟩
      · replace h_3 : ¬ (0 ≤ (oT r i ((r 5 k) + (nI 1)) (nI 0) (nI 0))) := h_3
        refine r_ico (x := (nI 1)) rfl rfl ?_
        refine r_go rfl ?_
        refine r_ret rfl ⟨_, rfl, Or.inr rfl⟩ ?_
        exact ⟨rfl, ret_t (by simp [bnF, *, nI_eq])⟩
  · replace h_1 : ¬ ((r 11 k) = (nI 1)) := h_1
    refine r_ild rfl rfl ?_
    refine r_ifB0 rfl (fun h_4 => ?_) (fun h_4 => ?_)
    · refine r_ico (x := (nI 0)) rfl rfl ?_
      refine r_ist (ls' := [some (zR (some q)), some (zI (nI i)), some (zI (nI k)), some (zI (bI (ct))), some (zI (r 5 k)), some (zI (r 6 k)), some (zI (nI 0)), none]) rfl (Nat.le_of_ble_eq_true rfl) rfl ?_
      refine r_ild rfl rfl ?_
      refine r_ifN (by omega) rfl (fun h_5 => ?_) (fun h_5 => ?_)
      · replace h_5 : 0 = 0 := h_5
        refine r_ild rfl rfl ?_
        refine r_ifB0 rfl (fun h_6 => ?_) (fun h_6 => ?_)
        · refine r_ico (x := (nI 0)) rfl rfl ?_
          refine r_ist (ls' := [some (zR (some q)), some (zI (nI i)), some (zI (nI k)), some (zI (bI (ct))), some (zI (r 5 k)), some (zI (r 6 k)), some (zI (nI 0)), some (zI (nI 0))]) rfl (Nat.le_of_ble_eq_true rfl) rfl ?_
          refine r_ild rfl rfl ?_
          refine r_ifN (by omega) rfl (fun h_7 => ?_) (fun h_7 => ?_)
          · replace h_7 : 0 = 0 := h_7
            refine r_ald rfl rfl ?_
            refine r_ild rfl rfl ?_
            refine r_ild rfl rfl ?_
            refine r_ild rfl rfl ?_
            refine r_ico (x := (nI 1)) rfl rfl ?_
            refine r_ibi (v := ((r 6 k) + (nI 1))) rfl rfl ?_
            refine r_ico (x := (nI 0)) rfl rfl ?_
            refine r_call (as := [zR (some q), zI (nI i), zI (r 5 k), zI ((r 6 k) + (nI 1)), zI (nI 0)]) (r := []) (s' := (c, n, a, b, v, f, r)) (v := some (zI (oT r i (r 5 k) ((r 6 k) + (nI 1)) (nI 0)))) rfl rfl rfl (Nat.le_of_ble_eq_true rfl) (Or.inr ⟨rfl, rfl, _, rfl⟩) (c_orderTo (by omega)) ?_
            refine r_if rfl (fun h_8 => ?_) (fun h_8 => ?_)
            · replace h_8 : 0 ≤ (oT r i (r 5 k) ((r 6 k) + (nI 1)) (nI 0)) := h_8
              refine r_ico (x := (nI 0)) rfl rfl ?_
              refine r_ret rfl ⟨_, rfl, Or.inl rfl⟩ ?_
              exact ⟨rfl, ret_f (by simp [bnF, *, nI_eq])⟩
            · replace h_8 : ¬ (0 ≤ (oT r i (r 5 k) ((r 6 k) + (nI 1)) (nI 0))) := h_8
              refine r_ico (x := (nI 1)) rfl rfl ?_
              refine r_go rfl ?_
              refine r_ret rfl ⟨_, rfl, Or.inr rfl⟩ ?_
              exact ⟨rfl, ret_t (by simp [bnF, *, nI_eq])⟩
          · replace h_7 : ¬ (0 = 0) := h_7
            omega
        · rw [h_4] at h_6; cases h_6
      · replace h_5 : ¬ (0 = 0) := h_5
        omega
    · refine r_ild rfl rfl ?_
      refine r_if rfl (fun h_9 => ?_) (fun h_9 => ?_)
      · replace h_9 : (r 5 k) ≤ 0 := h_9
        refine r_ico (x := (nI 0)) rfl rfl ?_
        refine r_ist (ls' := [some (zR (some q)), some (zI (nI i)), some (zI (nI k)), some (zI (bI (ct))), some (zI (r 5 k)), some (zI (r 6 k)), some (zI (nI 0)), none]) rfl (Nat.le_of_ble_eq_true rfl) rfl ?_
        refine r_ild rfl rfl ?_
        refine r_ifN (by omega) rfl (fun h_10 => ?_) (fun h_10 => ?_)
        · replace h_10 : 0 = 0 := h_10
          refine r_ild rfl rfl ?_
          refine r_ifB0 rfl (fun h_11 => ?_) (fun h_11 => ?_)
          · rw [h_4] at h_11; cases h_11
          · refine r_ald rfl rfl ?_
            refine r_get rfl rfl ?_
            refine r_ild rfl rfl ?_
            refine r_ialdN (k0 := 11) rfl rfl (by omega) (by decide) ?_
            refine r_ico (x := (nI 3)) rfl rfl ?_
            refine r_cmp rfl (fun h_12 => ?_) (fun h_12 => ?_)
            · replace h_12 : ¬ (r 11 k) = (nI 3) := h_12
              refine r_ico (x := (nI 0)) rfl rfl ?_
              refine r_ist (ls' := [some (zR (some q)), some (zI (nI i)), some (zI (nI k)), some (zI (bI (ct))), some (zI (r 5 k)), some (zI (r 6 k)), some (zI (nI 0)), some (zI (nI 0))]) rfl (Nat.le_of_ble_eq_true rfl) rfl ?_
              refine r_ild rfl rfl ?_
              refine r_ifN (by omega) rfl (fun h_13 => ?_) (fun h_13 => ?_)
              · replace h_13 : 0 = 0 := h_13
                refine r_ald rfl rfl ?_
                refine r_ild rfl rfl ?_
                refine r_ild rfl rfl ?_
                refine r_ild rfl rfl ?_
                refine r_ico (x := (nI 1)) rfl rfl ?_
                refine r_ibi (v := ((r 6 k) + (nI 1))) rfl rfl ?_
                refine r_ico (x := (nI 0)) rfl rfl ?_
                refine r_call (as := [zR (some q), zI (nI i), zI (r 5 k), zI ((r 6 k) + (nI 1)), zI (nI 0)]) (r := []) (s' := (c, n, a, b, v, f, r)) (v := some (zI (oT r i (r 5 k) ((r 6 k) + (nI 1)) (nI 0)))) rfl rfl rfl (Nat.le_of_ble_eq_true rfl) (Or.inr ⟨rfl, rfl, _, rfl⟩) (c_orderTo (by omega)) ?_
                refine r_if rfl (fun h_14 => ?_) (fun h_14 => ?_)
                · replace h_14 : 0 ≤ (oT r i (r 5 k) ((r 6 k) + (nI 1)) (nI 0)) := h_14
                  refine r_ico (x := (nI 0)) rfl rfl ?_
                  refine r_ret rfl ⟨_, rfl, Or.inl rfl⟩ ?_
                  exact ⟨rfl, ret_f (by simp [bnF, *, nI_eq])⟩
                · replace h_14 : ¬ (0 ≤ (oT r i (r 5 k) ((r 6 k) + (nI 1)) (nI 0))) := h_14
                  refine r_ico (x := (nI 1)) rfl rfl ?_
                  refine r_go rfl ?_
                  refine r_ret rfl ⟨_, rfl, Or.inr rfl⟩ ?_
                  exact ⟨rfl, ret_t (by simp [bnF, *, nI_eq])⟩
              · replace h_13 : ¬ (0 = 0) := h_13
                omega
            · replace h_12 : (r 11 k) = (nI 3) := Decidable.of_not_not h_12
              refine r_ild rfl rfl ?_
              refine r_if rfl (fun h_15 => ?_) (fun h_15 => ?_)
              · replace h_15 : ¬ (r 6 k) = 0 := h_15
                refine r_ico (x := (nI 0)) rfl rfl ?_
                refine r_ist (ls' := [some (zR (some q)), some (zI (nI i)), some (zI (nI k)), some (zI (bI (ct))), some (zI (r 5 k)), some (zI (r 6 k)), some (zI (nI 0)), some (zI (nI 0))]) rfl (Nat.le_of_ble_eq_true rfl) rfl ?_
                refine r_ild rfl rfl ?_
                refine r_ifN (by omega) rfl (fun h_16 => ?_) (fun h_16 => ?_)
                · replace h_16 : 0 = 0 := h_16
                  refine r_ald rfl rfl ?_
                  refine r_ild rfl rfl ?_
                  refine r_ild rfl rfl ?_
                  refine r_ild rfl rfl ?_
                  refine r_ico (x := (nI 1)) rfl rfl ?_
                  refine r_ibi (v := ((r 6 k) + (nI 1))) rfl rfl ?_
                  refine r_ico (x := (nI 0)) rfl rfl ?_
                  refine r_call (as := [zR (some q), zI (nI i), zI (r 5 k), zI ((r 6 k) + (nI 1)), zI (nI 0)]) (r := []) (s' := (c, n, a, b, v, f, r)) (v := some (zI (oT r i (r 5 k) ((r 6 k) + (nI 1)) (nI 0)))) rfl rfl rfl (Nat.le_of_ble_eq_true rfl) (Or.inr ⟨rfl, rfl, _, rfl⟩) (c_orderTo (by omega)) ?_
                  refine r_if rfl (fun h_17 => ?_) (fun h_17 => ?_)
                  · replace h_17 : 0 ≤ (oT r i (r 5 k) ((r 6 k) + (nI 1)) (nI 0)) := h_17
                    refine r_ico (x := (nI 0)) rfl rfl ?_
                    refine r_ret rfl ⟨_, rfl, Or.inl rfl⟩ ?_
                    exact ⟨rfl, ret_f (by simp [bnF, *, nI_eq])⟩
                  · replace h_17 : ¬ (0 ≤ (oT r i (r 5 k) ((r 6 k) + (nI 1)) (nI 0))) := h_17
                    refine r_ico (x := (nI 1)) rfl rfl ?_
                    refine r_go rfl ?_
                    refine r_ret rfl ⟨_, rfl, Or.inr rfl⟩ ?_
                    exact ⟨rfl, ret_t (by simp [bnF, *, nI_eq])⟩
                · replace h_16 : ¬ (0 = 0) := h_16
                  omega
              · replace h_15 : (r 6 k) = 0 := Decidable.of_not_not h_15
                refine r_ico (x := (nI 1)) rfl rfl ?_
                refine r_go rfl ?_
                refine r_ist (ls' := [some (zR (some q)), some (zI (nI i)), some (zI (nI k)), some (zI (bI (ct))), some (zI (r 5 k)), some (zI (r 6 k)), some (zI (nI 0)), some (zI (nI 1))]) rfl (Nat.le_of_ble_eq_true rfl) rfl ?_
                refine r_ild rfl rfl ?_
                refine r_ifN (by omega) rfl (fun h_18 => ?_) (fun h_18 => ?_)
                · replace h_18 : 1 = 0 := h_18
                  omega
                · replace h_18 : ¬ (1 = 0) := h_18
                  refine r_ald rfl rfl ?_
                  refine r_ild rfl rfl ?_
                  refine r_ico (x := (nI 0)) rfl rfl ?_
                  refine r_ico (x := (nI 0)) rfl rfl ?_
                  refine r_ald rfl rfl ?_
                  refine r_get rfl rfl ?_
                  refine r_ild rfl rfl ?_
                  refine r_ialdN (k0 := 7) rfl rfl (by omega) (by decide) ?_
                  refine r_ico (x := (nI 1)) rfl rfl ?_
                  refine r_ibi (v := ((r 7 k) + (nI 1))) rfl rfl ?_
                  refine r_call (as := [zR (some q), zI (nI i), zI (nI 0), zI (nI 0), zI ((r 7 k) + (nI 1))]) (r := []) (s' := (c, n, a, b, v, f, r)) (v := some (zI (oT r i (nI 0) (nI 0) ((r 7 k) + (nI 1))))) rfl rfl rfl (Nat.le_of_ble_eq_true rfl) (Or.inr ⟨rfl, rfl, _, rfl⟩) (c_orderTo (by omega)) ?_
                  refine r_if rfl (fun h_19 => ?_) (fun h_19 => ?_)
                  · replace h_19 : 0 ≤ (oT r i (nI 0) (nI 0) ((r 7 k) + (nI 1))) := h_19
                    refine r_ico (x := (nI 0)) rfl rfl ?_
                    refine r_go rfl ?_
                    refine r_ret rfl ⟨_, rfl, Or.inl rfl⟩ ?_
                    exact ⟨rfl, ret_f (by simp [bnF, *, nI_eq])⟩
                  · replace h_19 : ¬ (0 ≤ (oT r i (nI 0) (nI 0) ((r 7 k) + (nI 1)))) := h_19
                    refine r_ico (x := (nI 1)) rfl rfl ?_
                    refine r_go rfl ?_
                    refine r_ret rfl ⟨_, rfl, Or.inr rfl⟩ ?_
                    exact ⟨rfl, ret_t (by simp [bnF, *, nI_eq])⟩
        · replace h_10 : ¬ (0 = 0) := h_10
          omega
      · replace h_9 : ¬ ((r 5 k) ≤ 0) := h_9
        refine r_ico (x := (nI 1)) rfl rfl ?_
        refine r_go rfl ?_
        refine r_ist (ls' := [some (zR (some q)), some (zI (nI i)), some (zI (nI k)), some (zI (bI (ct))), some (zI (r 5 k)), some (zI (r 6 k)), some (zI (nI 1)), none]) rfl (Nat.le_of_ble_eq_true rfl) rfl ?_
        refine r_ild rfl rfl ?_
        refine r_ifN (by omega) rfl (fun h_20 => ?_) (fun h_20 => ?_)
        · replace h_20 : 1 = 0 := h_20
          omega
        · replace h_20 : ¬ (1 = 0) := h_20
          refine r_ald rfl rfl ?_
          refine r_ild rfl rfl ?_
          refine r_ild rfl rfl ?_
          refine r_ico (x := (nI 1)) rfl rfl ?_
          refine r_ibi (v := ((r 5 k) + (nI 1))) rfl rfl ?_
          refine r_ico (x := (nI 0)) rfl rfl ?_
          refine r_ico (x := (nI 0)) rfl rfl ?_
          refine r_call (as := [zR (some q), zI (nI i), zI ((r 5 k) + (nI 1)), zI (nI 0), zI (nI 0)]) (r := []) (s' := (c, n, a, b, v, f, r)) (v := some (zI (oT r i ((r 5 k) + (nI 1)) (nI 0) (nI 0)))) rfl rfl rfl (Nat.le_of_ble_eq_true rfl) (Or.inr ⟨rfl, rfl, _, rfl⟩) (c_orderTo (by omega)) ?_
          refine r_if rfl (fun h_21 => ?_) (fun h_21 => ?_)
          · replace h_21 : 0 ≤ (oT r i ((r 5 k) + (nI 1)) (nI 0) (nI 0)) := h_21
            refine r_ico (x := (nI 0)) rfl rfl ?_
            refine r_ret rfl ⟨_, rfl, Or.inl rfl⟩ ?_
            exact ⟨rfl, ret_f (by simp [bnF, *, nI_eq])⟩
          · replace h_21 : ¬ (0 ≤ (oT r i ((r 5 k) + (nI 1)) (nI 0) (nI 0))) := h_21
            refine r_ico (x := (nI 1)) rfl rfl ?_
            refine r_go rfl ?_
            refine r_ret rfl ⟨_, rfl, Or.inr rfl⟩ ?_
            exact ⟨rfl, ret_t (by simp [bnF, *, nI_eq])⟩
set_option maxHeartbeats 4000000 in
theorem c_isMet {q : Nat} {qa : Nat → Nat} {d c n a v f g k mk i mi : Nat} {b : Bool} {r : rA} (hk : k < 900) (hi : i < 900) (hmk : mk ≤ 24) (hmi : mi ≤ 24) (hK : r 8 k = nI mk) (hI : r 8 i = nI mi) (hG : r 10 k = nI g) (hg : g ≤ 7) : rFun q qa (d + 5) 120 [zR (some q), zI (nI k), zI (nI i)] (c, n, a, b, v, f, r) (c, n, a, b, v, f, r) (some (zI (bI (metF r g k mk i mi)))) := by
  refine rFun.of (d := d + 4) (T := tb_120) (L := [some (zR (some q)), some (zI (nI k)), some (zI (nI i)), none, none]) (Nat.le_of_ble_eq_true rfl) rfl rfl ?_
  refine r_ald rfl rfl ?_
  refine r_ild rfl rfl ?_
  refine r_ild rfl rfl ?_
  refine r_call (as := [zR (some q), zI (nI i), zI (nI k)]) (r := []) (s' := (c, n, a, b, v, f, r)) (v := some (zI (ordF r i mi k mk))) rfl rfl rfl (Nat.le_of_ble_eq_true rfl) (Or.inr ⟨rfl, rfl, _, rfl⟩) (c_order (by omega) (by omega) (by omega) (by omega) hI hK) ?_
  refine r_ist (ls' := [some (zR (some q)), some (zI (nI k)), some (zI (nI i)), some (zI (ordF r i mi k mk)), none]) rfl (Nat.le_of_ble_eq_true rfl) rfl ?_
  refine r_ald rfl rfl ?_
  refine r_get rfl rfl ?_
  refine r_ild rfl rfl ?_
  refine r_ialdN (k0 := 11) rfl rfl (by omega) (by decide) ?_
  refine r_ico (x := (nI 3)) rfl rfl ?_
  refine r_cmp rfl (fun h_1 => ?_) (fun h_1 => ?_)
  · replace h_1 : ¬ (r 11 k) = (nI 3) := h_1
    refine r_ico (x := (nI 0)) rfl rfl ?_
    refine r_ist (ls' := [some (zR (some q)), some (zI (nI k)), some (zI (nI i)), some (zI (ordF r i mi k mk)), some (zI (nI 0))]) rfl (Nat.le_of_ble_eq_true rfl) rfl ?_
    refine r_ald rfl rfl ?_
    refine r_get rfl rfl ?_
    refine r_ild rfl rfl ?_
    refine r_ialdN (k0 := 10) rfl rfl (by omega) (by decide) ?_
    refine r_top (y := (nI g)) hG ?_
    rcases (show g = 0 ∨ g = 1 ∨ g = 2 ∨ g = 3 ∨ g = 4 ∨ g = 5 ∨ g = 6 ∨ g = 7 by omega) with h9 | h9 | h9 | h9 | h9 | h9 | h9 | h9 <;> subst h9
    · refine r_sw (t := 72) rfl (by decide +kernel) ?_
      refine r_ico (x := (nI 1)) rfl rfl ?_
      refine r_ret rfl ⟨_, rfl, Or.inr rfl⟩ ?_
      exact ⟨rfl, ret_t (by simp [metF, *])⟩
    · refine r_sw (t := 74) rfl (by decide +kernel) ?_
      refine r_ild rfl rfl ?_
      refine r_if rfl (fun h_2 => ?_) (fun h_2 => ?_)
      · replace h_2 : (ordF r i mi k mk) < 0 := h_2
        refine r_ico (x := (nI 0)) rfl rfl ?_
        refine r_ret rfl ⟨_, rfl, Or.inl rfl⟩ ?_
        exact ⟨rfl, ret_f (by simp [metF, *])⟩
      · replace h_2 : ¬ ((ordF r i mi k mk) < 0) := h_2
        refine r_ald rfl rfl ?_
        refine r_ild rfl rfl ?_
        refine r_ild rfl rfl ?_
        refine r_ico (x := (nI 1)) rfl rfl ?_
        refine r_call (as := [zR (some q), zI (nI i), zI (nI k), zI (nI 1)]) (r := []) (s' := (c, n, a, b, v, f, r)) (v := some (zI (bI (bnF r i k true)))) rfl rfl rfl (Nat.le_of_ble_eq_true rfl) (Or.inr ⟨rfl, rfl, _, rfl⟩) (c_isBelowNext (by omega) (by omega)) ?_
        refine r_ifB0 rfl (fun h_3 => ?_) (fun h_3 => ?_)
        · refine r_ico (x := (nI 0)) rfl rfl ?_
          refine r_ret rfl ⟨_, rfl, Or.inl rfl⟩ ?_
          exact ⟨rfl, ret_f (by simp [metF, *])⟩
        · refine r_ico (x := (nI 1)) rfl rfl ?_
          refine r_go rfl ?_
          refine r_ret rfl ⟨_, rfl, Or.inr rfl⟩ ?_
          exact ⟨rfl, ret_t (by simp [metF, *])⟩
    · refine r_sw (t := 94) rfl (by decide +kernel) ?_
      refine r_ild rfl rfl ?_
      refine r_if rfl (fun h_4 => ?_) (fun h_4 => ?_)
      · replace h_4 : (ordF r i mi k mk) < 0 := h_4
        refine r_ico (x := (nI 0)) rfl rfl ?_
        refine r_ret rfl ⟨_, rfl, Or.inl rfl⟩ ?_
        exact ⟨rfl, ret_f (by simp [metF, *])⟩
      · replace h_4 : ¬ ((ordF r i mi k mk) < 0) := h_4
        refine r_ald rfl rfl ?_
        refine r_ild rfl rfl ?_
        refine r_ild rfl rfl ?_
        refine r_ico (x := (nI 0)) rfl rfl ?_
        refine r_call (as := [zR (some q), zI (nI i), zI (nI k), zI (nI 0)]) (r := []) (s' := (c, n, a, b, v, f, r)) (v := some (zI (bI (bnF r i k false)))) rfl rfl rfl (Nat.le_of_ble_eq_true rfl) (Or.inr ⟨rfl, rfl, _, rfl⟩) (c_isBelowNext (by omega) (by omega)) ?_
        refine r_ifB0 rfl (fun h_5 => ?_) (fun h_5 => ?_)
        · refine r_ico (x := (nI 0)) rfl rfl ?_
          refine r_ret rfl ⟨_, rfl, Or.inl rfl⟩ ?_
          exact ⟨rfl, ret_f (by simp [metF, *])⟩
        · refine r_ico (x := (nI 1)) rfl rfl ?_
          refine r_go rfl ?_
          refine r_ret rfl ⟨_, rfl, Or.inr rfl⟩ ?_
          exact ⟨rfl, ret_t (by simp [metF, *])⟩
    · refine r_sw (t := 114) rfl (by decide +kernel) ?_
      refine r_ild rfl rfl ?_
      refine r_ifN (by omega) rfl (fun h_6 => ?_) (fun h_6 => ?_)
      · replace h_6 : 0 = 0 := h_6
        refine r_ild rfl rfl ?_
        refine r_if rfl (fun h_7 => ?_) (fun h_7 => ?_)
        · replace h_7 : (ordF r i mi k mk) < 0 := h_7
          refine r_ico (x := (nI 0)) rfl rfl ?_
          refine r_ret rfl ⟨_, rfl, Or.inl rfl⟩ ?_
          exact ⟨rfl, ret_f (by simp [metF, *])⟩
        · replace h_7 : ¬ ((ordF r i mi k mk) < 0) := h_7
          refine r_ald rfl rfl ?_
          refine r_ild rfl rfl ?_
          refine r_ild rfl rfl ?_
          refine r_ico (x := (nI 0)) rfl rfl ?_
          refine r_call (as := [zR (some q), zI (nI i), zI (nI k), zI (nI 0)]) (r := []) (s' := (c, n, a, b, v, f, r)) (v := some (zI (bI (bnF r i k false)))) rfl rfl rfl (Nat.le_of_ble_eq_true rfl) (Or.inr ⟨rfl, rfl, _, rfl⟩) (c_isBelowNext (by omega) (by omega)) ?_
          refine r_ifB0 rfl (fun h_8 => ?_) (fun h_8 => ?_)
          · refine r_ico (x := (nI 0)) rfl rfl ?_
            refine r_ret rfl ⟨_, rfl, Or.inl rfl⟩ ?_
            exact ⟨rfl, ret_f (by simp [metF, *])⟩
          · refine r_ico (x := (nI 1)) rfl rfl ?_
            refine r_go rfl ?_
            refine r_ret rfl ⟨_, rfl, Or.inr rfl⟩ ?_
            exact ⟨rfl, ret_t (by simp [metF, *])⟩
      · replace h_6 : ¬ (0 = 0) := h_6
        omega
    · refine r_sw (t := 151) rfl (by decide +kernel) ?_
      refine r_ild rfl rfl ?_
      refine r_ifN (by omega) rfl (fun h_9 => ?_) (fun h_9 => ?_)
      · replace h_9 : 0 = 0 := h_9
        refine r_ald rfl rfl ?_
        refine r_ild rfl rfl ?_
        refine r_ild rfl rfl ?_
        refine r_ico (x := (nI 0)) rfl rfl ?_
        refine r_call (as := [zR (some q), zI (nI i), zI (nI k), zI (nI 0)]) (r := []) (s' := (c, n, a, b, v, f, r)) (v := some (zI (bI (bnF r i k false)))) rfl rfl rfl (Nat.le_of_ble_eq_true rfl) (Or.inr ⟨rfl, rfl, _, rfl⟩) (c_isBelowNext (by omega) (by omega)) ?_
        refine r_ifB1 rfl (fun h_10 => ?_) (fun h_10 => ?_)
        · refine r_ico (x := (nI 0)) rfl rfl ?_
          refine r_ret rfl ⟨_, rfl, Or.inl rfl⟩ ?_
          exact ⟨rfl, ret_f (by simp [metF, *])⟩
        · refine r_ico (x := (nI 1)) rfl rfl ?_
          refine r_go rfl ?_
          refine r_ret rfl ⟨_, rfl, Or.inr rfl⟩ ?_
          exact ⟨rfl, ret_t (by simp [metF, *])⟩
      · replace h_9 : ¬ (0 = 0) := h_9
        omega
    · refine r_sw (t := 184) rfl (by decide +kernel) ?_
      refine r_ild rfl rfl ?_
      refine r_if rfl (fun h_11 => ?_) (fun h_11 => ?_)
      · replace h_11 : (ordF r i mi k mk) < 0 := h_11
        refine r_ico (x := (nI 0)) rfl rfl ?_
        refine r_ret rfl ⟨_, rfl, Or.inl rfl⟩ ?_
        exact ⟨rfl, ret_f (by simp [metF, *])⟩
      · replace h_11 : ¬ ((ordF r i mi k mk) < 0) := h_11
        refine r_ico (x := (nI 1)) rfl rfl ?_
        refine r_go rfl ?_
        refine r_ret rfl ⟨_, rfl, Or.inr rfl⟩ ?_
        exact ⟨rfl, ret_t (by simp [metF, *])⟩
    · refine r_sw (t := 194) rfl (by decide +kernel) ?_
      refine r_ild rfl rfl ?_
      refine r_if rfl (fun h_12 => ?_) (fun h_12 => ?_)
      · replace h_12 : 0 ≤ (ordF r i mi k mk) := h_12
        refine r_ico (x := (nI 0)) rfl rfl ?_
        refine r_ret rfl ⟨_, rfl, Or.inl rfl⟩ ?_
        exact ⟨rfl, ret_f (by simp [metF, *])⟩
      · replace h_12 : ¬ (0 ≤ (ordF r i mi k mk)) := h_12
        refine r_ico (x := (nI 1)) rfl rfl ?_
        refine r_go rfl ?_
        refine r_ret rfl ⟨_, rfl, Or.inr rfl⟩ ?_
        exact ⟨rfl, ret_t (by simp [metF, *])⟩
    · refine r_sw (t := 204) rfl (by decide +kernel) ?_
      refine r_ild rfl rfl ?_
      refine r_ifN (by omega) rfl (fun h_13 => ?_) (fun h_13 => ?_)
      · replace h_13 : 0 = 0 := h_13
        refine r_ald rfl rfl ?_
        refine r_ild rfl rfl ?_
        refine r_ild rfl rfl ?_
        refine r_ico (x := (nI 0)) rfl rfl ?_
        refine r_call (as := [zR (some q), zI (nI i), zI (nI k), zI (nI 0)]) (r := []) (s' := (c, n, a, b, v, f, r)) (v := some (zI (bI (bnF r i k false)))) rfl rfl rfl (Nat.le_of_ble_eq_true rfl) (Or.inr ⟨rfl, rfl, _, rfl⟩) (c_isBelowNext (by omega) (by omega)) ?_
        refine r_ret rfl ⟨_, rfl, bI_01 _⟩ ?_
        exact ⟨rfl, by simp [metF, *]⟩
      · replace h_13 : ¬ (0 = 0) := h_13
        omega
  · replace h_1 : (r 11 k) = (nI 3) := Decidable.of_not_not h_1
    refine r_ico (x := (nI 1)) rfl rfl ?_
    refine r_go rfl ?_
    refine r_ist (ls' := [some (zR (some q)), some (zI (nI k)), some (zI (nI i)), some (zI (ordF r i mi k mk)), some (zI (nI 1))]) rfl (Nat.le_of_ble_eq_true rfl) rfl ?_
    refine r_ald rfl rfl ?_
    refine r_get rfl rfl ?_
    refine r_ild rfl rfl ?_
    refine r_ialdN (k0 := 10) rfl rfl (by omega) (by decide) ?_
    refine r_top (y := (nI g)) hG ?_
    rcases (show g = 0 ∨ g = 1 ∨ g = 2 ∨ g = 3 ∨ g = 4 ∨ g = 5 ∨ g = 6 ∨ g = 7 by omega) with h9 | h9 | h9 | h9 | h9 | h9 | h9 | h9 <;> subst h9
    · refine r_sw (t := 72) rfl (by decide +kernel) ?_
      refine r_ico (x := (nI 1)) rfl rfl ?_
      refine r_ret rfl ⟨_, rfl, Or.inr rfl⟩ ?_
      exact ⟨rfl, ret_t (by simp [metF, *])⟩
    · refine r_sw (t := 74) rfl (by decide +kernel) ?_
      refine r_ild rfl rfl ?_
      refine r_if rfl (fun h_14 => ?_) (fun h_14 => ?_)
      · replace h_14 : (ordF r i mi k mk) < 0 := h_14
        refine r_ico (x := (nI 0)) rfl rfl ?_
        refine r_ret rfl ⟨_, rfl, Or.inl rfl⟩ ?_
        exact ⟨rfl, ret_f (by simp [metF, *])⟩
      · replace h_14 : ¬ ((ordF r i mi k mk) < 0) := h_14
        refine r_ald rfl rfl ?_
        refine r_ild rfl rfl ?_
        refine r_ild rfl rfl ?_
        refine r_ico (x := (nI 1)) rfl rfl ?_
        refine r_call (as := [zR (some q), zI (nI i), zI (nI k), zI (nI 1)]) (r := []) (s' := (c, n, a, b, v, f, r)) (v := some (zI (bI (bnF r i k true)))) rfl rfl rfl (Nat.le_of_ble_eq_true rfl) (Or.inr ⟨rfl, rfl, _, rfl⟩) (c_isBelowNext (by omega) (by omega)) ?_
        refine r_ifB0 rfl (fun h_15 => ?_) (fun h_15 => ?_)
        · refine r_ico (x := (nI 0)) rfl rfl ?_
          refine r_ret rfl ⟨_, rfl, Or.inl rfl⟩ ?_
          exact ⟨rfl, ret_f (by simp [metF, *])⟩
        · refine r_ico (x := (nI 1)) rfl rfl ?_
          refine r_go rfl ?_
          refine r_ret rfl ⟨_, rfl, Or.inr rfl⟩ ?_
          exact ⟨rfl, ret_t (by simp [metF, *])⟩
    · refine r_sw (t := 94) rfl (by decide +kernel) ?_
      refine r_ild rfl rfl ?_
      refine r_if rfl (fun h_16 => ?_) (fun h_16 => ?_)
      · replace h_16 : (ordF r i mi k mk) < 0 := h_16
        refine r_ico (x := (nI 0)) rfl rfl ?_
        refine r_ret rfl ⟨_, rfl, Or.inl rfl⟩ ?_
        exact ⟨rfl, ret_f (by simp [metF, *])⟩
      · replace h_16 : ¬ ((ordF r i mi k mk) < 0) := h_16
        refine r_ald rfl rfl ?_
        refine r_ild rfl rfl ?_
        refine r_ild rfl rfl ?_
        refine r_ico (x := (nI 0)) rfl rfl ?_
        refine r_call (as := [zR (some q), zI (nI i), zI (nI k), zI (nI 0)]) (r := []) (s' := (c, n, a, b, v, f, r)) (v := some (zI (bI (bnF r i k false)))) rfl rfl rfl (Nat.le_of_ble_eq_true rfl) (Or.inr ⟨rfl, rfl, _, rfl⟩) (c_isBelowNext (by omega) (by omega)) ?_
        refine r_ifB0 rfl (fun h_17 => ?_) (fun h_17 => ?_)
        · refine r_ico (x := (nI 0)) rfl rfl ?_
          refine r_ret rfl ⟨_, rfl, Or.inl rfl⟩ ?_
          exact ⟨rfl, ret_f (by simp [metF, *])⟩
        · refine r_ico (x := (nI 1)) rfl rfl ?_
          refine r_go rfl ?_
          refine r_ret rfl ⟨_, rfl, Or.inr rfl⟩ ?_
          exact ⟨rfl, ret_t (by simp [metF, *])⟩
    · refine r_sw (t := 114) rfl (by decide +kernel) ?_
      refine r_ild rfl rfl ?_
      refine r_ifN (by omega) rfl (fun h_18 => ?_) (fun h_18 => ?_)
      · replace h_18 : 1 = 0 := h_18
        omega
      · replace h_18 : ¬ (1 = 0) := h_18
        refine r_ild rfl rfl ?_
        refine r_if rfl (fun h_19 => ?_) (fun h_19 => ?_)
        · replace h_19 : ¬ (ordF r i mi k mk) = 0 := h_19
          refine r_ico (x := (nI 0)) rfl rfl ?_
          refine r_go rfl ?_
          refine r_ret rfl ⟨_, rfl, Or.inl rfl⟩ ?_
          exact ⟨rfl, ret_f (by simp [metF, *])⟩
        · replace h_19 : (ordF r i mi k mk) = 0 := Decidable.of_not_not h_19
          refine r_ico (x := (nI 1)) rfl rfl ?_
          refine r_go rfl ?_
          refine r_ret rfl ⟨_, rfl, Or.inr rfl⟩ ?_
          exact ⟨rfl, ret_t (by simp [metF, *])⟩
    · refine r_sw (t := 151) rfl (by decide +kernel) ?_
      refine r_ild rfl rfl ?_
      refine r_ifN (by omega) rfl (fun h_20 => ?_) (fun h_20 => ?_)
      · replace h_20 : 1 = 0 := h_20
        omega
      · replace h_20 : ¬ (1 = 0) := h_20
        refine r_ild rfl rfl ?_
        refine r_if rfl (fun h_21 => ?_) (fun h_21 => ?_)
        · replace h_21 : (ordF r i mi k mk) ≤ 0 := h_21
          refine r_ico (x := (nI 0)) rfl rfl ?_
          refine r_go rfl ?_
          refine r_ret rfl ⟨_, rfl, Or.inl rfl⟩ ?_
          exact ⟨rfl, ret_f (by simp [metF, *])⟩
        · replace h_21 : ¬ ((ordF r i mi k mk) ≤ 0) := h_21
          refine r_ico (x := (nI 1)) rfl rfl ?_
          refine r_go rfl ?_
          refine r_ret rfl ⟨_, rfl, Or.inr rfl⟩ ?_
          exact ⟨rfl, ret_t (by simp [metF, *])⟩
    · refine r_sw (t := 184) rfl (by decide +kernel) ?_
      refine r_ild rfl rfl ?_
      refine r_if rfl (fun h_22 => ?_) (fun h_22 => ?_)
      · replace h_22 : (ordF r i mi k mk) < 0 := h_22
        refine r_ico (x := (nI 0)) rfl rfl ?_
        refine r_ret rfl ⟨_, rfl, Or.inl rfl⟩ ?_
        exact ⟨rfl, ret_f (by simp [metF, *])⟩
      · replace h_22 : ¬ ((ordF r i mi k mk) < 0) := h_22
        refine r_ico (x := (nI 1)) rfl rfl ?_
        refine r_go rfl ?_
        refine r_ret rfl ⟨_, rfl, Or.inr rfl⟩ ?_
        exact ⟨rfl, ret_t (by simp [metF, *])⟩
    · refine r_sw (t := 194) rfl (by decide +kernel) ?_
      refine r_ild rfl rfl ?_
      refine r_if rfl (fun h_23 => ?_) (fun h_23 => ?_)
      · replace h_23 : 0 ≤ (ordF r i mi k mk) := h_23
        refine r_ico (x := (nI 0)) rfl rfl ?_
        refine r_ret rfl ⟨_, rfl, Or.inl rfl⟩ ?_
        exact ⟨rfl, ret_f (by simp [metF, *])⟩
      · replace h_23 : ¬ (0 ≤ (ordF r i mi k mk)) := h_23
        refine r_ico (x := (nI 1)) rfl rfl ?_
        refine r_go rfl ?_
        refine r_ret rfl ⟨_, rfl, Or.inr rfl⟩ ?_
        exact ⟨rfl, ret_t (by simp [metF, *])⟩
    · refine r_sw (t := 204) rfl (by decide +kernel) ?_
      refine r_ild rfl rfl ?_
      refine r_ifN (by omega) rfl (fun h_24 => ?_) (fun h_24 => ?_)
      · replace h_24 : 1 = 0 := h_24
        omega
      · replace h_24 : ¬ (1 = 0) := h_24
        refine r_ild rfl rfl ?_
        refine r_if rfl (fun h_25 => ?_) (fun h_25 => ?_)
        · replace h_25 : 0 < (ordF r i mi k mk) := h_25
          refine r_ico (x := (nI 0)) rfl rfl ?_
          refine r_go rfl ?_
          refine r_ret rfl ⟨_, rfl, Or.inl rfl⟩ ?_
          exact ⟨rfl, ret_f (by simp [metF, *])⟩
        · replace h_25 : ¬ (0 < (ordF r i mi k mk)) := h_25
          refine r_ico (x := (nI 1)) rfl rfl ?_
          refine r_go rfl ?_
          refine r_ret rfl ⟨_, rfl, Or.inr rfl⟩ ?_
          exact ⟨rfl, ret_t (by simp [metF, *])⟩
end
section
def wsz (r : rA) (i : Nat) : Nat := (r 8 i).toNatClampNeg
def sgn (r : rA) (i : Nat) : Nat := (r 10 i).toNatClampNeg
def cnt (r : rA) (k : Nat) : Nat := (r 12 k).toNatClampNeg
/-- a row is sound -/
def rowOK (r : rA) (i : Nat) : Prop := (r 8 i = nI (wsz r i) ∧ wsz r i ≤ 24) ∧ r 10 i = nI (sgn r i) ∧ sgn r i ≤ 7
def nmd (r : rA) (k i : Nat) : Bool := !decide (r 8 k ≤ 0) && (decide (r 5 k = r 5 i) && (decide (r 6 k = r 6 i) && decide (r 7 k = r 7 i)))
def alF (r : rA) (i k0 : Nat) : Nat → Bool
  | 0 => true
  | m + 1 => alF r i k0 m && metF r (sgn r (k0 + m)) (k0 + m) (wsz r (k0 + m)) i (wsz r i)
def nmF (r : rA) (i k0 : Nat) : Nat → Bool
  | 0 => decide (wsz r i = 0)
  | m + 1 => nmF r i k0 m || nmd r (k0 + m) i
/-- does version i meet requirement q? -/
def maF (r : rA) (q i : Nat) : Bool := alF r i (41 + 4 * q) (cnt r q) && nmF r i (41 + 4 * q) (cnt r q)
set_option maxHeartbeats 2000000 in
theorem l_ma {q : Nat} {qa : Nat → Nat} {d c n a v f rq i : Nat} {b : Bool} {r : rA} {Q : rS → (Option zV ⊕ Nat) → Prop} (hq : rq < 214) (hi : i < 900) (hI : rowOK r i) (hC : r 12 rq = nI (cnt r rq)) (hc5 : cnt r rq ≤ 5) (hR : ∀ m, m < cnt r rq → rowOK r (41 + 4 * rq + m)) (hQ : Q (c, n, a, b, v, f, r) (.inl (some (zI (bI (maF r rq i)))))) : ∀ (j m : Nat), cnt r rq ≤ m + j → m ≤ cnt r rq → rEv q qa (d + 5) tb_121 Q 26 [some (zR (some q)), some (zI (nI rq)), some (zI (nI i)), some (zI (bI (alF r i (41 + 4 * rq) m))), some (zI (bI (nmF r i (41 + 4 * rq) m))), some (zI (nI (41 + 4 * rq + m)))] [] (c, n, a, b, v, f, r) := by
  intro j
  induction j with
  | zero =>
    intro m h1 h2
    have hm : m = cnt r rq := by omega
    subst hm
    refine r_ild rfl rfl ?_
    refine r_ico (x := (nI 41)) rfl rfl ?_
    refine r_ico (x := (nI 4)) rfl rfl ?_
    refine r_ild rfl rfl ?_
    refine r_ibi (v := (nI (4 * rq))) rfl (pk_mul _ _) ?_
    refine r_ibi (v := (nI (41 + (4 * rq)))) rfl (nI_add _ _) ?_
    refine r_ald rfl rfl ?_
    refine r_get rfl rfl ?_
    refine r_ild rfl rfl ?_
    refine r_ialdN (k0 := 12) rfl rfl (by omega) (by decide) ?_
    refine r_top (y := (nI (cnt r rq))) hC ?_
    refine r_ibi (v := (nI (41 + (4 * rq) + (cnt r rq)))) rfl (nI_add _ _) ?_
    refine r_cmpN (by omega) (by omega) rfl (fun h_1 => ?_) (fun h_1 => ?_)
    · replace h_1 : 41 + (4 * rq) + (cnt r rq) ≤ 41 + 4 * rq + cnt r rq := h_1
      refine r_ild rfl rfl ?_
      refine r_ifB0 rfl (fun h_2 => ?_) (fun h_2 => ?_)
      · refine r_ico (x := (nI 0)) rfl rfl ?_
        refine r_ret rfl ⟨_, rfl, Or.inl rfl⟩ ?_
        unfold maF at hQ
        rw [h_2] at hQ
        exact hQ
      · refine r_ild rfl rfl ?_
        refine r_ifB0 rfl (fun h_3 => ?_) (fun h_3 => ?_)
        · refine r_ico (x := (nI 0)) rfl rfl ?_
          refine r_ret rfl ⟨_, rfl, Or.inl rfl⟩ ?_
          unfold maF at hQ
          rw [h_2, h_3] at hQ
          exact hQ
        · refine r_ico (x := (nI 1)) rfl rfl ?_
          refine r_go rfl ?_
          refine r_ret rfl ⟨_, rfl, Or.inr rfl⟩ ?_
          unfold maF at hQ
          rw [h_2, h_3] at hQ
          exact hQ
    · replace h_1 := Nat.not_le.mp h_1
      omega
  | succ j ih =>
    intro m h1 h2
    refine r_ild rfl rfl ?_
    refine r_ico (x := (nI 41)) rfl rfl ?_
    refine r_ico (x := (nI 4)) rfl rfl ?_
    refine r_ild rfl rfl ?_
    refine r_ibi (v := (nI (4 * rq))) rfl (pk_mul _ _) ?_
    refine r_ibi (v := (nI (41 + (4 * rq)))) rfl (nI_add _ _) ?_
    refine r_ald rfl rfl ?_
    refine r_get rfl rfl ?_
    refine r_ild rfl rfl ?_
    refine r_ialdN (k0 := 12) rfl rfl (by omega) (by decide) ?_
    refine r_top (y := (nI (cnt r rq))) hC ?_
    refine r_ibi (v := (nI (41 + (4 * rq) + (cnt r rq)))) rfl (nI_add _ _) ?_
    refine r_cmpN (by omega) (by omega) rfl (fun h_1 => ?_) (fun h_1 => ?_)
    · replace h_1 : 41 + (4 * rq) + (cnt r rq) ≤ 41 + 4 * rq + m := h_1
      refine r_ild rfl rfl ?_
      refine r_ifB0 rfl (fun h_2 => ?_) (fun h_2 => ?_)
      · refine r_ico (x := (nI 0)) rfl rfl ?_
        refine r_ret rfl ⟨_, rfl, Or.inl rfl⟩ ?_
        have hm : m = cnt r rq := by omega
        subst hm
        unfold maF at hQ
        rw [h_2] at hQ
        exact hQ
      · refine r_ild rfl rfl ?_
        refine r_ifB0 rfl (fun h_3 => ?_) (fun h_3 => ?_)
        · refine r_ico (x := (nI 0)) rfl rfl ?_
          refine r_ret rfl ⟨_, rfl, Or.inl rfl⟩ ?_
          have hm : m = cnt r rq := by omega
          subst hm
          unfold maF at hQ
          rw [h_2, h_3] at hQ
          exact hQ
        · refine r_ico (x := (nI 1)) rfl rfl ?_
          refine r_go rfl ?_
          refine r_ret rfl ⟨_, rfl, Or.inr rfl⟩ ?_
          have hm : m = cnt r rq := by omega
          subst hm
          unfold maF at hQ
          rw [h_2, h_3] at hQ
          exact hQ
    · replace h_1 := Nat.not_le.mp h_1
      have hk := hR m (by omega)
      have J63_3 : ∀ (x63_4 : Bool), x63_4 = (alF r i (41 + 4 * rq) (m + 1)) → rEv q qa (d + 5) tb_121 Q 63 [some (zR (some q)), some (zI (nI rq)), some (zI (nI i)), some (zI (bI (alF r i (41 + 4 * rq) m))), some (zI (bI (nmF r i (41 + 4 * rq) m))), some (zI (nI (41 + 4 * rq + m)))] [zI (bI (x63_4))] (c, n, a, b, v, f, r) := by
        intro x63_4 hxx63_4
        refine r_ist (ls' := [some (zR (some q)), some (zI (nI rq)), some (zI (nI i)), some (zI (bI (x63_4))), some (zI (bI (nmF r i (41 + 4 * rq) m))), some (zI (nI (41 + 4 * rq + m)))]) rfl (Nat.le_of_ble_eq_true rfl) rfl ?_
        have J132_4 : ∀ (x132_5 : Bool), x132_5 = (nmF r i (41 + 4 * rq) (m + 1)) → rEv q qa (d + 5) tb_121 Q 132 [some (zR (some q)), some (zI (nI rq)), some (zI (nI i)), some (zI (bI (x63_4))), some (zI (bI (nmF r i (41 + 4 * rq) m))), some (zI (nI (41 + 4 * rq + m)))] [zI (bI (x132_5))] (c, n, a, b, v, f, r) := by
          intro x132_5 hxx132_5
          refine r_ist (ls' := [some (zR (some q)), some (zI (nI rq)), some (zI (nI i)), some (zI (bI (x63_4))), some (zI (bI (x132_5))), some (zI (nI (41 + 4 * rq + m)))]) rfl (Nat.le_of_ble_eq_true rfl) rfl ?_
          refine r_inc (x' := (nI (41 + 4 * rq + m + 1))) (ls' := [some (zR (some q)), some (zI (nI rq)), some (zI (nI i)), some (zI (bI (x63_4))), some (zI (bI (x132_5))), some (zI (nI (41 + 4 * rq + m + 1)))]) rfl rfl (nI_1 _) rfl ?_
          refine r_go rfl ?_
          subst hxx63_4; subst hxx132_5
          exact ih (m + 1) (by omega) (by omega)
        refine r_ild rfl rfl ?_
        refine r_ifB1 rfl (fun h_6 => ?_) (fun h_6 => ?_)
        · refine r_ico (x := (nI 1)) rfl rfl ?_
          refine r_go rfl ?_
          exact J132_4 true (by simp [nmF, nmd, h_6])
        · refine r_ald rfl rfl ?_
          refine r_get rfl rfl ?_
          refine r_ild rfl rfl ?_
          refine r_ialdN (k0 := 8) rfl rfl (by omega) (by decide) ?_
          refine r_if rfl (fun h_7 => ?_) (fun h_7 => ?_)
          · replace h_7 : (r 8 (41 + 4 * rq + m)) ≤ 0 := h_7
            refine r_ico (x := (nI 0)) rfl rfl ?_
            exact J132_4 false (by simp [nmF, nmd, h_6, h_7])
          · replace h_7 : ¬ ((r 8 (41 + 4 * rq + m)) ≤ 0) := h_7
            refine r_ald rfl rfl ?_
            refine r_get rfl rfl ?_
            refine r_ild rfl rfl ?_
            refine r_ialdN (k0 := 5) rfl rfl (by omega) (by decide) ?_
            refine r_ald rfl rfl ?_
            refine r_get rfl rfl ?_
            refine r_ild rfl rfl ?_
            refine r_ialdN (k0 := 5) rfl rfl (by omega) (by decide) ?_
            refine r_cmp rfl (fun h_8 => ?_) (fun h_8 => ?_)
            · replace h_8 : ¬ (r 5 (41 + 4 * rq + m)) = (r 5 i) := h_8
              refine r_ico (x := (nI 0)) rfl rfl ?_
              exact J132_4 false (by simp [nmF, nmd, h_6, h_7, h_8])
            · replace h_8 : (r 5 (41 + 4 * rq + m)) = (r 5 i) := Decidable.of_not_not h_8
              refine r_ald rfl rfl ?_
              refine r_get rfl rfl ?_
              refine r_ild rfl rfl ?_
              refine r_ialdN (k0 := 6) rfl rfl (by omega) (by decide) ?_
              refine r_ald rfl rfl ?_
              refine r_get rfl rfl ?_
              refine r_ild rfl rfl ?_
              refine r_ialdN (k0 := 6) rfl rfl (by omega) (by decide) ?_
              refine r_cmp rfl (fun h_9 => ?_) (fun h_9 => ?_)
              · replace h_9 : ¬ (r 6 (41 + 4 * rq + m)) = (r 6 i) := h_9
                refine r_ico (x := (nI 0)) rfl rfl ?_
                exact J132_4 false (by simp [nmF, nmd, h_6, h_7, h_8, h_9])
              · replace h_9 : (r 6 (41 + 4 * rq + m)) = (r 6 i) := Decidable.of_not_not h_9
                refine r_ald rfl rfl ?_
                refine r_get rfl rfl ?_
                refine r_ild rfl rfl ?_
                refine r_ialdN (k0 := 7) rfl rfl (by omega) (by decide) ?_
                refine r_ald rfl rfl ?_
                refine r_get rfl rfl ?_
                refine r_ild rfl rfl ?_
                refine r_ialdN (k0 := 7) rfl rfl (by omega) (by decide) ?_
                refine r_cmp rfl (fun h_10 => ?_) (fun h_10 => ?_)
                · replace h_10 : ¬ (r 7 (41 + 4 * rq + m)) = (r 7 i) := h_10
                  refine r_ico (x := (nI 0)) rfl rfl ?_
                  exact J132_4 false (by simp [nmF, nmd, h_6, h_7, h_8, h_9, h_10])
                · replace h_10 : (r 7 (41 + 4 * rq + m)) = (r 7 i) := Decidable.of_not_not h_10
                  refine r_ico (x := (nI 1)) rfl rfl ?_
                  refine r_go rfl ?_
                  exact J132_4 true (by simp [nmF, nmd, h_6, h_7, h_8, h_9, h_10])
      refine r_ild rfl rfl ?_
      refine r_ifB0 rfl (fun h_11 => ?_) (fun h_11 => ?_)
      · refine r_ico (x := (nI 0)) rfl rfl ?_
        exact J63_3 false (by rw [alF, h_11]; rfl)
      · refine r_ald rfl rfl ?_
        refine r_ild rfl rfl ?_
        refine r_ild rfl rfl ?_
        refine r_call (as := [zR (some q), zI (nI (41 + 4 * rq + m)), zI (nI i)]) (r := []) (s' := (c, n, a, b, v, f, r)) (v := some (zI (bI (metF r (sgn r (41 + 4 * rq + m)) (41 + 4 * rq + m) (wsz r (41 + 4 * rq + m)) i (wsz r i))))) rfl rfl rfl (Nat.le_of_ble_eq_true rfl) (Or.inr ⟨rfl, rfl, _, rfl⟩) (c_isMet (by omega) (by omega) hk.1.2 hI.1.2 hk.1.1 hI.1.1 hk.2.1 hk.2.2) ?_
        refine r_ifB0 rfl (fun h_12 => ?_) (fun h_12 => ?_)
        · refine r_ico (x := (nI 0)) rfl rfl ?_
          exact J63_3 false (by rw [alF, h_11, h_12]; rfl)
        · refine r_ico (x := (nI 1)) rfl rfl ?_
          refine r_go rfl ?_
          exact J63_3 true (by rw [alF, h_11, h_12]; rfl)
set_option maxHeartbeats 1000000 in
theorem c_meetsAll {q : Nat} {qa : Nat → Nat} {d c n a v f : Nat} {b : Bool} {r : rA} {rq i : Nat} (hq : rq < 214) (hi : i < 900) (hI : rowOK r i) (hC : r 12 rq = nI (cnt r rq)) (hc5 : cnt r rq ≤ 5) (hR : ∀ m, m < cnt r rq → rowOK r (41 + 4 * rq + m)) : rFun q qa (d + 6) 121 [zR (some q), zI (nI rq), zI (nI i)] (c, n, a, b, v, f, r) (c, n, a, b, v, f, r) (some (zI (bI (maF r rq i)))) := by
  refine rFun.of (d := d + 5) (T := tb_121) (L := [some (zR (some q)), some (zI (nI rq)), some (zI (nI i)), none, none, none]) (Nat.le_of_ble_eq_true rfl) rfl rfl ?_
  refine r_ico (x := (nI 1)) rfl rfl ?_
  refine r_ist (ls' := [some (zR (some q)), some (zI (nI rq)), some (zI (nI i)), some (zI (nI 1)), none, none]) rfl (Nat.le_of_ble_eq_true rfl) rfl ?_
  refine r_ald rfl rfl ?_
  refine r_get rfl rfl ?_
  refine r_ild rfl rfl ?_
  refine r_ialdN (k0 := 8) rfl rfl (by omega) (by decide) ?_
  refine r_top (y := (nI (wsz r i))) hI.1.1 ?_
  refine r_ifN (by have := hI.1.2; omega) rfl (fun h_1 => ?_) (fun h_1 => ?_)
  · replace h_1 : ¬ wsz r i = 0 := h_1
    refine r_ico (x := (nI 0)) rfl rfl ?_
    refine r_ist (ls' := [some (zR (some q)), some (zI (nI rq)), some (zI (nI i)), some (zI (nI 1)), some (zI (nI 0)), none]) rfl (Nat.le_of_ble_eq_true rfl) rfl ?_
    refine r_ico (x := (nI 41)) rfl rfl ?_
    refine r_ico (x := (nI 4)) rfl rfl ?_
    refine r_ild rfl rfl ?_
    refine r_ibi (v := (nI (4 * rq))) rfl (pk_mul _ _) ?_
    refine r_ibi (v := (nI (41 + (4 * rq)))) rfl (nI_add _ _) ?_
    refine r_ist (ls' := [some (zR (some q)), some (zI (nI rq)), some (zI (nI i)), some (zI (nI 1)), some (zI (nI 0)), some (zI (nI (41 + (4 * rq))))]) rfl (Nat.le_of_ble_eq_true rfl) rfl ?_
    have h9 := l_ma (q := q) (qa := qa) (d := d) (c := c) (n := n) (a := a) (v := v) (f := f) (b := b) (Q := fun t o => t = (c, n, a, b, v, f, r) ∧ o = Sum.inl (some (zI (bI (maF r rq i))))) hq hi hI hC hc5 hR ⟨rfl, rfl⟩ (cnt r rq) 0 (by omega) (by omega)
    rw [show nmF r i (41 + 4 * rq) 0 = false from decide_eq_false h_1] at h9
    exact h9
  · replace h_1 : wsz r i = 0 := Decidable.of_not_not h_1
    refine r_ico (x := (nI 1)) rfl rfl ?_
    refine r_go rfl ?_
    refine r_ist (ls' := [some (zR (some q)), some (zI (nI rq)), some (zI (nI i)), some (zI (nI 1)), some (zI (nI 1)), none]) rfl (Nat.le_of_ble_eq_true rfl) rfl ?_
    refine r_ico (x := (nI 41)) rfl rfl ?_
    refine r_ico (x := (nI 4)) rfl rfl ?_
    refine r_ild rfl rfl ?_
    refine r_ibi (v := (nI (4 * rq))) rfl (pk_mul _ _) ?_
    refine r_ibi (v := (nI (41 + (4 * rq)))) rfl (nI_add _ _) ?_
    refine r_ist (ls' := [some (zR (some q)), some (zI (nI rq)), some (zI (nI i)), some (zI (nI 1)), some (zI (nI 1)), some (zI (nI (41 + (4 * rq))))]) rfl (Nat.le_of_ble_eq_true rfl) rfl ?_
    have h9 := l_ma (q := q) (qa := qa) (d := d) (c := c) (n := n) (a := a) (v := v) (f := f) (b := b) (Q := fun t o => t = (c, n, a, b, v, f, r) ∧ o = Sum.inl (some (zI (bI (maF r rq i))))) hq hi hI hC hc5 hR ⟨rfl, rfl⟩ (cnt r rq) 0 (by omega) (by omega)
    rw [show nmF r i (41 + 4 * rq) 0 = true from decide_eq_true h_1] at h9
    exact h9
end
section
theorem c_inZ {q : Nat} {qa : Nat → Nat} {d : Nat} {s : rS} {x lo hi : Int32} {z : Bool} (h : isIn x lo hi = z) : rFun q qa (d + 1) 98 [zI x, zI lo, zI hi] s s (some (zI (bI z))) := by
  subst h
  obtain ⟨c, n, a, b, v, f, r⟩ := s
  exact c_in
theorem c_isVersionZ {q : Nat} {qa : Nat → Nat} {d c n a v f : Nat} {b z : Bool} {r : rA} {x : Int32} (h : isIn x (nI 0) (nI v - nI 1) = z) : rFun q qa (d + 2) 126 [zR (some q), zI x] (c, n, a, b, v, f, r) (c, n, a, b, v, f, r) (some (zI (bI z))) := by
  subst h
  exact c_isVersion
/-- 24 words' bytes of row i, the first k of them laid into row j -/
def cpW (r : rA) (i j k : Nat) : rA := fun a => if a = 9 then (fun x => if 24 * j ≤ x ∧ x < 24 * j + k then r 9 (24 * i + (x - 24 * j)) else r 9 x) else r a
theorem cpW_0 (r : rA) (i j : Nat) : cpW r i j 0 = r := by
  funext a x
  unfold cpW
  split
  · rename_i h
    subst h
    show (if _ then _ else _) = _
    rw [if_neg (by omega)]
  · rfl
theorem cpW_n {r : rA} {i j k a : Nat} (h : a ≠ 9) : cpW r i j k a = r a := by simp [cpW, h]
theorem cpW_9 {r : rA} {i j k x : Nat} : cpW r i j k 9 x = if 24 * j ≤ x ∧ x < 24 * j + k then r 9 (24 * i + (x - 24 * j)) else r 9 x := by simp [cpW]
theorem cpW_s {r : rA} {i j k : Nat} (h : i ≠ j) (hk : k < 24) : rset (cpW r i j k) 9 (24 * j + k) (cpW r i j k 9 (24 * i + k)) = cpW r i j (k + 1) := by
  funext a x
  unfold rset
  split
  · rename_i ha
    subst ha
    rw [cpW_9 (x := 24 * i + k), if_neg (by omega)]
    unfold upd
    rw [cpW_9, cpW_9]
    by_cases hx : x = 24 * j + k
    · subst hx
      rw [if_pos rfl, if_pos (by omega)]
      congr 1
      omega
    · rw [if_neg hx]
      by_cases g : 24 * j ≤ x ∧ x < 24 * j + k
      · rw [if_pos g, if_pos (by omega)]
      · rw [if_neg g, if_neg (by omega)]
  · rename_i ha
    rw [cpW_n ha, cpW_n ha]
/-- what copyRow(i, j) does -/
def crF (r : rA) (i j : Nat) : rA := cpW (rset (rset (rset (rset (rset (rset r 5 j (r 5 i)) 6 j (r 6 i)) 7 j (r 7 i)) 8 j (r 8 i)) 10 j (r 10 i)) 11 j (r 11 i)) i j 24
/-- has the package pk a version of the precedence of row 40? -/
def hsF (r : rA) (pk : Int32) : Nat → Bool
  | 0 => false
  | k + 1 => hsF r pk k || (decide (r 16 k = pk) && decide (ordF r k (wsz r k) 40 (wsz r 40) = 0))
/-- how many of eight are given -/
def cntF (t : Nat → Int32) : Nat → Nat
  | 0 => 0
  | k + 1 => cntF t k + (if t k = -1 then 0 else 1)
theorem cntF_le (t : Nat → Int32) : ∀ k, cntF t k ≤ k
  | 0 => Nat.le_refl _
  | k + 1 => by
    have := cntF_le t k
    unfold cntF
    split <;> omega
set_option maxHeartbeats 1000000 in
theorem l_cr {q : Nat} {qa : Nat → Nat} {d c n a v f i j : Nat} {b : Bool} {r : rA} {Q : rS → (Option zV ⊕ Nat) → Prop} (hi : i < 900) (hj : j < 900) (hij : i ≠ j) (hQ : Q (c, n, a, b, v, f, cpW r i j 24) (.inl none)) : ∀ (m k : Nat), 24 ≤ k + m → k ≤ 24 → rEv q qa d tb_123 Q 74 [some (zR (some q)), some (zI (nI i)), some (zI (nI j)), some (zI (nI k))] [] (c, n, a, b, v, f, cpW r i j k) := by
  intro m
  induction m with
  | zero =>
    intro k h1 h2
    have h3 : k = 24 := by omega
    subst h3
    refine r_ild rfl rfl ?_
    refine r_ico (x := (nI 24)) rfl rfl ?_
    refine r_cmpN (by omega) (by omega) rfl (fun h_1 => ?_) (fun h_1 => ?_)
    · replace h_1 : 24 ≤ 24 := h_1
      refine r_rtv rfl ?_
      exact hQ
    · replace h_1 := Nat.not_le.mp h_1
      omega
  | succ m ih =>
    intro k h1 h2
    refine r_ild rfl rfl ?_
    refine r_ico (x := (nI 24)) rfl rfl ?_
    refine r_cmpN (by omega) (by omega) rfl (fun h_1 => ?_) (fun h_1 => ?_)
    · replace h_1 : 24 ≤ k := h_1
      refine r_rtv rfl ?_
      have h3 : k = 24 := by omega
      subst h3
      exact hQ
    · replace h_1 := Nat.not_le.mp h_1
      refine r_ald rfl rfl ?_
      refine r_get rfl rfl ?_
      refine r_ico (x := (nI 24)) rfl rfl ?_
      refine r_ild rfl rfl ?_
      refine r_ibi (v := (nI (24 * j))) rfl (pk_mul _ _) ?_
      refine r_ild rfl rfl ?_
      refine r_ibi (v := (nI (24 * j + k))) rfl (nI_add _ _) ?_
      refine r_ald rfl rfl ?_
      refine r_get rfl rfl ?_
      refine r_ico (x := (nI 24)) rfl rfl ?_
      refine r_ild rfl rfl ?_
      refine r_ibi (v := (nI (24 * i))) rfl (pk_mul _ _) ?_
      refine r_ild rfl rfl ?_
      refine r_ibi (v := (nI (24 * i + k))) rfl (nI_add _ _) ?_
      refine r_ialdN (k0 := 9) rfl rfl (by omega) (by decide) ?_
      refine r_iastN (k0 := 9) (x' := ((cpW r i j k) 9 (24 * i + k))) rfl rfl (by omega) (by decide) rfl ?_
      refine r_inc (x' := (nI (k + 1))) (ls' := [some (zR (some q)), some (zI (nI i)), some (zI (nI j)), some (zI (nI (k + 1)))]) rfl rfl (nI_1 _) rfl ?_
      refine r_go rfl ?_
      rw [cpW_s hij (by omega)]
      exact ih (k + 1) (by omega) (by omega)
set_option maxHeartbeats 1000000 in
theorem c_copyRow {q : Nat} {qa : Nat → Nat} {d c n a v f : Nat} {b : Bool} {r : rA} {i j : Nat} (hi : i < 900) (hj : j < 900) (hij : i ≠ j) : rFun q qa (d + 1) 123 [zR (some q), zI (nI i), zI (nI j)] (c, n, a, b, v, f, r) (c, n, a, b, v, f, crF r i j) none := by
  refine rFun.of (T := tb_123) (L := [some (zR (some q)), some (zI (nI i)), some (zI (nI j)), none]) (Nat.le_of_ble_eq_true rfl) rfl rfl ?_
  refine r_ald rfl rfl ?_
  refine r_get rfl rfl ?_
  refine r_ild rfl rfl ?_
  refine r_ald rfl rfl ?_
  refine r_get rfl rfl ?_
  refine r_ild rfl rfl ?_
  refine r_ialdN (k0 := 5) rfl rfl (by omega) (by decide) ?_
  refine r_iastN (k0 := 5) (x' := (r 5 i)) rfl rfl (by omega) (by decide) rfl ?_
  refine r_ald rfl rfl ?_
  refine r_get rfl rfl ?_
  refine r_ild rfl rfl ?_
  refine r_ald rfl rfl ?_
  refine r_get rfl rfl ?_
  refine r_ild rfl rfl ?_
  refine r_ialdN (k0 := 6) rfl rfl (by omega) (by decide) ?_
  refine r_iastN (k0 := 6) (x' := ((rset r 5 j (r 5 i)) 6 i)) rfl rfl (by omega) (by decide) rfl ?_
  refine r_ald rfl rfl ?_
  refine r_get rfl rfl ?_
  refine r_ild rfl rfl ?_
  refine r_ald rfl rfl ?_
  refine r_get rfl rfl ?_
  refine r_ild rfl rfl ?_
  refine r_ialdN (k0 := 7) rfl rfl (by omega) (by decide) ?_
  refine r_iastN (k0 := 7) (x' := ((rset (rset r 5 j (r 5 i)) 6 j ((rset r 5 j (r 5 i)) 6 i)) 7 i)) rfl rfl (by omega) (by decide) rfl ?_
  refine r_ald rfl rfl ?_
  refine r_get rfl rfl ?_
  refine r_ild rfl rfl ?_
  refine r_ald rfl rfl ?_
  refine r_get rfl rfl ?_
  refine r_ild rfl rfl ?_
  refine r_ialdN (k0 := 8) rfl rfl (by omega) (by decide) ?_
  refine r_iastN (k0 := 8) (x' := ((rset (rset (rset r 5 j (r 5 i)) 6 j ((rset r 5 j (r 5 i)) 6 i)) 7 j ((rset (rset r 5 j (r 5 i)) 6 j ((rset r 5 j (r 5 i)) 6 i)) 7 i)) 8 i)) rfl rfl (by omega) (by decide) rfl ?_
  refine r_ald rfl rfl ?_
  refine r_get rfl rfl ?_
  refine r_ild rfl rfl ?_
  refine r_ald rfl rfl ?_
  refine r_get rfl rfl ?_
  refine r_ild rfl rfl ?_
  refine r_ialdN (k0 := 10) rfl rfl (by omega) (by decide) ?_
  refine r_iastN (k0 := 10) (x' := ((rset (rset (rset (rset r 5 j (r 5 i)) 6 j ((rset r 5 j (r 5 i)) 6 i)) 7 j ((rset (rset r 5 j (r 5 i)) 6 j ((rset r 5 j (r 5 i)) 6 i)) 7 i)) 8 j ((rset (rset (rset r 5 j (r 5 i)) 6 j ((rset r 5 j (r 5 i)) 6 i)) 7 j ((rset (rset r 5 j (r 5 i)) 6 j ((rset r 5 j (r 5 i)) 6 i)) 7 i)) 8 i)) 10 i)) rfl rfl (by omega) (by decide) rfl ?_
  refine r_ald rfl rfl ?_
  refine r_get rfl rfl ?_
  refine r_ild rfl rfl ?_
  refine r_ald rfl rfl ?_
  refine r_get rfl rfl ?_
  refine r_ild rfl rfl ?_
  refine r_ialdN (k0 := 11) rfl rfl (by omega) (by decide) ?_
  refine r_iastN (k0 := 11) (x' := ((rset (rset (rset (rset (rset r 5 j (r 5 i)) 6 j ((rset r 5 j (r 5 i)) 6 i)) 7 j ((rset (rset r 5 j (r 5 i)) 6 j ((rset r 5 j (r 5 i)) 6 i)) 7 i)) 8 j ((rset (rset (rset r 5 j (r 5 i)) 6 j ((rset r 5 j (r 5 i)) 6 i)) 7 j ((rset (rset r 5 j (r 5 i)) 6 j ((rset r 5 j (r 5 i)) 6 i)) 7 i)) 8 i)) 10 j ((rset (rset (rset (rset r 5 j (r 5 i)) 6 j ((rset r 5 j (r 5 i)) 6 i)) 7 j ((rset (rset r 5 j (r 5 i)) 6 j ((rset r 5 j (r 5 i)) 6 i)) 7 i)) 8 j ((rset (rset (rset r 5 j (r 5 i)) 6 j ((rset r 5 j (r 5 i)) 6 i)) 7 j ((rset (rset r 5 j (r 5 i)) 6 j ((rset r 5 j (r 5 i)) 6 i)) 7 i)) 8 i)) 10 i)) 11 i)) rfl rfl (by omega) (by decide) rfl ?_
  refine r_ico (x := (nI 0)) rfl rfl ?_
  refine r_ist (ls' := [some (zR (some q)), some (zI (nI i)), some (zI (nI j)), some (zI (nI 0))]) rfl (Nat.le_of_ble_eq_true rfl) rfl ?_
  exact Eq.mp (congrArg (fun z => rEv q qa d tb_123 _ 74 _ [] (c, n, a, b, v, f, z)) (cpW_0 _ i j)) (l_cr hi hj hij ⟨rfl, rfl⟩ 24 0 (by omega) (by omega))
set_option maxHeartbeats 1000000 in
theorem l_hs {q : Nat} {qa : Nat → Nat} {d c n a v f : Nat} {pk : Int32} {b : Bool} {r : rA} {Q : rS → (Option zV ⊕ Nat) → Prop} (hv : v ≤ 40) (h40 : rowOK r 40) (hR : ∀ k, k < v → rowOK r k) (hQ : Q (c, n, a, b, v, f, r) (.inl (some (zI (bI (hsF r pk v)))))) : ∀ (m k : Nat), v ≤ k + m → k ≤ v → rEv q qa (d + 4) tb_124 Q 4 [some (zR (some q)), some (zI (pk)), some (zI (bI (hsF r pk k))), some (zI (nI k))] [] (c, n, a, b, v, f, r) := by
  intro m
  induction m with
  | zero =>
    intro k h1 h2
    have h3 : v = k := by omega
    subst h3
    refine r_ild rfl rfl ?_
    refine r_ald rfl rfl ?_
    refine r_get rfl rfl ?_
    refine r_cmpN (by omega) (by omega) rfl (fun h_1 => ?_) (fun h_1 => ?_)
    · replace h_1 : v ≤ v := h_1
      refine r_ild rfl rfl ?_
      refine r_ret rfl ⟨_, rfl, bI_01 _⟩ ?_
      exact hQ
    · replace h_1 := Nat.not_le.mp h_1
      omega
  | succ m ih =>
    intro k h1 h2
    refine r_ild rfl rfl ?_
    refine r_ald rfl rfl ?_
    refine r_get rfl rfl ?_
    refine r_cmpN (by omega) (by omega) rfl (fun h_1 => ?_) (fun h_1 => ?_)
    · replace h_1 : v ≤ k := h_1
      refine r_ild rfl rfl ?_
      refine r_ret rfl ⟨_, rfl, bI_01 _⟩ ?_
      have h3 : v = k := by omega
      subst h3
      exact hQ
    · replace h_1 := Nat.not_le.mp h_1
      have hk := hR k (by omega)
      have J41_1 : ∀ (x41_2 : Bool), x41_2 = (hsF r pk (k + 1)) → rEv q qa (d + 4) tb_124 Q 41 [some (zR (some q)), some (zI (pk)), some (zI (bI (hsF r pk k))), some (zI (nI k))] [zI (bI (x41_2))] (c, n, a, b, v, f, r) := by
        intro x41_2 hxx41_2
        refine r_ist (ls' := [some (zR (some q)), some (zI (pk)), some (zI (bI (x41_2))), some (zI (nI k))]) rfl (Nat.le_of_ble_eq_true rfl) rfl ?_
        refine r_inc (x' := (nI (k + 1))) (ls' := [some (zR (some q)), some (zI (pk)), some (zI (bI (x41_2))), some (zI (nI (k + 1)))]) rfl rfl (nI_1 _) rfl ?_
        refine r_go rfl ?_
        subst hxx41_2
        exact ih (k + 1) (by omega) (by omega)
      refine r_ild rfl rfl ?_
      refine r_ifB1 rfl (fun h_3 => ?_) (fun h_3 => ?_)
      · refine r_ico (x := (nI 1)) rfl rfl ?_
        refine r_go rfl ?_
        exact J41_1 true (by simp [hsF, h_3])
      · refine r_ald rfl rfl ?_
        refine r_get rfl rfl ?_
        refine r_ild rfl rfl ?_
        refine r_ialdN (k0 := 16) rfl rfl (by omega) (by decide) ?_
        refine r_ild rfl rfl ?_
        refine r_cmp rfl (fun h_4 => ?_) (fun h_4 => ?_)
        · replace h_4 : ¬ (r 16 k) = (pk) := h_4
          refine r_ico (x := (nI 0)) rfl rfl ?_
          exact J41_1 false (by simp [hsF, h_3, h_4])
        · replace h_4 : (r 16 k) = (pk) := Decidable.of_not_not h_4
          refine r_ald rfl rfl ?_
          refine r_ild rfl rfl ?_
          refine r_ico (x := (nI 40)) rfl rfl ?_
          refine r_call (as := [zR (some q), zI (nI k), zI (nI 40)]) (r := []) (s' := (c, n, a, b, v, f, r)) (v := some (zI (ordF r k (wsz r k) 40 (wsz r 40)))) rfl rfl rfl (Nat.le_of_ble_eq_true rfl) (Or.inr ⟨rfl, rfl, _, rfl⟩) (c_order (by omega) (by omega) hk.1.2 h40.1.2 hk.1.1 h40.1.1) ?_
          refine r_if rfl (fun h_5 => ?_) (fun h_5 => ?_)
          · replace h_5 : ¬ (ordF r k (wsz r k) 40 (wsz r 40)) = 0 := h_5
            refine r_ico (x := (nI 0)) rfl rfl ?_
            exact J41_1 false (by simp [hsF, h_3, h_4, h_5])
          · replace h_5 : (ordF r k (wsz r k) 40 (wsz r 40)) = 0 := Decidable.of_not_not h_5
            refine r_ico (x := (nI 1)) rfl rfl ?_
            refine r_go rfl ?_
            exact J41_1 true (by simp [hsF, h_3, h_4, h_5])
set_option maxHeartbeats 1000000 in
theorem c_hasSame {q : Nat} {qa : Nat → Nat} {d c n a v f : Nat} {b : Bool} {r : rA} {pk : Int32} (hv : v ≤ 40) (h40 : rowOK r 40) (hR : ∀ k, k < v → rowOK r k) : rFun q qa (d + 5) 124 [zR (some q), zI (pk)] (c, n, a, b, v, f, r) (c, n, a, b, v, f, r) (some (zI (bI (hsF r pk v)))) := by
  refine rFun.of (d := d + 4) (T := tb_124) (L := [some (zR (some q)), some (zI (pk)), none, none]) (Nat.le_of_ble_eq_true rfl) rfl rfl ?_
  refine r_ico (x := (nI 0)) rfl rfl ?_
  refine r_ist (ls' := [some (zR (some q)), some (zI (pk)), some (zI (nI 0)), none]) rfl (Nat.le_of_ble_eq_true rfl) rfl ?_
  refine r_ico (x := (nI 0)) rfl rfl ?_
  refine r_ist (ls' := [some (zR (some q)), some (zI (pk)), some (zI (nI 0)), some (zI (nI 0))]) rfl (Nat.le_of_ble_eq_true rfl) rfl ?_
  exact l_hs hv h40 hR ⟨rfl, rfl⟩ v 0 (by omega) (by omega)
end
section
theorem dn {P : Nat → Prop} (N : Nat) (h : ∀ k, k ≤ N → (k < N → P (k + 1)) → P k) : ∀ k, k ≤ N → P k := by
  have g : ∀ m k, N ≤ k + m → k ≤ N → P k := by
    intro m
    induction m with
    | zero => exact fun k h1 h2 => h k h2 (fun h3 => absurd h3 (by omega))
    | succ m ih => exact fun k h1 h2 => h k h2 (fun h3 => ih (k + 1) (by omega) (by omega))
  exact fun k hk => g N k (by omega) hk
theorem rEv_rr {q : Nat} {qa : Nat → Nat} {d : Nat} {T : List (Nat × zOp)} {Q : rS → (Option zV ⊕ Nat) → Prop} {pc : Nat} {ls : List (Option zV)} {st : List zV} {c n a v f : Nat} {b : Bool} {r r' : rA} (e : r = r') (k : rEv q qa d T Q pc ls st (c, n, a, b, v, f, r)) : rEv q qa d T Q pc ls st (c, n, a, b, v, f, r') := by subst e; exact k
theorem isIn_n {p m : Nat} (h : p ≤ m) (hm : m < 2 ^ 31) : isIn (nI p) (nI 0) (nI m) = true := by
  have h1 : ¬ nI p < nI 0 := nI_nlt (Nat.zero_le _) (by omega)
  have h2 : ¬ nI m < nI p := nI_nlt h hm
  simp [isIn, h1, h2]
theorem isIn_v {p m : Nat} (h : p < m) (hm : m < 2 ^ 31) : isIn (nI p) (nI 0) (nI m - nI 1) = true := by
  rw [pk_sub (by omega)]
  exact isIn_n (by omega) (by omega)
theorem isIn_ex {x : Int32} {m : Nat} (hm : m < 2 ^ 31) (h : isIn x (nI 0) (nI m) = true) : ∃ p, p ≤ m ∧ x = nI p := by
  have h1 : ¬ x < nI 0 ∧ ¬ nI m < x := by simpa [isIn] using h
  obtain ⟨j, hj, e⟩ := nI_of h1.1
  subst e
  exact ⟨j, Nat.not_lt.mp (fun g => h1.2 ((nI_ltI (by omega) hj).mpr g)), rfl⟩
theorem isIn_vx {x : Int32} {m : Nat} (hm : m < 2 ^ 31) (h : isIn x (nI 0) (nI m - nI 1) = true) : ∃ p, p < m ∧ x = nI p := by
  cases m with
  | zero =>
    have h1 : ¬ x < nI 0 ∧ ¬ nI 0 - nI 1 < x := by simpa [isIn] using h
    obtain ⟨j, hj, e⟩ := nI_of h1.1
    subst e
    refine absurd ?_ h1.2
    rw [Int32.lt_iff_toInt_lt, nI_toInt hj, show (nI 0 - nI 1).toInt = -1 by decide]
    omega
  | succ m =>
    rw [pk_sub (by omega)] at h
    obtain ⟨p, hp, e⟩ := isIn_ex (by omega) h
    exact ⟨p, by omega, e⟩
/-- the first k of an array, each anew -/
def rfil (r : rA) (k0 : Nat) (g : Nat → Int32) (k : Nat) : rA := fun j => if j = k0 then (fun i => if i < k then g i else r k0 i) else r j
theorem rfil_0 (r : rA) (k0 : Nat) (g : Nat → Int32) : rfil r k0 g 0 = r := by
  funext j i
  unfold rfil
  split
  · rename_i h
    subst h
    rfl
  · rfl
theorem rfil_n {r : rA} {k0 : Nat} {g : Nat → Int32} {k j : Nat} (h : j ≠ k0) : rfil r k0 g k j = r j := by simp [rfil, h]
theorem rfil_s (r : rA) (k0 : Nat) (g : Nat → Int32) (k : Nat) : rset (rfil r k0 g k) k0 k (g k) = rfil r k0 g (k + 1) := by
  funext j i
  unfold rset
  split
  · rename_i h
    subst h
    unfold upd rfil
    simp only [if_pos]
    by_cases hi : i = k
    · subst hi
      simp
    · simp only [if_neg hi]
      by_cases g : i < k
      · rw [if_pos g, if_pos (by omega)]
      · rw [if_neg g, if_neg (by omega)]
  · rename_i h
    rw [rfil_n h, rfil_n h]
/-- how many of them aren't 0 -/
def cntB (t : Nat → Int32) : Nat → Nat
  | 0 => 0
  | k + 1 => cntB t k + (if t k = 0 then 0 else 1)
theorem cntB_le (t : Nat → Int32) : ∀ k, cntB t k ≤ k
  | 0 => Nat.le_refl _
  | k + 1 => by
    have := cntB_le t k
    unfold cntB
    split <;> omega
set_option maxHeartbeats 1000000 in
theorem l_pins {q : Nat} {qa : Nat → Nat} {d c n a v f : Nat} {b : Bool} {r : rA} {Q : rS → (Option zV ⊕ Nat) → Prop}   (hQ : Q (c, n, a, b, v, f, r) (.inl (some (zI (nI (cntF (r 21) 8)))))) : ∀ k, k ≤ 8 → rEv q qa d tb_140 Q 4 [some (zR (some q)), some (zI (nI (cntF (r 21) k))), some (zI (nI k))] [] (c, n, a, b, v, f, r) := by
  refine dn 8 (fun k hk ih => ?_)
  refine r_ild rfl rfl ?_
  refine r_ico (x := (nI 8)) rfl rfl ?_
  refine r_cmpN (by omega) (by omega) rfl (fun h_1 => ?_) (fun h_1 => ?_)
  · replace h_1 : 8 ≤ k := h_1
    refine r_ild rfl rfl ?_
    refine r_ret rfl ⟨_, rfl⟩ ?_
    have h3 : k = 8 := by omega
    rw [h3]
    exact hQ
  · replace h_1 := Nat.not_le.mp h_1
    refine r_ild rfl rfl ?_
    refine r_ald rfl rfl ?_
    refine r_get rfl rfl ?_
    refine r_ild rfl rfl ?_
    refine r_ialdN (k0 := 21) rfl rfl (by omega) (by decide) ?_
    refine r_ico (x := (-1)) rfl rfl ?_
    refine r_cmp rfl (fun h_2 => ?_) (fun h_2 => ?_)
    · replace h_2 : ¬ (r 21 k) = (-1) := h_2
      refine r_ico (x := (nI 1)) rfl rfl ?_
      refine r_ibi (v := (nI (cntF (r 21) k + 1))) rfl (nI_add _ _) ?_
      refine r_ist (ls' := [some (zR (some q)), some (zI (nI (cntF (r 21) k + 1))), some (zI (nI k))]) rfl (Nat.le_of_ble_eq_true rfl) rfl ?_
      refine r_inc (x' := (nI (k + 1))) (ls' := [some (zR (some q)), some (zI (nI (cntF (r 21) k + 1))), some (zI (nI (k + 1)))]) rfl rfl (nI_1 _) rfl ?_
      refine r_go rfl ?_
      have h9 : cntF (r 21) (k + 1) = cntF (r 21) k + 1 := by rw [cntF, if_neg h_2]
      rw [h9] at ih
      exact ih (by omega)
    · replace h_2 : (r 21 k) = (-1) := Decidable.of_not_not h_2
      refine r_ico (x := (nI 0)) rfl rfl ?_
      refine r_go rfl ?_
      refine r_ibi (v := (nI (cntF (r 21) k + 0))) rfl (nI_add _ _) ?_
      refine r_ist (ls' := [some (zR (some q)), some (zI (nI (cntF (r 21) k + 0))), some (zI (nI k))]) rfl (Nat.le_of_ble_eq_true rfl) rfl ?_
      refine r_inc (x' := (nI (k + 1))) (ls' := [some (zR (some q)), some (zI (nI (cntF (r 21) k + 0))), some (zI (nI (k + 1)))]) rfl rfl (nI_1 _) rfl ?_
      refine r_go rfl ?_
      have h9 : cntF (r 21) (k + 1) = cntF (r 21) k + 0 := by rw [cntF, if_pos h_2]
      rw [h9] at ih
      exact ih (by omega)
set_option maxHeartbeats 1000000 in
theorem c_pins {q : Nat} {qa : Nat → Nat} {d c n a v f : Nat} {b : Bool} {r : rA}   : rFun q qa (d + 1) 140 [zR (some q)] (c, n, a, b, v, f, r) (c, n, a, b, v, f, r) (some (zI (nI (cntF (r 21) 8)))) := by
  refine rFun.of (T := tb_140) (L := [some (zR (some q)), none, none]) (Nat.le_of_ble_eq_true rfl) rfl rfl ?_
  refine r_ico (x := (nI 0)) rfl rfl ?_
  refine r_ist (ls' := [some (zR (some q)), some (zI (nI 0)), none]) rfl (Nat.le_of_ble_eq_true rfl) rfl ?_
  refine r_ico (x := (nI 0)) rfl rfl ?_
  refine r_ist (ls' := [some (zR (some q)), some (zI (nI 0)), some (zI (nI 0))]) rfl (Nat.le_of_ble_eq_true rfl) rfl ?_
  exact l_pins ⟨rfl, rfl⟩ 0 (by omega)
set_option maxHeartbeats 1000000 in
theorem l_lock {q : Nat} {qa : Nat → Nat} {d c n a v f : Nat} {b : Bool} {r : rA} {Q : rS → (Option zV ⊕ Nat) → Prop}   (hE : rEv q qa (d + 1) tb_141 Q 31 [some (zR (some q)), some (zI (nI 8))] [] (0, n, a, b, v, f, rfil r 21 (r 22) 8)) : ∀ k, k ≤ 8 → rEv q qa (d + 1) tb_141 Q 7 [some (zR (some q)), some (zI (nI k))] [] (0, n, a, b, v, f, rfil r 21 (r 22) k) := by
  refine dn 8 (fun k hk ih => ?_)
  refine r_ild rfl rfl ?_
  refine r_ico (x := (nI 8)) rfl rfl ?_
  refine r_cmpN (by omega) (by omega) rfl (fun h_1 => ?_) (fun h_1 => ?_)
  · replace h_1 : 8 ≤ k := h_1
    have h3 : k = 8 := by omega
    rw [h3]
    exact hE
  · replace h_1 := Nat.not_le.mp h_1
    refine r_ald rfl rfl ?_
    refine r_get rfl rfl ?_
    refine r_ild rfl rfl ?_
    refine r_ald rfl rfl ?_
    refine r_get rfl rfl ?_
    refine r_ild rfl rfl ?_
    refine r_ialdN (k0 := 22) rfl rfl (by omega) (by decide) ?_
    refine r_iastN (k0 := 21) (x' := ((rfil r 21 (r 22) k) 22 k)) rfl rfl (by omega) (by decide) rfl ?_
    refine r_inc (x' := (nI (k + 1))) (ls' := [some (zR (some q)), some (zI (nI (k + 1)))]) rfl rfl (nI_1 _) rfl ?_
    refine r_go rfl ?_
    rw [rfil_n (by decide), rfil_s]
    exact ih (by omega)
set_option maxHeartbeats 1000000 in
theorem c_lock {q : Nat} {qa : Nat → Nat} {d c n a v f : Nat} {b : Bool} {r : rA}   : rFun q qa (d + 2) 141 [zR (some q)] (c, n, a, b, v, f, r) (0, n, a, b, v, f, rfil r 21 (r 22) 8) (some (zI (nI (cntF (rfil r 21 (r 22) 8 21) 8)))) := by
  refine rFun.of (d := d + 1) (T := tb_141) (L := [some (zR (some q)), none]) (Nat.le_of_ble_eq_true rfl) rfl rfl ?_
  refine r_ald rfl rfl ?_
  refine r_ico (x := (nI 0)) rfl rfl ?_
  refine r_put (s' := (0, n, a, b, v, f, r)) rfl (Nat.le_of_ble_eq_true rfl) ⟨_, rfl⟩ rfl rfl ?_
  refine r_ico (x := (nI 0)) rfl rfl ?_
  refine r_ist (ls' := [some (zR (some q)), some (zI (nI 0))]) rfl (Nat.le_of_ble_eq_true rfl) rfl ?_
  refine rEv_rr (rfil_0 r 21 (r 22)) (l_lock (c := c) ?_ 0 (by omega))
  refine r_ald rfl rfl ?_
  refine r_call (as := [zR (some q)]) (r := []) (s' := (0, n, a, b, v, f, rfil r 21 (r 22) 8)) (v := some (zI (nI (cntF ((rfil r 21 (r 22) 8) 21) 8)))) rfl rfl rfl (Nat.le_of_ble_eq_true rfl) (Or.inr ⟨rfl, rfl, _, rfl⟩) c_pins ?_
  refine r_ret rfl ⟨_, rfl⟩ ?_
  exact ⟨rfl, rfl⟩
set_option maxHeartbeats 1000000 in
theorem l_unlock {q : Nat} {qa : Nat → Nat} {d c n a v f : Nat} {b : Bool} {r : rA} {Q : rS → (Option zV ⊕ Nat) → Prop} {m : Nat}  (hQ : Q (0, n, a, b, v, f, rfil r 21 (fun _ => -1) 8) (.inl (some (zI (nI m))))) : ∀ k, k ≤ 8 → rEv q qa (d + 1) tb_143 Q 12 [some (zR (some q)), some (zI (nI m)), some (zI (nI k))] [] (0, n, a, b, v, f, rfil r 21 (fun _ => -1) k) := by
  refine dn 8 (fun k hk ih => ?_)
  refine r_ild rfl rfl ?_
  refine r_ico (x := (nI 8)) rfl rfl ?_
  refine r_cmpN (by omega) (by omega) rfl (fun h_1 => ?_) (fun h_1 => ?_)
  · replace h_1 : 8 ≤ k := h_1
    refine r_ild rfl rfl ?_
    refine r_ret rfl ⟨_, rfl⟩ ?_
    have h3 : k = 8 := by omega
    rw [h3]
    exact hQ
  · replace h_1 := Nat.not_le.mp h_1
    refine r_ald rfl rfl ?_
    refine r_get rfl rfl ?_
    refine r_ild rfl rfl ?_
    refine r_ico (x := (-1)) rfl rfl ?_
    refine r_iastN (k0 := 21) (x' := (-1)) rfl rfl (by omega) (by decide) rfl ?_
    refine r_inc (x' := (nI (k + 1))) (ls' := [some (zR (some q)), some (zI (nI m)), some (zI (nI (k + 1)))]) rfl rfl (nI_1 _) rfl ?_
    refine r_go rfl ?_
    rw [rfil_s r 21 (fun _ => -1)]
    exact ih (by omega)
set_option maxHeartbeats 1000000 in
theorem c_unlock {q : Nat} {qa : Nat → Nat} {d c n a v f : Nat} {b : Bool} {r : rA}   : rFun q qa (d + 2) 143 [zR (some q)] (c, n, a, b, v, f, r) (0, n, a, b, v, f, rfil r 21 (fun _ => -1) 8) (some (zI (nI (cntF (r 21) 8)))) := by
  refine rFun.of (d := d + 1) (T := tb_143) (L := [some (zR (some q)), none, none]) (Nat.le_of_ble_eq_true rfl) rfl rfl ?_
  refine r_ald rfl rfl ?_
  refine r_ico (x := (nI 0)) rfl rfl ?_
  refine r_put (s' := (0, n, a, b, v, f, r)) rfl (Nat.le_of_ble_eq_true rfl) ⟨_, rfl⟩ rfl rfl ?_
  refine r_ald rfl rfl ?_
  refine r_call (as := [zR (some q)]) (r := []) (s' := (0, n, a, b, v, f, r)) (v := some (zI (nI (cntF (r 21) 8)))) rfl rfl rfl (Nat.le_of_ble_eq_true rfl) (Or.inr ⟨rfl, rfl, _, rfl⟩) c_pins ?_
  refine r_ist (ls' := [some (zR (some q)), some (zI (nI (cntF (r 21) 8))), none]) rfl (Nat.le_of_ble_eq_true rfl) rfl ?_
  refine r_ico (x := (nI 0)) rfl rfl ?_
  refine r_ist (ls' := [some (zR (some q)), some (zI (nI (cntF (r 21) 8))), some (zI (nI 0))]) rfl (Nat.le_of_ble_eq_true rfl) rfl ?_
  exact rEv_rr (rfil_0 r 21 (fun _ => -1)) (l_unlock (c := c) ⟨rfl, rfl⟩ 0 (by omega))
set_option maxHeartbeats 1000000 in
theorem c_chosen {q : Nat} {qa : Nat → Nat} {d c n a v f : Nat} {b : Bool} {r : rA} {p : Nat} (hp : p < 8) : rFun q qa (d + 2) 139 [zR (some q), zI (nI p)] (c, n, a, b, v, f, r) (0, n, a, b, v, f, r) (some (zI (r 22 p))) := by
  refine rFun.of (d := d + 1) (T := tb_139) (L := [some (zR (some q)), some (zI (nI p))]) (Nat.le_of_ble_eq_true rfl) rfl rfl ?_
  refine r_ald rfl rfl ?_
  refine r_ild rfl rfl ?_
  refine r_ico (x := (nI 0)) rfl rfl ?_
  refine r_ico (x := (nI 7)) rfl rfl ?_
  refine r_call (as := [zI (nI p), zI (nI 0), zI (nI 7)]) (r := [zR (some q)]) (s' := (c, n, a, b, v, f, r)) (v := some (zI (bI (true)))) rfl rfl rfl (Nat.le_of_ble_eq_true rfl) (Or.inl rfl) (c_inZ (isIn_n (by omega) (by decide))) ?_
  refine r_ifB0 rfl (fun h_1 => ?_) (fun h_1 => ?_)
  · cases h_1
  · refine r_ico (x := (nI 0)) rfl rfl ?_
    refine r_go rfl ?_
    refine r_put (s' := (0, n, a, b, v, f, r)) rfl (Nat.le_of_ble_eq_true rfl) ⟨_, rfl⟩ rfl rfl ?_
    refine r_ald rfl rfl ?_
    refine r_get rfl rfl ?_
    refine r_ifN (by omega) rfl (fun h_2 => ?_) (fun h_2 => ?_)
    · replace h_2 : 0 ≤ 0 := h_2
      refine r_ald rfl rfl ?_
      refine r_get rfl rfl ?_
      refine r_ild rfl rfl ?_
      refine r_ialdN (k0 := 22) rfl rfl (by omega) (by decide) ?_
      refine r_ret rfl ⟨_, rfl⟩ ?_
      exact ⟨rfl, rfl⟩
    · replace h_2 := Nat.not_le.mp h_2
      omega
set_option maxHeartbeats 1000000 in
theorem c_chosenX {q : Nat} {qa : Nat → Nat} {d c n a v f : Nat} {b : Bool} {r : rA} {x : Int32} (hx : isIn x (nI 0) (nI 7) = false) : rFun q qa (d + 2) 139 [zR (some q), zI (x)] (c, n, a, b, v, f, r) (1, n, a, b, v, f, r) (some (zI (nI 0))) := by
  refine rFun.of (d := d + 1) (T := tb_139) (L := [some (zR (some q)), some (zI (x))]) (Nat.le_of_ble_eq_true rfl) rfl rfl ?_
  refine r_ald rfl rfl ?_
  refine r_ild rfl rfl ?_
  refine r_ico (x := (nI 0)) rfl rfl ?_
  refine r_ico (x := (nI 7)) rfl rfl ?_
  refine r_call (as := [zI (x), zI (nI 0), zI (nI 7)]) (r := [zR (some q)]) (s' := (c, n, a, b, v, f, r)) (v := some (zI (bI (false)))) rfl rfl rfl (Nat.le_of_ble_eq_true rfl) (Or.inl rfl) (c_inZ hx) ?_
  refine r_ifB0 rfl (fun h_1 => ?_) (fun h_1 => ?_)
  · refine r_ico (x := (nI 1)) rfl rfl ?_
    refine r_put (s' := (1, n, a, b, v, f, r)) rfl (Nat.le_of_ble_eq_true rfl) ⟨_, rfl⟩ rfl rfl ?_
    refine r_ald rfl rfl ?_
    refine r_get rfl rfl ?_
    refine r_ifN (by omega) rfl (fun h_2 => ?_) (fun h_2 => ?_)
    · replace h_2 : 1 ≤ 0 := h_2
      omega
    · replace h_2 := Nat.not_le.mp h_2
      refine r_ico (x := (nI 0)) rfl rfl ?_
      refine r_go rfl ?_
      refine r_ret rfl ⟨_, rfl⟩ ?_
      exact ⟨rfl, rfl⟩
  · cases h_1
set_option maxHeartbeats 1000000 in
theorem c_pin {q : Nat} {qa : Nat → Nat} {d c n a v f : Nat} {b : Bool} {r : rA} {i pk : Nat} (hv : v ≤ 40) (hi : i < v) (hk : pk < 8) (hP : r 16 i = nI pk) : rFun q qa (d + 3) 142 [zR (some q), zI (nI i)] (c, n, a, b, v, f, r) (0, n, a, b, v, f, rset r 21 pk (nI i)) (some (zI (r 21 pk))) := by
  refine rFun.of (d := d + 2) (T := tb_142) (L := [some (zR (some q)), some (zI (nI i)), none]) (Nat.le_of_ble_eq_true rfl) rfl rfl ?_
  refine r_ald rfl rfl ?_
  refine r_ald rfl rfl ?_
  refine r_ild rfl rfl ?_
  refine r_call (as := [zR (some q), zI (nI i)]) (r := [zR (some q)]) (s' := (c, n, a, b, v, f, r)) (v := some (zI (bI (true)))) rfl rfl rfl (Nat.le_of_ble_eq_true rfl) (Or.inr ⟨rfl, rfl, _, rfl⟩) (c_isVersionZ (isIn_v hi (by omega))) ?_
  refine r_ifB0 rfl (fun h_1 => ?_) (fun h_1 => ?_)
  · cases h_1
  · refine r_ico (x := (nI 0)) rfl rfl ?_
    refine r_go rfl ?_
    refine r_put (s' := (0, n, a, b, v, f, r)) rfl (Nat.le_of_ble_eq_true rfl) ⟨_, rfl⟩ rfl rfl ?_
    refine r_ald rfl rfl ?_
    refine r_get rfl rfl ?_
    refine r_ifN (by omega) rfl (fun h_2 => ?_) (fun h_2 => ?_)
    · replace h_2 : 0 ≤ 0 := h_2
      refine r_ald rfl rfl ?_
      refine r_get rfl rfl ?_
      refine r_ald rfl rfl ?_
      refine r_get rfl rfl ?_
      refine r_ild rfl rfl ?_
      refine r_ialdN (k0 := 16) rfl rfl (by omega) (by decide) ?_
      refine r_top (y := (nI pk)) (by simp [rar, hP]) ?_
      refine r_ialdN (k0 := 21) rfl rfl (by omega) (by decide) ?_
      refine r_ist (ls' := [some (zR (some q)), some (zI (nI i)), some (zI (r 21 pk))]) rfl (Nat.le_of_ble_eq_true rfl) rfl ?_
      refine r_ald rfl rfl ?_
      refine r_get rfl rfl ?_
      refine r_ald rfl rfl ?_
      refine r_get rfl rfl ?_
      refine r_ild rfl rfl ?_
      refine r_ialdN (k0 := 16) rfl rfl (by omega) (by decide) ?_
      refine r_top (y := (nI pk)) (by simp [rar, hP]) ?_
      refine r_ild rfl rfl ?_
      refine r_iastN (k0 := 21) (x' := (nI i)) rfl rfl (by omega) (by decide) rfl ?_
      refine r_ild rfl rfl ?_
      refine r_ret rfl ⟨_, rfl⟩ ?_
      exact ⟨rfl, rfl⟩
    · replace h_2 := Nat.not_le.mp h_2
      omega
set_option maxHeartbeats 1000000 in
theorem c_pinX {q : Nat} {qa : Nat → Nat} {d c n a v f : Nat} {b : Bool} {r : rA} {x : Int32} (hx : isIn x (nI 0) (nI v - nI 1) = false) : rFun q qa (d + 3) 142 [zR (some q), zI (x)] (c, n, a, b, v, f, r) (1, n, a, b, v, f, r) (some (zI (nI 0))) := by
  refine rFun.of (d := d + 2) (T := tb_142) (L := [some (zR (some q)), some (zI (x)), none]) (Nat.le_of_ble_eq_true rfl) rfl rfl ?_
  refine r_ald rfl rfl ?_
  refine r_ald rfl rfl ?_
  refine r_ild rfl rfl ?_
  refine r_call (as := [zR (some q), zI (x)]) (r := [zR (some q)]) (s' := (c, n, a, b, v, f, r)) (v := some (zI (bI (false)))) rfl rfl rfl (Nat.le_of_ble_eq_true rfl) (Or.inr ⟨rfl, rfl, _, rfl⟩) (c_isVersionZ hx) ?_
  refine r_ifB0 rfl (fun h_1 => ?_) (fun h_1 => ?_)
  · refine r_ico (x := (nI 1)) rfl rfl ?_
    refine r_put (s' := (1, n, a, b, v, f, r)) rfl (Nat.le_of_ble_eq_true rfl) ⟨_, rfl⟩ rfl rfl ?_
    refine r_ald rfl rfl ?_
    refine r_get rfl rfl ?_
    refine r_ifN (by omega) rfl (fun h_2 => ?_) (fun h_2 => ?_)
    · replace h_2 : 1 ≤ 0 := h_2
      omega
    · replace h_2 := Nat.not_le.mp h_2
      refine r_ico (x := (nI 0)) rfl rfl ?_
      refine r_ret rfl ⟨_, rfl⟩ ?_
      exact ⟨rfl, rfl⟩
  · cases h_1
set_option maxHeartbeats 1000000 in
theorem c_compare {q : Nat} {qa : Nat → Nat} {d c n a v f : Nat} {b : Bool} {r : rA} {i j : Nat} (hv : v ≤ 40) (hi : i < v) (hj : j < v) (hI : rowOK r i) (hJ : rowOK r j) : rFun q qa (d + 5) 146 [zR (some q), zI (nI i), zI (nI j)] (c, n, a, b, v, f, r) (0, n, a, b, v, f, r) (some (zI (ordF r i (wsz r i) j (wsz r j)))) := by
  refine rFun.of (d := d + 4) (T := tb_146) (L := [some (zR (some q)), some (zI (nI i)), some (zI (nI j))]) (Nat.le_of_ble_eq_true rfl) rfl rfl ?_
  refine r_ald rfl rfl ?_
  refine r_ald rfl rfl ?_
  refine r_ild rfl rfl ?_
  refine r_call (as := [zR (some q), zI (nI i)]) (r := [zR (some q)]) (s' := (c, n, a, b, v, f, r)) (v := some (zI (bI (true)))) rfl rfl rfl (Nat.le_of_ble_eq_true rfl) (Or.inr ⟨rfl, rfl, _, rfl⟩) (c_isVersionZ (isIn_v (by omega) (by omega))) ?_
  refine r_ifB0 rfl (fun h_1 => ?_) (fun h_1 => ?_)
  · cases h_1
  · refine r_ald rfl rfl ?_
    refine r_ild rfl rfl ?_
    refine r_call (as := [zR (some q), zI (nI j)]) (r := [zR (some q)]) (s' := (c, n, a, b, v, f, r)) (v := some (zI (bI (true)))) rfl rfl rfl (Nat.le_of_ble_eq_true rfl) (Or.inr ⟨rfl, rfl, _, rfl⟩) (c_isVersionZ (isIn_v (by omega) (by omega))) ?_
    refine r_ifB0 rfl (fun h_2 => ?_) (fun h_2 => ?_)
    · cases h_2
    · refine r_ico (x := (nI 0)) rfl rfl ?_
      refine r_go rfl ?_
      refine r_put (s' := (0, n, a, b, v, f, r)) rfl (Nat.le_of_ble_eq_true rfl) ⟨_, rfl⟩ rfl rfl ?_
      refine r_ald rfl rfl ?_
      refine r_get rfl rfl ?_
      refine r_ifN (by omega) rfl (fun h_3 => ?_) (fun h_3 => ?_)
      · replace h_3 : 0 ≤ 0 := h_3
        refine r_ald rfl rfl ?_
        refine r_ild rfl rfl ?_
        refine r_ild rfl rfl ?_
        refine r_call (as := [zR (some q), zI (nI i), zI (nI j)]) (r := []) (s' := (0, n, a, b, v, f, r)) (v := some (zI (ordF r i (wsz r i) j (wsz r j)))) rfl rfl rfl (Nat.le_of_ble_eq_true rfl) (Or.inr ⟨rfl, rfl, _, rfl⟩) (c_order (by omega) (by omega) hI.1.2 hJ.1.2 hI.1.1 hJ.1.1) ?_
        refine r_ret rfl ⟨_, rfl⟩ ?_
        exact ⟨rfl, rfl⟩
      · replace h_3 := Nat.not_le.mp h_3
        omega
set_option maxHeartbeats 1000000 in
theorem c_compareX {q : Nat} {qa : Nat → Nat} {d c n a v f : Nat} {b : Bool} {r : rA} {x y : Int32} (hx : (isIn x (nI 0) (nI v - nI 1) && isIn y (nI 0) (nI v - nI 1)) = false) : rFun q qa (d + 3) 146 [zR (some q), zI (x), zI (y)] (c, n, a, b, v, f, r) (1, n, a, b, v, f, r) (some (zI (nI 0))) := by
  refine rFun.of (d := d + 2) (T := tb_146) (L := [some (zR (some q)), some (zI (x)), some (zI (y))]) (Nat.le_of_ble_eq_true rfl) rfl rfl ?_
  refine r_ald rfl rfl ?_
  refine r_ald rfl rfl ?_
  refine r_ild rfl rfl ?_
  refine r_call (as := [zR (some q), zI (x)]) (r := [zR (some q)]) (s' := (c, n, a, b, v, f, r)) (v := some (zI (bI (isIn (x) (nI 0) (nI v - nI 1))))) rfl rfl rfl (Nat.le_of_ble_eq_true rfl) (Or.inr ⟨rfl, rfl, _, rfl⟩) (c_isVersionZ rfl) ?_
  refine r_ifB0 rfl (fun h_1 => ?_) (fun h_1 => ?_)
  · refine r_ico (x := (nI 1)) rfl rfl ?_
    refine r_put (s' := (1, n, a, b, v, f, r)) rfl (Nat.le_of_ble_eq_true rfl) ⟨_, rfl⟩ rfl rfl ?_
    refine r_ald rfl rfl ?_
    refine r_get rfl rfl ?_
    refine r_ifN (by omega) rfl (fun h_2 => ?_) (fun h_2 => ?_)
    · replace h_2 : 1 ≤ 0 := h_2
      omega
    · replace h_2 := Nat.not_le.mp h_2
      refine r_ico (x := (nI 0)) rfl rfl ?_
      refine r_go rfl ?_
      refine r_ret rfl ⟨_, rfl⟩ ?_
      exact ⟨rfl, rfl⟩
  · refine r_ald rfl rfl ?_
    refine r_ild rfl rfl ?_
    refine r_call (as := [zR (some q), zI (y)]) (r := [zR (some q)]) (s' := (c, n, a, b, v, f, r)) (v := some (zI (bI (isIn (y) (nI 0) (nI v - nI 1))))) rfl rfl rfl (Nat.le_of_ble_eq_true rfl) (Or.inr ⟨rfl, rfl, _, rfl⟩) (c_isVersionZ rfl) ?_
    refine r_ifB0 rfl (fun h_3 => ?_) (fun h_3 => ?_)
    · refine r_ico (x := (nI 1)) rfl rfl ?_
      refine r_put (s' := (1, n, a, b, v, f, r)) rfl (Nat.le_of_ble_eq_true rfl) ⟨_, rfl⟩ rfl rfl ?_
      refine r_ald rfl rfl ?_
      refine r_get rfl rfl ?_
      refine r_ifN (by omega) rfl (fun h_4 => ?_) (fun h_4 => ?_)
      · replace h_4 : 1 ≤ 0 := h_4
        omega
      · replace h_4 := Nat.not_le.mp h_4
        refine r_ico (x := (nI 0)) rfl rfl ?_
        refine r_go rfl ?_
        refine r_ret rfl ⟨_, rfl⟩ ?_
        exact ⟨rfl, rfl⟩
    · rw [h_1, h_3] at hx
      cases hx
set_option maxHeartbeats 1000000 in
theorem c_needs {q : Nat} {qa : Nat → Nat} {d c n a v f : Nat} {b : Bool} {r : rA} {i j m : Nat} (hv : v ≤ 40) (hi : i < v) (hm : m ≤ 5) (hj : j < m) (hM : r 14 i = nI m) : rFun q qa (d + 3) 147 [zR (some q), zI (nI i), zI (nI j)] (c, n, a, b, v, f, r) (0, n, a, b, v, f, r) (some (zI (r 13 (5 * i + j)))) := by
  refine rFun.of (d := d + 2) (T := tb_147) (L := [some (zR (some q)), some (zI (nI i)), some (zI (nI j))]) (Nat.le_of_ble_eq_true rfl) rfl rfl ?_
  refine r_ald rfl rfl ?_
  refine r_ald rfl rfl ?_
  refine r_ild rfl rfl ?_
  refine r_call (as := [zR (some q), zI (nI i)]) (r := [zR (some q)]) (s' := (c, n, a, b, v, f, r)) (v := some (zI (bI (true)))) rfl rfl rfl (Nat.le_of_ble_eq_true rfl) (Or.inr ⟨rfl, rfl, _, rfl⟩) (c_isVersionZ (isIn_v hi (by omega))) ?_
  refine r_ifB0 rfl (fun h_1 => ?_) (fun h_1 => ?_)
  · cases h_1
  · refine r_ico (x := (nI 0)) rfl rfl ?_
    refine r_go rfl ?_
    refine r_put (s' := (0, n, a, b, v, f, r)) rfl (Nat.le_of_ble_eq_true rfl) ⟨_, rfl⟩ rfl rfl ?_
    refine r_ald rfl rfl ?_
    refine r_get rfl rfl ?_
    refine r_ifN (by omega) rfl (fun h_2 => ?_) (fun h_2 => ?_)
    · replace h_2 : 0 ≤ 0 := h_2
      refine r_ild rfl rfl ?_
      refine r_ico (x := (nI 0)) rfl rfl ?_
      refine r_ald rfl rfl ?_
      refine r_get rfl rfl ?_
      refine r_ild rfl rfl ?_
      refine r_ialdN (k0 := 14) rfl rfl (by omega) (by decide) ?_
      refine r_top (y := (nI m)) (by simp [rar, hM]) ?_
      refine r_ico (x := (nI 1)) rfl rfl ?_
      refine r_ibi (v := ((nI m) - (nI 1))) rfl rfl ?_
      refine r_call (as := [zI (nI j), zI (nI 0), zI ((nI m) - (nI 1))]) (r := []) (s' := (0, n, a, b, v, f, r)) (v := some (zI (bI (true)))) rfl rfl rfl (Nat.le_of_ble_eq_true rfl) (Or.inl rfl) (c_inZ (isIn_v hj (by omega))) ?_
      refine r_ifB0 rfl (fun h_3 => ?_) (fun h_3 => ?_)
      · cases h_3
      · refine r_ald rfl rfl ?_
        refine r_get rfl rfl ?_
        refine r_ico (x := (nI 5)) rfl rfl ?_
        refine r_ild rfl rfl ?_
        refine r_ibi (v := (nI (5 * i))) rfl (pk_mul _ _) ?_
        refine r_ild rfl rfl ?_
        refine r_ibi (v := (nI (5 * i + j))) rfl (nI_add _ _) ?_
        refine r_ialdN (k0 := 13) rfl rfl (by omega) (by decide) ?_
        refine r_go rfl ?_
        refine r_ret rfl ⟨_, rfl⟩ ?_
        exact ⟨rfl, rfl⟩
    · replace h_2 := Nat.not_le.mp h_2
      omega
set_option maxHeartbeats 1000000 in
theorem c_needsN {q : Nat} {qa : Nat → Nat} {d c n a v f : Nat} {b : Bool} {r : rA} {i m : Nat} {x : Int32} (hv : v ≤ 40) (hi : i < v) (hM : r 14 i = nI m) (hx : isIn x (nI 0) (nI m - nI 1) = false) : rFun q qa (d + 3) 147 [zR (some q), zI (nI i), zI (x)] (c, n, a, b, v, f, r) (0, n, a, b, v, f, r) (some (zI (-1))) := by
  refine rFun.of (d := d + 2) (T := tb_147) (L := [some (zR (some q)), some (zI (nI i)), some (zI (x))]) (Nat.le_of_ble_eq_true rfl) rfl rfl ?_
  refine r_ald rfl rfl ?_
  refine r_ald rfl rfl ?_
  refine r_ild rfl rfl ?_
  refine r_call (as := [zR (some q), zI (nI i)]) (r := [zR (some q)]) (s' := (c, n, a, b, v, f, r)) (v := some (zI (bI (true)))) rfl rfl rfl (Nat.le_of_ble_eq_true rfl) (Or.inr ⟨rfl, rfl, _, rfl⟩) (c_isVersionZ (isIn_v hi (by omega))) ?_
  refine r_ifB0 rfl (fun h_1 => ?_) (fun h_1 => ?_)
  · cases h_1
  · refine r_ico (x := (nI 0)) rfl rfl ?_
    refine r_go rfl ?_
    refine r_put (s' := (0, n, a, b, v, f, r)) rfl (Nat.le_of_ble_eq_true rfl) ⟨_, rfl⟩ rfl rfl ?_
    refine r_ald rfl rfl ?_
    refine r_get rfl rfl ?_
    refine r_ifN (by omega) rfl (fun h_2 => ?_) (fun h_2 => ?_)
    · replace h_2 : 0 ≤ 0 := h_2
      refine r_ild rfl rfl ?_
      refine r_ico (x := (nI 0)) rfl rfl ?_
      refine r_ald rfl rfl ?_
      refine r_get rfl rfl ?_
      refine r_ild rfl rfl ?_
      refine r_ialdN (k0 := 14) rfl rfl (by omega) (by decide) ?_
      refine r_top (y := (nI m)) (by simp [rar, hM]) ?_
      refine r_ico (x := (nI 1)) rfl rfl ?_
      refine r_ibi (v := ((nI m) - (nI 1))) rfl rfl ?_
      refine r_call (as := [zI (x), zI (nI 0), zI ((nI m) - (nI 1))]) (r := []) (s' := (0, n, a, b, v, f, r)) (v := some (zI (bI (false)))) rfl rfl rfl (Nat.le_of_ble_eq_true rfl) (Or.inl rfl) (c_inZ hx) ?_
      refine r_ifB0 rfl (fun h_3 => ?_) (fun h_3 => ?_)
      · refine r_ico (x := (-1)) rfl rfl ?_
        refine r_ret rfl ⟨_, rfl⟩ ?_
        exact ⟨rfl, rfl⟩
      · cases h_3
    · replace h_2 := Nat.not_le.mp h_2
      omega
set_option maxHeartbeats 1000000 in
theorem c_needsX {q : Nat} {qa : Nat → Nat} {d c n a v f : Nat} {b : Bool} {r : rA} {x y : Int32} (hx : isIn x (nI 0) (nI v - nI 1) = false) : rFun q qa (d + 3) 147 [zR (some q), zI (x), zI (y)] (c, n, a, b, v, f, r) (1, n, a, b, v, f, r) (some (zI (nI 0))) := by
  refine rFun.of (d := d + 2) (T := tb_147) (L := [some (zR (some q)), some (zI (x)), some (zI (y))]) (Nat.le_of_ble_eq_true rfl) rfl rfl ?_
  refine r_ald rfl rfl ?_
  refine r_ald rfl rfl ?_
  refine r_ild rfl rfl ?_
  refine r_call (as := [zR (some q), zI (x)]) (r := [zR (some q)]) (s' := (c, n, a, b, v, f, r)) (v := some (zI (bI (false)))) rfl rfl rfl (Nat.le_of_ble_eq_true rfl) (Or.inr ⟨rfl, rfl, _, rfl⟩) (c_isVersionZ hx) ?_
  refine r_ifB0 rfl (fun h_1 => ?_) (fun h_1 => ?_)
  · refine r_ico (x := (nI 1)) rfl rfl ?_
    refine r_put (s' := (1, n, a, b, v, f, r)) rfl (Nat.le_of_ble_eq_true rfl) ⟨_, rfl⟩ rfl rfl ?_
    refine r_ald rfl rfl ?_
    refine r_get rfl rfl ?_
    refine r_ifN (by omega) rfl (fun h_2 => ?_) (fun h_2 => ?_)
    · replace h_2 : 1 ≤ 0 := h_2
      omega
    · replace h_2 := Nat.not_le.mp h_2
      refine r_ico (x := (nI 0)) rfl rfl ?_
      refine r_go rfl ?_
      refine r_ret rfl ⟨_, rfl⟩ ?_
      exact ⟨rfl, rfl⟩
  · cases h_1
set_option maxHeartbeats 1000000 in
theorem c_fileByte {q : Nat} {qa : Nat → Nat} {d c n a v f : Nat} {b : Bool} {r : rA} {i : Nat} (hf : f ≤ 250) (hi : i < f) : rFun q qa (d + 2) 151 [zR (some q), zI (nI i)] (c, n, a, b, v, f, r) (0, n, a, b, v, f, r) (some (zI (r 24 i))) := by
  refine rFun.of (d := d + 1) (T := tb_151) (L := [some (zR (some q)), some (zI (nI i))]) (Nat.le_of_ble_eq_true rfl) rfl rfl ?_
  refine r_ald rfl rfl ?_
  refine r_ild rfl rfl ?_
  refine r_ico (x := (nI 0)) rfl rfl ?_
  refine r_ald rfl rfl ?_
  refine r_get rfl rfl ?_
  refine r_ico (x := (nI 1)) rfl rfl ?_
  refine r_ibi (v := ((nI f) - (nI 1))) rfl rfl ?_
  refine r_call (as := [zI (nI i), zI (nI 0), zI ((nI f) - (nI 1))]) (r := [zR (some q)]) (s' := (c, n, a, b, v, f, r)) (v := some (zI (bI (true)))) rfl rfl rfl (Nat.le_of_ble_eq_true rfl) (Or.inl rfl) (c_inZ (isIn_v hi (by omega))) ?_
  refine r_ifB0 rfl (fun h_1 => ?_) (fun h_1 => ?_)
  · cases h_1
  · refine r_ico (x := (nI 0)) rfl rfl ?_
    refine r_go rfl ?_
    refine r_put (s' := (0, n, a, b, v, f, r)) rfl (Nat.le_of_ble_eq_true rfl) ⟨_, rfl⟩ rfl rfl ?_
    refine r_ald rfl rfl ?_
    refine r_get rfl rfl ?_
    refine r_ifN (by omega) rfl (fun h_2 => ?_) (fun h_2 => ?_)
    · replace h_2 : 0 ≤ 0 := h_2
      refine r_ald rfl rfl ?_
      refine r_get rfl rfl ?_
      refine r_ild rfl rfl ?_
      refine r_ialdN (k0 := 24) rfl rfl (by omega) (by decide) ?_
      refine r_ret rfl ⟨_, rfl⟩ ?_
      exact ⟨rfl, rfl⟩
    · replace h_2 := Nat.not_le.mp h_2
      omega
set_option maxHeartbeats 1000000 in
theorem c_fileByteX {q : Nat} {qa : Nat → Nat} {d c n a v f : Nat} {b : Bool} {r : rA} {x : Int32} (hx : isIn x (nI 0) (nI f - nI 1) = false) : rFun q qa (d + 2) 151 [zR (some q), zI (x)] (c, n, a, b, v, f, r) (1, n, a, b, v, f, r) (some (zI (nI 0))) := by
  refine rFun.of (d := d + 1) (T := tb_151) (L := [some (zR (some q)), some (zI (x))]) (Nat.le_of_ble_eq_true rfl) rfl rfl ?_
  refine r_ald rfl rfl ?_
  refine r_ild rfl rfl ?_
  refine r_ico (x := (nI 0)) rfl rfl ?_
  refine r_ald rfl rfl ?_
  refine r_get rfl rfl ?_
  refine r_ico (x := (nI 1)) rfl rfl ?_
  refine r_ibi (v := ((nI f) - (nI 1))) rfl rfl ?_
  refine r_call (as := [zI (x), zI (nI 0), zI ((nI f) - (nI 1))]) (r := [zR (some q)]) (s' := (c, n, a, b, v, f, r)) (v := some (zI (bI (false)))) rfl rfl rfl (Nat.le_of_ble_eq_true rfl) (Or.inl rfl) (c_inZ hx) ?_
  refine r_ifB0 rfl (fun h_1 => ?_) (fun h_1 => ?_)
  · refine r_ico (x := (nI 1)) rfl rfl ?_
    refine r_put (s' := (1, n, a, b, v, f, r)) rfl (Nat.le_of_ble_eq_true rfl) ⟨_, rfl⟩ rfl rfl ?_
    refine r_ald rfl rfl ?_
    refine r_get rfl rfl ?_
    refine r_ifN (by omega) rfl (fun h_2 => ?_) (fun h_2 => ?_)
    · replace h_2 : 1 ≤ 0 := h_2
      omega
    · replace h_2 := Nat.not_le.mp h_2
      refine r_ico (x := (nI 0)) rfl rfl ?_
      refine r_go rfl ?_
      refine r_ret rfl ⟨_, rfl⟩ ?_
      exact ⟨rfl, rfl⟩
  · cases h_1
end
section
/-- k cells of an array from o on, each anew -/
def rput (r : rA) (k0 o : Nat) (g : Nat → Int32) (k : Nat) : rA := fun j => if j = k0 then (fun i => if o ≤ i ∧ i < o + k then g (i - o) else r k0 i) else r j
theorem rput_0 (r : rA) (k0 o : Nat) (g : Nat → Int32) : rput r k0 o g 0 = r := by
  funext j i
  unfold rput
  split
  · rename_i h
    subst h
    show (if _ then _ else _) = _
    rw [if_neg (by omega)]
  · rfl
theorem rput_n {r : rA} {k0 o : Nat} {g : Nat → Int32} {k j : Nat} (h : j ≠ k0) : rput r k0 o g k j = r j := by simp [rput, h]
theorem rput_s (r : rA) (k0 o : Nat) (g : Nat → Int32) (k : Nat) : rset (rput r k0 o g k) k0 (o + k) (g k) = rput r k0 o g (k + 1) := by
  funext j i
  unfold rset
  split
  · rename_i h
    subst h
    unfold upd rput
    simp only [if_pos]
    by_cases hi : i = o + k
    · subst hi
      simp
    · simp only [if_neg hi]
      by_cases g : o ≤ i ∧ i < o + k
      · rw [if_pos g, if_pos (by omega)]
      · rw [if_neg g, if_neg (by omega)]
  · rename_i h
    rw [rput_n h, rput_n h]
/-- the k-th byte of what is fed -/
def fby (x : Int64) (k : Nat) : Int32 := Int64.toInt32 (zlsh 1 x (nI (8 * k)) &&& 255)
/-- a line of the file -/
def wlF (r R : rA) (p f : Nat) : Nat × rA :=
  if r 22 p = -1 then (f, R) else (f + 1 + 1 + (r 18 (r 22 p).toNatClampNeg).toNatClampNeg + 1, rset (rput (rset (rset R 24 f (nI (48 + p))) 24 (f + 1) (nI 32)) 24 (f + 1 + 1) (fun y => r 19 (24 * (r 22 p).toNatClampNeg + y)) (r 18 (r 22 p).toNatClampNeg).toNatClampNeg) 24 (f + 1 + 1 + (r 18 (r 22 p).toNatClampNeg).toNatClampNeg) (nI 10))
/-- the lines of the first packages -/
def wfF (r : rA) : Nat → Nat × rA
  | 0 => (0, r)
  | p + 1 => wlF r (wfF r p).2 p (wfF r p).1
theorem wfF_n (r : rA) : ∀ (p k : Nat), k ≠ 24 → (wfF r p).2 k = r k
  | 0, k, _ => rfl
  | p + 1, k, h => by
    rw [wfF, wlF]
    split
    · exact wfF_n r p k h
    · show rset (rput (rset (rset _ 24 _ _) 24 _ _) 24 _ _ _) 24 _ _ k = _
      rw [rset_n _ _ _ h, rput_n h, rset_n _ _ _ h, rset_n _ _ _ h]
      exact wfF_n r p k h
theorem wfF_le (r : rA) (hC : ∀ p, p < 8 → r 22 p = -1 ∨ ∃ i, i < 40 ∧ r 22 p = nI i ∧ ∃ m, m ≤ 24 ∧ r 18 i = nI m) : ∀ p, p ≤ 8 → (wfF r p).1 ≤ 27 * p
  | 0, _ => Nat.le_refl _
  | p + 1, h => by
    have ih := wfF_le r hC p (by omega)
    rw [wfF, wlF]
    split
    · exact Nat.le_trans ih (by omega)
    · rename_i hp
      rcases hC p (by omega) with e | ⟨i, hi, e, m, hm, e2⟩
      · exact absurd e hp
      · rw [e, nI_clamp (by omega), e2, nI_clamp (by omega)]
        show _ + 1 + 1 + m + 1 ≤ _
        omega
set_option maxHeartbeats 1000000 in
theorem l_told1 {q : Nat} {qa : Nat → Nat} {d c n a v f : Nat} {b : Bool} {r : rA} {Q : rS → (Option zV ⊕ Nat) → Prop}  (hv : v ≤ 40) (hE : rEv q qa (d + 1) tb_148 Q 45 [some (zR (some q)), some (zI (nI 1)), some (zI (nI (cntB (r 17) v))), some (zI (nI v))] [] (0, n, a, b, v, f, r)) : ∀ k, k ≤ v → rEv q qa (d + 1) tb_148 Q 9 [some (zR (some q)), some (zI (nI 1)), some (zI (nI (cntB (r 17) k))), some (zI (nI k))] [] (0, n, a, b, v, f, r) := by
  refine dn v (fun k hk ih => ?_)
  refine r_ild rfl rfl ?_
  refine r_ald rfl rfl ?_
  refine r_get rfl rfl ?_
  refine r_cmpN (by omega) (by omega) rfl (fun h_1 => ?_) (fun h_1 => ?_)
  · replace h_1 : v ≤ k := h_1
    have h3 : k = v := by omega
    subst h3
    exact hE
  · replace h_1 := Nat.not_le.mp h_1
    refine r_ild rfl rfl ?_
    refine r_ico (x := (nI 1)) rfl rfl ?_
    refine r_cmpN (by omega) (by omega) rfl (fun h_2 => ?_) (fun h_2 => ?_)
    · replace h_2 : ¬ 1 = 1 := h_2
      omega
    · replace h_2 : 1 = 1 := Decidable.of_not_not h_2
      refine r_ild rfl rfl ?_
      refine r_ald rfl rfl ?_
      refine r_get rfl rfl ?_
      refine r_ild rfl rfl ?_
      refine r_ialdN (k0 := 17) rfl rfl (by omega) (by decide) ?_
      refine r_if rfl (fun h_3 => ?_) (fun h_3 => ?_)
      · replace h_3 : (r 17 k) = 0 := h_3
        refine r_ico (x := (nI 0)) rfl rfl ?_
        refine r_ibi (v := (nI (cntB (r 17) k + 0))) rfl (nI_add _ _) ?_
        refine r_ist (ls' := [some (zR (some q)), some (zI (nI 1)), some (zI (nI (cntB (r 17) k + 0))), some (zI (nI k))]) rfl (Nat.le_of_ble_eq_true rfl) rfl ?_
        refine r_inc (x' := (nI (k + 1))) (ls' := [some (zR (some q)), some (zI (nI 1)), some (zI (nI (cntB (r 17) k + 0))), some (zI (nI (k + 1)))]) rfl rfl (nI_1 _) rfl ?_
        refine r_go rfl ?_
        have h9 : cntB (r 17) (k + 1) = cntB (r 17) k + 0 := by rw [cntB, if_pos h_3]
        rw [h9] at ih
        exact ih (by omega)
      · replace h_3 : ¬ ((r 17 k) = 0) := h_3
        refine r_ico (x := (nI 1)) rfl rfl ?_
        refine r_go rfl ?_
        refine r_ibi (v := (nI (cntB (r 17) k + 1))) rfl (nI_add _ _) ?_
        refine r_ist (ls' := [some (zR (some q)), some (zI (nI 1)), some (zI (nI (cntB (r 17) k + 1))), some (zI (nI k))]) rfl (Nat.le_of_ble_eq_true rfl) rfl ?_
        refine r_inc (x' := (nI (k + 1))) (ls' := [some (zR (some q)), some (zI (nI 1)), some (zI (nI (cntB (r 17) k + 1))), some (zI (nI (k + 1)))]) rfl rfl (nI_1 _) rfl ?_
        refine r_go rfl ?_
        have h9 : cntB (r 17) (k + 1) = cntB (r 17) k + 1 := by rw [cntB, if_neg h_3]
        rw [h9] at ih
        exact ih (by omega)
set_option maxHeartbeats 1000000 in
theorem l_told2 {q : Nat} {qa : Nat → Nat} {d c n a v f : Nat} {b : Bool} {r : rA} {Q : rS → (Option zV ⊕ Nat) → Prop}   (hE : rEv q qa (d + 1) tb_148 Q 81 [some (zR (some q)), some (zI (nI 2)), some (zI (nI (cntB (r 20) 8))), some (zI (nI 8))] [] (0, n, a, b, v, f, r)) : ∀ k, k ≤ 8 → rEv q qa (d + 1) tb_148 Q 47 [some (zR (some q)), some (zI (nI 2)), some (zI (nI (cntB (r 20) k))), some (zI (nI k))] [] (0, n, a, b, v, f, r) := by
  refine dn 8 (fun k hk ih => ?_)
  refine r_ild rfl rfl ?_
  refine r_ico (x := (nI 8)) rfl rfl ?_
  refine r_cmpN (by omega) (by omega) rfl (fun h_1 => ?_) (fun h_1 => ?_)
  · replace h_1 : 8 ≤ k := h_1
    have h3 : k = 8 := by omega
    rw [h3]
    exact hE
  · replace h_1 := Nat.not_le.mp h_1
    refine r_ild rfl rfl ?_
    refine r_ico (x := (nI 2)) rfl rfl ?_
    refine r_cmpN (by omega) (by omega) rfl (fun h_2 => ?_) (fun h_2 => ?_)
    · replace h_2 : ¬ 2 = 2 := h_2
      omega
    · replace h_2 : 2 = 2 := Decidable.of_not_not h_2
      refine r_ild rfl rfl ?_
      refine r_ald rfl rfl ?_
      refine r_get rfl rfl ?_
      refine r_ild rfl rfl ?_
      refine r_ialdN (k0 := 20) rfl rfl (by omega) (by decide) ?_
      refine r_if rfl (fun h_3 => ?_) (fun h_3 => ?_)
      · replace h_3 : (r 20 k) = 0 := h_3
        refine r_ico (x := (nI 0)) rfl rfl ?_
        refine r_ibi (v := (nI (cntB (r 20) k + 0))) rfl (nI_add _ _) ?_
        refine r_ist (ls' := [some (zR (some q)), some (zI (nI 2)), some (zI (nI (cntB (r 20) k + 0))), some (zI (nI k))]) rfl (Nat.le_of_ble_eq_true rfl) rfl ?_
        refine r_inc (x' := (nI (k + 1))) (ls' := [some (zR (some q)), some (zI (nI 2)), some (zI (nI (cntB (r 20) k + 0))), some (zI (nI (k + 1)))]) rfl rfl (nI_1 _) rfl ?_
        refine r_go rfl ?_
        have h9 : cntB (r 20) (k + 1) = cntB (r 20) k + 0 := by rw [cntB, if_pos h_3]
        rw [h9] at ih
        exact ih (by omega)
      · replace h_3 : ¬ ((r 20 k) = 0) := h_3
        refine r_ico (x := (nI 1)) rfl rfl ?_
        refine r_go rfl ?_
        refine r_ibi (v := (nI (cntB (r 20) k + 1))) rfl (nI_add _ _) ?_
        refine r_ist (ls' := [some (zR (some q)), some (zI (nI 2)), some (zI (nI (cntB (r 20) k + 1))), some (zI (nI k))]) rfl (Nat.le_of_ble_eq_true rfl) rfl ?_
        refine r_inc (x' := (nI (k + 1))) (ls' := [some (zR (some q)), some (zI (nI 2)), some (zI (nI (cntB (r 20) k + 1))), some (zI (nI (k + 1)))]) rfl rfl (nI_1 _) rfl ?_
        refine r_go rfl ?_
        have h9 : cntB (r 20) (k + 1) = cntB (r 20) k + 1 := by rw [cntB, if_neg h_3]
        rw [h9] at ih
        exact ih (by omega)
set_option maxHeartbeats 1000000 in
theorem c_told0 {q : Nat} {qa : Nat → Nat} {d c n a v f : Nat} {b : Bool} {r : rA}  (hv : v ≤ 40) : rFun q qa (d + 2) 148 [zR (some q), zI (nI 0)] (c, n, a, b, v, f, r) (0, n, a, b, v, f, r) (some (zI (nI v))) := by
  refine rFun.of (d := d + 1) (T := tb_148) (L := [some (zR (some q)), some (zI (nI 0)), none, none]) (Nat.le_of_ble_eq_true rfl) rfl rfl ?_
  refine r_ald rfl rfl ?_
  refine r_ico (x := (nI 0)) rfl rfl ?_
  refine r_put (s' := (0, n, a, b, v, f, r)) rfl (Nat.le_of_ble_eq_true rfl) ⟨_, rfl⟩ rfl rfl ?_
  refine r_ico (x := (nI 0)) rfl rfl ?_
  refine r_ist (ls' := [some (zR (some q)), some (zI (nI 0)), some (zI (nI 0)), none]) rfl (Nat.le_of_ble_eq_true rfl) rfl ?_
  refine r_ico (x := (nI 0)) rfl rfl ?_
  refine r_ist (ls' := [some (zR (some q)), some (zI (nI 0)), some (zI (nI 0)), some (zI (nI 0))]) rfl (Nat.le_of_ble_eq_true rfl) rfl ?_
  refine r_ild rfl rfl ?_
  refine r_ald rfl rfl ?_
  refine r_get rfl rfl ?_
  refine r_cmpN (by omega) (by omega) rfl (fun h_1 => ?_) (fun h_1 => ?_)
  · replace h_1 : v ≤ 0 := h_1
    refine r_ico (x := (nI 0)) rfl rfl ?_
    refine r_ist (ls' := [some (zR (some q)), some (zI (nI 0)), some (zI (nI 0)), some (zI (nI 0))]) rfl (Nat.le_of_ble_eq_true rfl) rfl ?_
    refine r_ild rfl rfl ?_
    refine r_ico (x := (nI 8)) rfl rfl ?_
    refine r_cmpN (by omega) (by omega) rfl (fun h_2 => ?_) (fun h_2 => ?_)
    · replace h_2 : 8 ≤ 0 := h_2
      omega
    · replace h_2 := Nat.not_le.mp h_2
      refine r_ild rfl rfl ?_
      refine r_ico (x := (nI 2)) rfl rfl ?_
      refine r_cmpN (by omega) (by omega) rfl (fun h_3 => ?_) (fun h_3 => ?_)
      · replace h_3 : ¬ 0 = 2 := h_3
        refine r_ild rfl rfl ?_
        refine r_ifN (by omega) rfl (fun h_4 => ?_) (fun h_4 => ?_)
        · replace h_4 : ¬ 0 = 0 := h_4
          omega
        · replace h_4 : 0 = 0 := Decidable.of_not_not h_4
          refine r_ald rfl rfl ?_
          refine r_get rfl rfl ?_
          refine r_go rfl ?_
          refine r_ret rfl ⟨_, rfl⟩ ?_
          exact ⟨rfl, rfl⟩
      · replace h_3 : 0 = 2 := Decidable.of_not_not h_3
        omega
  · replace h_1 := Nat.not_le.mp h_1
    refine r_ild rfl rfl ?_
    refine r_ico (x := (nI 1)) rfl rfl ?_
    refine r_cmpN (by omega) (by omega) rfl (fun h_5 => ?_) (fun h_5 => ?_)
    · replace h_5 : ¬ 0 = 1 := h_5
      refine r_ico (x := (nI 0)) rfl rfl ?_
      refine r_ist (ls' := [some (zR (some q)), some (zI (nI 0)), some (zI (nI 0)), some (zI (nI 0))]) rfl (Nat.le_of_ble_eq_true rfl) rfl ?_
      refine r_ild rfl rfl ?_
      refine r_ico (x := (nI 8)) rfl rfl ?_
      refine r_cmpN (by omega) (by omega) rfl (fun h_6 => ?_) (fun h_6 => ?_)
      · replace h_6 : 8 ≤ 0 := h_6
        omega
      · replace h_6 := Nat.not_le.mp h_6
        refine r_ild rfl rfl ?_
        refine r_ico (x := (nI 2)) rfl rfl ?_
        refine r_cmpN (by omega) (by omega) rfl (fun h_7 => ?_) (fun h_7 => ?_)
        · replace h_7 : ¬ 0 = 2 := h_7
          refine r_ild rfl rfl ?_
          refine r_ifN (by omega) rfl (fun h_8 => ?_) (fun h_8 => ?_)
          · replace h_8 : ¬ 0 = 0 := h_8
            omega
          · replace h_8 : 0 = 0 := Decidable.of_not_not h_8
            refine r_ald rfl rfl ?_
            refine r_get rfl rfl ?_
            refine r_go rfl ?_
            refine r_ret rfl ⟨_, rfl⟩ ?_
            exact ⟨rfl, rfl⟩
        · replace h_7 : 0 = 2 := Decidable.of_not_not h_7
          omega
    · replace h_5 : 0 = 1 := Decidable.of_not_not h_5
      omega
set_option maxHeartbeats 1000000 in
theorem c_told1 {q : Nat} {qa : Nat → Nat} {d c n a v f : Nat} {b : Bool} {r : rA}  (hv : v ≤ 40) : rFun q qa (d + 2) 148 [zR (some q), zI (nI 1)] (c, n, a, b, v, f, r) (0, n, a, b, v, f, r) (some (zI (nI (cntB (r 17) v)))) := by
  refine rFun.of (d := d + 1) (T := tb_148) (L := [some (zR (some q)), some (zI (nI 1)), none, none]) (Nat.le_of_ble_eq_true rfl) rfl rfl ?_
  refine r_ald rfl rfl ?_
  refine r_ico (x := (nI 0)) rfl rfl ?_
  refine r_put (s' := (0, n, a, b, v, f, r)) rfl (Nat.le_of_ble_eq_true rfl) ⟨_, rfl⟩ rfl rfl ?_
  refine r_ico (x := (nI 0)) rfl rfl ?_
  refine r_ist (ls' := [some (zR (some q)), some (zI (nI 1)), some (zI (nI 0)), none]) rfl (Nat.le_of_ble_eq_true rfl) rfl ?_
  refine r_ico (x := (nI 0)) rfl rfl ?_
  refine r_ist (ls' := [some (zR (some q)), some (zI (nI 1)), some (zI (nI 0)), some (zI (nI 0))]) rfl (Nat.le_of_ble_eq_true rfl) rfl ?_
  refine l_told1 (c := c) hv ?_ 0 (by omega)
  refine r_ico (x := (nI 0)) rfl rfl ?_
  refine r_ist (ls' := [some (zR (some q)), some (zI (nI 1)), some (zI (nI (cntB (r 17) v))), some (zI (nI 0))]) rfl (Nat.le_of_ble_eq_true rfl) rfl ?_
  refine r_ild rfl rfl ?_
  refine r_ico (x := (nI 8)) rfl rfl ?_
  refine r_cmpN (by omega) (by omega) rfl (fun h_1 => ?_) (fun h_1 => ?_)
  · replace h_1 : 8 ≤ 0 := h_1
    omega
  · replace h_1 := Nat.not_le.mp h_1
    refine r_ild rfl rfl ?_
    refine r_ico (x := (nI 2)) rfl rfl ?_
    refine r_cmpN (by omega) (by omega) rfl (fun h_2 => ?_) (fun h_2 => ?_)
    · replace h_2 : ¬ 1 = 2 := h_2
      refine r_ild rfl rfl ?_
      refine r_ifN (by omega) rfl (fun h_3 => ?_) (fun h_3 => ?_)
      · replace h_3 : ¬ 1 = 0 := h_3
        refine r_ild rfl rfl ?_
        refine r_ico (x := (nI 1)) rfl rfl ?_
        refine r_cmpN (by omega) (by omega) rfl (fun h_4 => ?_) (fun h_4 => ?_)
        · replace h_4 : 1 = 1 := h_4
          refine r_ild rfl rfl ?_
          refine r_go rfl ?_
          refine r_ret rfl ⟨_, rfl⟩ ?_
          exact ⟨rfl, rfl⟩
        · replace h_4 : ¬ (1 = 1) := h_4
          omega
      · replace h_3 : 1 = 0 := Decidable.of_not_not h_3
        omega
    · replace h_2 : 1 = 2 := Decidable.of_not_not h_2
      omega
set_option maxHeartbeats 1000000 in
theorem c_told2 {q : Nat} {qa : Nat → Nat} {d c n a v f : Nat} {b : Bool} {r : rA}  (hv : v ≤ 40) : rFun q qa (d + 2) 148 [zR (some q), zI (nI 2)] (c, n, a, b, v, f, r) (0, n, a, b, v, f, r) (some (zI (nI (cntB (r 20) 8)))) := by
  refine rFun.of (d := d + 1) (T := tb_148) (L := [some (zR (some q)), some (zI (nI 2)), none, none]) (Nat.le_of_ble_eq_true rfl) rfl rfl ?_
  refine r_ald rfl rfl ?_
  refine r_ico (x := (nI 0)) rfl rfl ?_
  refine r_put (s' := (0, n, a, b, v, f, r)) rfl (Nat.le_of_ble_eq_true rfl) ⟨_, rfl⟩ rfl rfl ?_
  refine r_ico (x := (nI 0)) rfl rfl ?_
  refine r_ist (ls' := [some (zR (some q)), some (zI (nI 2)), some (zI (nI 0)), none]) rfl (Nat.le_of_ble_eq_true rfl) rfl ?_
  refine r_ico (x := (nI 0)) rfl rfl ?_
  refine r_ist (ls' := [some (zR (some q)), some (zI (nI 2)), some (zI (nI 0)), some (zI (nI 0))]) rfl (Nat.le_of_ble_eq_true rfl) rfl ?_
  refine r_ild rfl rfl ?_
  refine r_ald rfl rfl ?_
  refine r_get rfl rfl ?_
  refine r_cmpN (by omega) (by omega) rfl (fun h_1 => ?_) (fun h_1 => ?_)
  · replace h_1 : v ≤ 0 := h_1
    refine r_ico (x := (nI 0)) rfl rfl ?_
    refine r_ist (ls' := [some (zR (some q)), some (zI (nI 2)), some (zI (nI 0)), some (zI (nI 0))]) rfl (Nat.le_of_ble_eq_true rfl) rfl ?_
    refine l_told2 (c := c) ?_ 0 (by omega)
    refine r_ild rfl rfl ?_
    refine r_ifN (by omega) rfl (fun h_2 => ?_) (fun h_2 => ?_)
    · replace h_2 : ¬ 2 = 0 := h_2
      refine r_ild rfl rfl ?_
      refine r_ico (x := (nI 1)) rfl rfl ?_
      refine r_cmpN (by omega) (by omega) rfl (fun h_3 => ?_) (fun h_3 => ?_)
      · replace h_3 : 2 = 1 := h_3
        omega
      · replace h_3 : ¬ (2 = 1) := h_3
        refine r_ild rfl rfl ?_
        refine r_ico (x := (nI 2)) rfl rfl ?_
        refine r_cmpN (by omega) (by omega) rfl (fun h_4 => ?_) (fun h_4 => ?_)
        · replace h_4 : ¬ 2 = 2 := h_4
          omega
        · replace h_4 : 2 = 2 := Decidable.of_not_not h_4
          refine r_ild rfl rfl ?_
          refine r_go rfl ?_
          refine r_ret rfl ⟨_, rfl⟩ ?_
          exact ⟨rfl, rfl⟩
    · replace h_2 : 2 = 0 := Decidable.of_not_not h_2
      omega
  · replace h_1 := Nat.not_le.mp h_1
    refine r_ild rfl rfl ?_
    refine r_ico (x := (nI 1)) rfl rfl ?_
    refine r_cmpN (by omega) (by omega) rfl (fun h_5 => ?_) (fun h_5 => ?_)
    · replace h_5 : ¬ 2 = 1 := h_5
      refine r_ico (x := (nI 0)) rfl rfl ?_
      refine r_ist (ls' := [some (zR (some q)), some (zI (nI 2)), some (zI (nI 0)), some (zI (nI 0))]) rfl (Nat.le_of_ble_eq_true rfl) rfl ?_
      refine l_told2 (c := c) ?_ 0 (by omega)
      refine r_ild rfl rfl ?_
      refine r_ifN (by omega) rfl (fun h_6 => ?_) (fun h_6 => ?_)
      · replace h_6 : ¬ 2 = 0 := h_6
        refine r_ild rfl rfl ?_
        refine r_ico (x := (nI 1)) rfl rfl ?_
        refine r_cmpN (by omega) (by omega) rfl (fun h_7 => ?_) (fun h_7 => ?_)
        · replace h_7 : 2 = 1 := h_7
          omega
        · replace h_7 : ¬ (2 = 1) := h_7
          refine r_ild rfl rfl ?_
          refine r_ico (x := (nI 2)) rfl rfl ?_
          refine r_cmpN (by omega) (by omega) rfl (fun h_8 => ?_) (fun h_8 => ?_)
          · replace h_8 : ¬ 2 = 2 := h_8
            omega
          · replace h_8 : 2 = 2 := Decidable.of_not_not h_8
            refine r_ild rfl rfl ?_
            refine r_go rfl ?_
            refine r_ret rfl ⟨_, rfl⟩ ?_
            exact ⟨rfl, rfl⟩
      · replace h_6 : 2 = 0 := Decidable.of_not_not h_6
        omega
    · replace h_5 : 2 = 1 := Decidable.of_not_not h_5
      omega
set_option maxHeartbeats 1000000 in
theorem c_told3 {q : Nat} {qa : Nat → Nat} {d c n a v f : Nat} {b : Bool} {r : rA}  (hv : v ≤ 40) : rFun q qa (d + 2) 148 [zR (some q), zI (nI 3)] (c, n, a, b, v, f, r) (0, n, a, b, v, f, r) (some (zI (nI (cntF (r 21) 8)))) := by
  refine rFun.of (d := d + 1) (T := tb_148) (L := [some (zR (some q)), some (zI (nI 3)), none, none]) (Nat.le_of_ble_eq_true rfl) rfl rfl ?_
  refine r_ald rfl rfl ?_
  refine r_ico (x := (nI 0)) rfl rfl ?_
  refine r_put (s' := (0, n, a, b, v, f, r)) rfl (Nat.le_of_ble_eq_true rfl) ⟨_, rfl⟩ rfl rfl ?_
  refine r_ico (x := (nI 0)) rfl rfl ?_
  refine r_ist (ls' := [some (zR (some q)), some (zI (nI 3)), some (zI (nI 0)), none]) rfl (Nat.le_of_ble_eq_true rfl) rfl ?_
  refine r_ico (x := (nI 0)) rfl rfl ?_
  refine r_ist (ls' := [some (zR (some q)), some (zI (nI 3)), some (zI (nI 0)), some (zI (nI 0))]) rfl (Nat.le_of_ble_eq_true rfl) rfl ?_
  refine r_ild rfl rfl ?_
  refine r_ald rfl rfl ?_
  refine r_get rfl rfl ?_
  refine r_cmpN (by omega) (by omega) rfl (fun h_1 => ?_) (fun h_1 => ?_)
  · replace h_1 : v ≤ 0 := h_1
    refine r_ico (x := (nI 0)) rfl rfl ?_
    refine r_ist (ls' := [some (zR (some q)), some (zI (nI 3)), some (zI (nI 0)), some (zI (nI 0))]) rfl (Nat.le_of_ble_eq_true rfl) rfl ?_
    refine r_ild rfl rfl ?_
    refine r_ico (x := (nI 8)) rfl rfl ?_
    refine r_cmpN (by omega) (by omega) rfl (fun h_2 => ?_) (fun h_2 => ?_)
    · replace h_2 : 8 ≤ 0 := h_2
      omega
    · replace h_2 := Nat.not_le.mp h_2
      refine r_ild rfl rfl ?_
      refine r_ico (x := (nI 2)) rfl rfl ?_
      refine r_cmpN (by omega) (by omega) rfl (fun h_3 => ?_) (fun h_3 => ?_)
      · replace h_3 : ¬ 3 = 2 := h_3
        refine r_ild rfl rfl ?_
        refine r_ifN (by omega) rfl (fun h_4 => ?_) (fun h_4 => ?_)
        · replace h_4 : ¬ 3 = 0 := h_4
          refine r_ild rfl rfl ?_
          refine r_ico (x := (nI 1)) rfl rfl ?_
          refine r_cmpN (by omega) (by omega) rfl (fun h_5 => ?_) (fun h_5 => ?_)
          · replace h_5 : 3 = 1 := h_5
            omega
          · replace h_5 : ¬ (3 = 1) := h_5
            refine r_ild rfl rfl ?_
            refine r_ico (x := (nI 2)) rfl rfl ?_
            refine r_cmpN (by omega) (by omega) rfl (fun h_6 => ?_) (fun h_6 => ?_)
            · replace h_6 : ¬ 3 = 2 := h_6
              refine r_ild rfl rfl ?_
              refine r_ico (x := (nI 3)) rfl rfl ?_
              refine r_cmpN (by omega) (by omega) rfl (fun h_7 => ?_) (fun h_7 => ?_)
              · replace h_7 : ¬ 3 = 3 := h_7
                omega
              · replace h_7 : 3 = 3 := Decidable.of_not_not h_7
                refine r_ald rfl rfl ?_
                refine r_call (as := [zR (some q)]) (r := []) (s' := (0, n, a, b, v, f, r)) (v := some (zI (nI (cntF (r 21) 8)))) rfl rfl rfl (Nat.le_of_ble_eq_true rfl) (Or.inr ⟨rfl, rfl, _, rfl⟩) c_pins ?_
                refine r_go rfl ?_
                refine r_ret rfl ⟨_, rfl⟩ ?_
                exact ⟨rfl, rfl⟩
            · replace h_6 : 3 = 2 := Decidable.of_not_not h_6
              omega
        · replace h_4 : 3 = 0 := Decidable.of_not_not h_4
          omega
      · replace h_3 : 3 = 2 := Decidable.of_not_not h_3
        omega
  · replace h_1 := Nat.not_le.mp h_1
    refine r_ild rfl rfl ?_
    refine r_ico (x := (nI 1)) rfl rfl ?_
    refine r_cmpN (by omega) (by omega) rfl (fun h_8 => ?_) (fun h_8 => ?_)
    · replace h_8 : ¬ 3 = 1 := h_8
      refine r_ico (x := (nI 0)) rfl rfl ?_
      refine r_ist (ls' := [some (zR (some q)), some (zI (nI 3)), some (zI (nI 0)), some (zI (nI 0))]) rfl (Nat.le_of_ble_eq_true rfl) rfl ?_
      refine r_ild rfl rfl ?_
      refine r_ico (x := (nI 8)) rfl rfl ?_
      refine r_cmpN (by omega) (by omega) rfl (fun h_9 => ?_) (fun h_9 => ?_)
      · replace h_9 : 8 ≤ 0 := h_9
        omega
      · replace h_9 := Nat.not_le.mp h_9
        refine r_ild rfl rfl ?_
        refine r_ico (x := (nI 2)) rfl rfl ?_
        refine r_cmpN (by omega) (by omega) rfl (fun h_10 => ?_) (fun h_10 => ?_)
        · replace h_10 : ¬ 3 = 2 := h_10
          refine r_ild rfl rfl ?_
          refine r_ifN (by omega) rfl (fun h_11 => ?_) (fun h_11 => ?_)
          · replace h_11 : ¬ 3 = 0 := h_11
            refine r_ild rfl rfl ?_
            refine r_ico (x := (nI 1)) rfl rfl ?_
            refine r_cmpN (by omega) (by omega) rfl (fun h_12 => ?_) (fun h_12 => ?_)
            · replace h_12 : 3 = 1 := h_12
              omega
            · replace h_12 : ¬ (3 = 1) := h_12
              refine r_ild rfl rfl ?_
              refine r_ico (x := (nI 2)) rfl rfl ?_
              refine r_cmpN (by omega) (by omega) rfl (fun h_13 => ?_) (fun h_13 => ?_)
              · replace h_13 : ¬ 3 = 2 := h_13
                refine r_ild rfl rfl ?_
                refine r_ico (x := (nI 3)) rfl rfl ?_
                refine r_cmpN (by omega) (by omega) rfl (fun h_14 => ?_) (fun h_14 => ?_)
                · replace h_14 : ¬ 3 = 3 := h_14
                  omega
                · replace h_14 : 3 = 3 := Decidable.of_not_not h_14
                  refine r_ald rfl rfl ?_
                  refine r_call (as := [zR (some q)]) (r := []) (s' := (0, n, a, b, v, f, r)) (v := some (zI (nI (cntF (r 21) 8)))) rfl rfl rfl (Nat.le_of_ble_eq_true rfl) (Or.inr ⟨rfl, rfl, _, rfl⟩) c_pins ?_
                  refine r_go rfl ?_
                  refine r_ret rfl ⟨_, rfl⟩ ?_
                  exact ⟨rfl, rfl⟩
              · replace h_13 : 3 = 2 := Decidable.of_not_not h_13
                omega
          · replace h_11 : 3 = 0 := Decidable.of_not_not h_11
            omega
        · replace h_10 : 3 = 2 := Decidable.of_not_not h_10
          omega
    · replace h_8 : 3 = 1 := Decidable.of_not_not h_8
      omega
set_option maxHeartbeats 1000000 in
theorem c_told4 {q : Nat} {qa : Nat → Nat} {d c n a v f : Nat} {b : Bool} {r : rA}  (hv : v ≤ 40) : rFun q qa (d + 2) 148 [zR (some q), zI (nI 4)] (c, n, a, b, v, f, r) (0, n, a, b, v, f, r) (some (zI (nI n))) := by
  refine rFun.of (d := d + 1) (T := tb_148) (L := [some (zR (some q)), some (zI (nI 4)), none, none]) (Nat.le_of_ble_eq_true rfl) rfl rfl ?_
  refine r_ald rfl rfl ?_
  refine r_ico (x := (nI 0)) rfl rfl ?_
  refine r_put (s' := (0, n, a, b, v, f, r)) rfl (Nat.le_of_ble_eq_true rfl) ⟨_, rfl⟩ rfl rfl ?_
  refine r_ico (x := (nI 0)) rfl rfl ?_
  refine r_ist (ls' := [some (zR (some q)), some (zI (nI 4)), some (zI (nI 0)), none]) rfl (Nat.le_of_ble_eq_true rfl) rfl ?_
  refine r_ico (x := (nI 0)) rfl rfl ?_
  refine r_ist (ls' := [some (zR (some q)), some (zI (nI 4)), some (zI (nI 0)), some (zI (nI 0))]) rfl (Nat.le_of_ble_eq_true rfl) rfl ?_
  refine r_ild rfl rfl ?_
  refine r_ald rfl rfl ?_
  refine r_get rfl rfl ?_
  refine r_cmpN (by omega) (by omega) rfl (fun h_1 => ?_) (fun h_1 => ?_)
  · replace h_1 : v ≤ 0 := h_1
    refine r_ico (x := (nI 0)) rfl rfl ?_
    refine r_ist (ls' := [some (zR (some q)), some (zI (nI 4)), some (zI (nI 0)), some (zI (nI 0))]) rfl (Nat.le_of_ble_eq_true rfl) rfl ?_
    refine r_ild rfl rfl ?_
    refine r_ico (x := (nI 8)) rfl rfl ?_
    refine r_cmpN (by omega) (by omega) rfl (fun h_2 => ?_) (fun h_2 => ?_)
    · replace h_2 : 8 ≤ 0 := h_2
      omega
    · replace h_2 := Nat.not_le.mp h_2
      refine r_ild rfl rfl ?_
      refine r_ico (x := (nI 2)) rfl rfl ?_
      refine r_cmpN (by omega) (by omega) rfl (fun h_3 => ?_) (fun h_3 => ?_)
      · replace h_3 : ¬ 4 = 2 := h_3
        refine r_ild rfl rfl ?_
        refine r_ifN (by omega) rfl (fun h_4 => ?_) (fun h_4 => ?_)
        · replace h_4 : ¬ 4 = 0 := h_4
          refine r_ild rfl rfl ?_
          refine r_ico (x := (nI 1)) rfl rfl ?_
          refine r_cmpN (by omega) (by omega) rfl (fun h_5 => ?_) (fun h_5 => ?_)
          · replace h_5 : 4 = 1 := h_5
            omega
          · replace h_5 : ¬ (4 = 1) := h_5
            refine r_ild rfl rfl ?_
            refine r_ico (x := (nI 2)) rfl rfl ?_
            refine r_cmpN (by omega) (by omega) rfl (fun h_6 => ?_) (fun h_6 => ?_)
            · replace h_6 : ¬ 4 = 2 := h_6
              refine r_ild rfl rfl ?_
              refine r_ico (x := (nI 3)) rfl rfl ?_
              refine r_cmpN (by omega) (by omega) rfl (fun h_7 => ?_) (fun h_7 => ?_)
              · replace h_7 : ¬ 4 = 3 := h_7
                refine r_ild rfl rfl ?_
                refine r_ico (x := (nI 4)) rfl rfl ?_
                refine r_cmpN (by omega) (by omega) rfl (fun h_8 => ?_) (fun h_8 => ?_)
                · replace h_8 : ¬ 4 = 4 := h_8
                  omega
                · replace h_8 : 4 = 4 := Decidable.of_not_not h_8
                  refine r_ald rfl rfl ?_
                  refine r_get rfl rfl ?_
                  refine r_go rfl ?_
                  refine r_ret rfl ⟨_, rfl⟩ ?_
                  exact ⟨rfl, rfl⟩
              · replace h_7 : 4 = 3 := Decidable.of_not_not h_7
                omega
            · replace h_6 : 4 = 2 := Decidable.of_not_not h_6
              omega
        · replace h_4 : 4 = 0 := Decidable.of_not_not h_4
          omega
      · replace h_3 : 4 = 2 := Decidable.of_not_not h_3
        omega
  · replace h_1 := Nat.not_le.mp h_1
    refine r_ild rfl rfl ?_
    refine r_ico (x := (nI 1)) rfl rfl ?_
    refine r_cmpN (by omega) (by omega) rfl (fun h_9 => ?_) (fun h_9 => ?_)
    · replace h_9 : ¬ 4 = 1 := h_9
      refine r_ico (x := (nI 0)) rfl rfl ?_
      refine r_ist (ls' := [some (zR (some q)), some (zI (nI 4)), some (zI (nI 0)), some (zI (nI 0))]) rfl (Nat.le_of_ble_eq_true rfl) rfl ?_
      refine r_ild rfl rfl ?_
      refine r_ico (x := (nI 8)) rfl rfl ?_
      refine r_cmpN (by omega) (by omega) rfl (fun h_10 => ?_) (fun h_10 => ?_)
      · replace h_10 : 8 ≤ 0 := h_10
        omega
      · replace h_10 := Nat.not_le.mp h_10
        refine r_ild rfl rfl ?_
        refine r_ico (x := (nI 2)) rfl rfl ?_
        refine r_cmpN (by omega) (by omega) rfl (fun h_11 => ?_) (fun h_11 => ?_)
        · replace h_11 : ¬ 4 = 2 := h_11
          refine r_ild rfl rfl ?_
          refine r_ifN (by omega) rfl (fun h_12 => ?_) (fun h_12 => ?_)
          · replace h_12 : ¬ 4 = 0 := h_12
            refine r_ild rfl rfl ?_
            refine r_ico (x := (nI 1)) rfl rfl ?_
            refine r_cmpN (by omega) (by omega) rfl (fun h_13 => ?_) (fun h_13 => ?_)
            · replace h_13 : 4 = 1 := h_13
              omega
            · replace h_13 : ¬ (4 = 1) := h_13
              refine r_ild rfl rfl ?_
              refine r_ico (x := (nI 2)) rfl rfl ?_
              refine r_cmpN (by omega) (by omega) rfl (fun h_14 => ?_) (fun h_14 => ?_)
              · replace h_14 : ¬ 4 = 2 := h_14
                refine r_ild rfl rfl ?_
                refine r_ico (x := (nI 3)) rfl rfl ?_
                refine r_cmpN (by omega) (by omega) rfl (fun h_15 => ?_) (fun h_15 => ?_)
                · replace h_15 : ¬ 4 = 3 := h_15
                  refine r_ild rfl rfl ?_
                  refine r_ico (x := (nI 4)) rfl rfl ?_
                  refine r_cmpN (by omega) (by omega) rfl (fun h_16 => ?_) (fun h_16 => ?_)
                  · replace h_16 : ¬ 4 = 4 := h_16
                    omega
                  · replace h_16 : 4 = 4 := Decidable.of_not_not h_16
                    refine r_ald rfl rfl ?_
                    refine r_get rfl rfl ?_
                    refine r_go rfl ?_
                    refine r_ret rfl ⟨_, rfl⟩ ?_
                    exact ⟨rfl, rfl⟩
                · replace h_15 : 4 = 3 := Decidable.of_not_not h_15
                  omega
              · replace h_14 : 4 = 2 := Decidable.of_not_not h_14
                omega
          · replace h_12 : 4 = 0 := Decidable.of_not_not h_12
            omega
        · replace h_11 : 4 = 2 := Decidable.of_not_not h_11
          omega
    · replace h_9 : 4 = 1 := Decidable.of_not_not h_9
      omega
set_option maxHeartbeats 1000000 in
theorem c_toldX {q : Nat} {qa : Nat → Nat} {d c n a v f : Nat} {b : Bool} {r : rA} {x : Int32} (hv : v ≤ 40) (h0 : ¬ x = nI 0) (h1 : ¬ x = nI 1) (h2 : ¬ x = nI 2) (h3 : ¬ x = nI 3) (h4 : ¬ x = nI 4) : rFun q qa (d + 2) 148 [zR (some q), zI (x)] (c, n, a, b, v, f, r) (0, n, a, b, v, f, r) (some (zI (-1))) := by
  refine rFun.of (d := d + 1) (T := tb_148) (L := [some (zR (some q)), some (zI (x)), none, none]) (Nat.le_of_ble_eq_true rfl) rfl rfl ?_
  refine r_ald rfl rfl ?_
  refine r_ico (x := (nI 0)) rfl rfl ?_
  refine r_put (s' := (0, n, a, b, v, f, r)) rfl (Nat.le_of_ble_eq_true rfl) ⟨_, rfl⟩ rfl rfl ?_
  refine r_ico (x := (nI 0)) rfl rfl ?_
  refine r_ist (ls' := [some (zR (some q)), some (zI (x)), some (zI (nI 0)), none]) rfl (Nat.le_of_ble_eq_true rfl) rfl ?_
  refine r_ico (x := (nI 0)) rfl rfl ?_
  refine r_ist (ls' := [some (zR (some q)), some (zI (x)), some (zI (nI 0)), some (zI (nI 0))]) rfl (Nat.le_of_ble_eq_true rfl) rfl ?_
  refine r_ild rfl rfl ?_
  refine r_ald rfl rfl ?_
  refine r_get rfl rfl ?_
  refine r_cmpN (by omega) (by omega) rfl (fun h_1 => ?_) (fun h_1 => ?_)
  · replace h_1 : v ≤ 0 := h_1
    refine r_ico (x := (nI 0)) rfl rfl ?_
    refine r_ist (ls' := [some (zR (some q)), some (zI (x)), some (zI (nI 0)), some (zI (nI 0))]) rfl (Nat.le_of_ble_eq_true rfl) rfl ?_
    refine r_ild rfl rfl ?_
    refine r_ico (x := (nI 8)) rfl rfl ?_
    refine r_cmpN (by omega) (by omega) rfl (fun h_2 => ?_) (fun h_2 => ?_)
    · replace h_2 : 8 ≤ 0 := h_2
      omega
    · replace h_2 := Nat.not_le.mp h_2
      refine r_ild rfl rfl ?_
      refine r_ico (x := (nI 2)) rfl rfl ?_
      refine r_cmp rfl (fun h_3 => ?_) (fun h_3 => ?_)
      · replace h_3 : ¬ (x) = (nI 2) := h_3
        refine r_ild rfl rfl ?_
        refine r_if rfl (fun h_4 => ?_) (fun h_4 => ?_)
        · replace h_4 : ¬ (x) = 0 := h_4
          refine r_ild rfl rfl ?_
          refine r_ico (x := (nI 1)) rfl rfl ?_
          refine r_cmp rfl (fun h_5 => ?_) (fun h_5 => ?_)
          · replace h_5 : (x) = (nI 1) := h_5
            exact absurd h_5 h1
          · replace h_5 : ¬ ((x) = (nI 1)) := h_5
            refine r_ild rfl rfl ?_
            refine r_ico (x := (nI 2)) rfl rfl ?_
            refine r_cmp rfl (fun h_6 => ?_) (fun h_6 => ?_)
            · replace h_6 : ¬ (x) = (nI 2) := h_6
              refine r_ild rfl rfl ?_
              refine r_ico (x := (nI 3)) rfl rfl ?_
              refine r_cmp rfl (fun h_7 => ?_) (fun h_7 => ?_)
              · replace h_7 : ¬ (x) = (nI 3) := h_7
                refine r_ild rfl rfl ?_
                refine r_ico (x := (nI 4)) rfl rfl ?_
                refine r_cmp rfl (fun h_8 => ?_) (fun h_8 => ?_)
                · replace h_8 : ¬ (x) = (nI 4) := h_8
                  refine r_ico (x := (-1)) rfl rfl ?_
                  refine r_ret rfl ⟨_, rfl⟩ ?_
                  exact ⟨rfl, rfl⟩
                · replace h_8 : (x) = (nI 4) := Decidable.of_not_not h_8
                  exact absurd h_8 h4
              · replace h_7 : (x) = (nI 3) := Decidable.of_not_not h_7
                exact absurd h_7 h3
            · replace h_6 : (x) = (nI 2) := Decidable.of_not_not h_6
              exact absurd h_6 h_3
        · replace h_4 : (x) = 0 := Decidable.of_not_not h_4
          exact absurd h_4 h0
      · replace h_3 : (x) = (nI 2) := Decidable.of_not_not h_3
        exact absurd h_3 h2
  · replace h_1 := Nat.not_le.mp h_1
    refine r_ild rfl rfl ?_
    refine r_ico (x := (nI 1)) rfl rfl ?_
    refine r_cmp rfl (fun h_9 => ?_) (fun h_9 => ?_)
    · replace h_9 : ¬ (x) = (nI 1) := h_9
      refine r_ico (x := (nI 0)) rfl rfl ?_
      refine r_ist (ls' := [some (zR (some q)), some (zI (x)), some (zI (nI 0)), some (zI (nI 0))]) rfl (Nat.le_of_ble_eq_true rfl) rfl ?_
      refine r_ild rfl rfl ?_
      refine r_ico (x := (nI 8)) rfl rfl ?_
      refine r_cmpN (by omega) (by omega) rfl (fun h_10 => ?_) (fun h_10 => ?_)
      · replace h_10 : 8 ≤ 0 := h_10
        omega
      · replace h_10 := Nat.not_le.mp h_10
        refine r_ild rfl rfl ?_
        refine r_ico (x := (nI 2)) rfl rfl ?_
        refine r_cmp rfl (fun h_11 => ?_) (fun h_11 => ?_)
        · replace h_11 : ¬ (x) = (nI 2) := h_11
          refine r_ild rfl rfl ?_
          refine r_if rfl (fun h_12 => ?_) (fun h_12 => ?_)
          · replace h_12 : ¬ (x) = 0 := h_12
            refine r_ild rfl rfl ?_
            refine r_ico (x := (nI 1)) rfl rfl ?_
            refine r_cmp rfl (fun h_13 => ?_) (fun h_13 => ?_)
            · replace h_13 : (x) = (nI 1) := h_13
              exact absurd h_13 h_9
            · replace h_13 : ¬ ((x) = (nI 1)) := h_13
              refine r_ild rfl rfl ?_
              refine r_ico (x := (nI 2)) rfl rfl ?_
              refine r_cmp rfl (fun h_14 => ?_) (fun h_14 => ?_)
              · replace h_14 : ¬ (x) = (nI 2) := h_14
                refine r_ild rfl rfl ?_
                refine r_ico (x := (nI 3)) rfl rfl ?_
                refine r_cmp rfl (fun h_15 => ?_) (fun h_15 => ?_)
                · replace h_15 : ¬ (x) = (nI 3) := h_15
                  refine r_ild rfl rfl ?_
                  refine r_ico (x := (nI 4)) rfl rfl ?_
                  refine r_cmp rfl (fun h_16 => ?_) (fun h_16 => ?_)
                  · replace h_16 : ¬ (x) = (nI 4) := h_16
                    refine r_ico (x := (-1)) rfl rfl ?_
                    refine r_ret rfl ⟨_, rfl⟩ ?_
                    exact ⟨rfl, rfl⟩
                  · replace h_16 : (x) = (nI 4) := Decidable.of_not_not h_16
                    exact absurd h_16 h4
                · replace h_15 : (x) = (nI 3) := Decidable.of_not_not h_15
                  exact absurd h_15 h3
              · replace h_14 : (x) = (nI 2) := Decidable.of_not_not h_14
                exact absurd h_14 h_11
          · replace h_12 : (x) = 0 := Decidable.of_not_not h_12
            exact absurd h_12 h0
        · replace h_11 : (x) = (nI 2) := Decidable.of_not_not h_11
          exact absurd h_11 h2
    · replace h_9 : (x) = (nI 1) := Decidable.of_not_not h_9
      exact absurd h_9 h1
set_option maxHeartbeats 1000000 in
theorem c_feed1 {q : Nat} {qa : Nat → Nat} {d c n a v f : Nat} {b : Bool} {r : rA} {x : Int64} {y : Int32} (hx : isIn y (nI 1) (nI 8) = false) : rFun q qa (d + 2) 99 [zR (some q), zJ (x), zI (y)] (c, n, a, b, v, f, r) (1, n, a, b, v, f, r) (some (zI (nI 0))) := by
  refine rFun.of (d := d + 1) (T := tb_99) (L := [some (zR (some q)), some (zJ (x)), none, some (zI (y)), none]) (Nat.le_of_ble_eq_true rfl) rfl rfl ?_
  refine r_ald rfl rfl ?_
  refine r_ild rfl rfl ?_
  refine r_ico (x := (nI 1)) rfl rfl ?_
  refine r_ico (x := (nI 8)) rfl rfl ?_
  refine r_call (as := [zI (y), zI (nI 1), zI (nI 8)]) (r := [zR (some q)]) (s' := (c, n, a, b, v, f, r)) (v := some (zI (bI (false)))) rfl rfl rfl (Nat.le_of_ble_eq_true rfl) (Or.inl rfl) (c_inZ hx) ?_
  refine r_ifB1 rfl (fun h_1 => ?_) (fun h_1 => ?_)
  · cases h_1
  · refine r_ico (x := (nI 1)) rfl rfl ?_
    refine r_go rfl ?_
    refine r_put (s' := (1, n, a, b, v, f, r)) rfl (Nat.le_of_ble_eq_true rfl) ⟨_, rfl⟩ rfl rfl ?_
    refine r_ald rfl rfl ?_
    refine r_get rfl rfl ?_
    refine r_ifN (by omega) rfl (fun h_2 => ?_) (fun h_2 => ?_)
    · replace h_2 : 1 ≤ 0 := h_2
      omega
    · replace h_2 := Nat.not_le.mp h_2
      refine r_ico (x := (nI 0)) rfl rfl ?_
      refine r_ret rfl ⟨_, rfl⟩ ?_
      exact ⟨rfl, rfl⟩
set_option maxHeartbeats 1000000 in
theorem c_feed2 {q : Nat} {qa : Nat → Nat} {d c n a v f : Nat} {b : Bool} {r : rA} {x : Int64} {m : Nat} (hn : n ≤ 160) (hm : m ≤ 8) (h : 160 < n + m) (hx : isIn (nI m) (nI 1) (nI 8) = true) : rFun q qa (d + 2) 99 [zR (some q), zJ (x), zI (nI m)] (c, n, a, b, v, f, r) (2, n, a, b, v, f, r) (some (zI (nI 0))) := by
  refine rFun.of (d := d + 1) (T := tb_99) (L := [some (zR (some q)), some (zJ (x)), none, some (zI (nI m)), none]) (Nat.le_of_ble_eq_true rfl) rfl rfl ?_
  refine r_ald rfl rfl ?_
  refine r_ild rfl rfl ?_
  refine r_ico (x := (nI 1)) rfl rfl ?_
  refine r_ico (x := (nI 8)) rfl rfl ?_
  refine r_call (as := [zI (nI m), zI (nI 1), zI (nI 8)]) (r := [zR (some q)]) (s' := (c, n, a, b, v, f, r)) (v := some (zI (bI (true)))) rfl rfl rfl (Nat.le_of_ble_eq_true rfl) (Or.inl rfl) (c_inZ hx) ?_
  refine r_ifB1 rfl (fun h_1 => ?_) (fun h_1 => ?_)
  · refine r_ald rfl rfl ?_
    refine r_get rfl rfl ?_
    refine r_ild rfl rfl ?_
    refine r_ibi (v := (nI (n + m))) rfl (nI_add _ _) ?_
    refine r_ico (x := (nI 160)) rfl rfl ?_
    refine r_cmpN (by omega) (by omega) rfl (fun h_2 => ?_) (fun h_2 => ?_)
    · replace h_2 : n + m ≤ 160 := h_2
      omega
    · replace h_2 := Nat.not_le.mp h_2
      refine r_ico (x := (nI 2)) rfl rfl ?_
      refine r_go rfl ?_
      refine r_put (s' := (2, n, a, b, v, f, r)) rfl (Nat.le_of_ble_eq_true rfl) ⟨_, rfl⟩ rfl rfl ?_
      refine r_ald rfl rfl ?_
      refine r_get rfl rfl ?_
      refine r_ifN (by omega) rfl (fun h_3 => ?_) (fun h_3 => ?_)
      · replace h_3 : 2 ≤ 0 := h_3
        omega
      · replace h_3 := Nat.not_le.mp h_3
        refine r_ico (x := (nI 0)) rfl rfl ?_
        refine r_ret rfl ⟨_, rfl⟩ ?_
        exact ⟨rfl, rfl⟩
  · cases h_1
set_option maxHeartbeats 1000000 in
theorem l_feed {q : Nat} {qa : Nat → Nat} {d c n a v f : Nat} {b : Bool} {r : rA} {Q : rS → (Option zV ⊕ Nat) → Prop} {x : Int64} {m : Nat} (hm : n + m ≤ 160) (hQ : Q (0, n + m, a, b, v, f, rput r 2 n (fby x) m) (.inl (some (zI (nI (n + m)))))) : ∀ k, k ≤ m → rEv q qa (d + 1) tb_99 Q 47 [some (zR (some q)), some (zJ (x)), none, some (zI (nI m)), some (zI (nI k))] [] (0, n + k, a, b, v, f, rput r 2 n (fby x) k) := by
  refine dn m (fun k hk ih => ?_)
  refine r_ild rfl rfl ?_
  refine r_ild rfl rfl ?_
  refine r_cmpN (by omega) (by omega) rfl (fun h_1 => ?_) (fun h_1 => ?_)
  · replace h_1 : m ≤ k := h_1
    refine r_ald rfl rfl ?_
    refine r_get rfl rfl ?_
    refine r_ret rfl ⟨_, rfl⟩ ?_
    have h3 : k = m := by omega
    subst h3
    exact hQ
  · replace h_1 := Nat.not_le.mp h_1
    refine r_ald rfl rfl ?_
    refine r_get rfl rfl ?_
    refine r_ald rfl rfl ?_
    refine r_get rfl rfl ?_
    refine r_lld rfl rfl ?_
    refine r_ico (x := (nI 8)) rfl rfl ?_
    refine r_ild rfl rfl ?_
    refine r_ibi (v := (nI (8 * k))) rfl (pk_mul _ _) ?_
    refine r_lsh (v := zlsh 1 (x) (nI (8 * k))) rfl rfl ?_
    refine r_lco (x := 255) rfl rfl ?_
    refine r_lbi (v := (zlsh 1 (x) (nI (8 * k))) &&& (255)) rfl rfl ?_
    refine r_l2i (v := Int64.toInt32 ((zlsh 1 (x) (nI (8 * k))) &&& (255))) rfl rfl ?_
    refine r_iastN (k0 := 2) (x' := (Int64.toInt32 ((zlsh 1 (x) (nI (8 * k))) &&& (255)))) rfl rfl (by omega) (by decide) rfl ?_
    refine r_ald rfl rfl ?_
    refine r_dup rfl rfl ?_
    refine r_get rfl rfl ?_
    refine r_ico (x := (nI 1)) rfl rfl ?_
    refine r_ibi (v := (nI (n + k + 1))) rfl (nI_add _ _) ?_
    refine r_put (s' := (0, n + k + 1, a, b, v, f, rset (rput r 2 n (fby x) k) 2 (n + k) (Int64.toInt32 ((zlsh 1 (x) (nI (8 * k))) &&& (255))))) rfl (Nat.le_of_ble_eq_true rfl) ⟨_, rfl⟩ rfl rfl ?_
    refine r_inc (x' := (nI (k + 1))) (ls' := [some (zR (some q)), some (zJ (x)), none, some (zI (nI m)), some (zI (nI (k + 1)))]) rfl rfl (nI_1 _) rfl ?_
    refine r_go rfl ?_
    rw [show Int64.toInt32 (zlsh 1 x (nI (8 * k)) &&& 255) = fby x k from rfl, rput_s]
    exact ih (by omega)
set_option maxHeartbeats 1000000 in
theorem c_feed0 {q : Nat} {qa : Nat → Nat} {d c n a v f : Nat} {b : Bool} {r : rA} {x : Int64} {m : Nat} (hm : n + m ≤ 160) (hx : isIn (nI m) (nI 1) (nI 8) = true) : rFun q qa (d + 2) 99 [zR (some q), zJ (x), zI (nI m)] (c, n, a, b, v, f, r) (0, n + m, a, b, v, f, rput r 2 n (fby x) m) (some (zI (nI (n + m)))) := by
  refine rFun.of (d := d + 1) (T := tb_99) (L := [some (zR (some q)), some (zJ (x)), none, some (zI (nI m)), none]) (Nat.le_of_ble_eq_true rfl) rfl rfl ?_
  refine r_ald rfl rfl ?_
  refine r_ild rfl rfl ?_
  refine r_ico (x := (nI 1)) rfl rfl ?_
  refine r_ico (x := (nI 8)) rfl rfl ?_
  refine r_call (as := [zI (nI m), zI (nI 1), zI (nI 8)]) (r := [zR (some q)]) (s' := (c, n, a, b, v, f, r)) (v := some (zI (bI (true)))) rfl rfl rfl (Nat.le_of_ble_eq_true rfl) (Or.inl rfl) (c_inZ hx) ?_
  refine r_ifB1 rfl (fun h_1 => ?_) (fun h_1 => ?_)
  · refine r_ald rfl rfl ?_
    refine r_get rfl rfl ?_
    refine r_ild rfl rfl ?_
    refine r_ibi (v := (nI (n + m))) rfl (nI_add _ _) ?_
    refine r_ico (x := (nI 160)) rfl rfl ?_
    refine r_cmpN (by omega) (by omega) rfl (fun h_2 => ?_) (fun h_2 => ?_)
    · replace h_2 : n + m ≤ 160 := h_2
      refine r_ico (x := (nI 0)) rfl rfl ?_
      refine r_put (s' := (0, n, a, b, v, f, r)) rfl (Nat.le_of_ble_eq_true rfl) ⟨_, rfl⟩ rfl rfl ?_
      refine r_ald rfl rfl ?_
      refine r_get rfl rfl ?_
      refine r_ifN (by omega) rfl (fun h_3 => ?_) (fun h_3 => ?_)
      · replace h_3 : 0 ≤ 0 := h_3
        refine r_ico (x := (nI 0)) rfl rfl ?_
        refine r_ist (ls' := [some (zR (some q)), some (zJ (x)), none, some (zI (nI m)), some (zI (nI 0))]) rfl (Nat.le_of_ble_eq_true rfl) rfl ?_
        exact rEv_rr (rput_0 r 2 n (fby x)) (l_feed (c := c) hm ⟨rfl, rfl⟩ 0 (by omega))
      · replace h_3 := Nat.not_le.mp h_3
        omega
    · replace h_2 := Nat.not_le.mp h_2
      omega
  · cases h_1
set_option maxHeartbeats 1000000 in
theorem c_yank {q : Nat} {qa : Nat → Nat} {d c n a v f : Nat} {b : Bool} {r : rA} {i : Nat} {y on : Bool} (hv : v ≤ 40) (hi : i < v) (hY : r 17 i = bI y) : rFun q qa (d + 3) 127 [zR (some q), zI (nI i), zI (bI (on))] (c, n, a, b, v, f, r) (0, n, a, b, v, f, rset r 17 i (bI on)) (some (zI (bI (y)))) := by
  refine rFun.of (d := d + 2) (T := tb_127) (L := [some (zR (some q)), some (zI (nI i)), some (zI (bI (on))), none]) (Nat.le_of_ble_eq_true rfl) rfl rfl ?_
  refine r_ald rfl rfl ?_
  refine r_ald rfl rfl ?_
  refine r_ild rfl rfl ?_
  refine r_call (as := [zR (some q), zI (nI i)]) (r := [zR (some q)]) (s' := (c, n, a, b, v, f, r)) (v := some (zI (bI (true)))) rfl rfl rfl (Nat.le_of_ble_eq_true rfl) (Or.inr ⟨rfl, rfl, _, rfl⟩) (c_isVersionZ (isIn_v hi (by omega))) ?_
  refine r_ifB0 rfl (fun h_1 => ?_) (fun h_1 => ?_)
  · cases h_1
  · refine r_ico (x := (nI 0)) rfl rfl ?_
    refine r_go rfl ?_
    refine r_put (s' := (0, n, a, b, v, f, r)) rfl (Nat.le_of_ble_eq_true rfl) ⟨_, rfl⟩ rfl rfl ?_
    refine r_ald rfl rfl ?_
    refine r_get rfl rfl ?_
    refine r_ifN (by omega) rfl (fun h_2 => ?_) (fun h_2 => ?_)
    · replace h_2 : 0 ≤ 0 := h_2
      refine r_ald rfl rfl ?_
      refine r_get rfl rfl ?_
      refine r_ild rfl rfl ?_
      refine r_ialdN (k0 := 17) rfl rfl (by omega) (by decide) ?_
      refine r_top (y := (bI (y))) (by simp [rar, hY]) ?_
      refine r_ist (ls' := [some (zR (some q)), some (zI (nI i)), some (zI (bI (on))), some (zI (bI (y)))]) rfl (Nat.le_of_ble_eq_true rfl) rfl ?_
      refine r_ald rfl rfl ?_
      refine r_get rfl rfl ?_
      refine r_ild rfl rfl ?_
      refine r_ild rfl rfl ?_
      refine r_iastN (k0 := 17) (x' := (bI (on))) rfl rfl (by omega) (by decide) (znar_b _) ?_
      refine r_ild rfl rfl ?_
      refine r_ret rfl ⟨_, rfl, bI_01 _⟩ ?_
      exact ⟨rfl, rfl⟩
    · replace h_2 := Nat.not_le.mp h_2
      omega
set_option maxHeartbeats 1000000 in
theorem c_yankX {q : Nat} {qa : Nat → Nat} {d c n a v f : Nat} {b : Bool} {r : rA} {x : Int32} {on : Bool} (hx : isIn x (nI 0) (nI v - nI 1) = false) : rFun q qa (d + 3) 127 [zR (some q), zI (x), zI (bI (on))] (c, n, a, b, v, f, r) (1, n, a, b, v, f, r) (some (zI (bI (false)))) := by
  refine rFun.of (d := d + 2) (T := tb_127) (L := [some (zR (some q)), some (zI (x)), some (zI (bI (on))), none]) (Nat.le_of_ble_eq_true rfl) rfl rfl ?_
  refine r_ald rfl rfl ?_
  refine r_ald rfl rfl ?_
  refine r_ild rfl rfl ?_
  refine r_call (as := [zR (some q), zI (x)]) (r := [zR (some q)]) (s' := (c, n, a, b, v, f, r)) (v := some (zI (bI (false)))) rfl rfl rfl (Nat.le_of_ble_eq_true rfl) (Or.inr ⟨rfl, rfl, _, rfl⟩) (c_isVersionZ hx) ?_
  refine r_ifB0 rfl (fun h_1 => ?_) (fun h_1 => ?_)
  · refine r_ico (x := (nI 1)) rfl rfl ?_
    refine r_put (s' := (1, n, a, b, v, f, r)) rfl (Nat.le_of_ble_eq_true rfl) ⟨_, rfl⟩ rfl rfl ?_
    refine r_ald rfl rfl ?_
    refine r_get rfl rfl ?_
    refine r_ifN (by omega) rfl (fun h_2 => ?_) (fun h_2 => ?_)
    · replace h_2 : 1 ≤ 0 := h_2
      omega
    · replace h_2 := Nat.not_le.mp h_2
      refine r_ico (x := (nI 0)) rfl rfl ?_
      refine r_ret rfl ⟨_, rfl, Or.inl rfl⟩ ?_
      exact ⟨rfl, rfl⟩
  · cases h_1
set_option maxHeartbeats 1000000 in
theorem c_drop {q : Nat} {qa : Nat → Nat} {d c n a v f : Nat} {b : Bool} {r : rA} {p : Nat} {y : Bool} (hp : p < 8) (hY : r 20 p = bI y) : rFun q qa (d + 2) 130 [zR (some q), zI (nI p)] (c, n, a, b, v, f, r) (0, n, a, b, v, f, rset r 20 p (bI false)) (some (zI (bI (y)))) := by
  refine rFun.of (d := d + 1) (T := tb_130) (L := [some (zR (some q)), some (zI (nI p)), none]) (Nat.le_of_ble_eq_true rfl) rfl rfl ?_
  refine r_ald rfl rfl ?_
  refine r_ild rfl rfl ?_
  refine r_ico (x := (nI 0)) rfl rfl ?_
  refine r_ico (x := (nI 7)) rfl rfl ?_
  refine r_call (as := [zI (nI p), zI (nI 0), zI (nI 7)]) (r := [zR (some q)]) (s' := (c, n, a, b, v, f, r)) (v := some (zI (bI (true)))) rfl rfl rfl (Nat.le_of_ble_eq_true rfl) (Or.inl rfl) (c_inZ (isIn_n (by omega) (by decide))) ?_
  refine r_ifB0 rfl (fun h_1 => ?_) (fun h_1 => ?_)
  · cases h_1
  · refine r_ico (x := (nI 0)) rfl rfl ?_
    refine r_go rfl ?_
    refine r_put (s' := (0, n, a, b, v, f, r)) rfl (Nat.le_of_ble_eq_true rfl) ⟨_, rfl⟩ rfl rfl ?_
    refine r_ald rfl rfl ?_
    refine r_get rfl rfl ?_
    refine r_ifN (by omega) rfl (fun h_2 => ?_) (fun h_2 => ?_)
    · replace h_2 : 0 ≤ 0 := h_2
      refine r_ald rfl rfl ?_
      refine r_get rfl rfl ?_
      refine r_ild rfl rfl ?_
      refine r_ialdN (k0 := 20) rfl rfl (by omega) (by decide) ?_
      refine r_top (y := (bI (y))) (by simp [rar, hY]) ?_
      refine r_ist (ls' := [some (zR (some q)), some (zI (nI p)), some (zI (bI (y)))]) rfl (Nat.le_of_ble_eq_true rfl) rfl ?_
      refine r_ald rfl rfl ?_
      refine r_get rfl rfl ?_
      refine r_ild rfl rfl ?_
      refine r_ico (x := (nI 0)) rfl rfl ?_
      refine r_iastN (k0 := 20) (x' := (bI (false))) rfl rfl (by omega) (by decide) (by decide +kernel) ?_
      refine r_ild rfl rfl ?_
      refine r_ret rfl ⟨_, rfl, bI_01 _⟩ ?_
      exact ⟨rfl, rfl⟩
    · replace h_2 := Nat.not_le.mp h_2
      omega
set_option maxHeartbeats 1000000 in
theorem c_dropX {q : Nat} {qa : Nat → Nat} {d c n a v f : Nat} {b : Bool} {r : rA} {x : Int32} (hx : isIn x (nI 0) (nI 7) = false) : rFun q qa (d + 2) 130 [zR (some q), zI (x)] (c, n, a, b, v, f, r) (1, n, a, b, v, f, r) (some (zI (bI (false)))) := by
  refine rFun.of (d := d + 1) (T := tb_130) (L := [some (zR (some q)), some (zI (x)), none]) (Nat.le_of_ble_eq_true rfl) rfl rfl ?_
  refine r_ald rfl rfl ?_
  refine r_ild rfl rfl ?_
  refine r_ico (x := (nI 0)) rfl rfl ?_
  refine r_ico (x := (nI 7)) rfl rfl ?_
  refine r_call (as := [zI (x), zI (nI 0), zI (nI 7)]) (r := [zR (some q)]) (s' := (c, n, a, b, v, f, r)) (v := some (zI (bI (false)))) rfl rfl rfl (Nat.le_of_ble_eq_true rfl) (Or.inl rfl) (c_inZ hx) ?_
  refine r_ifB0 rfl (fun h_1 => ?_) (fun h_1 => ?_)
  · refine r_ico (x := (nI 1)) rfl rfl ?_
    refine r_put (s' := (1, n, a, b, v, f, r)) rfl (Nat.le_of_ble_eq_true rfl) ⟨_, rfl⟩ rfl rfl ?_
    refine r_ald rfl rfl ?_
    refine r_get rfl rfl ?_
    refine r_ifN (by omega) rfl (fun h_2 => ?_) (fun h_2 => ?_)
    · replace h_2 : 1 ≤ 0 := h_2
      omega
    · replace h_2 := Nat.not_le.mp h_2
      refine r_ico (x := (nI 0)) rfl rfl ?_
      refine r_ret rfl ⟨_, rfl, Or.inl rfl⟩ ?_
      exact ⟨rfl, rfl⟩
  · cases h_1
set_option maxHeartbeats 1000000 in
theorem c_put {q : Nat} {qa : Nat → Nat} {d c n a v f : Nat} {b : Bool} {r : rA} {x : Int32} (hf : f < 250) : rFun q qa (d + 1) 149 [zR (some q), zI (x)] (c, n, a, b, v, f, r) (c, n, a, b, v, f + 1, rset r 24 f x) none := by
  refine rFun.of (T := tb_149) (L := [some (zR (some q)), some (zI (x))]) (Nat.le_of_ble_eq_true rfl) rfl rfl ?_
  refine r_ald rfl rfl ?_
  refine r_get rfl rfl ?_
  refine r_ald rfl rfl ?_
  refine r_get rfl rfl ?_
  refine r_ild rfl rfl ?_
  refine r_iastN (k0 := 24) (x' := (x)) rfl rfl (by omega) (by decide) rfl ?_
  refine r_ald rfl rfl ?_
  refine r_dup rfl rfl ?_
  refine r_get rfl rfl ?_
  refine r_ico (x := (nI 1)) rfl rfl ?_
  refine r_ibi (v := (nI (f + 1))) rfl (nI_add _ _) ?_
  refine r_put (s' := (c, n, a, b, v, f + 1, rset r 24 f (x))) rfl (Nat.le_of_ble_eq_true rfl) ⟨_, rfl⟩ rfl rfl ?_
  refine r_rtv rfl ?_
  exact ⟨rfl, rfl⟩
set_option maxHeartbeats 1000000 in
theorem l_wl {q : Nat} {qa : Nat → Nat} {d c n a v f : Nat} {b : Bool} {r : rA} {Q : rS → (Option zV ⊕ Nat) → Prop} {p i m : Nat} (hi : i < 40) (hm : m ≤ 24) (hM : r 18 i = nI m) (hf : f + m < 250) (hE : rEv q qa (d + 1) tb_150 Q 77 [some (zR (some q)), some (zI (nI p)), some (zI (nI i)), some (zI (nI m))] [] (c, n, a, b, v, f + m, rput r 24 f (fun y => r 19 (24 * i + y)) m)) : ∀ k, k ≤ m → rEv q qa (d + 1) tb_150 Q 46 [some (zR (some q)), some (zI (nI p)), some (zI (nI i)), some (zI (nI k))] [] (c, n, a, b, v, f + k, rput r 24 f (fun y => r 19 (24 * i + y)) k) := by
  refine dn m (fun k hk ih => ?_)
  refine r_ild rfl rfl ?_
  refine r_ald rfl rfl ?_
  refine r_get rfl rfl ?_
  refine r_ild rfl rfl ?_
  refine r_ialdN (k0 := 18) rfl rfl (by omega) (by decide) ?_
  refine r_top (y := (nI m)) (by simp [rar, rput_n, hM]) ?_
  refine r_cmpN (by omega) (by omega) rfl (fun h_1 => ?_) (fun h_1 => ?_)
  · replace h_1 : m ≤ k := h_1
    have h3 : k = m := by omega
    subst h3
    exact hE
  · replace h_1 := Nat.not_le.mp h_1
    refine r_ald rfl rfl ?_
    refine r_ald rfl rfl ?_
    refine r_get rfl rfl ?_
    refine r_ico (x := (nI 24)) rfl rfl ?_
    refine r_ild rfl rfl ?_
    refine r_ibi (v := (nI (24 * i))) rfl (pk_mul _ _) ?_
    refine r_ild rfl rfl ?_
    refine r_ibi (v := (nI (24 * i + k))) rfl (nI_add _ _) ?_
    refine r_ialdN (k0 := 19) rfl rfl (by omega) (by decide) ?_
    refine r_call (as := [zR (some q), zI ((rput r 24 f (fun y => r 19 (24 * i + y)) k) 19 (24 * i + k))]) (r := []) (s' := (c, n, a, b, v, f + k + 1, rset (rput r 24 f (fun y => r 19 (24 * i + y)) k) 24 (f + k) ((rput r 24 f (fun y => r 19 (24 * i + y)) k) 19 (24 * i + k)))) (v := none) rfl rfl rfl (Nat.le_of_ble_eq_true rfl) (Or.inr ⟨rfl, rfl, _, rfl⟩) (c_put (by omega)) ?_
    refine r_inc (x' := (nI (k + 1))) (ls' := [some (zR (some q)), some (zI (nI p)), some (zI (nI i)), some (zI (nI (k + 1)))]) rfl rfl (nI_1 _) rfl ?_
    refine r_go rfl ?_
    rw [rput_n (j := 19) (by decide), rput_s r 24 f (fun y => r 19 (24 * i + y))]
    exact ih (by omega)
set_option maxHeartbeats 1000000 in
theorem l_write {q : Nat} {qa : Nat → Nat} {d c n a v f : Nat} {b : Bool} {r : rA} {Q : rS → (Option zV ⊕ Nat) → Prop}  (hC : ∀ p, p < 8 → r 22 p = -1 ∨ ∃ i, i < 40 ∧ r 22 p = nI i ∧ ∃ m, m ≤ 24 ∧ r 18 i = nI m) (hQ : Q (0, n, a, b, v, (wfF r 8).1, (wfF r 8).2) (.inl (some (zI (nI (wfF r 8).1))))) : ∀ p, p ≤ 8 → ∀ (x2 x3 : Option zV), rEv q qa (d + 1) tb_150 Q 12 [some (zR (some q)), some (zI (nI p)), x2, x3] [] (0, n, a, b, v, (wfF r p).1, (wfF r p).2) := by
  refine dn 8 (fun p hk ih x2 x3 => ?_)
  refine r_ild rfl rfl ?_
  refine r_ico (x := (nI 8)) rfl rfl ?_
  refine r_cmpN (by omega) (by omega) rfl (fun h_1 => ?_) (fun h_1 => ?_)
  · replace h_1 : 8 ≤ p := h_1
    refine r_ald rfl rfl ?_
    refine r_get rfl rfl ?_
    refine r_ret rfl ⟨_, rfl⟩ ?_
    have h3 : p = 8 := by omega
    rw [h3]
    exact hQ
  · replace h_1 := Nat.not_le.mp h_1
    refine r_ald rfl rfl ?_
    refine r_get rfl rfl ?_
    refine r_ild rfl rfl ?_
    refine r_ialdN (k0 := 22) rfl rfl (by omega) (by decide) ?_
    refine r_top (y := (r 22 p)) (by rw [show rar (0, n, a, b, v, (wfF r p).1, (wfF r p).2) = (wfF r p).2 from rfl, wfF_n r p 22 (by decide)]) ?_
    refine r_ist (ls' := [some (zR (some q)), some (zI (nI p)), some (zI (r 22 p)), x3]) rfl (Nat.le_of_ble_eq_true rfl) rfl ?_
    refine r_ild rfl rfl ?_
    refine r_ico (x := (-1)) rfl rfl ?_
    refine r_cmp rfl (fun h_2 => ?_) (fun h_2 => ?_)
    · replace h_2 : (r 22 p) = (-1) := h_2
      refine r_inc (x' := (nI (p + 1))) (ls' := [some (zR (some q)), some (zI (nI (p + 1))), some (zI (r 22 p)), x3]) rfl rfl (nI_1 _) rfl ?_
      refine r_go rfl ?_
      have h7 : wfF r (p + 1) = wfF r p := by rw [wfF, wlF, if_pos h_2]
      rw [h7] at ih
      exact ih (by omega) _ _
    · replace h_2 : ¬ ((r 22 p) = (-1)) := h_2
      obtain ⟨i, hi, e, m, hm, hM⟩ := (hC p (by omega)).resolve_left h_2
      have hb := wfF_le r hC p (by omega)
      have h7 : wfF r (p + 1) = ((wfF r p).1 + 1 + 1 + m + 1, rset (rput (rset (rset (wfF r p).2 24 (wfF r p).1 (nI (48 + p))) 24 ((wfF r p).1 + 1) (nI 32)) 24 ((wfF r p).1 + 1 + 1) (fun y => r 19 (24 * i + y)) m) 24 ((wfF r p).1 + 1 + 1 + m) (nI 10)) := by rw [wfF, wlF, if_neg h_2, e, nI_clamp (by omega), hM, nI_clamp (by omega)]
      rw [h7] at ih
      rw [e]
      refine r_ald rfl rfl ?_
      refine r_ico (x := (nI 48)) rfl rfl ?_
      refine r_ild rfl rfl ?_
      refine r_ibi (v := (nI (48 + p))) rfl (nI_add _ _) ?_
      refine r_call (as := [zR (some q), zI (nI (48 + p))]) (r := []) (s' := (0, n, a, b, v, (wfF r p).1 + 1, rset ((wfF r p).2) 24 ((wfF r p).1) (nI (48 + p)))) (v := none) rfl rfl rfl (Nat.le_of_ble_eq_true rfl) (Or.inr ⟨rfl, rfl, _, rfl⟩) (c_put (by omega)) ?_
      refine r_ald rfl rfl ?_
      refine r_ico (x := (nI 32)) rfl rfl ?_
      refine r_call (as := [zR (some q), zI (nI 32)]) (r := []) (s' := (0, n, a, b, v, (wfF r p).1 + 1 + 1, rset (rset ((wfF r p).2) 24 ((wfF r p).1) (nI (48 + p))) 24 ((wfF r p).1 + 1) (nI 32))) (v := none) rfl rfl rfl (Nat.le_of_ble_eq_true rfl) (Or.inr ⟨rfl, rfl, _, rfl⟩) (c_put (by omega)) ?_
      refine r_ico (x := (nI 0)) rfl rfl ?_
      refine r_ist (ls' := [some (zR (some q)), some (zI (nI p)), some (zI (nI i)), some (zI (nI 0))]) rfl (Nat.le_of_ble_eq_true rfl) rfl ?_
      have h6 : ∀ k, k ≠ 24 → (rset (rset (wfF r p).2 24 (wfF r p).1 (nI (48 + p))) 24 ((wfF r p).1 + 1) (nI 32)) k = r k := by intro k hk; rw [rset_n _ _ _ hk, rset_n _ _ _ hk]; exact wfF_n r p k hk
      have h8 := l_wl (q := q) (qa := qa) (d := d) (c := 0) (n := n) (a := a) (v := v) (f := (wfF r p).1 + 1 + 1) (b := b) (Q := Q) (r := rset (rset (wfF r p).2 24 (wfF r p).1 (nI (48 + p))) 24 ((wfF r p).1 + 1) (nI 32)) (p := p) (i := i) (m := m) hi hm (by rw [h6 18 (by decide)]; exact hM) (by omega) ?_ 0 (by omega)
      exact rEv_rr (rput_0 _ _ _ _) h8
      rw [h6 19 (by decide)]
      refine r_ald rfl rfl ?_
      refine r_ico (x := (nI 10)) rfl rfl ?_
      refine r_call (as := [zR (some q), zI (nI 10)]) (r := []) (s' := (0, n, a, b, v, (wfF r p).1 + 1 + 1 + m + 1, rset (rput (rset (rset (wfF r p).2 24 (wfF r p).1 (nI (48 + p))) 24 ((wfF r p).1 + 1) (nI 32)) 24 ((wfF r p).1 + 1 + 1) (fun y => r 19 (24 * i + y)) m) 24 ((wfF r p).1 + 1 + 1 + m) (nI 10))) (v := none) rfl rfl rfl (Nat.le_of_ble_eq_true rfl) (Or.inr ⟨rfl, rfl, _, rfl⟩) (c_put (by omega)) ?_
      refine r_inc (x' := (nI (p + 1))) (ls' := [some (zR (some q)), some (zI (nI (p + 1))), some (zI (nI i)), some (zI (nI m))]) rfl rfl (nI_1 _) rfl ?_
      refine r_go rfl ?_
      exact ih (by omega) _ _
set_option maxHeartbeats 1000000 in
theorem c_write {q : Nat} {qa : Nat → Nat} {d c n a v f : Nat} {b : Bool} {r : rA}  (hC : ∀ p, p < 8 → r 22 p = -1 ∨ ∃ i, i < 40 ∧ r 22 p = nI i ∧ ∃ m, m ≤ 24 ∧ r 18 i = nI m) : rFun q qa (d + 2) 150 [zR (some q)] (c, n, a, b, v, f, r) (0, n, a, b, v, (wfF r 8).1, (wfF r 8).2) (some (zI (nI ((wfF r 8).1)))) := by
  refine rFun.of (d := d + 1) (T := tb_150) (L := [some (zR (some q)), none, none, none]) (Nat.le_of_ble_eq_true rfl) rfl rfl ?_
  refine r_ald rfl rfl ?_
  refine r_ico (x := (nI 0)) rfl rfl ?_
  refine r_put (s' := (0, n, a, b, v, f, r)) rfl (Nat.le_of_ble_eq_true rfl) ⟨_, rfl⟩ rfl rfl ?_
  refine r_ald rfl rfl ?_
  refine r_ico (x := (nI 0)) rfl rfl ?_
  refine r_put (s' := (0, n, a, b, v, 0, r)) rfl (Nat.le_of_ble_eq_true rfl) ⟨_, rfl⟩ rfl rfl ?_
  refine r_ico (x := (nI 0)) rfl rfl ?_
  refine r_ist (ls' := [some (zR (some q)), some (zI (nI 0)), none, none]) rfl (Nat.le_of_ble_eq_true rfl) rfl ?_
  exact l_write (c := c) (f := f) hC ⟨rfl, rfl⟩ 0 (by omega) none none
end
section
theorem c_asksZ {q : Nat} {qa : Nat → Nat} {d c n a v f : Nat} {b z : Bool} {r : rA} (hn : n ≤ 160) (h : (!(rqR 213 n 0 r).2.1 && decide ((rqR 213 n 0 r).1 = n)) = z) : rFun q qa (d + 7) 128 [zR (some q)] (c, n, a, b, v, f, r) (c, 0, (rqR 213 n 0 r).1, (rqR 213 n 0 r).2.1, v, f, (rqR 213 n 0 r).2.2) (some (zI (bI z))) := by
  subst h
  exact c_asks hn
theorem c_isRightZ {q : Nat} {qa : Nat → Nat} {d c n a v f : Nat} {b z : Bool} {r : rA} (hn : n ≤ 160) (ha : a < 100000) (h : (!b && decide (a = n)) = z) : rFun q qa (d + 1) 113 [zR (some q)] (c, n, a, b, v, f, r) (c, 0, a, b, v, f, r) (some (zI (bI z))) := by
  subst h
  exact c_isRight hn ha
theorem c_hasSameZ {q : Nat} {qa : Nat → Nat} {d c n a v f : Nat} {b z : Bool} {r : rA} {pk : Int32} (hv : v ≤ 40) (h40 : rowOK r 40) (hR : ∀ k, k < v → rowOK r k) (h : hsF r pk v = z) : rFun q qa (d + 5) 124 [zR (some q), zI pk] (c, n, a, b, v, f, r) (c, n, a, b, v, f, r) (some (zI (bI z))) := by
  subst h
  exact c_hasSame hv h40 hR
/-- k rows from i on, laid into those from j on -/
def crN (r : rA) (i j : Nat) : Nat → rA
  | 0 => r
  | k + 1 => crF (crN r i j k) (i + k) (j + k)
theorem crF_n {r : rA} {i j k : Nat} (h : k < 5 ∨ 11 < k) : crF r i j k = r k := by
  unfold crF
  rw [cpW_n (by omega), rset_n _ _ _ (by omega), rset_n _ _ _ (by omega), rset_n _ _ _ (by omega), rset_n _ _ _ (by omega), rset_n _ _ _ (by omega), rset_n _ _ _ (by omega)]
theorem crN_n {r : rA} {i j k : Nat} (h : k < 5 ∨ 11 < k) : ∀ m, crN r i j m k = r k
  | 0 => rfl
  | m + 1 => by rw [crN, crF_n h]; exact crN_n h m
/-- a requirement is wanted of package p -/
def wtF (R : rA) (p : Nat) : rA := crN (rset (rset R 20 p (bI true)) 12 p ((rset R 20 p (bI true)) 12 213)) 893 (41 + 4 * p) 4
/-- the highest of the first k versions of package pk that meets what is asked -/
def bsF (r : rA) (pk : Int32) : Nat → Int32
  | 0 => -1
  | k + 1 => if r 16 k = pk then (if r 17 k = 0 then (if maF r 213 k = true then (if bsF r pk k = -1 then nI k else if ordF r k (wsz r k) (bsF r pk k).toNatClampNeg (wsz r (bsF r pk k).toNatClampNeg) ≤ 0 then bsF r pk k else nI k) else bsF r pk k) else bsF r pk k) else bsF r pk k
theorem bsF_ex (r : rA) (pk : Int32) : ∀ k, bsF r pk k = -1 ∨ ∃ j, j < k ∧ bsF r pk k = nI j
  | 0 => Or.inl rfl
  | k + 1 => by
    have h : bsF r pk k = -1 ∨ ∃ j, j < k + 1 ∧ bsF r pk k = nI j := (bsF_ex r pk k).imp id (fun ⟨j, h, e⟩ => ⟨j, by omega, e⟩)
    have h2 : nI k = -1 ∨ ∃ j, j < k + 1 ∧ nI k = nI j := Or.inr ⟨k, by omega, rfl⟩
    unfold bsF
    (repeat' split) <;> assumption
/-- the needs of the new version, laid into its own rows -/
def pbN (R : rA) (v : Nat) : Nat → rA
  | 0 => R
  | k + 1 => crN (rset (rset (pbN R v k) 13 (5 * v + k) (pbN R v k 13 (200 + k))) 12 (8 + 5 * v + k) ((rset (pbN R v k) 13 (5 * v + k) (pbN R v k 13 (200 + k))) 12 (208 + k))) (41 + 4 * (208 + k)) (41 + 4 * (8 + 5 * v + k)) 4
theorem pbN_n {R : rA} {v j : Nat} (h : j < 5 ∨ 13 < j) : ∀ k, pbN R v k j = R j
  | 0 => rfl
  | k + 1 => by
    rw [pbN, crN_n (by omega), rset_n _ _ _ (by omega), rset_n _ _ _ (by omega)]
    exact pbN_n h k
/-- the new version's row, name, package and number of needs -/
def pb1 (R : rA) (v : Nat) : rA := rset (crF R 40 v) 18 v ((crF R 40 v) 18 40)
def pb2 (R : rA) (v : Nat) (pk : Int32) : rA :=
  let R3 := rput (pb1 R v) 19 (24 * v) (fun y => pb1 R v 19 (960 + y)) 24
  let R5 := rset (rset R3 16 v pk) 17 v (bI false)
  rset R5 14 v (R5 14 40)
/-- what publish does with the arrays -/
def pbR (R : rA) (v : Nat) (pk : Int32) : rA := pbN (pb2 R v pk) v (R 14 40).toNatClampNeg
set_option maxHeartbeats 1000000 in
theorem c_wantX {q : Nat} {qa : Nat → Nat} {d c n a v f : Nat} {b : Bool} {r : rA} {x : Int32} (hn : n ≤ 160) (hx : isIn x (nI 0) (nI 7) = false) : rFun q qa (d + 8) 129 [zR (some q), zI (x)] (c, n, a, b, v, f, r) (1, 0, (rqR 213 n 0 r).1, (rqR 213 n 0 r).2.1, v, f, (rqR 213 n 0 r).2.2) none := by
  refine rFun.of (d := d + 7) (T := tb_129) (L := [some (zR (some q)), some (zI (x)), none, none]) (Nat.le_of_ble_eq_true rfl) rfl rfl ?_
  refine r_ald rfl rfl ?_
  refine r_call (as := [zR (some q)]) (r := []) (s' := (c, 0, (rqR 213 n 0 r).1, (rqR 213 n 0 r).2.1, v, f, (rqR 213 n 0 r).2.2)) (v := some (zI (bI (!(rqR 213 n 0 r).2.1 && decide ((rqR 213 n 0 r).1 = n))))) rfl rfl rfl (Nat.le_of_ble_eq_true rfl) (Or.inr ⟨rfl, rfl, _, rfl⟩) (c_asks hn) ?_
  refine r_ist (ls' := [some (zR (some q)), some (zI (x)), some (zI (bI (!(rqR 213 n 0 r).2.1 && decide ((rqR 213 n 0 r).1 = n)))), none]) rfl (Nat.le_of_ble_eq_true rfl) rfl ?_
  refine r_ald rfl rfl ?_
  refine r_ild rfl rfl ?_
  refine r_ico (x := (nI 0)) rfl rfl ?_
  refine r_ico (x := (nI 7)) rfl rfl ?_
  refine r_call (as := [zI (x), zI (nI 0), zI (nI 7)]) (r := [zR (some q)]) (s' := (c, 0, (rqR 213 n 0 r).1, (rqR 213 n 0 r).2.1, v, f, (rqR 213 n 0 r).2.2)) (v := some (zI (bI (false)))) rfl rfl rfl (Nat.le_of_ble_eq_true rfl) (Or.inl rfl) (c_inZ hx) ?_
  refine r_ifB1 rfl (fun h_1 => ?_) (fun h_1 => ?_)
  · cases h_1
  · refine r_ico (x := (nI 1)) rfl rfl ?_
    refine r_go rfl ?_
    refine r_put (s' := (1, 0, (rqR 213 n 0 r).1, (rqR 213 n 0 r).2.1, v, f, (rqR 213 n 0 r).2.2)) rfl (Nat.le_of_ble_eq_true rfl) ⟨_, rfl⟩ rfl rfl ?_
    refine r_ald rfl rfl ?_
    refine r_get rfl rfl ?_
    refine r_ifN (by omega) rfl (fun h_2 => ?_) (fun h_2 => ?_)
    · replace h_2 : 1 ≤ 0 := h_2
      omega
    · replace h_2 := Nat.not_le.mp h_2
      refine r_rtv rfl ?_
      exact ⟨rfl, rfl⟩
set_option maxHeartbeats 1000000 in
theorem c_bestX {q : Nat} {qa : Nat → Nat} {d c n a v f : Nat} {b : Bool} {r : rA} {x : Int32} (hn : n ≤ 160) (hv : v ≤ 40) (hx : isIn x (nI 0) (nI 7) = false) : rFun q qa (d + 8) 145 [zR (some q), zI (x)] (c, n, a, b, v, f, r) (1, 0, (rqR 213 n 0 r).1, (rqR 213 n 0 r).2.1, v, f, (rqR 213 n 0 r).2.2) (some (zI (nI 0))) := by
  refine rFun.of (d := d + 7) (T := tb_145) (L := [some (zR (some q)), some (zI (x)), none, none, none, none]) (Nat.le_of_ble_eq_true rfl) rfl rfl ?_
  refine r_ald rfl rfl ?_
  refine r_call (as := [zR (some q)]) (r := []) (s' := (c, 0, (rqR 213 n 0 r).1, (rqR 213 n 0 r).2.1, v, f, (rqR 213 n 0 r).2.2)) (v := some (zI (bI (!(rqR 213 n 0 r).2.1 && decide ((rqR 213 n 0 r).1 = n))))) rfl rfl rfl (Nat.le_of_ble_eq_true rfl) (Or.inr ⟨rfl, rfl, _, rfl⟩) (c_asks hn) ?_
  refine r_ist (ls' := [some (zR (some q)), some (zI (x)), some (zI (bI (!(rqR 213 n 0 r).2.1 && decide ((rqR 213 n 0 r).1 = n)))), none, none, none]) rfl (Nat.le_of_ble_eq_true rfl) rfl ?_
  refine r_ald rfl rfl ?_
  refine r_ild rfl rfl ?_
  refine r_ico (x := (nI 0)) rfl rfl ?_
  refine r_ico (x := (nI 7)) rfl rfl ?_
  refine r_call (as := [zI (x), zI (nI 0), zI (nI 7)]) (r := [zR (some q)]) (s' := (c, 0, (rqR 213 n 0 r).1, (rqR 213 n 0 r).2.1, v, f, (rqR 213 n 0 r).2.2)) (v := some (zI (bI (false)))) rfl rfl rfl (Nat.le_of_ble_eq_true rfl) (Or.inl rfl) (c_inZ hx) ?_
  refine r_ifB1 rfl (fun h_1 => ?_) (fun h_1 => ?_)
  · cases h_1
  · refine r_ico (x := (nI 1)) rfl rfl ?_
    refine r_go rfl ?_
    refine r_put (s' := (1, 0, (rqR 213 n 0 r).1, (rqR 213 n 0 r).2.1, v, f, (rqR 213 n 0 r).2.2)) rfl (Nat.le_of_ble_eq_true rfl) ⟨_, rfl⟩ rfl rfl ?_
    refine r_ico (x := (-1)) rfl rfl ?_
    refine r_ist (ls' := [some (zR (some q)), some (zI (x)), some (zI (bI (!(rqR 213 n 0 r).2.1 && decide ((rqR 213 n 0 r).1 = n)))), some (zI (-1)), none, none]) rfl (Nat.le_of_ble_eq_true rfl) rfl ?_
    refine r_ico (x := (nI 0)) rfl rfl ?_
    refine r_ist (ls' := [some (zR (some q)), some (zI (x)), some (zI (bI (!(rqR 213 n 0 r).2.1 && decide ((rqR 213 n 0 r).1 = n)))), some (zI (-1)), some (zI (nI 0)), none]) rfl (Nat.le_of_ble_eq_true rfl) rfl ?_
    refine r_ild rfl rfl ?_
    refine r_ald rfl rfl ?_
    refine r_get rfl rfl ?_
    refine r_cmpN (by omega) (by omega) rfl (fun h_2 => ?_) (fun h_2 => ?_)
    · replace h_2 : v ≤ 0 := h_2
      refine r_ald rfl rfl ?_
      refine r_get rfl rfl ?_
      refine r_ifN (by omega) rfl (fun h_3 => ?_) (fun h_3 => ?_)
      · replace h_3 : 1 ≤ 0 := h_3
        omega
      · replace h_3 := Nat.not_le.mp h_3
        refine r_ico (x := (nI 0)) rfl rfl ?_
        refine r_go rfl ?_
        refine r_ret rfl ⟨_, rfl⟩ ?_
        exact ⟨rfl, rfl⟩
    · replace h_2 := Nat.not_le.mp h_2
      refine r_ald rfl rfl ?_
      refine r_get rfl rfl ?_
      refine r_ifN (by omega) rfl (fun h_4 => ?_) (fun h_4 => ?_)
      · replace h_4 : ¬ 1 = 0 := h_4
        refine r_ald rfl rfl ?_
        refine r_get rfl rfl ?_
        refine r_ifN (by omega) rfl (fun h_5 => ?_) (fun h_5 => ?_)
        · replace h_5 : 1 ≤ 0 := h_5
          omega
        · replace h_5 := Nat.not_le.mp h_5
          refine r_ico (x := (nI 0)) rfl rfl ?_
          refine r_go rfl ?_
          refine r_ret rfl ⟨_, rfl⟩ ?_
          exact ⟨rfl, rfl⟩
      · replace h_4 : 1 = 0 := Decidable.of_not_not h_4
        omega
set_option maxHeartbeats 1000000 in
theorem c_meetsX {q : Nat} {qa : Nat → Nat} {d c n a v f : Nat} {b : Bool} {r : rA} {x : Int32} (hn : n ≤ 160) (hx : isIn x (nI 0) (nI v - nI 1) = false) : rFun q qa (d + 8) 144 [zR (some q), zI (x)] (c, n, a, b, v, f, r) (1, 0, (rqR 213 n 0 r).1, (rqR 213 n 0 r).2.1, v, f, (rqR 213 n 0 r).2.2) (some (zI (bI (false)))) := by
  refine rFun.of (d := d + 7) (T := tb_144) (L := [some (zR (some q)), some (zI (x)), none]) (Nat.le_of_ble_eq_true rfl) rfl rfl ?_
  refine r_ald rfl rfl ?_
  refine r_call (as := [zR (some q)]) (r := []) (s' := (c, 0, (rqR 213 n 0 r).1, (rqR 213 n 0 r).2.1, v, f, (rqR 213 n 0 r).2.2)) (v := some (zI (bI (!(rqR 213 n 0 r).2.1 && decide ((rqR 213 n 0 r).1 = n))))) rfl rfl rfl (Nat.le_of_ble_eq_true rfl) (Or.inr ⟨rfl, rfl, _, rfl⟩) (c_asks hn) ?_
  refine r_ist (ls' := [some (zR (some q)), some (zI (x)), some (zI (bI (!(rqR 213 n 0 r).2.1 && decide ((rqR 213 n 0 r).1 = n))))]) rfl (Nat.le_of_ble_eq_true rfl) rfl ?_
  refine r_ald rfl rfl ?_
  refine r_ald rfl rfl ?_
  refine r_ild rfl rfl ?_
  refine r_call (as := [zR (some q), zI (x)]) (r := [zR (some q)]) (s' := (c, 0, (rqR 213 n 0 r).1, (rqR 213 n 0 r).2.1, v, f, (rqR 213 n 0 r).2.2)) (v := some (zI (bI (false)))) rfl rfl rfl (Nat.le_of_ble_eq_true rfl) (Or.inr ⟨rfl, rfl, _, rfl⟩) (c_isVersionZ hx) ?_
  refine r_ifB1 rfl (fun h_1 => ?_) (fun h_1 => ?_)
  · cases h_1
  · refine r_ico (x := (nI 1)) rfl rfl ?_
    refine r_go rfl ?_
    refine r_put (s' := (1, 0, (rqR 213 n 0 r).1, (rqR 213 n 0 r).2.1, v, f, (rqR 213 n 0 r).2.2)) rfl (Nat.le_of_ble_eq_true rfl) ⟨_, rfl⟩ rfl rfl ?_
    refine r_ald rfl rfl ?_
    refine r_get rfl rfl ?_
    refine r_ifN (by omega) rfl (fun h_2 => ?_) (fun h_2 => ?_)
    · replace h_2 : ¬ 1 = 0 := h_2
      refine r_ico (x := (nI 0)) rfl rfl ?_
      refine r_ret rfl ⟨_, rfl, Or.inl rfl⟩ ?_
      exact ⟨rfl, rfl⟩
    · replace h_2 : 1 = 0 := Decidable.of_not_not h_2
      omega
set_option maxHeartbeats 1000000 in
theorem c_want2 {q : Nat} {qa : Nat → Nat} {d c n a v f : Nat} {b : Bool} {r : rA} {p : Nat} (hn : n ≤ 160) (hp : p < 8) (hr : (!(rqR 213 n 0 r).2.1 && decide ((rqR 213 n 0 r).1 = n)) = false) : rFun q qa (d + 8) 129 [zR (some q), zI (nI p)] (c, n, a, b, v, f, r) (2, 0, (rqR 213 n 0 r).1, (rqR 213 n 0 r).2.1, v, f, (rqR 213 n 0 r).2.2) none := by
  refine rFun.of (d := d + 7) (T := tb_129) (L := [some (zR (some q)), some (zI (nI p)), none, none]) (Nat.le_of_ble_eq_true rfl) rfl rfl ?_
  refine r_ald rfl rfl ?_
  refine r_call (as := [zR (some q)]) (r := []) (s' := (c, 0, (rqR 213 n 0 r).1, (rqR 213 n 0 r).2.1, v, f, (rqR 213 n 0 r).2.2)) (v := some (zI (bI (false)))) rfl rfl rfl (Nat.le_of_ble_eq_true rfl) (Or.inr ⟨rfl, rfl, _, rfl⟩) (c_asksZ hn hr) ?_
  refine r_ist (ls' := [some (zR (some q)), some (zI (nI p)), some (zI (bI (false))), none]) rfl (Nat.le_of_ble_eq_true rfl) rfl ?_
  refine r_ald rfl rfl ?_
  refine r_ild rfl rfl ?_
  refine r_ico (x := (nI 0)) rfl rfl ?_
  refine r_ico (x := (nI 7)) rfl rfl ?_
  refine r_call (as := [zI (nI p), zI (nI 0), zI (nI 7)]) (r := [zR (some q)]) (s' := (c, 0, (rqR 213 n 0 r).1, (rqR 213 n 0 r).2.1, v, f, (rqR 213 n 0 r).2.2)) (v := some (zI (bI (true)))) rfl rfl rfl (Nat.le_of_ble_eq_true rfl) (Or.inl rfl) (c_inZ (isIn_n (by omega) (by decide))) ?_
  refine r_ifB1 rfl (fun h_1 => ?_) (fun h_1 => ?_)
  · refine r_ild rfl rfl ?_
    refine r_ifB0 rfl (fun h_2 => ?_) (fun h_2 => ?_)
    · refine r_ico (x := (nI 2)) rfl rfl ?_
      refine r_put (s' := (2, 0, (rqR 213 n 0 r).1, (rqR 213 n 0 r).2.1, v, f, (rqR 213 n 0 r).2.2)) rfl (Nat.le_of_ble_eq_true rfl) ⟨_, rfl⟩ rfl rfl ?_
      refine r_ald rfl rfl ?_
      refine r_get rfl rfl ?_
      refine r_ifN (by omega) rfl (fun h_3 => ?_) (fun h_3 => ?_)
      · replace h_3 : 2 ≤ 0 := h_3
        omega
      · replace h_3 := Nat.not_le.mp h_3
        refine r_rtv rfl ?_
        exact ⟨rfl, rfl⟩
    · cases h_2
  · cases h_1
set_option maxHeartbeats 1000000 in
theorem c_best2 {q : Nat} {qa : Nat → Nat} {d c n a v f : Nat} {b : Bool} {r : rA} {p : Nat} (hn : n ≤ 160) (hv : v ≤ 40) (hp : p < 8) (hr : (!(rqR 213 n 0 r).2.1 && decide ((rqR 213 n 0 r).1 = n)) = false) : rFun q qa (d + 8) 145 [zR (some q), zI (nI p)] (c, n, a, b, v, f, r) (2, 0, (rqR 213 n 0 r).1, (rqR 213 n 0 r).2.1, v, f, (rqR 213 n 0 r).2.2) (some (zI (nI 0))) := by
  refine rFun.of (d := d + 7) (T := tb_145) (L := [some (zR (some q)), some (zI (nI p)), none, none, none, none]) (Nat.le_of_ble_eq_true rfl) rfl rfl ?_
  refine r_ald rfl rfl ?_
  refine r_call (as := [zR (some q)]) (r := []) (s' := (c, 0, (rqR 213 n 0 r).1, (rqR 213 n 0 r).2.1, v, f, (rqR 213 n 0 r).2.2)) (v := some (zI (bI (false)))) rfl rfl rfl (Nat.le_of_ble_eq_true rfl) (Or.inr ⟨rfl, rfl, _, rfl⟩) (c_asksZ hn hr) ?_
  refine r_ist (ls' := [some (zR (some q)), some (zI (nI p)), some (zI (bI (false))), none, none, none]) rfl (Nat.le_of_ble_eq_true rfl) rfl ?_
  refine r_ald rfl rfl ?_
  refine r_ild rfl rfl ?_
  refine r_ico (x := (nI 0)) rfl rfl ?_
  refine r_ico (x := (nI 7)) rfl rfl ?_
  refine r_call (as := [zI (nI p), zI (nI 0), zI (nI 7)]) (r := [zR (some q)]) (s' := (c, 0, (rqR 213 n 0 r).1, (rqR 213 n 0 r).2.1, v, f, (rqR 213 n 0 r).2.2)) (v := some (zI (bI (true)))) rfl rfl rfl (Nat.le_of_ble_eq_true rfl) (Or.inl rfl) (c_inZ (isIn_n (by omega) (by decide))) ?_
  refine r_ifB1 rfl (fun h_1 => ?_) (fun h_1 => ?_)
  · refine r_ild rfl rfl ?_
    refine r_ifB0 rfl (fun h_2 => ?_) (fun h_2 => ?_)
    · refine r_ico (x := (nI 2)) rfl rfl ?_
      refine r_put (s' := (2, 0, (rqR 213 n 0 r).1, (rqR 213 n 0 r).2.1, v, f, (rqR 213 n 0 r).2.2)) rfl (Nat.le_of_ble_eq_true rfl) ⟨_, rfl⟩ rfl rfl ?_
      refine r_ico (x := (-1)) rfl rfl ?_
      refine r_ist (ls' := [some (zR (some q)), some (zI (nI p)), some (zI (bI (false))), some (zI (-1)), none, none]) rfl (Nat.le_of_ble_eq_true rfl) rfl ?_
      refine r_ico (x := (nI 0)) rfl rfl ?_
      refine r_ist (ls' := [some (zR (some q)), some (zI (nI p)), some (zI (bI (false))), some (zI (-1)), some (zI (nI 0)), none]) rfl (Nat.le_of_ble_eq_true rfl) rfl ?_
      refine r_ild rfl rfl ?_
      refine r_ald rfl rfl ?_
      refine r_get rfl rfl ?_
      refine r_cmpN (by omega) (by omega) rfl (fun h_3 => ?_) (fun h_3 => ?_)
      · replace h_3 : v ≤ 0 := h_3
        refine r_ald rfl rfl ?_
        refine r_get rfl rfl ?_
        refine r_ifN (by omega) rfl (fun h_4 => ?_) (fun h_4 => ?_)
        · replace h_4 : 2 ≤ 0 := h_4
          omega
        · replace h_4 := Nat.not_le.mp h_4
          refine r_ico (x := (nI 0)) rfl rfl ?_
          refine r_go rfl ?_
          refine r_ret rfl ⟨_, rfl⟩ ?_
          exact ⟨rfl, rfl⟩
      · replace h_3 := Nat.not_le.mp h_3
        refine r_ald rfl rfl ?_
        refine r_get rfl rfl ?_
        refine r_ifN (by omega) rfl (fun h_5 => ?_) (fun h_5 => ?_)
        · replace h_5 : ¬ 2 = 0 := h_5
          refine r_ald rfl rfl ?_
          refine r_get rfl rfl ?_
          refine r_ifN (by omega) rfl (fun h_6 => ?_) (fun h_6 => ?_)
          · replace h_6 : 2 ≤ 0 := h_6
            omega
          · replace h_6 := Nat.not_le.mp h_6
            refine r_ico (x := (nI 0)) rfl rfl ?_
            refine r_go rfl ?_
            refine r_ret rfl ⟨_, rfl⟩ ?_
            exact ⟨rfl, rfl⟩
        · replace h_5 : 2 = 0 := Decidable.of_not_not h_5
          omega
    · cases h_2
  · cases h_1
set_option maxHeartbeats 1000000 in
theorem c_meets2 {q : Nat} {qa : Nat → Nat} {d c n a v f : Nat} {b : Bool} {r : rA} {i : Nat} (hn : n ≤ 160) (hv : v ≤ 40) (hi : i < v) (hr : (!(rqR 213 n 0 r).2.1 && decide ((rqR 213 n 0 r).1 = n)) = false) : rFun q qa (d + 8) 144 [zR (some q), zI (nI i)] (c, n, a, b, v, f, r) (2, 0, (rqR 213 n 0 r).1, (rqR 213 n 0 r).2.1, v, f, (rqR 213 n 0 r).2.2) (some (zI (bI (false)))) := by
  refine rFun.of (d := d + 7) (T := tb_144) (L := [some (zR (some q)), some (zI (nI i)), none]) (Nat.le_of_ble_eq_true rfl) rfl rfl ?_
  refine r_ald rfl rfl ?_
  refine r_call (as := [zR (some q)]) (r := []) (s' := (c, 0, (rqR 213 n 0 r).1, (rqR 213 n 0 r).2.1, v, f, (rqR 213 n 0 r).2.2)) (v := some (zI (bI (false)))) rfl rfl rfl (Nat.le_of_ble_eq_true rfl) (Or.inr ⟨rfl, rfl, _, rfl⟩) (c_asksZ hn hr) ?_
  refine r_ist (ls' := [some (zR (some q)), some (zI (nI i)), some (zI (bI (false)))]) rfl (Nat.le_of_ble_eq_true rfl) rfl ?_
  refine r_ald rfl rfl ?_
  refine r_ald rfl rfl ?_
  refine r_ild rfl rfl ?_
  refine r_call (as := [zR (some q), zI (nI i)]) (r := [zR (some q)]) (s' := (c, 0, (rqR 213 n 0 r).1, (rqR 213 n 0 r).2.1, v, f, (rqR 213 n 0 r).2.2)) (v := some (zI (bI (true)))) rfl rfl rfl (Nat.le_of_ble_eq_true rfl) (Or.inr ⟨rfl, rfl, _, rfl⟩) (c_isVersionZ (isIn_v hi (by omega))) ?_
  refine r_ifB1 rfl (fun h_1 => ?_) (fun h_1 => ?_)
  · refine r_ild rfl rfl ?_
    refine r_ifB0 rfl (fun h_2 => ?_) (fun h_2 => ?_)
    · refine r_ico (x := (nI 2)) rfl rfl ?_
      refine r_put (s' := (2, 0, (rqR 213 n 0 r).1, (rqR 213 n 0 r).2.1, v, f, (rqR 213 n 0 r).2.2)) rfl (Nat.le_of_ble_eq_true rfl) ⟨_, rfl⟩ rfl rfl ?_
      refine r_ald rfl rfl ?_
      refine r_get rfl rfl ?_
      refine r_ifN (by omega) rfl (fun h_3 => ?_) (fun h_3 => ?_)
      · replace h_3 : ¬ 2 = 0 := h_3
        refine r_ico (x := (nI 0)) rfl rfl ?_
        refine r_ret rfl ⟨_, rfl, Or.inl rfl⟩ ?_
        exact ⟨rfl, rfl⟩
      · replace h_3 : 2 = 0 := Decidable.of_not_not h_3
        omega
    · cases h_2
  · cases h_1
set_option maxHeartbeats 1000000 in
theorem l_want {q : Nat} {qa : Nat → Nat} {d c n a v f : Nat} {b : Bool} {r : rA} {Q : rS → (Option zV ⊕ Nat) → Prop} {p : Nat} {x2 : Int32} (hp : p < 8) (hQ : Q (c, n, a, b, v, f, crN r 893 (41 + 4 * p) 4) (.inl none)) : ∀ k, k ≤ 4 → rEv q qa (d + 7) tb_129 Q 63 [some (zR (some q)), some (zI (nI p)), some (zI (x2)), some (zI (nI k))] [] (c, n, a, b, v, f, crN r 893 (41 + 4 * p) k) := by
  refine dn 4 (fun k hk ih => ?_)
  refine r_ild rfl rfl ?_
  refine r_ico (x := (nI 4)) rfl rfl ?_
  refine r_cmpN (by omega) (by omega) rfl (fun h_1 => ?_) (fun h_1 => ?_)
  · replace h_1 : 4 ≤ k := h_1
    refine r_rtv rfl ?_
    have h3 : k = 4 := by omega
    rw [h3]
    exact hQ
  · replace h_1 := Nat.not_le.mp h_1
    refine r_ald rfl rfl ?_
    refine r_ico (x := (nI 893)) rfl rfl ?_
    refine r_ild rfl rfl ?_
    refine r_ibi (v := (nI (893 + k))) rfl (nI_add _ _) ?_
    refine r_ico (x := (nI 41)) rfl rfl ?_
    refine r_ico (x := (nI 4)) rfl rfl ?_
    refine r_ild rfl rfl ?_
    refine r_ibi (v := (nI (4 * p))) rfl (pk_mul _ _) ?_
    refine r_ibi (v := (nI (41 + (4 * p)))) rfl (nI_add _ _) ?_
    refine r_ild rfl rfl ?_
    refine r_ibi (v := (nI (41 + (4 * p) + k))) rfl (nI_add _ _) ?_
    refine r_call (as := [zR (some q), zI (nI (893 + k)), zI (nI (41 + (4 * p) + k))]) (r := []) (s' := (c, n, a, b, v, f, crF (crN r 893 (41 + 4 * p) k) (893 + k) (41 + (4 * p) + k))) (v := none) rfl rfl rfl (Nat.le_of_ble_eq_true rfl) (Or.inr ⟨rfl, rfl, _, rfl⟩) (c_copyRow (by omega) (by omega) (by omega)) ?_
    refine r_inc (x' := (nI (k + 1))) (ls' := [some (zR (some q)), some (zI (nI p)), some (zI (x2)), some (zI (nI (k + 1)))]) rfl rfl (nI_1 _) rfl ?_
    refine r_go rfl ?_
    exact ih (by omega)
set_option maxHeartbeats 1000000 in
theorem c_want0 {q : Nat} {qa : Nat → Nat} {d c n a v f : Nat} {b : Bool} {r : rA} {p : Nat} (hn : n ≤ 160) (hp : p < 8) (hr : (!(rqR 213 n 0 r).2.1 && decide ((rqR 213 n 0 r).1 = n)) = true) : rFun q qa (d + 8) 129 [zR (some q), zI (nI p)] (c, n, a, b, v, f, r) (0, 0, (rqR 213 n 0 r).1, (rqR 213 n 0 r).2.1, v, f, wtF (rqR 213 n 0 r).2.2 p) none := by
  refine rFun.of (d := d + 7) (T := tb_129) (L := [some (zR (some q)), some (zI (nI p)), none, none]) (Nat.le_of_ble_eq_true rfl) rfl rfl ?_
  refine r_ald rfl rfl ?_
  refine r_call (as := [zR (some q)]) (r := []) (s' := (c, 0, (rqR 213 n 0 r).1, (rqR 213 n 0 r).2.1, v, f, (rqR 213 n 0 r).2.2)) (v := some (zI (bI (true)))) rfl rfl rfl (Nat.le_of_ble_eq_true rfl) (Or.inr ⟨rfl, rfl, _, rfl⟩) (c_asksZ hn hr) ?_
  refine r_ist (ls' := [some (zR (some q)), some (zI (nI p)), some (zI (bI (true))), none]) rfl (Nat.le_of_ble_eq_true rfl) rfl ?_
  refine r_ald rfl rfl ?_
  refine r_ild rfl rfl ?_
  refine r_ico (x := (nI 0)) rfl rfl ?_
  refine r_ico (x := (nI 7)) rfl rfl ?_
  refine r_call (as := [zI (nI p), zI (nI 0), zI (nI 7)]) (r := [zR (some q)]) (s' := (c, 0, (rqR 213 n 0 r).1, (rqR 213 n 0 r).2.1, v, f, (rqR 213 n 0 r).2.2)) (v := some (zI (bI (true)))) rfl rfl rfl (Nat.le_of_ble_eq_true rfl) (Or.inl rfl) (c_inZ (isIn_n (by omega) (by decide))) ?_
  refine r_ifB1 rfl (fun h_1 => ?_) (fun h_1 => ?_)
  · refine r_ild rfl rfl ?_
    refine r_ifB0 rfl (fun h_2 => ?_) (fun h_2 => ?_)
    · cases h_2
    · refine r_ico (x := (nI 0)) rfl rfl ?_
      refine r_go rfl ?_
      refine r_put (s' := (0, 0, (rqR 213 n 0 r).1, (rqR 213 n 0 r).2.1, v, f, (rqR 213 n 0 r).2.2)) rfl (Nat.le_of_ble_eq_true rfl) ⟨_, rfl⟩ rfl rfl ?_
      refine r_ald rfl rfl ?_
      refine r_get rfl rfl ?_
      refine r_ifN (by omega) rfl (fun h_3 => ?_) (fun h_3 => ?_)
      · replace h_3 : 0 ≤ 0 := h_3
        refine r_ald rfl rfl ?_
        refine r_get rfl rfl ?_
        refine r_ild rfl rfl ?_
        refine r_ico (x := (nI 1)) rfl rfl ?_
        refine r_iastN (k0 := 20) (x' := (bI (true))) rfl rfl (by omega) (by decide) (by decide +kernel) ?_
        refine r_ald rfl rfl ?_
        refine r_get rfl rfl ?_
        refine r_ild rfl rfl ?_
        refine r_ald rfl rfl ?_
        refine r_get rfl rfl ?_
        refine r_ico (x := (nI 213)) rfl rfl ?_
        refine r_ialdN (k0 := 12) rfl rfl (by omega) (by decide) ?_
        refine r_iastN (k0 := 12) (x' := ((rset ((rqR 213 n 0 r).2.2) 20 p (bI (true))) 12 213)) rfl rfl (by omega) (by decide) rfl ?_
        refine r_ico (x := (nI 0)) rfl rfl ?_
        refine r_ist (ls' := [some (zR (some q)), some (zI (nI p)), some (zI (bI (true))), some (zI (nI 0))]) rfl (Nat.le_of_ble_eq_true rfl) rfl ?_
        exact l_want (x2 := bI true) hp ⟨rfl, rfl⟩ 0 (by omega)
      · replace h_3 := Nat.not_le.mp h_3
        omega
  · cases h_1
set_option maxHeartbeats 1000000 in
theorem c_meets0 {q : Nat} {qa : Nat → Nat} {d c n a v f : Nat} {b : Bool} {r : rA} {i : Nat} (hn : n ≤ 160) (hv : v ≤ 40) (hi : i < v) (hI : rowOK (rqR 213 n 0 r).2.2 i) (hC : (rqR 213 n 0 r).2.2 12 213 = nI (cnt (rqR 213 n 0 r).2.2 213)) (hc5 : cnt (rqR 213 n 0 r).2.2 213 ≤ 5) (hR : ∀ m, m < cnt (rqR 213 n 0 r).2.2 213 → rowOK (rqR 213 n 0 r).2.2 (41 + 4 * 213 + m)) (hr : (!(rqR 213 n 0 r).2.1 && decide ((rqR 213 n 0 r).1 = n)) = true) : rFun q qa (d + 8) 144 [zR (some q), zI (nI i)] (c, n, a, b, v, f, r) (0, 0, (rqR 213 n 0 r).1, (rqR 213 n 0 r).2.1, v, f, (rqR 213 n 0 r).2.2) (some (zI (bI (maF (rqR 213 n 0 r).2.2 213 i)))) := by
  refine rFun.of (d := d + 7) (T := tb_144) (L := [some (zR (some q)), some (zI (nI i)), none]) (Nat.le_of_ble_eq_true rfl) rfl rfl ?_
  refine r_ald rfl rfl ?_
  refine r_call (as := [zR (some q)]) (r := []) (s' := (c, 0, (rqR 213 n 0 r).1, (rqR 213 n 0 r).2.1, v, f, (rqR 213 n 0 r).2.2)) (v := some (zI (bI (true)))) rfl rfl rfl (Nat.le_of_ble_eq_true rfl) (Or.inr ⟨rfl, rfl, _, rfl⟩) (c_asksZ hn hr) ?_
  refine r_ist (ls' := [some (zR (some q)), some (zI (nI i)), some (zI (bI (true)))]) rfl (Nat.le_of_ble_eq_true rfl) rfl ?_
  refine r_ald rfl rfl ?_
  refine r_ald rfl rfl ?_
  refine r_ild rfl rfl ?_
  refine r_call (as := [zR (some q), zI (nI i)]) (r := [zR (some q)]) (s' := (c, 0, (rqR 213 n 0 r).1, (rqR 213 n 0 r).2.1, v, f, (rqR 213 n 0 r).2.2)) (v := some (zI (bI (true)))) rfl rfl rfl (Nat.le_of_ble_eq_true rfl) (Or.inr ⟨rfl, rfl, _, rfl⟩) (c_isVersionZ (isIn_v hi (by omega))) ?_
  refine r_ifB1 rfl (fun h_1 => ?_) (fun h_1 => ?_)
  · refine r_ild rfl rfl ?_
    refine r_ifB0 rfl (fun h_2 => ?_) (fun h_2 => ?_)
    · cases h_2
    · refine r_ico (x := (nI 0)) rfl rfl ?_
      refine r_go rfl ?_
      refine r_put (s' := (0, 0, (rqR 213 n 0 r).1, (rqR 213 n 0 r).2.1, v, f, (rqR 213 n 0 r).2.2)) rfl (Nat.le_of_ble_eq_true rfl) ⟨_, rfl⟩ rfl rfl ?_
      refine r_ald rfl rfl ?_
      refine r_get rfl rfl ?_
      refine r_ifN (by omega) rfl (fun h_3 => ?_) (fun h_3 => ?_)
      · replace h_3 : ¬ 0 = 0 := h_3
        omega
      · replace h_3 : 0 = 0 := Decidable.of_not_not h_3
        refine r_ald rfl rfl ?_
        refine r_ico (x := (nI 213)) rfl rfl ?_
        refine r_ild rfl rfl ?_
        refine r_call (as := [zR (some q), zI (nI 213), zI (nI i)]) (r := []) (s' := (0, 0, (rqR 213 n 0 r).1, (rqR 213 n 0 r).2.1, v, f, (rqR 213 n 0 r).2.2)) (v := some (zI (bI (maF ((rqR 213 n 0 r).2.2) 213 i)))) rfl rfl rfl (Nat.le_of_ble_eq_true rfl) (Or.inr ⟨rfl, rfl, _, rfl⟩) (c_meetsAll (by omega) (by omega) hI hC hc5 hR) ?_
        refine r_ifB0 rfl (fun h_4 => ?_) (fun h_4 => ?_)
        · refine r_ico (x := (nI 0)) rfl rfl ?_
          refine r_ret rfl ⟨_, rfl, Or.inl rfl⟩ ?_
          rw [h_4]
          exact ⟨rfl, rfl⟩
        · refine r_ico (x := (nI 1)) rfl rfl ?_
          refine r_go rfl ?_
          refine r_ret rfl ⟨_, rfl, Or.inr rfl⟩ ?_
          rw [h_4]
          exact ⟨rfl, rfl⟩
  · cases h_1
set_option maxHeartbeats 1000000 in
theorem l_best {q : Nat} {qa : Nat → Nat} {d c n a v f : Nat} {b : Bool} {r : rA} {Q : rS → (Option zV ⊕ Nat) → Prop} {pk : Int32} {x2 : Int32} (hv : v ≤ 40) (hV : ∀ k, k < v → rowOK r k) (hC : r 12 213 = nI (cnt r 213)) (hc5 : cnt r 213 ≤ 5) (hR : ∀ m, m < cnt r 213 → rowOK r (41 + 4 * 213 + m)) (hQ : Q (0, n, a, b, v, f, r) (.inl (some (zI (bsF r pk v))))) : ∀ k, k ≤ v → ∀ (x5 : Option zV), rEv q qa (d + 7) tb_145 Q 37 [some (zR (some q)), some (zI (pk)), some (zI (x2)), some (zI (bsF r pk k)), some (zI (nI k)), x5] [] (0, n, a, b, v, f, r) := by
  refine dn v (fun k hk ih x5 => ?_)
  refine r_ild rfl rfl ?_
  refine r_ald rfl rfl ?_
  refine r_get rfl rfl ?_
  refine r_cmpN (by omega) (by omega) rfl (fun h_1 => ?_) (fun h_1 => ?_)
  · replace h_1 : v ≤ k := h_1
    refine r_ald rfl rfl ?_
    refine r_get rfl rfl ?_
    refine r_ifN (by omega) rfl (fun h_2 => ?_) (fun h_2 => ?_)
    · replace h_2 : 0 ≤ 0 := h_2
      refine r_ild rfl rfl ?_
      refine r_ret rfl ⟨_, rfl⟩ ?_
      have h3 : k = v := by omega
      subst h3
      exact hQ
    · replace h_2 := Nat.not_le.mp h_2
      omega
  · replace h_1 := Nat.not_le.mp h_1
    refine r_ald rfl rfl ?_
    refine r_get rfl rfl ?_
    refine r_ifN (by omega) rfl (fun h_3 => ?_) (fun h_3 => ?_)
    · replace h_3 : ¬ 0 = 0 := h_3
      omega
    · replace h_3 : 0 = 0 := Decidable.of_not_not h_3
      refine r_ald rfl rfl ?_
      refine r_get rfl rfl ?_
      refine r_ild rfl rfl ?_
      refine r_ialdN (k0 := 16) rfl rfl (by omega) (by decide) ?_
      refine r_ild rfl rfl ?_
      refine r_cmp rfl (fun h_4 => ?_) (fun h_4 => ?_)
      · replace h_4 : ¬ (r 16 k) = (pk) := h_4
        refine r_ico (x := (nI 0)) rfl rfl ?_
        refine r_ist (ls' := [some (zR (some q)), some (zI (pk)), some (zI (x2)), some (zI (bsF r pk k)), some (zI (nI k)), some (zI (nI 0))]) rfl (Nat.le_of_ble_eq_true rfl) rfl ?_
        refine r_ild rfl rfl ?_
        refine r_ifN (by omega) rfl (fun h_5 => ?_) (fun h_5 => ?_)
        · replace h_5 : 0 = 0 := h_5
          refine r_ild rfl rfl ?_
          refine r_ist (ls' := [some (zR (some q)), some (zI (pk)), some (zI (x2)), some (zI (bsF r pk k)), some (zI (nI k)), some (zI (nI 0))]) rfl (Nat.le_of_ble_eq_true rfl) rfl ?_
          refine r_inc (x' := (nI (k + 1))) (ls' := [some (zR (some q)), some (zI (pk)), some (zI (x2)), some (zI (bsF r pk k)), some (zI (nI (k + 1))), some (zI (nI 0))]) rfl rfl (nI_1 _) rfl ?_
          refine r_go rfl ?_
          have h9 : bsF r pk (k + 1) = (bsF r pk k) := by rw [bsF, if_neg h_4]
          rw [h9] at ih
          exact ih (by omega) _
        · replace h_5 : ¬ (0 = 0) := h_5
          omega
      · replace h_4 : (r 16 k) = (pk) := Decidable.of_not_not h_4
        refine r_ald rfl rfl ?_
        refine r_get rfl rfl ?_
        refine r_ild rfl rfl ?_
        refine r_ialdN (k0 := 17) rfl rfl (by omega) (by decide) ?_
        refine r_if rfl (fun h_6 => ?_) (fun h_6 => ?_)
        · replace h_6 : ¬ (r 17 k) = 0 := h_6
          refine r_ico (x := (nI 0)) rfl rfl ?_
          refine r_ist (ls' := [some (zR (some q)), some (zI (pk)), some (zI (x2)), some (zI (bsF r pk k)), some (zI (nI k)), some (zI (nI 0))]) rfl (Nat.le_of_ble_eq_true rfl) rfl ?_
          refine r_ild rfl rfl ?_
          refine r_ifN (by omega) rfl (fun h_7 => ?_) (fun h_7 => ?_)
          · replace h_7 : 0 = 0 := h_7
            refine r_ild rfl rfl ?_
            refine r_ist (ls' := [some (zR (some q)), some (zI (pk)), some (zI (x2)), some (zI (bsF r pk k)), some (zI (nI k)), some (zI (nI 0))]) rfl (Nat.le_of_ble_eq_true rfl) rfl ?_
            refine r_inc (x' := (nI (k + 1))) (ls' := [some (zR (some q)), some (zI (pk)), some (zI (x2)), some (zI (bsF r pk k)), some (zI (nI (k + 1))), some (zI (nI 0))]) rfl rfl (nI_1 _) rfl ?_
            refine r_go rfl ?_
            have h9 : bsF r pk (k + 1) = (bsF r pk k) := by rw [bsF, if_pos h_4, if_neg h_6]
            rw [h9] at ih
            exact ih (by omega) _
          · replace h_7 : ¬ (0 = 0) := h_7
            omega
        · replace h_6 : (r 17 k) = 0 := Decidable.of_not_not h_6
          refine r_ald rfl rfl ?_
          refine r_ico (x := (nI 213)) rfl rfl ?_
          refine r_ild rfl rfl ?_
          refine r_call (as := [zR (some q), zI (nI 213), zI (nI k)]) (r := []) (s' := (0, n, a, b, v, f, r)) (v := some (zI (bI (maF r 213 k)))) rfl rfl rfl (Nat.le_of_ble_eq_true rfl) (Or.inr ⟨rfl, rfl, _, rfl⟩) (c_meetsAll (by omega) (by omega) (hV k (by omega)) hC hc5 hR) ?_
          refine r_ifB0 rfl (fun h_8 => ?_) (fun h_8 => ?_)
          · refine r_ico (x := (nI 0)) rfl rfl ?_
            refine r_ist (ls' := [some (zR (some q)), some (zI (pk)), some (zI (x2)), some (zI (bsF r pk k)), some (zI (nI k)), some (zI (nI 0))]) rfl (Nat.le_of_ble_eq_true rfl) rfl ?_
            refine r_ild rfl rfl ?_
            refine r_ifN (by omega) rfl (fun h_9 => ?_) (fun h_9 => ?_)
            · replace h_9 : 0 = 0 := h_9
              refine r_ild rfl rfl ?_
              refine r_ist (ls' := [some (zR (some q)), some (zI (pk)), some (zI (x2)), some (zI (bsF r pk k)), some (zI (nI k)), some (zI (nI 0))]) rfl (Nat.le_of_ble_eq_true rfl) rfl ?_
              refine r_inc (x' := (nI (k + 1))) (ls' := [some (zR (some q)), some (zI (pk)), some (zI (x2)), some (zI (bsF r pk k)), some (zI (nI (k + 1))), some (zI (nI 0))]) rfl rfl (nI_1 _) rfl ?_
              refine r_go rfl ?_
              have h9 : bsF r pk (k + 1) = (bsF r pk k) := by rw [bsF, if_pos h_4, if_pos h_6, if_neg (by rw [h_8]; decide)]
              rw [h9] at ih
              exact ih (by omega) _
            · replace h_9 : ¬ (0 = 0) := h_9
              omega
          · refine r_ico (x := (nI 1)) rfl rfl ?_
            refine r_go rfl ?_
            refine r_ist (ls' := [some (zR (some q)), some (zI (pk)), some (zI (x2)), some (zI (bsF r pk k)), some (zI (nI k)), some (zI (nI 1))]) rfl (Nat.le_of_ble_eq_true rfl) rfl ?_
            refine r_ild rfl rfl ?_
            refine r_ifN (by omega) rfl (fun h_10 => ?_) (fun h_10 => ?_)
            · replace h_10 : 1 = 0 := h_10
              omega
            · replace h_10 : ¬ (1 = 0) := h_10
              refine r_ild rfl rfl ?_
              refine r_ico (x := (-1)) rfl rfl ?_
              refine r_cmp rfl (fun h_11 => ?_) (fun h_11 => ?_)
              · replace h_11 : (bsF r pk k) = (-1) := h_11
                refine r_ild rfl rfl ?_
                refine r_go rfl ?_
                refine r_ist (ls' := [some (zR (some q)), some (zI (pk)), some (zI (x2)), some (zI (nI k)), some (zI (nI k)), some (zI (nI 1))]) rfl (Nat.le_of_ble_eq_true rfl) rfl ?_
                refine r_inc (x' := (nI (k + 1))) (ls' := [some (zR (some q)), some (zI (pk)), some (zI (x2)), some (zI (nI k)), some (zI (nI (k + 1))), some (zI (nI 1))]) rfl rfl (nI_1 _) rfl ?_
                refine r_go rfl ?_
                have h9 : bsF r pk (k + 1) = (nI k) := by rw [bsF, if_pos h_4, if_pos h_6, if_pos h_8, if_pos h_11]
                rw [h9] at ih
                exact ih (by omega) _
              · replace h_11 : ¬ ((bsF r pk k) = (-1)) := h_11
                refine r_ald rfl rfl ?_
                refine r_ild rfl rfl ?_
                refine r_ild rfl rfl ?_
                obtain ⟨j, hj, e⟩ := (bsF_ex r pk k).resolve_left h_11
                refine r_top (y := nI j) e ?_
                refine r_call (as := [zR (some q), zI (nI k), zI (nI j)]) (r := []) (s' := (0, n, a, b, v, f, r)) (v := some (zI (ordF r k (wsz r k) j (wsz r j)))) rfl rfl rfl (Nat.le_of_ble_eq_true rfl) (Or.inr ⟨rfl, rfl, _, rfl⟩) (c_order (by omega) (by omega) (hV k (by omega)).1.2 (hV j (by omega)).1.2 (hV k (by omega)).1.1 (hV j (by omega)).1.1) ?_
                refine r_if rfl (fun h_12 => ?_) (fun h_12 => ?_)
                · replace h_12 : (ordF r k (wsz r k) j (wsz r j)) ≤ 0 := h_12
                  refine r_ild rfl rfl ?_
                  refine r_ist (ls' := [some (zR (some q)), some (zI (pk)), some (zI (x2)), some (zI (bsF r pk k)), some (zI (nI k)), some (zI (nI 1))]) rfl (Nat.le_of_ble_eq_true rfl) rfl ?_
                  refine r_inc (x' := (nI (k + 1))) (ls' := [some (zR (some q)), some (zI (pk)), some (zI (x2)), some (zI (bsF r pk k)), some (zI (nI (k + 1))), some (zI (nI 1))]) rfl rfl (nI_1 _) rfl ?_
                  refine r_go rfl ?_
                  have h9 : bsF r pk (k + 1) = (bsF r pk k) := by rw [bsF, if_pos h_4, if_pos h_6, if_pos h_8, if_neg h_11, show (bsF r pk k).toNatClampNeg = j by rw [e]; exact nI_clamp (by omega), if_pos h_12]
                  rw [h9] at ih
                  exact ih (by omega) _
                · replace h_12 : ¬ ((ordF r k (wsz r k) j (wsz r j)) ≤ 0) := h_12
                  refine r_ild rfl rfl ?_
                  refine r_go rfl ?_
                  refine r_ist (ls' := [some (zR (some q)), some (zI (pk)), some (zI (x2)), some (zI (nI k)), some (zI (nI k)), some (zI (nI 1))]) rfl (Nat.le_of_ble_eq_true rfl) rfl ?_
                  refine r_inc (x' := (nI (k + 1))) (ls' := [some (zR (some q)), some (zI (pk)), some (zI (x2)), some (zI (nI k)), some (zI (nI (k + 1))), some (zI (nI 1))]) rfl rfl (nI_1 _) rfl ?_
                  refine r_go rfl ?_
                  have h9 : bsF r pk (k + 1) = (nI k) := by rw [bsF, if_pos h_4, if_pos h_6, if_pos h_8, if_neg h_11, show (bsF r pk k).toNatClampNeg = j by rw [e]; exact nI_clamp (by omega), if_neg h_12]
                  rw [h9] at ih
                  exact ih (by omega) _
set_option maxHeartbeats 1000000 in
theorem c_best0 {q : Nat} {qa : Nat → Nat} {d c n a v f : Nat} {b : Bool} {r : rA} {p : Nat} (hn : n ≤ 160) (hv : v ≤ 40) (hp : p < 8) (hV : ∀ k, k < v → rowOK (rqR 213 n 0 r).2.2 k) (hC : (rqR 213 n 0 r).2.2 12 213 = nI (cnt (rqR 213 n 0 r).2.2 213)) (hc5 : cnt (rqR 213 n 0 r).2.2 213 ≤ 5) (hR : ∀ m, m < cnt (rqR 213 n 0 r).2.2 213 → rowOK (rqR 213 n 0 r).2.2 (41 + 4 * 213 + m)) (hr : (!(rqR 213 n 0 r).2.1 && decide ((rqR 213 n 0 r).1 = n)) = true) : rFun q qa (d + 8) 145 [zR (some q), zI (nI p)] (c, n, a, b, v, f, r) (0, 0, (rqR 213 n 0 r).1, (rqR 213 n 0 r).2.1, v, f, (rqR 213 n 0 r).2.2) (some (zI (bsF (rqR 213 n 0 r).2.2 (nI p) v))) := by
  refine rFun.of (d := d + 7) (T := tb_145) (L := [some (zR (some q)), some (zI (nI p)), none, none, none, none]) (Nat.le_of_ble_eq_true rfl) rfl rfl ?_
  refine r_ald rfl rfl ?_
  refine r_call (as := [zR (some q)]) (r := []) (s' := (c, 0, (rqR 213 n 0 r).1, (rqR 213 n 0 r).2.1, v, f, (rqR 213 n 0 r).2.2)) (v := some (zI (bI (true)))) rfl rfl rfl (Nat.le_of_ble_eq_true rfl) (Or.inr ⟨rfl, rfl, _, rfl⟩) (c_asksZ hn hr) ?_
  refine r_ist (ls' := [some (zR (some q)), some (zI (nI p)), some (zI (bI (true))), none, none, none]) rfl (Nat.le_of_ble_eq_true rfl) rfl ?_
  refine r_ald rfl rfl ?_
  refine r_ild rfl rfl ?_
  refine r_ico (x := (nI 0)) rfl rfl ?_
  refine r_ico (x := (nI 7)) rfl rfl ?_
  refine r_call (as := [zI (nI p), zI (nI 0), zI (nI 7)]) (r := [zR (some q)]) (s' := (c, 0, (rqR 213 n 0 r).1, (rqR 213 n 0 r).2.1, v, f, (rqR 213 n 0 r).2.2)) (v := some (zI (bI (true)))) rfl rfl rfl (Nat.le_of_ble_eq_true rfl) (Or.inl rfl) (c_inZ (isIn_n (by omega) (by decide))) ?_
  refine r_ifB1 rfl (fun h_1 => ?_) (fun h_1 => ?_)
  · refine r_ild rfl rfl ?_
    refine r_ifB0 rfl (fun h_2 => ?_) (fun h_2 => ?_)
    · cases h_2
    · refine r_ico (x := (nI 0)) rfl rfl ?_
      refine r_go rfl ?_
      refine r_put (s' := (0, 0, (rqR 213 n 0 r).1, (rqR 213 n 0 r).2.1, v, f, (rqR 213 n 0 r).2.2)) rfl (Nat.le_of_ble_eq_true rfl) ⟨_, rfl⟩ rfl rfl ?_
      refine r_ico (x := (-1)) rfl rfl ?_
      refine r_ist (ls' := [some (zR (some q)), some (zI (nI p)), some (zI (bI (true))), some (zI (-1)), none, none]) rfl (Nat.le_of_ble_eq_true rfl) rfl ?_
      refine r_ico (x := (nI 0)) rfl rfl ?_
      refine r_ist (ls' := [some (zR (some q)), some (zI (nI p)), some (zI (bI (true))), some (zI (-1)), some (zI (nI 0)), none]) rfl (Nat.le_of_ble_eq_true rfl) rfl ?_
      exact l_best (x2 := bI true) (c := c) hv hV hC hc5 hR ⟨rfl, rfl⟩ 0 (by omega) none
  · cases h_1
end
section
theorem pb2_n {R : rA} {v : Nat} {pk : Int32} {j : Nat} (h : j = 5 ∨ j = 6 ∨ j = 7 ∨ j = 8 ∨ j = 9 ∨ j = 10 ∨ j = 11 ∨ j = 12 ∨ j = 13) : pb2 R v pk j = crF R 40 v j := by
  show rset (rset (rset (rput (rset (crF R 40 v) 18 v _) 19 _ _ _) 16 _ _) 17 _ _) 14 _ _ j = _
  rw [rset_n _ _ _ (by omega), rset_n _ _ _ (by omega), rset_n _ _ _ (by omega), rput_n (by omega), rset_n _ _ _ (by omega)]
theorem pb2_14 {R : rA} {v : Nat} {pk : Int32} : pb2 R v pk 14 v = R 14 40 := by
  show rset (rset (rset (rput (rset (crF R 40 v) 18 v _) 19 _ _ _) 16 _ _) 17 _ _) 14 v _ 14 v = _
  rw [rset_s]
  show upd _ v _ v = _
  unfold upd
  rw [if_pos rfl]
  show rset (rset (rput (rset (crF R 40 v) 18 v _) 19 _ _ _) 16 _ _) 17 _ _ 14 40 = _
  rw [rset_n _ _ _ (by decide), rset_n _ _ _ (by decide), rput_n (by decide), rset_n _ _ _ (by decide), crF_n (by omega)]
theorem rput_a {r : rA} {k0 o k x : Nat} {g : Nat → Int32} (h : ¬ (o ≤ x ∧ x < o + k)) : rput r k0 o g k k0 x = r k0 x := by
  unfold rput
  rw [if_pos rfl]
  exact if_neg h
set_option maxHeartbeats 1000000 in
theorem c_publishX {q : Nat} {qa : Nat → Nat} {d c n a v f : Nat} {b : Bool} {r : rA} {x : Int32} (hn : n ≤ 160) (ha : (pubF n r).1 < 100000) (hx : isIn x (nI 0) (nI 7) = false) : rFun q qa (d + 8) 125 [zR (some q), zI (x)] (c, n, a, b, v, f, r) (1, 0, (pubF n r).1, (pubF n r).2.1, v, f, (pubF n r).2.2) (some (zI (nI 0))) := by
  refine rFun.of (d := d + 7) (T := tb_125) (L := [some (zR (some q)), some (zI (x)), none, none, none, none]) (Nat.le_of_ble_eq_true rfl) rfl rfl ?_
  refine r_ald rfl rfl ?_
  refine r_call (as := [zR (some q)]) (r := []) (s' := (c, n, (pubF n r).1, (pubF n r).2.1, v, f, (pubF n r).2.2)) (v := none) rfl rfl rfl (Nat.le_of_ble_eq_true rfl) (Or.inr ⟨rfl, rfl, _, rfl⟩) (c_publication hn) ?_
  refine r_ald rfl rfl ?_
  refine r_call (as := [zR (some q)]) (r := []) (s' := (c, 0, (pubF n r).1, (pubF n r).2.1, v, f, (pubF n r).2.2)) (v := some (zI (bI (!(pubF n r).2.1 && decide ((pubF n r).1 = n))))) rfl rfl rfl (Nat.le_of_ble_eq_true rfl) (Or.inr ⟨rfl, rfl, _, rfl⟩) (c_isRightZ hn ha rfl) ?_
  refine r_ist (ls' := [some (zR (some q)), some (zI (x)), some (zI (bI (!(pubF n r).2.1 && decide ((pubF n r).1 = n)))), none, none, none]) rfl (Nat.le_of_ble_eq_true rfl) rfl ?_
  refine r_ald rfl rfl ?_
  refine r_ild rfl rfl ?_
  refine r_ico (x := (nI 0)) rfl rfl ?_
  refine r_ico (x := (nI 7)) rfl rfl ?_
  refine r_call (as := [zI (x), zI (nI 0), zI (nI 7)]) (r := [zR (some q)]) (s' := (c, 0, (pubF n r).1, (pubF n r).2.1, v, f, (pubF n r).2.2)) (v := some (zI (bI (false)))) rfl rfl rfl (Nat.le_of_ble_eq_true rfl) (Or.inl rfl) (c_inZ hx) ?_
  refine r_ifB1 rfl (fun h_1 => ?_) (fun h_1 => ?_)
  · cases h_1
  · refine r_ico (x := (nI 1)) rfl rfl ?_
    refine r_go rfl ?_
    refine r_put (s' := (1, 0, (pubF n r).1, (pubF n r).2.1, v, f, (pubF n r).2.2)) rfl (Nat.le_of_ble_eq_true rfl) ⟨_, rfl⟩ rfl rfl ?_
    refine r_ald rfl rfl ?_
    refine r_get rfl rfl ?_
    refine r_ifN (by omega) rfl (fun h_2 => ?_) (fun h_2 => ?_)
    · replace h_2 : 1 ≤ 0 := h_2
      omega
    · replace h_2 := Nat.not_le.mp h_2
      refine r_ico (x := (nI 0)) rfl rfl ?_
      refine r_ret rfl ⟨_, rfl⟩ ?_
      exact ⟨rfl, rfl⟩
set_option maxHeartbeats 1000000 in
theorem c_publish2 {q : Nat} {qa : Nat → Nat} {d c n a v f : Nat} {b : Bool} {r : rA} {p : Nat} (hn : n ≤ 160) (ha : (pubF n r).1 < 100000) (hp : p < 8) (hr : (!(pubF n r).2.1 && decide ((pubF n r).1 = n)) = false) : rFun q qa (d + 8) 125 [zR (some q), zI (nI p)] (c, n, a, b, v, f, r) (2, 0, (pubF n r).1, (pubF n r).2.1, v, f, (pubF n r).2.2) (some (zI (nI 0))) := by
  refine rFun.of (d := d + 7) (T := tb_125) (L := [some (zR (some q)), some (zI (nI p)), none, none, none, none]) (Nat.le_of_ble_eq_true rfl) rfl rfl ?_
  refine r_ald rfl rfl ?_
  refine r_call (as := [zR (some q)]) (r := []) (s' := (c, n, (pubF n r).1, (pubF n r).2.1, v, f, (pubF n r).2.2)) (v := none) rfl rfl rfl (Nat.le_of_ble_eq_true rfl) (Or.inr ⟨rfl, rfl, _, rfl⟩) (c_publication hn) ?_
  refine r_ald rfl rfl ?_
  refine r_call (as := [zR (some q)]) (r := []) (s' := (c, 0, (pubF n r).1, (pubF n r).2.1, v, f, (pubF n r).2.2)) (v := some (zI (bI (false)))) rfl rfl rfl (Nat.le_of_ble_eq_true rfl) (Or.inr ⟨rfl, rfl, _, rfl⟩) (c_isRightZ hn ha hr) ?_
  refine r_ist (ls' := [some (zR (some q)), some (zI (nI p)), some (zI (bI (false))), none, none, none]) rfl (Nat.le_of_ble_eq_true rfl) rfl ?_
  refine r_ald rfl rfl ?_
  refine r_ild rfl rfl ?_
  refine r_ico (x := (nI 0)) rfl rfl ?_
  refine r_ico (x := (nI 7)) rfl rfl ?_
  refine r_call (as := [zI (nI p), zI (nI 0), zI (nI 7)]) (r := [zR (some q)]) (s' := (c, 0, (pubF n r).1, (pubF n r).2.1, v, f, (pubF n r).2.2)) (v := some (zI (bI (true)))) rfl rfl rfl (Nat.le_of_ble_eq_true rfl) (Or.inl rfl) (c_inZ (isIn_n (by omega) (by decide))) ?_
  refine r_ifB1 rfl (fun h_1 => ?_) (fun h_1 => ?_)
  · refine r_ild rfl rfl ?_
    refine r_ifB1 rfl (fun h_2 => ?_) (fun h_2 => ?_)
    · cases h_2
    · refine r_ico (x := (nI 2)) rfl rfl ?_
      refine r_go rfl ?_
      refine r_put (s' := (2, 0, (pubF n r).1, (pubF n r).2.1, v, f, (pubF n r).2.2)) rfl (Nat.le_of_ble_eq_true rfl) ⟨_, rfl⟩ rfl rfl ?_
      refine r_ald rfl rfl ?_
      refine r_get rfl rfl ?_
      refine r_ifN (by omega) rfl (fun h_3 => ?_) (fun h_3 => ?_)
      · replace h_3 : 2 ≤ 0 := h_3
        omega
      · replace h_3 := Nat.not_le.mp h_3
        refine r_ico (x := (nI 0)) rfl rfl ?_
        refine r_ret rfl ⟨_, rfl⟩ ?_
        exact ⟨rfl, rfl⟩
  · cases h_1
set_option maxHeartbeats 1000000 in
theorem c_publish3 {q : Nat} {qa : Nat → Nat} {d c n a v f : Nat} {b : Bool} {r : rA} {p : Nat} (hn : n ≤ 160) (ha : (pubF n r).1 < 100000) (hp : p < 8) (hr : (!(pubF n r).2.1 && decide ((pubF n r).1 = n)) = true)(hv : v ≤ 40) (h40 : rowOK (pubF n r).2.2 40) (hR : ∀ k, k < v → rowOK (pubF n r).2.2 k) (hs : hsF (pubF n r).2.2 (nI p) v = true) : rFun q qa (d + 8) 125 [zR (some q), zI (nI p)] (c, n, a, b, v, f, r) (3, 0, (pubF n r).1, (pubF n r).2.1, v, f, (pubF n r).2.2) (some (zI (nI 0))) := by
  refine rFun.of (d := d + 7) (T := tb_125) (L := [some (zR (some q)), some (zI (nI p)), none, none, none, none]) (Nat.le_of_ble_eq_true rfl) rfl rfl ?_
  refine r_ald rfl rfl ?_
  refine r_call (as := [zR (some q)]) (r := []) (s' := (c, n, (pubF n r).1, (pubF n r).2.1, v, f, (pubF n r).2.2)) (v := none) rfl rfl rfl (Nat.le_of_ble_eq_true rfl) (Or.inr ⟨rfl, rfl, _, rfl⟩) (c_publication hn) ?_
  refine r_ald rfl rfl ?_
  refine r_call (as := [zR (some q)]) (r := []) (s' := (c, 0, (pubF n r).1, (pubF n r).2.1, v, f, (pubF n r).2.2)) (v := some (zI (bI (true)))) rfl rfl rfl (Nat.le_of_ble_eq_true rfl) (Or.inr ⟨rfl, rfl, _, rfl⟩) (c_isRightZ hn ha hr) ?_
  refine r_ist (ls' := [some (zR (some q)), some (zI (nI p)), some (zI (bI (true))), none, none, none]) rfl (Nat.le_of_ble_eq_true rfl) rfl ?_
  refine r_ald rfl rfl ?_
  refine r_ild rfl rfl ?_
  refine r_ico (x := (nI 0)) rfl rfl ?_
  refine r_ico (x := (nI 7)) rfl rfl ?_
  refine r_call (as := [zI (nI p), zI (nI 0), zI (nI 7)]) (r := [zR (some q)]) (s' := (c, 0, (pubF n r).1, (pubF n r).2.1, v, f, (pubF n r).2.2)) (v := some (zI (bI (true)))) rfl rfl rfl (Nat.le_of_ble_eq_true rfl) (Or.inl rfl) (c_inZ (isIn_n (by omega) (by decide))) ?_
  refine r_ifB1 rfl (fun h_1 => ?_) (fun h_1 => ?_)
  · refine r_ild rfl rfl ?_
    refine r_ifB1 rfl (fun h_2 => ?_) (fun h_2 => ?_)
    · refine r_ald rfl rfl ?_
      refine r_ild rfl rfl ?_
      refine r_call (as := [zR (some q), zI (nI p)]) (r := [zR (some q)]) (s' := (c, 0, (pubF n r).1, (pubF n r).2.1, v, f, (pubF n r).2.2)) (v := some (zI (bI (true)))) rfl rfl rfl (Nat.le_of_ble_eq_true rfl) (Or.inr ⟨rfl, rfl, _, rfl⟩) (c_hasSameZ hv h40 hR hs) ?_
      refine r_ifB0 rfl (fun h_3 => ?_) (fun h_3 => ?_)
      · cases h_3
      · refine r_ico (x := (nI 3)) rfl rfl ?_
        refine r_go rfl ?_
        refine r_put (s' := (3, 0, (pubF n r).1, (pubF n r).2.1, v, f, (pubF n r).2.2)) rfl (Nat.le_of_ble_eq_true rfl) ⟨_, rfl⟩ rfl rfl ?_
        refine r_ald rfl rfl ?_
        refine r_get rfl rfl ?_
        refine r_ifN (by omega) rfl (fun h_4 => ?_) (fun h_4 => ?_)
        · replace h_4 : 3 ≤ 0 := h_4
          omega
        · replace h_4 := Nat.not_le.mp h_4
          refine r_ico (x := (nI 0)) rfl rfl ?_
          refine r_ret rfl ⟨_, rfl⟩ ?_
          exact ⟨rfl, rfl⟩
    · cases h_2
  · cases h_1
set_option maxHeartbeats 1000000 in
theorem c_publish4 {q : Nat} {qa : Nat → Nat} {d c n a v f : Nat} {b : Bool} {r : rA} {p : Nat} (hn : n ≤ 160) (ha : (pubF n r).1 < 100000) (hp : p < 8) (hr : (!(pubF n r).2.1 && decide ((pubF n r).1 = n)) = true)(hv : v ≤ 40) (h40 : rowOK (pubF n r).2.2 40) (hR : ∀ k, k < v → rowOK (pubF n r).2.2 k) (hs : hsF (pubF n r).2.2 (nI p) v = false) (h4 : v = 40) : rFun q qa (d + 8) 125 [zR (some q), zI (nI p)] (c, n, a, b, v, f, r) (4, 0, (pubF n r).1, (pubF n r).2.1, v, f, (pubF n r).2.2) (some (zI (nI 0))) := by
  refine rFun.of (d := d + 7) (T := tb_125) (L := [some (zR (some q)), some (zI (nI p)), none, none, none, none]) (Nat.le_of_ble_eq_true rfl) rfl rfl ?_
  refine r_ald rfl rfl ?_
  refine r_call (as := [zR (some q)]) (r := []) (s' := (c, n, (pubF n r).1, (pubF n r).2.1, v, f, (pubF n r).2.2)) (v := none) rfl rfl rfl (Nat.le_of_ble_eq_true rfl) (Or.inr ⟨rfl, rfl, _, rfl⟩) (c_publication hn) ?_
  refine r_ald rfl rfl ?_
  refine r_call (as := [zR (some q)]) (r := []) (s' := (c, 0, (pubF n r).1, (pubF n r).2.1, v, f, (pubF n r).2.2)) (v := some (zI (bI (true)))) rfl rfl rfl (Nat.le_of_ble_eq_true rfl) (Or.inr ⟨rfl, rfl, _, rfl⟩) (c_isRightZ hn ha hr) ?_
  refine r_ist (ls' := [some (zR (some q)), some (zI (nI p)), some (zI (bI (true))), none, none, none]) rfl (Nat.le_of_ble_eq_true rfl) rfl ?_
  refine r_ald rfl rfl ?_
  refine r_ild rfl rfl ?_
  refine r_ico (x := (nI 0)) rfl rfl ?_
  refine r_ico (x := (nI 7)) rfl rfl ?_
  refine r_call (as := [zI (nI p), zI (nI 0), zI (nI 7)]) (r := [zR (some q)]) (s' := (c, 0, (pubF n r).1, (pubF n r).2.1, v, f, (pubF n r).2.2)) (v := some (zI (bI (true)))) rfl rfl rfl (Nat.le_of_ble_eq_true rfl) (Or.inl rfl) (c_inZ (isIn_n (by omega) (by decide))) ?_
  refine r_ifB1 rfl (fun h_1 => ?_) (fun h_1 => ?_)
  · refine r_ild rfl rfl ?_
    refine r_ifB1 rfl (fun h_2 => ?_) (fun h_2 => ?_)
    · refine r_ald rfl rfl ?_
      refine r_ild rfl rfl ?_
      refine r_call (as := [zR (some q), zI (nI p)]) (r := [zR (some q)]) (s' := (c, 0, (pubF n r).1, (pubF n r).2.1, v, f, (pubF n r).2.2)) (v := some (zI (bI (false)))) rfl rfl rfl (Nat.le_of_ble_eq_true rfl) (Or.inr ⟨rfl, rfl, _, rfl⟩) (c_hasSameZ hv h40 hR hs) ?_
      refine r_ifB0 rfl (fun h_3 => ?_) (fun h_3 => ?_)
      · refine r_ald rfl rfl ?_
        refine r_get rfl rfl ?_
        refine r_ico (x := (nI 40)) rfl rfl ?_
        refine r_cmpN (by omega) (by omega) rfl (fun h_4 => ?_) (fun h_4 => ?_)
        · replace h_4 : ¬ v = 40 := h_4
          omega
        · replace h_4 : v = 40 := Decidable.of_not_not h_4
          refine r_ico (x := (nI 4)) rfl rfl ?_
          refine r_go rfl ?_
          refine r_put (s' := (4, 0, (pubF n r).1, (pubF n r).2.1, v, f, (pubF n r).2.2)) rfl (Nat.le_of_ble_eq_true rfl) ⟨_, rfl⟩ rfl rfl ?_
          refine r_ald rfl rfl ?_
          refine r_get rfl rfl ?_
          refine r_ifN (by omega) rfl (fun h_5 => ?_) (fun h_5 => ?_)
          · replace h_5 : 4 ≤ 0 := h_5
            omega
          · replace h_5 := Nat.not_le.mp h_5
            refine r_ico (x := (nI 0)) rfl rfl ?_
            refine r_ret rfl ⟨_, rfl⟩ ?_
            exact ⟨rfl, rfl⟩
      · cases h_3
    · cases h_2
  · cases h_1
set_option maxHeartbeats 1000000 in
theorem l_pubA {q : Nat} {qa : Nat → Nat} {d c n a v f : Nat} {b : Bool} {r : rA} {Q : rS → (Option zV ⊕ Nat) → Prop} {p u : Nat} {x2 : Int32} {x5 : Option zV} (hu : u < 40) (hE : rEv q qa (d + 7) tb_125 Q 144 [some (zR (some q)), some (zI (nI p)), some (zI (x2)), some (zI (nI u)), some (zI (nI 24)), x5] [] (c, n, a, b, v, f, rput r 19 (24 * u) (fun y => r 19 (960 + y)) 24)) : ∀ k, k ≤ 24 → rEv q qa (d + 7) tb_125 Q 108 [some (zR (some q)), some (zI (nI p)), some (zI (x2)), some (zI (nI u)), some (zI (nI k)), x5] [] (c, n, a, b, v, f, rput r 19 (24 * u) (fun y => r 19 (960 + y)) k) := by
  refine dn 24 (fun k hk ih => ?_)
  refine r_ild rfl rfl ?_
  refine r_ico (x := (nI 24)) rfl rfl ?_
  refine r_cmpN (by omega) (by omega) rfl (fun h_1 => ?_) (fun h_1 => ?_)
  · replace h_1 : 24 ≤ k := h_1
    have h3 : k = 24 := by omega
    rw [h3]
    exact hE
  · replace h_1 := Nat.not_le.mp h_1
    refine r_ald rfl rfl ?_
    refine r_get rfl rfl ?_
    refine r_ico (x := (nI 24)) rfl rfl ?_
    refine r_ild rfl rfl ?_
    refine r_ibi (v := (nI (24 * u))) rfl (pk_mul _ _) ?_
    refine r_ild rfl rfl ?_
    refine r_ibi (v := (nI (24 * u + k))) rfl (nI_add _ _) ?_
    refine r_ald rfl rfl ?_
    refine r_get rfl rfl ?_
    refine r_ico (x := (nI 960)) rfl rfl ?_
    refine r_ild rfl rfl ?_
    refine r_ibi (v := (nI (960 + k))) rfl (nI_add _ _) ?_
    refine r_ialdN (k0 := 19) rfl rfl (by omega) (by decide) ?_
    refine r_iastN (k0 := 19) (x' := ((rput r 19 (24 * u) (fun y => r 19 (960 + y)) k) 19 (960 + k))) rfl rfl (by omega) (by decide) rfl ?_
    refine r_inc (x' := (nI (k + 1))) (ls' := [some (zR (some q)), some (zI (nI p)), some (zI (x2)), some (zI (nI u)), some (zI (nI (k + 1))), x5]) rfl rfl (nI_1 _) rfl ?_
    refine r_go rfl ?_
    rw [rput_a (by omega), rput_s r 19 (24 * u) (fun y => r 19 (960 + y))]
    exact ih (by omega)
set_option maxHeartbeats 1000000 in
theorem l_pubB {q : Nat} {qa : Nat → Nat} {d c n a v f : Nat} {b : Bool} {r : rA} {Q : rS → (Option zV ⊕ Nat) → Prop} {p u k0 : Nat} {x2 : Int32} (hu : u < 40) (hk0 : k0 < 5) (hE : rEv q qa (d + 7) tb_125 Q 282 [some (zR (some q)), some (zI (nI p)), some (zI (x2)), some (zI (nI u)), some (zI (nI k0)), some (zI (nI 4))] [] (c, n, a, b, v, f, crN r (41 + 4 * (208 + k0)) (41 + 4 * (8 + 5 * u + k0)) 4)) : ∀ k, k ≤ 4 → rEv q qa (d + 7) tb_125 Q 235 [some (zR (some q)), some (zI (nI p)), some (zI (x2)), some (zI (nI u)), some (zI (nI k0)), some (zI (nI k))] [] (c, n, a, b, v, f, crN r (41 + 4 * (208 + k0)) (41 + 4 * (8 + 5 * u + k0)) k) := by
  refine dn 4 (fun k hk ih => ?_)
  refine r_ild rfl rfl ?_
  refine r_ico (x := (nI 4)) rfl rfl ?_
  refine r_cmpN (by omega) (by omega) rfl (fun h_1 => ?_) (fun h_1 => ?_)
  · replace h_1 : 4 ≤ k := h_1
    have h3 : k = 4 := by omega
    rw [h3]
    exact hE
  · replace h_1 := Nat.not_le.mp h_1
    refine r_ald rfl rfl ?_
    refine r_ico (x := (nI 41)) rfl rfl ?_
    refine r_ico (x := (nI 4)) rfl rfl ?_
    refine r_ico (x := (nI 208)) rfl rfl ?_
    refine r_ild rfl rfl ?_
    refine r_ibi (v := (nI (208 + k0))) rfl (nI_add _ _) ?_
    refine r_ibi (v := (nI (4 * (208 + k0)))) rfl (pk_mul _ _) ?_
    refine r_ibi (v := (nI (41 + (4 * (208 + k0))))) rfl (nI_add _ _) ?_
    refine r_ild rfl rfl ?_
    refine r_ibi (v := (nI (41 + (4 * (208 + k0)) + k))) rfl (nI_add _ _) ?_
    refine r_ico (x := (nI 41)) rfl rfl ?_
    refine r_ico (x := (nI 4)) rfl rfl ?_
    refine r_ico (x := (nI 8)) rfl rfl ?_
    refine r_ico (x := (nI 5)) rfl rfl ?_
    refine r_ild rfl rfl ?_
    refine r_ibi (v := (nI (5 * u))) rfl (pk_mul _ _) ?_
    refine r_ibi (v := (nI (8 + (5 * u)))) rfl (nI_add _ _) ?_
    refine r_ild rfl rfl ?_
    refine r_ibi (v := (nI (8 + (5 * u) + k0))) rfl (nI_add _ _) ?_
    refine r_ibi (v := (nI (4 * (8 + (5 * u) + k0)))) rfl (pk_mul _ _) ?_
    refine r_ibi (v := (nI (41 + (4 * (8 + (5 * u) + k0))))) rfl (nI_add _ _) ?_
    refine r_ild rfl rfl ?_
    refine r_ibi (v := (nI (41 + (4 * (8 + (5 * u) + k0)) + k))) rfl (nI_add _ _) ?_
    refine r_call (as := [zR (some q), zI (nI (41 + (4 * (208 + k0)) + k)), zI (nI (41 + (4 * (8 + (5 * u) + k0)) + k))]) (r := []) (s' := (c, n, a, b, v, f, crF (crN r (41 + 4 * (208 + k0)) (41 + 4 * (8 + 5 * u + k0)) k) (41 + (4 * (208 + k0)) + k) (41 + (4 * (8 + (5 * u) + k0)) + k))) (v := none) rfl rfl rfl (Nat.le_of_ble_eq_true rfl) (Or.inr ⟨rfl, rfl, _, rfl⟩) (c_copyRow (by omega) (by omega) (by omega)) ?_
    refine r_inc (x' := (nI (k + 1))) (ls' := [some (zR (some q)), some (zI (nI p)), some (zI (x2)), some (zI (nI u)), some (zI (nI k0)), some (zI (nI (k + 1)))]) rfl rfl (nI_1 _) rfl ?_
    refine r_go rfl ?_
    exact ih (by omega)
set_option maxHeartbeats 1000000 in
theorem l_pubC {q : Nat} {qa : Nat → Nat} {d c n a v f : Nat} {b : Bool} {r : rA} {Q : rS → (Option zV ⊕ Nat) → Prop} {p u m : Nat} {x2 : Int32} (hu : u < 40) (hm : m ≤ 5) (hM : r 14 u = nI m) (hQ : Q (c, n, a, b, v, f, pbN r u m) (.inl (some (zI (nI u))))) : ∀ k, k ≤ m → ∀ (x5 : Option zV), rEv q qa (d + 7) tb_125 Q 174 [some (zR (some q)), some (zI (nI p)), some (zI (x2)), some (zI (nI u)), some (zI (nI k)), x5] [] (c, n, a, b, v, f, pbN r u k) := by
  refine dn m (fun k hk ih x5 => ?_)
  refine r_ild rfl rfl ?_
  refine r_ald rfl rfl ?_
  refine r_get rfl rfl ?_
  refine r_ild rfl rfl ?_
  refine r_ialdN (k0 := 14) rfl rfl (by omega) (by decide) ?_
  refine r_top (y := (nI m)) (by rw [show rar (c, n, a, b, v, f, pbN r u k) = pbN r u k from rfl, pbN_n (by omega)]; exact hM) ?_
  refine r_cmpN (by omega) (by omega) rfl (fun h_1 => ?_) (fun h_1 => ?_)
  · replace h_1 : m ≤ k := h_1
    refine r_ild rfl rfl ?_
    refine r_ret rfl ⟨_, rfl⟩ ?_
    have h3 : k = m := by omega
    subst h3
    exact hQ
  · replace h_1 := Nat.not_le.mp h_1
    refine r_ald rfl rfl ?_
    refine r_get rfl rfl ?_
    refine r_ico (x := (nI 5)) rfl rfl ?_
    refine r_ild rfl rfl ?_
    refine r_ibi (v := (nI (5 * u))) rfl (pk_mul _ _) ?_
    refine r_ild rfl rfl ?_
    refine r_ibi (v := (nI (5 * u + k))) rfl (nI_add _ _) ?_
    refine r_ald rfl rfl ?_
    refine r_get rfl rfl ?_
    refine r_ico (x := (nI 200)) rfl rfl ?_
    refine r_ild rfl rfl ?_
    refine r_ibi (v := (nI (200 + k))) rfl (nI_add _ _) ?_
    refine r_ialdN (k0 := 13) rfl rfl (by omega) (by decide) ?_
    refine r_iastN (k0 := 13) (x' := ((pbN r u k) 13 (200 + k))) rfl rfl (by omega) (by decide) rfl ?_
    refine r_ald rfl rfl ?_
    refine r_get rfl rfl ?_
    refine r_ico (x := (nI 8)) rfl rfl ?_
    refine r_ico (x := (nI 5)) rfl rfl ?_
    refine r_ild rfl rfl ?_
    refine r_ibi (v := (nI (5 * u))) rfl (pk_mul _ _) ?_
    refine r_ibi (v := (nI (8 + (5 * u)))) rfl (nI_add _ _) ?_
    refine r_ild rfl rfl ?_
    refine r_ibi (v := (nI (8 + (5 * u) + k))) rfl (nI_add _ _) ?_
    refine r_ald rfl rfl ?_
    refine r_get rfl rfl ?_
    refine r_ico (x := (nI 208)) rfl rfl ?_
    refine r_ild rfl rfl ?_
    refine r_ibi (v := (nI (208 + k))) rfl (nI_add _ _) ?_
    refine r_ialdN (k0 := 12) rfl rfl (by omega) (by decide) ?_
    refine r_iastN (k0 := 12) (x' := ((rset (pbN r u k) 13 (5 * u + k) ((pbN r u k) 13 (200 + k))) 12 (208 + k))) rfl rfl (by omega) (by decide) rfl ?_
    refine r_ico (x := (nI 0)) rfl rfl ?_
    refine r_ist (ls' := [some (zR (some q)), some (zI (nI p)), some (zI (x2)), some (zI (nI u)), some (zI (nI k)), some (zI (nI 0))]) rfl (Nat.le_of_ble_eq_true rfl) rfl ?_
    refine l_pubB (k0 := k) hu (by omega) ?_ 0 (by omega)
    refine r_inc (x' := (nI (k + 1))) (ls' := [some (zR (some q)), some (zI (nI p)), some (zI (x2)), some (zI (nI u)), some (zI (nI (k + 1))), some (zI (nI 4))]) rfl rfl (nI_1 _) rfl ?_
    refine r_go rfl ?_
    exact ih (by omega) _
set_option maxHeartbeats 1000000 in
theorem l_pubD {q : Nat} {qa : Nat → Nat} {d c n a v f : Nat} {b : Bool} {r : rA} {Q : rS → (Option zV ⊕ Nat) → Prop} {p m : Nat} (hv2 : v < 40) (hm : m ≤ 5) (hM : r 14 40 = nI m) (hQ : Q (0, n, a, b, v + 1, f, pbR r v (nI p)) (.inl (some (zI (nI v))))) : rEv q qa (d + 7) tb_125 Q 61 [some (zR (some q)), some (zI (nI p)), some (zI (bI (true))), none, none, none] [] (0, n, a, b, v, f, r) := by
  refine r_ald rfl rfl ?_
  refine r_get rfl rfl ?_
  refine r_ifN (by omega) rfl (fun h_1 => ?_) (fun h_1 => ?_)
  · replace h_1 : 0 ≤ 0 := h_1
    refine r_ald rfl rfl ?_
    refine r_get rfl rfl ?_
    refine r_ist (ls' := [some (zR (some q)), some (zI (nI p)), some (zI (bI (true))), some (zI (nI v)), none, none]) rfl (Nat.le_of_ble_eq_true rfl) rfl ?_
    refine r_ald rfl rfl ?_
    refine r_dup rfl rfl ?_
    refine r_get rfl rfl ?_
    refine r_ico (x := (nI 1)) rfl rfl ?_
    refine r_ibi (v := (nI (v + 1))) rfl (nI_add _ _) ?_
    refine r_put (s' := (0, n, a, b, v + 1, f, r)) rfl (Nat.le_of_ble_eq_true rfl) ⟨_, rfl⟩ rfl rfl ?_
    refine r_ald rfl rfl ?_
    refine r_ico (x := (nI 40)) rfl rfl ?_
    refine r_ild rfl rfl ?_
    refine r_call (as := [zR (some q), zI (nI 40), zI (nI v)]) (r := []) (s' := (0, n, a, b, v + 1, f, crF r 40 v)) (v := none) rfl rfl rfl (Nat.le_of_ble_eq_true rfl) (Or.inr ⟨rfl, rfl, _, rfl⟩) (c_copyRow (by omega) (by omega) (by omega)) ?_
    refine r_ald rfl rfl ?_
    refine r_get rfl rfl ?_
    refine r_ild rfl rfl ?_
    refine r_ald rfl rfl ?_
    refine r_get rfl rfl ?_
    refine r_ico (x := (nI 40)) rfl rfl ?_
    refine r_ialdN (k0 := 18) rfl rfl (by omega) (by decide) ?_
    refine r_iastN (k0 := 18) (x' := ((crF r 40 v) 18 40)) rfl rfl (by omega) (by decide) rfl ?_
    refine r_ico (x := (nI 0)) rfl rfl ?_
    refine r_ist (ls' := [some (zR (some q)), some (zI (nI p)), some (zI (bI (true))), some (zI (nI v)), some (zI (nI 0)), none]) rfl (Nat.le_of_ble_eq_true rfl) rfl ?_
    refine rEv_rr (rput_0 (pb1 r v) 19 (24 * v) (fun y => pb1 r v 19 (960 + y))) (l_pubA (c := 0) (x2 := bI true) hv2 ?_ 0 (by omega))
    refine r_ald rfl rfl ?_
    refine r_get rfl rfl ?_
    refine r_ild rfl rfl ?_
    refine r_ild rfl rfl ?_
    refine r_iastN (k0 := 16) (x' := (nI p)) rfl rfl (by omega) (by decide) rfl ?_
    refine r_ald rfl rfl ?_
    refine r_get rfl rfl ?_
    refine r_ild rfl rfl ?_
    refine r_ico (x := (nI 0)) rfl rfl ?_
    refine r_iastN (k0 := 17) (x' := (bI (false))) rfl rfl (by omega) (by decide) (by decide +kernel) ?_
    refine r_ald rfl rfl ?_
    refine r_get rfl rfl ?_
    refine r_ild rfl rfl ?_
    refine r_ald rfl rfl ?_
    refine r_get rfl rfl ?_
    refine r_ico (x := (nI 40)) rfl rfl ?_
    refine r_ialdN (k0 := 14) rfl rfl (by omega) (by decide) ?_
    refine r_iastN (k0 := 14) (x' := ((rset (rset (rput (pb1 r v) 19 (24 * v) (fun y => pb1 r v 19 (960 + y)) 24) 16 v (nI p)) 17 v (bI (false))) 14 40)) rfl rfl (by omega) (by decide) rfl ?_
    refine r_ico (x := (nI 0)) rfl rfl ?_
    refine r_ist (ls' := [some (zR (some q)), some (zI (nI p)), some (zI (bI (true))), some (zI (nI v)), some (zI (nI 0)), none]) rfl (Nat.le_of_ble_eq_true rfl) rfl ?_
    refine l_pubC (c := 0) (x2 := bI true) hv2 hm ((@pb2_14 r v (nI p)).trans hM) ?_ 0 (by omega) none
    have h9 : pbN (pb2 r v (nI p)) v m = pbR r v (nI p) := by rw [pbR, hM, nI_clamp (by omega)]
    exact h9.symm ▸ hQ
  · replace h_1 := Nat.not_le.mp h_1
    omega
set_option maxHeartbeats 1000000 in
theorem c_publish0 {q : Nat} {qa : Nat → Nat} {d c n a v f : Nat} {b : Bool} {r : rA} {p m : Nat} (hn : n ≤ 160) (ha : (pubF n r).1 < 100000) (hp : p < 8) (hr : (!(pubF n r).2.1 && decide ((pubF n r).1 = n)) = true)(hv : v ≤ 40) (h40 : rowOK (pubF n r).2.2 40) (hR : ∀ k, k < v → rowOK (pubF n r).2.2 k) (hs : hsF (pubF n r).2.2 (nI p) v = false) (hv2 : v < 40) (hm : m ≤ 5) (hM : (pubF n r).2.2 14 40 = nI m) : rFun q qa (d + 8) 125 [zR (some q), zI (nI p)] (c, n, a, b, v, f, r) (0, 0, (pubF n r).1, (pubF n r).2.1, v + 1, f, pbR (pubF n r).2.2 v (nI p)) (some (zI (nI v))) := by
  refine rFun.of (d := d + 7) (T := tb_125) (L := [some (zR (some q)), some (zI (nI p)), none, none, none, none]) (Nat.le_of_ble_eq_true rfl) rfl rfl ?_
  refine r_ald rfl rfl ?_
  refine r_call (as := [zR (some q)]) (r := []) (s' := (c, n, (pubF n r).1, (pubF n r).2.1, v, f, (pubF n r).2.2)) (v := none) rfl rfl rfl (Nat.le_of_ble_eq_true rfl) (Or.inr ⟨rfl, rfl, _, rfl⟩) (c_publication hn) ?_
  refine r_ald rfl rfl ?_
  refine r_call (as := [zR (some q)]) (r := []) (s' := (c, 0, (pubF n r).1, (pubF n r).2.1, v, f, (pubF n r).2.2)) (v := some (zI (bI (true)))) rfl rfl rfl (Nat.le_of_ble_eq_true rfl) (Or.inr ⟨rfl, rfl, _, rfl⟩) (c_isRightZ hn ha hr) ?_
  refine r_ist (ls' := [some (zR (some q)), some (zI (nI p)), some (zI (bI (true))), none, none, none]) rfl (Nat.le_of_ble_eq_true rfl) rfl ?_
  refine r_ald rfl rfl ?_
  refine r_ild rfl rfl ?_
  refine r_ico (x := (nI 0)) rfl rfl ?_
  refine r_ico (x := (nI 7)) rfl rfl ?_
  refine r_call (as := [zI (nI p), zI (nI 0), zI (nI 7)]) (r := [zR (some q)]) (s' := (c, 0, (pubF n r).1, (pubF n r).2.1, v, f, (pubF n r).2.2)) (v := some (zI (bI (true)))) rfl rfl rfl (Nat.le_of_ble_eq_true rfl) (Or.inl rfl) (c_inZ (isIn_n (by omega) (by decide))) ?_
  refine r_ifB1 rfl (fun h_1 => ?_) (fun h_1 => ?_)
  · refine r_ild rfl rfl ?_
    refine r_ifB1 rfl (fun h_2 => ?_) (fun h_2 => ?_)
    · refine r_ald rfl rfl ?_
      refine r_ild rfl rfl ?_
      refine r_call (as := [zR (some q), zI (nI p)]) (r := [zR (some q)]) (s' := (c, 0, (pubF n r).1, (pubF n r).2.1, v, f, (pubF n r).2.2)) (v := some (zI (bI (false)))) rfl rfl rfl (Nat.le_of_ble_eq_true rfl) (Or.inr ⟨rfl, rfl, _, rfl⟩) (c_hasSameZ hv h40 hR hs) ?_
      refine r_ifB0 rfl (fun h_3 => ?_) (fun h_3 => ?_)
      · refine r_ald rfl rfl ?_
        refine r_get rfl rfl ?_
        refine r_ico (x := (nI 40)) rfl rfl ?_
        refine r_cmpN (by omega) (by omega) rfl (fun h_4 => ?_) (fun h_4 => ?_)
        · replace h_4 : ¬ v = 40 := h_4
          refine r_ico (x := (nI 0)) rfl rfl ?_
          refine r_put (s' := (0, 0, (pubF n r).1, (pubF n r).2.1, v, f, (pubF n r).2.2)) rfl (Nat.le_of_ble_eq_true rfl) ⟨_, rfl⟩ rfl rfl ?_
          exact l_pubD (c := c) hv2 hm hM ⟨rfl, rfl⟩
        · replace h_4 : v = 40 := Decidable.of_not_not h_4
          omega
      · cases h_3
    · cases h_2
  · cases h_1
end
section
theorem zz_t : True := trivial
end
