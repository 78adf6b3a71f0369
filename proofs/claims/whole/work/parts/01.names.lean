-- ===== PART A: goes FIRST, ahead of the names: the tables' words, and 'selects' of the private methods out of them =====
/-- a private method of a class that the tables say can be made, by its rows of tables_1 -/
def lw_okq (q : MethodName × Nat) : Prop := (q.1.cls ≠ "java/lang/invoke/MethodHandle" ∧ q.1.cls ≠ "java/lang/invoke/VarHandle") ∧ Cond.instantiable q.1.cls q.2 ∈ tables_1 ∧ Cond.privateMethod q.1 ∈ tables_1 ∧ Cond.instanceMethod q.1 ∈ tables_1
theorem lw_p0 : lw_okq (⟨"java/lang/Throwable", "fillInStackTrace", "(I)Ljava/lang/Throwable;"⟩, 6) := ⟨⟨by decide +kernel, by decide +kernel⟩, List.mem_of_getElem? (i := 349) (by decide +kernel), List.mem_of_getElem? (i := 347) (by decide +kernel), List.mem_of_getElem? (i := 348) (by decide +kernel)⟩
theorem lw_p1 : lw_okq (⟨"FixtureTables$Reader", "readSection", "(LFixtureTables$Schema;LFixtureTables$Dataset;)Z"⟩, 5) := ⟨⟨by decide +kernel, by decide +kernel⟩, List.mem_of_getElem? (i := 158) (by decide +kernel), List.mem_of_getElem? (i := 453) (by decide +kernel), List.mem_of_getElem? (i := 454) (by decide +kernel)⟩
theorem lw_p2 : lw_okq (⟨"FixtureTables$Reader", "digitHere", "()I"⟩, 5) := ⟨⟨by decide +kernel, by decide +kernel⟩, List.mem_of_getElem? (i := 158) (by decide +kernel), List.mem_of_getElem? (i := 457) (by decide +kernel), List.mem_of_getElem? (i := 458) (by decide +kernel)⟩
theorem lw_p3 : lw_okq (⟨"FixtureTables$Reader", "characterAt", "(I)I"⟩, 5) := ⟨⟨by decide +kernel, by decide +kernel⟩, List.mem_of_getElem? (i := 158) (by decide +kernel), List.mem_of_getElem? (i := 461) (by decide +kernel), List.mem_of_getElem? (i := 462) (by decide +kernel)⟩
theorem lw_p4 : lw_okq (⟨"FixtureTables$Reader", "accept", "(C)Z"⟩, 5) := ⟨⟨by decide +kernel, by decide +kernel⟩, List.mem_of_getElem? (i := 158) (by decide +kernel), List.mem_of_getElem? (i := 471) (by decide +kernel), List.mem_of_getElem? (i := 472) (by decide +kernel)⟩
theorem lw_p5 : lw_okq (⟨"FixtureTables$Reader", "readColumns", "(LFixtureTables$Schema;LFixtureTables$Dataset;)Z"⟩, 5) := ⟨⟨by decide +kernel, by decide +kernel⟩, List.mem_of_getElem? (i := 158) (by decide +kernel), List.mem_of_getElem? (i := 475) (by decide +kernel), List.mem_of_getElem? (i := 476) (by decide +kernel)⟩
theorem lw_p6 : lw_okq (⟨"FixtureTables$Reader", "readRow", "(LFixtureTables$Schema;LFixtureTables$Dataset;)Z"⟩, 5) := ⟨⟨by decide +kernel, by decide +kernel⟩, List.mem_of_getElem? (i := 158) (by decide +kernel), List.mem_of_getElem? (i := 495) (by decide +kernel), List.mem_of_getElem? (i := 496) (by decide +kernel)⟩
theorem lw_p7 : lw_okq (⟨"FixtureTables$Reader", "readCell", "(I)Z"⟩, 5) := ⟨⟨by decide +kernel, by decide +kernel⟩, List.mem_of_getElem? (i := 158) (by decide +kernel), List.mem_of_getElem? (i := 508) (by decide +kernel), List.mem_of_getElem? (i := 509) (by decide +kernel)⟩
theorem lw_p8 : lw_okq (⟨"FixtureTables$Reader", "readInteger", "()Z"⟩, 5) := ⟨⟨by decide +kernel, by decide +kernel⟩, List.mem_of_getElem? (i := 158) (by decide +kernel), List.mem_of_getElem? (i := 512) (by decide +kernel), List.mem_of_getElem? (i := 513) (by decide +kernel)⟩
theorem lw_p9 : lw_okq (⟨"FixtureTables$Reader", "readDigits", "(I)I"⟩, 5) := ⟨⟨by decide +kernel, by decide +kernel⟩, List.mem_of_getElem? (i := 158) (by decide +kernel), List.mem_of_getElem? (i := 516) (by decide +kernel), List.mem_of_getElem? (i := 517) (by decide +kernel)⟩
theorem lw_p10 : lw_okq (⟨"FixtureTables$Reader", "readDecimal", "()Z"⟩, 5) := ⟨⟨by decide +kernel, by decide +kernel⟩, List.mem_of_getElem? (i := 158) (by decide +kernel), List.mem_of_getElem? (i := 521) (by decide +kernel), List.mem_of_getElem? (i := 522) (by decide +kernel)⟩
theorem lw_p11 : lw_okq (⟨"FixtureTables$Reader", "readQuoted", "()Z"⟩, 5) := ⟨⟨by decide +kernel, by decide +kernel⟩, List.mem_of_getElem? (i := 158) (by decide +kernel), List.mem_of_getElem? (i := 525) (by decide +kernel), List.mem_of_getElem? (i := 526) (by decide +kernel)⟩
theorem lw_p12 : lw_okq (⟨"FixtureTables$Reader", "addCharacter", "(II)V"⟩, 5) := ⟨⟨by decide +kernel, by decide +kernel⟩, List.mem_of_getElem? (i := 158) (by decide +kernel), List.mem_of_getElem? (i := 529) (by decide +kernel), List.mem_of_getElem? (i := 530) (by decide +kernel)⟩
theorem lw_p13 : lw_okq (⟨"FixtureTables$Reader", "readLetters", "()Z"⟩, 5) := ⟨⟨by decide +kernel, by decide +kernel⟩, List.mem_of_getElem? (i := 158) (by decide +kernel), List.mem_of_getElem? (i := 533) (by decide +kernel), List.mem_of_getElem? (i := 534) (by decide +kernel)⟩
theorem lw_p14 : lw_okq (⟨"FixtureTables$Reader", "readBoolean", "()Z"⟩, 5) := ⟨⟨by decide +kernel, by decide +kernel⟩, List.mem_of_getElem? (i := 158) (by decide +kernel), List.mem_of_getElem? (i := 537) (by decide +kernel), List.mem_of_getElem? (i := 538) (by decide +kernel)⟩
theorem lw_p15 : lw_okq (⟨"FixtureTables$Schema", "leastReady", "(I)I"⟩, 6) := ⟨⟨by decide +kernel, by decide +kernel⟩, List.mem_of_getElem? (i := 36) (by decide +kernel), List.mem_of_getElem? (i := 559) (by decide +kernel), List.mem_of_getElem? (i := 560) (by decide +kernel)⟩
def lw_privs_1 : List (MethodName × Nat) := [(⟨"java/lang/Throwable", "fillInStackTrace", "(I)Ljava/lang/Throwable;"⟩, 6), (⟨"FixtureTables$Reader", "readSection", "(LFixtureTables$Schema;LFixtureTables$Dataset;)Z"⟩, 5), (⟨"FixtureTables$Reader", "digitHere", "()I"⟩, 5), (⟨"FixtureTables$Reader", "characterAt", "(I)I"⟩, 5), (⟨"FixtureTables$Reader", "accept", "(C)Z"⟩, 5), (⟨"FixtureTables$Reader", "readColumns", "(LFixtureTables$Schema;LFixtureTables$Dataset;)Z"⟩, 5), (⟨"FixtureTables$Reader", "readRow", "(LFixtureTables$Schema;LFixtureTables$Dataset;)Z"⟩, 5), (⟨"FixtureTables$Reader", "readCell", "(I)Z"⟩, 5), (⟨"FixtureTables$Reader", "readInteger", "()Z"⟩, 5), (⟨"FixtureTables$Reader", "readDigits", "(I)I"⟩, 5), (⟨"FixtureTables$Reader", "readDecimal", "()Z"⟩, 5), (⟨"FixtureTables$Reader", "readQuoted", "()Z"⟩, 5), (⟨"FixtureTables$Reader", "addCharacter", "(II)V"⟩, 5), (⟨"FixtureTables$Reader", "readLetters", "()Z"⟩, 5), (⟨"FixtureTables$Reader", "readBoolean", "()Z"⟩, 5), (⟨"FixtureTables$Schema", "leastReady", "(I)I"⟩, 6)]
theorem lw_r1 : ∀ q ∈ lw_privs_1, lw_okq q := List.forall_mem_cons.mpr ⟨lw_p0, List.forall_mem_cons.mpr ⟨lw_p1, List.forall_mem_cons.mpr ⟨lw_p2, List.forall_mem_cons.mpr ⟨lw_p3, List.forall_mem_cons.mpr ⟨lw_p4, List.forall_mem_cons.mpr ⟨lw_p5, List.forall_mem_cons.mpr ⟨lw_p6, List.forall_mem_cons.mpr ⟨lw_p7, List.forall_mem_cons.mpr ⟨lw_p8, List.forall_mem_cons.mpr ⟨lw_p9, List.forall_mem_cons.mpr ⟨lw_p10, List.forall_mem_cons.mpr ⟨lw_p11, List.forall_mem_cons.mpr ⟨lw_p12, List.forall_mem_cons.mpr ⟨lw_p13, List.forall_mem_cons.mpr ⟨lw_p14, List.forall_mem_cons.mpr ⟨lw_p15, fun _ h => absurd h List.not_mem_nil⟩⟩⟩⟩⟩⟩⟩⟩⟩⟩⟩⟩⟩⟩⟩⟩
theorem lw_p16 : lw_okq (⟨"FixtureTables$Schema", "parentsAreIn", "(II)Z"⟩, 6) := ⟨⟨by decide +kernel, by decide +kernel⟩, List.mem_of_getElem? (i := 36) (by decide +kernel), List.mem_of_getElem? (i := 563) (by decide +kernel), List.mem_of_getElem? (i := 564) (by decide +kernel)⟩
theorem lw_p17 : lw_okq (⟨"FixtureTables$Database", "setFailure", "(IIII)V"⟩, 8) := ⟨⟨by decide +kernel, by decide +kernel⟩, List.mem_of_getElem? (i := 30) (by decide +kernel), List.mem_of_getElem? (i := 605) (by decide +kernel), List.mem_of_getElem? (i := 606) (by decide +kernel)⟩
theorem lw_p18 : lw_okq (⟨"FixtureTables$Database", "clearTables", "(LFixtureTables$Dataset;)Z"⟩, 8) := ⟨⟨by decide +kernel, by decide +kernel⟩, List.mem_of_getElem? (i := 30) (by decide +kernel), List.mem_of_getElem? (i := 615) (by decide +kernel), List.mem_of_getElem? (i := 616) (by decide +kernel)⟩
theorem lw_p19 : lw_okq (⟨"FixtureTables$Database", "clearTable", "(I)Z"⟩, 8) := ⟨⟨by decide +kernel, by decide +kernel⟩, List.mem_of_getElem? (i := 30) (by decide +kernel), List.mem_of_getElem? (i := 623) (by decide +kernel), List.mem_of_getElem? (i := 624) (by decide +kernel)⟩
theorem lw_p20 : lw_okq (⟨"FixtureTables$Database", "othersRefer", "(I)Z"⟩, 8) := ⟨⟨by decide +kernel, by decide +kernel⟩, List.mem_of_getElem? (i := 30) (by decide +kernel), List.mem_of_getElem? (i := 628) (by decide +kernel), List.mem_of_getElem? (i := 629) (by decide +kernel)⟩
theorem lw_p21 : lw_okq (⟨"FixtureTables$Database", "tableRefers", "(III)Z"⟩, 8) := ⟨⟨by decide +kernel, by decide +kernel⟩, List.mem_of_getElem? (i := 30) (by decide +kernel), List.mem_of_getElem? (i := 632) (by decide +kernel), List.mem_of_getElem? (i := 633) (by decide +kernel)⟩
theorem lw_p22 : lw_okq (⟨"FixtureTables$Database", "fail", "(IIII)Z"⟩, 8) := ⟨⟨by decide +kernel, by decide +kernel⟩, List.mem_of_getElem? (i := 30) (by decide +kernel), List.mem_of_getElem? (i := 646) (by decide +kernel), List.mem_of_getElem? (i := 647) (by decide +kernel)⟩
theorem lw_p23 : lw_okq (⟨"FixtureTables$Database", "noteChanges", "(I)V"⟩, 8) := ⟨⟨by decide +kernel, by decide +kernel⟩, List.mem_of_getElem? (i := 30) (by decide +kernel), List.mem_of_getElem? (i := 658) (by decide +kernel), List.mem_of_getElem? (i := 659) (by decide +kernel)⟩
theorem lw_p24 : lw_okq (⟨"FixtureTables$Database", "loadRows", "(ILFixtureTables$Dataset;)Z"⟩, 8) := ⟨⟨by decide +kernel, by decide +kernel⟩, List.mem_of_getElem? (i := 30) (by decide +kernel), List.mem_of_getElem? (i := 666) (by decide +kernel), List.mem_of_getElem? (i := 667) (by decide +kernel)⟩
theorem lw_p25 : lw_okq (⟨"FixtureTables$Database", "loadRow", "(ILFixtureTables$Dataset;I)Z"⟩, 8) := ⟨⟨by decide +kernel, by decide +kernel⟩, List.mem_of_getElem? (i := 30) (by decide +kernel), List.mem_of_getElem? (i := 674) (by decide +kernel), List.mem_of_getElem? (i := 675) (by decide +kernel)⟩
theorem lw_p26 : lw_okq (⟨"FixtureTables$Database", "removeRow", "(III)Z"⟩, 8) := ⟨⟨by decide +kernel, by decide +kernel⟩, List.mem_of_getElem? (i := 30) (by decide +kernel), List.mem_of_getElem? (i := 690) (by decide +kernel), List.mem_of_getElem? (i := 691) (by decide +kernel)⟩
theorem lw_p27 : lw_okq (⟨"FixtureTables$Store", "move", "(III)V"⟩, 3) := ⟨⟨by decide +kernel, by decide +kernel⟩, List.mem_of_getElem? (i := 67) (by decide +kernel), List.mem_of_getElem? (i := 698) (by decide +kernel), List.mem_of_getElem? (i := 699) (by decide +kernel)⟩
theorem lw_p28 : lw_okq (⟨"FixtureTables$Database", "fillCandidate", "(LFixtureTables$Dataset;II)V"⟩, 8) := ⟨⟨by decide +kernel, by decide +kernel⟩, List.mem_of_getElem? (i := 30) (by decide +kernel), List.mem_of_getElem? (i := 702) (by decide +kernel), List.mem_of_getElem? (i := 703) (by decide +kernel)⟩
theorem lw_p29 : lw_okq (⟨"FixtureTables$Database", "putCandidate", "(III)Z"⟩, 8) := ⟨⟨by decide +kernel, by decide +kernel⟩, List.mem_of_getElem? (i := 30) (by decide +kernel), List.mem_of_getElem? (i := 719) (by decide +kernel), List.mem_of_getElem? (i := 720) (by decide +kernel)⟩
theorem lw_p30 : lw_okq (⟨"FixtureTables$Database", "firstMissing", "(I)I"⟩, 8) := ⟨⟨by decide +kernel, by decide +kernel⟩, List.mem_of_getElem? (i := 30) (by decide +kernel), List.mem_of_getElem? (i := 723) (by decide +kernel), List.mem_of_getElem? (i := 724) (by decide +kernel)⟩
theorem lw_p31 : lw_okq (⟨"FixtureTables$Database", "firstOrphan", "(I)I"⟩, 8) := ⟨⟨by decide +kernel, by decide +kernel⟩, List.mem_of_getElem? (i := 30) (by decide +kernel), List.mem_of_getElem? (i := 735) (by decide +kernel), List.mem_of_getElem? (i := 736) (by decide +kernel)⟩
def lw_privs_2 : List (MethodName × Nat) := [(⟨"FixtureTables$Schema", "parentsAreIn", "(II)Z"⟩, 6), (⟨"FixtureTables$Database", "setFailure", "(IIII)V"⟩, 8), (⟨"FixtureTables$Database", "clearTables", "(LFixtureTables$Dataset;)Z"⟩, 8), (⟨"FixtureTables$Database", "clearTable", "(I)Z"⟩, 8), (⟨"FixtureTables$Database", "othersRefer", "(I)Z"⟩, 8), (⟨"FixtureTables$Database", "tableRefers", "(III)Z"⟩, 8), (⟨"FixtureTables$Database", "fail", "(IIII)Z"⟩, 8), (⟨"FixtureTables$Database", "noteChanges", "(I)V"⟩, 8), (⟨"FixtureTables$Database", "loadRows", "(ILFixtureTables$Dataset;)Z"⟩, 8), (⟨"FixtureTables$Database", "loadRow", "(ILFixtureTables$Dataset;I)Z"⟩, 8), (⟨"FixtureTables$Database", "removeRow", "(III)Z"⟩, 8), (⟨"FixtureTables$Store", "move", "(III)V"⟩, 3), (⟨"FixtureTables$Database", "fillCandidate", "(LFixtureTables$Dataset;II)V"⟩, 8), (⟨"FixtureTables$Database", "putCandidate", "(III)Z"⟩, 8), (⟨"FixtureTables$Database", "firstMissing", "(I)I"⟩, 8), (⟨"FixtureTables$Database", "firstOrphan", "(I)I"⟩, 8)]
theorem lw_r2 : ∀ q ∈ lw_privs_2, lw_okq q := List.forall_mem_cons.mpr ⟨lw_p16, List.forall_mem_cons.mpr ⟨lw_p17, List.forall_mem_cons.mpr ⟨lw_p18, List.forall_mem_cons.mpr ⟨lw_p19, List.forall_mem_cons.mpr ⟨lw_p20, List.forall_mem_cons.mpr ⟨lw_p21, List.forall_mem_cons.mpr ⟨lw_p22, List.forall_mem_cons.mpr ⟨lw_p23, List.forall_mem_cons.mpr ⟨lw_p24, List.forall_mem_cons.mpr ⟨lw_p25, List.forall_mem_cons.mpr ⟨lw_p26, List.forall_mem_cons.mpr ⟨lw_p27, List.forall_mem_cons.mpr ⟨lw_p28, List.forall_mem_cons.mpr ⟨lw_p29, List.forall_mem_cons.mpr ⟨lw_p30, List.forall_mem_cons.mpr ⟨lw_p31, fun _ h => absurd h List.not_mem_nil⟩⟩⟩⟩⟩⟩⟩⟩⟩⟩⟩⟩⟩⟩⟩⟩
theorem lw_p32 : lw_okq (⟨"FixtureTables$Comparison", "compareSection", "(LFixtureTables$Database;LFixtureTables$Dataset;IJI)V"⟩, 3) := ⟨⟨by decide +kernel, by decide +kernel⟩, List.mem_of_getElem? (i := 183) (by decide +kernel), List.mem_of_getElem? (i := 848) (by decide +kernel), List.mem_of_getElem? (i := 849) (by decide +kernel)⟩
theorem lw_p33 : lw_okq (⟨"FixtureTables$Comparison", "sortRows", "(LFixtureTables$Dataset;I)V"⟩, 3) := ⟨⟨by decide +kernel, by decide +kernel⟩, List.mem_of_getElem? (i := 183) (by decide +kernel), List.mem_of_getElem? (i := 858) (by decide +kernel), List.mem_of_getElem? (i := 859) (by decide +kernel)⟩
theorem lw_p34 : lw_okq (⟨"FixtureTables$Comparison", "keyIsLess", "(LFixtureTables$Dataset;II)Z"⟩, 3) := ⟨⟨by decide +kernel, by decide +kernel⟩, List.mem_of_getElem? (i := 183) (by decide +kernel), List.mem_of_getElem? (i := 867) (by decide +kernel), List.mem_of_getElem? (i := 868) (by decide +kernel)⟩
theorem lw_p35 : lw_okq (⟨"FixtureTables$Comparison", "add", "(III)V"⟩, 3) := ⟨⟨by decide +kernel, by decide +kernel⟩, List.mem_of_getElem? (i := 183) (by decide +kernel), List.mem_of_getElem? (i := 873) (by decide +kernel), List.mem_of_getElem? (i := 874) (by decide +kernel)⟩
theorem lw_p36 : lw_okq (⟨"FixtureTables$Comparison", "differs", "(LFixtureTables$Database;LFixtureTables$Dataset;IIIJ)Z"⟩, 3) := ⟨⟨by decide +kernel, by decide +kernel⟩, List.mem_of_getElem? (i := 183) (by decide +kernel), List.mem_of_getElem? (i := 882) (by decide +kernel), List.mem_of_getElem? (i := 883) (by decide +kernel)⟩
theorem lw_p37 : lw_okq (⟨"FixtureTables$Writer", "add", "(I)V"⟩, 2) := ⟨⟨by decide +kernel, by decide +kernel⟩, List.mem_of_getElem? (i := 200) (by decide +kernel), List.mem_of_getElem? (i := 921) (by decide +kernel), List.mem_of_getElem? (i := 922) (by decide +kernel)⟩
theorem lw_p38 : lw_okq (⟨"FixtureTables$Writer", "writeRow", "(LFixtureTables$Database;II)V"⟩, 2) := ⟨⟨by decide +kernel, by decide +kernel⟩, List.mem_of_getElem? (i := 200) (by decide +kernel), List.mem_of_getElem? (i := 927) (by decide +kernel), List.mem_of_getElem? (i := 928) (by decide +kernel)⟩
theorem lw_p39 : lw_okq (⟨"FixtureTables$Writer", "writeCell", "(IJ)V"⟩, 2) := ⟨⟨by decide +kernel, by decide +kernel⟩, List.mem_of_getElem? (i := 200) (by decide +kernel), List.mem_of_getElem? (i := 934) (by decide +kernel), List.mem_of_getElem? (i := 935) (by decide +kernel)⟩
theorem lw_p40 : lw_okq (⟨"FixtureTables$Writer", "writeText", "(J)V"⟩, 2) := ⟨⟨by decide +kernel, by decide +kernel⟩, List.mem_of_getElem? (i := 200) (by decide +kernel), List.mem_of_getElem? (i := 938) (by decide +kernel), List.mem_of_getElem? (i := 939) (by decide +kernel)⟩
theorem lw_p41 : lw_okq (⟨"FixtureTables$Writer", "writeNumber", "(IJ)V"⟩, 2) := ⟨⟨by decide +kernel, by decide +kernel⟩, List.mem_of_getElem? (i := 200) (by decide +kernel), List.mem_of_getElem? (i := 948) (by decide +kernel), List.mem_of_getElem? (i := 949) (by decide +kernel)⟩
theorem lw_p42 : lw_okq (⟨"FixtureTables$Writer", "writeWhole", "(J)V"⟩, 2) := ⟨⟨by decide +kernel, by decide +kernel⟩, List.mem_of_getElem? (i := 200) (by decide +kernel), List.mem_of_getElem? (i := 953) (by decide +kernel), List.mem_of_getElem? (i := 954) (by decide +kernel)⟩
theorem lw_p43 : lw_okq (⟨"FixtureTablesModel", "isTable", "(I)Z"⟩, 47) := ⟨⟨by decide +kernel, by decide +kernel⟩, List.mem_of_getElem? (i := 968) (by decide +kernel), List.mem_of_getElem? (i := 1128) (by decide +kernel), List.mem_of_getElem? (i := 1129) (by decide +kernel)⟩
theorem lw_p44 : lw_okq (⟨"FixtureTablesModel", "isParent", "(III)Z"⟩, 47) := ⟨⟨by decide +kernel, by decide +kernel⟩, List.mem_of_getElem? (i := 968) (by decide +kernel), List.mem_of_getElem? (i := 1132) (by decide +kernel), List.mem_of_getElem? (i := 1133) (by decide +kernel)⟩
theorem lw_p45 : lw_okq (⟨"FixtureTablesModel", "readSection", "()Z"⟩, 47) := ⟨⟨by decide +kernel, by decide +kernel⟩, List.mem_of_getElem? (i := 968) (by decide +kernel), List.mem_of_getElem? (i := 1148) (by decide +kernel), List.mem_of_getElem? (i := 1149) (by decide +kernel)⟩
theorem lw_p46 : lw_okq (⟨"FixtureTablesModel", "peek", "()I"⟩, 47) := ⟨⟨by decide +kernel, by decide +kernel⟩, List.mem_of_getElem? (i := 968) (by decide +kernel), List.mem_of_getElem? (i := 1152) (by decide +kernel), List.mem_of_getElem? (i := 1153) (by decide +kernel)⟩
theorem lw_p47 : lw_okq (⟨"FixtureTablesModel", "isDigit", "()Z"⟩, 47) := ⟨⟨by decide +kernel, by decide +kernel⟩, List.mem_of_getElem? (i := 968) (by decide +kernel), List.mem_of_getElem? (i := 1156) (by decide +kernel), List.mem_of_getElem? (i := 1157) (by decide +kernel)⟩
def lw_privs_3 : List (MethodName × Nat) := [(⟨"FixtureTables$Comparison", "compareSection", "(LFixtureTables$Database;LFixtureTables$Dataset;IJI)V"⟩, 3), (⟨"FixtureTables$Comparison", "sortRows", "(LFixtureTables$Dataset;I)V"⟩, 3), (⟨"FixtureTables$Comparison", "keyIsLess", "(LFixtureTables$Dataset;II)Z"⟩, 3), (⟨"FixtureTables$Comparison", "add", "(III)V"⟩, 3), (⟨"FixtureTables$Comparison", "differs", "(LFixtureTables$Database;LFixtureTables$Dataset;IIIJ)Z"⟩, 3), (⟨"FixtureTables$Writer", "add", "(I)V"⟩, 2), (⟨"FixtureTables$Writer", "writeRow", "(LFixtureTables$Database;II)V"⟩, 2), (⟨"FixtureTables$Writer", "writeCell", "(IJ)V"⟩, 2), (⟨"FixtureTables$Writer", "writeText", "(J)V"⟩, 2), (⟨"FixtureTables$Writer", "writeNumber", "(IJ)V"⟩, 2), (⟨"FixtureTables$Writer", "writeWhole", "(J)V"⟩, 2), (⟨"FixtureTablesModel", "isTable", "(I)Z"⟩, 47), (⟨"FixtureTablesModel", "isParent", "(III)Z"⟩, 47), (⟨"FixtureTablesModel", "readSection", "()Z"⟩, 47), (⟨"FixtureTablesModel", "peek", "()I"⟩, 47), (⟨"FixtureTablesModel", "isDigit", "()Z"⟩, 47)]
theorem lw_r3 : ∀ q ∈ lw_privs_3, lw_okq q := List.forall_mem_cons.mpr ⟨lw_p32, List.forall_mem_cons.mpr ⟨lw_p33, List.forall_mem_cons.mpr ⟨lw_p34, List.forall_mem_cons.mpr ⟨lw_p35, List.forall_mem_cons.mpr ⟨lw_p36, List.forall_mem_cons.mpr ⟨lw_p37, List.forall_mem_cons.mpr ⟨lw_p38, List.forall_mem_cons.mpr ⟨lw_p39, List.forall_mem_cons.mpr ⟨lw_p40, List.forall_mem_cons.mpr ⟨lw_p41, List.forall_mem_cons.mpr ⟨lw_p42, List.forall_mem_cons.mpr ⟨lw_p43, List.forall_mem_cons.mpr ⟨lw_p44, List.forall_mem_cons.mpr ⟨lw_p45, List.forall_mem_cons.mpr ⟨lw_p46, List.forall_mem_cons.mpr ⟨lw_p47, fun _ h => absurd h List.not_mem_nil⟩⟩⟩⟩⟩⟩⟩⟩⟩⟩⟩⟩⟩⟩⟩⟩
theorem lw_p48 : lw_okq (⟨"FixtureTablesModel", "skips", "(I)Z"⟩, 47) := ⟨⟨by decide +kernel, by decide +kernel⟩, List.mem_of_getElem? (i := 968) (by decide +kernel), List.mem_of_getElem? (i := 1160) (by decide +kernel), List.mem_of_getElem? (i := 1161) (by decide +kernel)⟩
theorem lw_p49 : lw_okq (⟨"FixtureTablesModel", "readColumns", "(I)Z"⟩, 47) := ⟨⟨by decide +kernel, by decide +kernel⟩, List.mem_of_getElem? (i := 968) (by decide +kernel), List.mem_of_getElem? (i := 1164) (by decide +kernel), List.mem_of_getElem? (i := 1165) (by decide +kernel)⟩
theorem lw_p50 : lw_okq (⟨"FixtureTablesModel", "readRow", "(I)Z"⟩, 47) := ⟨⟨by decide +kernel, by decide +kernel⟩, List.mem_of_getElem? (i := 968) (by decide +kernel), List.mem_of_getElem? (i := 1168) (by decide +kernel), List.mem_of_getElem? (i := 1169) (by decide +kernel)⟩
theorem lw_p51 : lw_okq (⟨"FixtureTablesModel", "readCell", "(II)Z"⟩, 47) := ⟨⟨by decide +kernel, by decide +kernel⟩, List.mem_of_getElem? (i := 968) (by decide +kernel), List.mem_of_getElem? (i := 1172) (by decide +kernel), List.mem_of_getElem? (i := 1173) (by decide +kernel)⟩
theorem lw_p52 : lw_okq (⟨"FixtureTablesModel", "put", "(IJZ)V"⟩, 47) := ⟨⟨by decide +kernel, by decide +kernel⟩, List.mem_of_getElem? (i := 968) (by decide +kernel), List.mem_of_getElem? (i := 1176) (by decide +kernel), List.mem_of_getElem? (i := 1177) (by decide +kernel)⟩
theorem lw_p53 : lw_okq (⟨"FixtureTablesModel", "readNumber", "(IZ)Z"⟩, 47) := ⟨⟨by decide +kernel, by decide +kernel⟩, List.mem_of_getElem? (i := 968) (by decide +kernel), List.mem_of_getElem? (i := 1180) (by decide +kernel), List.mem_of_getElem? (i := 1181) (by decide +kernel)⟩
theorem lw_p54 : lw_okq (⟨"FixtureTablesModel", "digits", "(I)J"⟩, 47) := ⟨⟨by decide +kernel, by decide +kernel⟩, List.mem_of_getElem? (i := 968) (by decide +kernel), List.mem_of_getElem? (i := 1184) (by decide +kernel), List.mem_of_getElem? (i := 1185) (by decide +kernel)⟩
theorem lw_p55 : lw_okq (⟨"FixtureTablesModel", "readQuoted", "(I)Z"⟩, 47) := ⟨⟨by decide +kernel, by decide +kernel⟩, List.mem_of_getElem? (i := 968) (by decide +kernel), List.mem_of_getElem? (i := 1192) (by decide +kernel), List.mem_of_getElem? (i := 1193) (by decide +kernel)⟩
theorem lw_p56 : lw_okq (⟨"FixtureTablesModel", "readLetters", "(I)Z"⟩, 47) := ⟨⟨by decide +kernel, by decide +kernel⟩, List.mem_of_getElem? (i := 968) (by decide +kernel), List.mem_of_getElem? (i := 1196) (by decide +kernel), List.mem_of_getElem? (i := 1197) (by decide +kernel)⟩
theorem lw_p57 : lw_okq (⟨"FixtureTablesModel", "isLetter", "()Z"⟩, 47) := ⟨⟨by decide +kernel, by decide +kernel⟩, List.mem_of_getElem? (i := 968) (by decide +kernel), List.mem_of_getElem? (i := 1200) (by decide +kernel), List.mem_of_getElem? (i := 1201) (by decide +kernel)⟩
theorem lw_p58 : lw_okq (⟨"FixtureTablesModel", "fail", "(I)I"⟩, 47) := ⟨⟨by decide +kernel, by decide +kernel⟩, List.mem_of_getElem? (i := 968) (by decide +kernel), List.mem_of_getElem? (i := 1204) (by decide +kernel), List.mem_of_getElem? (i := 1205) (by decide +kernel)⟩
theorem lw_p59 : lw_okq (⟨"FixtureTablesModel", "ordered", "()Z"⟩, 47) := ⟨⟨by decide +kernel, by decide +kernel⟩, List.mem_of_getElem? (i := 968) (by decide +kernel), List.mem_of_getElem? (i := 1216) (by decide +kernel), List.mem_of_getElem? (i := 1217) (by decide +kernel)⟩
theorem lw_p60 : lw_okq (⟨"FixtureTablesModel", "isFree", "(II)Z"⟩, 47) := ⟨⟨by decide +kernel, by decide +kernel⟩, List.mem_of_getElem? (i := 968) (by decide +kernel), List.mem_of_getElem? (i := 1220) (by decide +kernel), List.mem_of_getElem? (i := 1221) (by decide +kernel)⟩
theorem lw_p61 : lw_okq (⟨"FixtureTablesModel", "keep", "(I)V"⟩, 47) := ⟨⟨by decide +kernel, by decide +kernel⟩, List.mem_of_getElem? (i := 968) (by decide +kernel), List.mem_of_getElem? (i := 1228) (by decide +kernel), List.mem_of_getElem? (i := 1229) (by decide +kernel)⟩
theorem lw_p62 : lw_okq (⟨"FixtureTablesModel", "undo", "(I)V"⟩, 47) := ⟨⟨by decide +kernel, by decide +kernel⟩, List.mem_of_getElem? (i := 968) (by decide +kernel), List.mem_of_getElem? (i := 1240) (by decide +kernel), List.mem_of_getElem? (i := 1241) (by decide +kernel)⟩
theorem lw_p63 : lw_okq (⟨"FixtureTablesModel", "because", "(IIII)Z"⟩, 47) := ⟨⟨by decide +kernel, by decide +kernel⟩, List.mem_of_getElem? (i := 968) (by decide +kernel), List.mem_of_getElem? (i := 1248) (by decide +kernel), List.mem_of_getElem? (i := 1249) (by decide +kernel)⟩
def lw_privs_4 : List (MethodName × Nat) := [(⟨"FixtureTablesModel", "skips", "(I)Z"⟩, 47), (⟨"FixtureTablesModel", "readColumns", "(I)Z"⟩, 47), (⟨"FixtureTablesModel", "readRow", "(I)Z"⟩, 47), (⟨"FixtureTablesModel", "readCell", "(II)Z"⟩, 47), (⟨"FixtureTablesModel", "put", "(IJZ)V"⟩, 47), (⟨"FixtureTablesModel", "readNumber", "(IZ)Z"⟩, 47), (⟨"FixtureTablesModel", "digits", "(I)J"⟩, 47), (⟨"FixtureTablesModel", "readQuoted", "(I)Z"⟩, 47), (⟨"FixtureTablesModel", "readLetters", "(I)Z"⟩, 47), (⟨"FixtureTablesModel", "isLetter", "()Z"⟩, 47), (⟨"FixtureTablesModel", "fail", "(I)I"⟩, 47), (⟨"FixtureTablesModel", "ordered", "()Z"⟩, 47), (⟨"FixtureTablesModel", "isFree", "(II)Z"⟩, 47), (⟨"FixtureTablesModel", "keep", "(I)V"⟩, 47), (⟨"FixtureTablesModel", "undo", "(I)V"⟩, 47), (⟨"FixtureTablesModel", "because", "(IIII)Z"⟩, 47)]
theorem lw_r4 : ∀ q ∈ lw_privs_4, lw_okq q := List.forall_mem_cons.mpr ⟨lw_p48, List.forall_mem_cons.mpr ⟨lw_p49, List.forall_mem_cons.mpr ⟨lw_p50, List.forall_mem_cons.mpr ⟨lw_p51, List.forall_mem_cons.mpr ⟨lw_p52, List.forall_mem_cons.mpr ⟨lw_p53, List.forall_mem_cons.mpr ⟨lw_p54, List.forall_mem_cons.mpr ⟨lw_p55, List.forall_mem_cons.mpr ⟨lw_p56, List.forall_mem_cons.mpr ⟨lw_p57, List.forall_mem_cons.mpr ⟨lw_p58, List.forall_mem_cons.mpr ⟨lw_p59, List.forall_mem_cons.mpr ⟨lw_p60, List.forall_mem_cons.mpr ⟨lw_p61, List.forall_mem_cons.mpr ⟨lw_p62, List.forall_mem_cons.mpr ⟨lw_p63, fun _ h => absurd h List.not_mem_nil⟩⟩⟩⟩⟩⟩⟩⟩⟩⟩⟩⟩⟩⟩⟩⟩
theorem lw_p64 : lw_okq (⟨"FixtureTablesModel", "perform", "(I)Z"⟩, 47) := ⟨⟨by decide +kernel, by decide +kernel⟩, List.mem_of_getElem? (i := 968) (by decide +kernel), List.mem_of_getElem? (i := 1252) (by decide +kernel), List.mem_of_getElem? (i := 1253) (by decide +kernel)⟩
theorem lw_p65 : lw_okq (⟨"FixtureTablesModel", "change", "(IIII)Z"⟩, 47) := ⟨⟨by decide +kernel, by decide +kernel⟩, List.mem_of_getElem? (i := 968) (by decide +kernel), List.mem_of_getElem? (i := 1256) (by decide +kernel), List.mem_of_getElem? (i := 1257) (by decide +kernel)⟩
theorem lw_p66 : lw_okq (⟨"FixtureTablesModel", "keyOf", "(I)I"⟩, 47) := ⟨⟨by decide +kernel, by decide +kernel⟩, List.mem_of_getElem? (i := 968) (by decide +kernel), List.mem_of_getElem? (i := 1260) (by decide +kernel), List.mem_of_getElem? (i := 1261) (by decide +kernel)⟩
theorem lw_p67 : lw_okq (⟨"FixtureTablesModel", "find", "(IJ)I"⟩, 47) := ⟨⟨by decide +kernel, by decide +kernel⟩, List.mem_of_getElem? (i := 968) (by decide +kernel), List.mem_of_getElem? (i := 1264) (by decide +kernel), List.mem_of_getElem? (i := 1265) (by decide +kernel)⟩
theorem lw_p68 : lw_okq (⟨"FixtureTablesModel", "isReferred", "(II)Z"⟩, 47) := ⟨⟨by decide +kernel, by decide +kernel⟩, List.mem_of_getElem? (i := 968) (by decide +kernel), List.mem_of_getElem? (i := 1268) (by decide +kernel), List.mem_of_getElem? (i := 1269) (by decide +kernel)⟩
theorem lw_p69 : lw_okq (⟨"FixtureTablesModel", "log", "(I)Z"⟩, 47) := ⟨⟨by decide +kernel, by decide +kernel⟩, List.mem_of_getElem? (i := 968) (by decide +kernel), List.mem_of_getElem? (i := 1272) (by decide +kernel), List.mem_of_getElem? (i := 1273) (by decide +kernel)⟩
theorem lw_p70 : lw_okq (⟨"FixtureTablesModel", "remove", "(II)V"⟩, 47) := ⟨⟨by decide +kernel, by decide +kernel⟩, List.mem_of_getElem? (i := 968) (by decide +kernel), List.mem_of_getElem? (i := 1276) (by decide +kernel), List.mem_of_getElem? (i := 1277) (by decide +kernel)⟩
theorem lw_p71 : lw_okq (⟨"FixtureTablesModel", "build", "(IIII)V"⟩, 47) := ⟨⟨by decide +kernel, by decide +kernel⟩, List.mem_of_getElem? (i := 968) (by decide +kernel), List.mem_of_getElem? (i := 1280) (by decide +kernel), List.mem_of_getElem? (i := 1281) (by decide +kernel)⟩
theorem lw_p72 : lw_okq (⟨"FixtureTablesModel", "checkRow", "(II)Z"⟩, 47) := ⟨⟨by decide +kernel, by decide +kernel⟩, List.mem_of_getElem? (i := 968) (by decide +kernel), List.mem_of_getElem? (i := 1284) (by decide +kernel), List.mem_of_getElem? (i := 1285) (by decide +kernel)⟩
theorem lw_p73 : lw_okq (⟨"FixtureTablesModel", "store", "(II)V"⟩, 47) := ⟨⟨by decide +kernel, by decide +kernel⟩, List.mem_of_getElem? (i := 968) (by decide +kernel), List.mem_of_getElem? (i := 1288) (by decide +kernel), List.mem_of_getElem? (i := 1289) (by decide +kernel)⟩
theorem lw_p74 : lw_okq (⟨"FixtureTablesModel", "removeAll", "()Z"⟩, 47) := ⟨⟨by decide +kernel, by decide +kernel⟩, List.mem_of_getElem? (i := 968) (by decide +kernel), List.mem_of_getElem? (i := 1292) (by decide +kernel), List.mem_of_getElem? (i := 1293) (by decide +kernel)⟩
theorem lw_p75 : lw_okq (⟨"FixtureTablesModel", "hasSection", "(I)Z"⟩, 47) := ⟨⟨by decide +kernel, by decide +kernel⟩, List.mem_of_getElem? (i := 968) (by decide +kernel), List.mem_of_getElem? (i := 1296) (by decide +kernel), List.mem_of_getElem? (i := 1297) (by decide +kernel)⟩
theorem lw_p76 : lw_okq (⟨"FixtureTablesModel", "hasChild", "(I)Z"⟩, 47) := ⟨⟨by decide +kernel, by decide +kernel⟩, List.mem_of_getElem? (i := 968) (by decide +kernel), List.mem_of_getElem? (i := 1300) (by decide +kernel), List.mem_of_getElem? (i := 1301) (by decide +kernel)⟩
theorem lw_p77 : lw_okq (⟨"FixtureTablesModel", "placeOf", "(III)I"⟩, 47) := ⟨⟨by decide +kernel, by decide +kernel⟩, List.mem_of_getElem? (i := 968) (by decide +kernel), List.mem_of_getElem? (i := 1316) (by decide +kernel), List.mem_of_getElem? (i := 1317) (by decide +kernel)⟩
theorem lw_p78 : lw_okq (⟨"FixtureTablesModel", "compareSection", "(IJI)V"⟩, 47) := ⟨⟨by decide +kernel, by decide +kernel⟩, List.mem_of_getElem? (i := 968) (by decide +kernel), List.mem_of_getElem? (i := 1328) (by decide +kernel), List.mem_of_getElem? (i := 1329) (by decide +kernel)⟩
theorem lw_p79 : lw_okq (⟨"FixtureTablesModel", "sort", "(I)V"⟩, 47) := ⟨⟨by decide +kernel, by decide +kernel⟩, List.mem_of_getElem? (i := 968) (by decide +kernel), List.mem_of_getElem? (i := 1332) (by decide +kernel), List.mem_of_getElem? (i := 1333) (by decide +kernel)⟩
def lw_privs_5 : List (MethodName × Nat) := [(⟨"FixtureTablesModel", "perform", "(I)Z"⟩, 47), (⟨"FixtureTablesModel", "change", "(IIII)Z"⟩, 47), (⟨"FixtureTablesModel", "keyOf", "(I)I"⟩, 47), (⟨"FixtureTablesModel", "find", "(IJ)I"⟩, 47), (⟨"FixtureTablesModel", "isReferred", "(II)Z"⟩, 47), (⟨"FixtureTablesModel", "log", "(I)Z"⟩, 47), (⟨"FixtureTablesModel", "remove", "(II)V"⟩, 47), (⟨"FixtureTablesModel", "build", "(IIII)V"⟩, 47), (⟨"FixtureTablesModel", "checkRow", "(II)Z"⟩, 47), (⟨"FixtureTablesModel", "store", "(II)V"⟩, 47), (⟨"FixtureTablesModel", "removeAll", "()Z"⟩, 47), (⟨"FixtureTablesModel", "hasSection", "(I)Z"⟩, 47), (⟨"FixtureTablesModel", "hasChild", "(I)Z"⟩, 47), (⟨"FixtureTablesModel", "placeOf", "(III)I"⟩, 47), (⟨"FixtureTablesModel", "compareSection", "(IJI)V"⟩, 47), (⟨"FixtureTablesModel", "sort", "(I)V"⟩, 47)]
theorem lw_r5 : ∀ q ∈ lw_privs_5, lw_okq q := List.forall_mem_cons.mpr ⟨lw_p64, List.forall_mem_cons.mpr ⟨lw_p65, List.forall_mem_cons.mpr ⟨lw_p66, List.forall_mem_cons.mpr ⟨lw_p67, List.forall_mem_cons.mpr ⟨lw_p68, List.forall_mem_cons.mpr ⟨lw_p69, List.forall_mem_cons.mpr ⟨lw_p70, List.forall_mem_cons.mpr ⟨lw_p71, List.forall_mem_cons.mpr ⟨lw_p72, List.forall_mem_cons.mpr ⟨lw_p73, List.forall_mem_cons.mpr ⟨lw_p74, List.forall_mem_cons.mpr ⟨lw_p75, List.forall_mem_cons.mpr ⟨lw_p76, List.forall_mem_cons.mpr ⟨lw_p77, List.forall_mem_cons.mpr ⟨lw_p78, List.forall_mem_cons.mpr ⟨lw_p79, fun _ h => absurd h List.not_mem_nil⟩⟩⟩⟩⟩⟩⟩⟩⟩⟩⟩⟩⟩⟩⟩⟩
theorem lw_p80 : lw_okq (⟨"FixtureTablesModel", "isBefore", "(II)Z"⟩, 47) := ⟨⟨by decide +kernel, by decide +kernel⟩, List.mem_of_getElem? (i := 968) (by decide +kernel), List.mem_of_getElem? (i := 1336) (by decide +kernel), List.mem_of_getElem? (i := 1337) (by decide +kernel)⟩
theorem lw_p81 : lw_okq (⟨"FixtureTablesModel", "differ", "(III)V"⟩, 47) := ⟨⟨by decide +kernel, by decide +kernel⟩, List.mem_of_getElem? (i := 968) (by decide +kernel), List.mem_of_getElem? (i := 1340) (by decide +kernel), List.mem_of_getElem? (i := 1341) (by decide +kernel)⟩
theorem lw_p82 : lw_okq (⟨"FixtureTablesModel", "isOther", "(IIIJ)Z"⟩, 47) := ⟨⟨by decide +kernel, by decide +kernel⟩, List.mem_of_getElem? (i := 968) (by decide +kernel), List.mem_of_getElem? (i := 1344) (by decide +kernel), List.mem_of_getElem? (i := 1345) (by decide +kernel)⟩
theorem lw_p83 : lw_okq (⟨"FixtureTablesModel", "say", "(I)V"⟩, 47) := ⟨⟨by decide +kernel, by decide +kernel⟩, List.mem_of_getElem? (i := 968) (by decide +kernel), List.mem_of_getElem? (i := 1356) (by decide +kernel), List.mem_of_getElem? (i := 1357) (by decide +kernel)⟩
theorem lw_p84 : lw_okq (⟨"FixtureTablesModel", "sayValue", "(IJ)V"⟩, 47) := ⟨⟨by decide +kernel, by decide +kernel⟩, List.mem_of_getElem? (i := 968) (by decide +kernel), List.mem_of_getElem? (i := 1360) (by decide +kernel), List.mem_of_getElem? (i := 1361) (by decide +kernel)⟩
theorem lw_p85 : lw_okq (⟨"FixtureTablesModel", "sayText", "(J)V"⟩, 47) := ⟨⟨by decide +kernel, by decide +kernel⟩, List.mem_of_getElem? (i := 968) (by decide +kernel), List.mem_of_getElem? (i := 1364) (by decide +kernel), List.mem_of_getElem? (i := 1365) (by decide +kernel)⟩
theorem lw_p86 : lw_okq (⟨"FixtureTablesModel", "sayNumber", "(J)V"⟩, 47) := ⟨⟨by decide +kernel, by decide +kernel⟩, List.mem_of_getElem? (i := 968) (by decide +kernel), List.mem_of_getElem? (i := 1369) (by decide +kernel), List.mem_of_getElem? (i := 1370) (by decide +kernel)⟩
def lw_privs_6 : List (MethodName × Nat) := [(⟨"FixtureTablesModel", "isBefore", "(II)Z"⟩, 47), (⟨"FixtureTablesModel", "differ", "(III)V"⟩, 47), (⟨"FixtureTablesModel", "isOther", "(IIIJ)Z"⟩, 47), (⟨"FixtureTablesModel", "say", "(I)V"⟩, 47), (⟨"FixtureTablesModel", "sayValue", "(IJ)V"⟩, 47), (⟨"FixtureTablesModel", "sayText", "(J)V"⟩, 47), (⟨"FixtureTablesModel", "sayNumber", "(J)V"⟩, 47)]
theorem lw_r6 : ∀ q ∈ lw_privs_6, lw_okq q := List.forall_mem_cons.mpr ⟨lw_p80, List.forall_mem_cons.mpr ⟨lw_p81, List.forall_mem_cons.mpr ⟨lw_p82, List.forall_mem_cons.mpr ⟨lw_p83, List.forall_mem_cons.mpr ⟨lw_p84, List.forall_mem_cons.mpr ⟨lw_p85, List.forall_mem_cons.mpr ⟨lw_p86, fun _ h => absurd h List.not_mem_nil⟩⟩⟩⟩⟩⟩⟩
def lw_privs : List (MethodName × Nat) := lw_privs_1 ++ (lw_privs_2 ++ (lw_privs_3 ++ (lw_privs_4 ++ (lw_privs_5 ++ (lw_privs_6)))))
def lw_tbl : List Cond := k2_sels lw_privs ++ tables_1
theorem lw_privs_ok : ∀ q ∈ lw_privs, lw_okq q := by
  show ∀ q ∈ lw_privs_1 ++ (lw_privs_2 ++ (lw_privs_3 ++ (lw_privs_4 ++ (lw_privs_5 ++ (lw_privs_6))))), lw_okq q
  exact List.forall_mem_append.mpr ⟨lw_r1, List.forall_mem_append.mpr ⟨lw_r2, List.forall_mem_append.mpr ⟨lw_r3, List.forall_mem_append.mpr ⟨lw_r4, List.forall_mem_append.mpr ⟨lw_r5, lw_r6⟩⟩⟩⟩⟩
def ai_T0 : u_T := fun k => match k with
  | 0 => ("FixtureTables", "database", "LFixtureTables$Database;", true)
  | 1 => ("FixtureTables", "reader", "LFixtureTables$Reader;", true)
  | 2 => ("FixtureTables", "comparison", "LFixtureTables$Comparison;", true)
  | 3 => ("FixtureTables", "writer", "LFixtureTables$Writer;", true)
  | 4 => ("FixtureTables", "dataset", "LFixtureTables$Dataset;", false)
  | 5 => ("FixtureTables", "spare", "LFixtureTables$Dataset;", false)
  | 6 => ("FixtureTables", "datasetKnown", "Z", false)
  | _ => ("FixtureTables", "faultPlace", "I", false)
def ai_T1 : u_T := fun k => match k with
  | 0 => ("FixtureTables$Comparison", "found", "I", false)
  | 1 => ("FixtureTables$Comparison", "parts", "[I", true)
  | _ => ("FixtureTables$Comparison", "sorted", "[I", true)
def ai_T2 : u_T := fun k => match k with
  | 0 => ("FixtureTables$Database", "schema", "LFixtureTables$Schema;", true)
  | 1 => ("FixtureTables$Database", "store", "LFixtureTables$Store;", true)
  | 2 => ("FixtureTables$Database", "log", "LFixtureTables$Log;", true)
  | 3 => ("FixtureTables$Database", "failure", "[I", true)
  | 4 => ("FixtureTables$Database", "made", "I", false)
  | 5 => ("FixtureTables$Database", "before", "LFixtureTables$Store;", true)
  | 6 => ("FixtureTables$Database", "candidate", "LFixtureTables$Row;", true)
  | _ => ("FixtureTables$Database", "changesBefore", "I", false)
def ai_T3 : u_T := fun k => match k with
  | 0 => ("FixtureTables$Dataset", "sections", "I", false)
  | 1 => ("FixtureTables$Dataset", "rowCount", "I", false)
  | 2 => ("FixtureTables$Dataset", "tables", "[I", true)
  | 3 => ("FixtureTables$Dataset", "widths", "[I", true)
  | 4 => ("FixtureTables$Dataset", "columns", "[I", true)
  | 5 => ("FixtureTables$Dataset", "named", "[I", true)
  | 6 => ("FixtureTables$Dataset", "firstRows", "[I", true)
  | 7 => ("FixtureTables$Dataset", "rowSections", "[I", true)
  | 8 => ("FixtureTables$Dataset", "cells", "[J", true)
  | _ => ("FixtureTables$Dataset", "nulls", "[I", true)
def ai_T4 : u_T := fun k => match k with
  | 0 => ("FixtureTables$Log", "open", "I", false)
  | 1 => ("FixtureTables$Log", "changes", "I", false)
  | 2 => ("FixtureTables$Log", "starts", "[LFixtureTables$Store;", true)
  | _ => ("FixtureTables$Log", "startChanges", "[I", true)
def ai_T5 : u_T := fun k => match k with
  | 0 => ("FixtureTables$Reader", "length", "I", false)
  | 1 => ("FixtureTables$Reader", "at", "I", false)
  | 2 => ("FixtureTables$Reader", "text", "[C", true)
  | 3 => ("FixtureTables$Reader", "cell", "J", false)
  | _ => ("FixtureTables$Reader", "cellIsNull", "Z", false)
def ai_T6 : u_T := fun k => match k with
  | 0 => ("FixtureTables$Row", "cells", "[J", true)
  | _ => ("FixtureTables$Row", "nulls", "I", false)
def ai_T7 : u_T := fun k => match k with
  | 0 => ("FixtureTables$Schema", "tables", "I", false)
  | 1 => ("FixtureTables$Schema", "sequence", "[I", true)
  | 2 => ("FixtureTables$Schema", "widths", "[I", true)
  | 3 => ("FixtureTables$Schema", "types", "[I", true)
  | 4 => ("FixtureTables$Schema", "parents", "[I", true)
  | _ => ("FixtureTables$Schema", "required", "[Z", true)
def ai_T8 : u_T := fun k => match k with
  | 0 => ("FixtureTables$Store", "counts", "[I", true)
  | 1 => ("FixtureTables$Store", "cells", "[J", true)
  | _ => ("FixtureTables$Store", "nulls", "[I", true)
def ai_T9 : u_T := fun k => match k with
  | 0 => ("FixtureTables$Writer", "length", "I", false)
  | _ => ("FixtureTables$Writer", "characters", "[C", true)
def ai_T10 : u_T := fun k => match k with
  | 0 => ("FixtureTablesModel", "code", "I", false)
  | 1 => ("FixtureTablesModel", "tables", "I", false)
  | 2 => ("FixtureTablesModel", "columns", "[I", true)
  | 3 => ("FixtureTablesModel", "type", "[I", true)
  | 4 => ("FixtureTablesModel", "required", "[Z", true)
  | 5 => ("FixtureTablesModel", "parent", "[I", true)
  | 6 => ("FixtureTablesModel", "many", "[I", true)
  | 7 => ("FixtureTablesModel", "value", "[J", true)
  | 8 => ("FixtureTablesModel", "none", "[Z", true)
  | 9 => ("FixtureTablesModel", "oldValue", "[J", true)
  | 10 => ("FixtureTablesModel", "oldNone", "[Z", true)
  | 11 => ("FixtureTablesModel", "oldMany", "[I", true)
  | 12 => ("FixtureTablesModel", "oldLogged", "[I", true)
  | 13 => ("FixtureTablesModel", "open", "I", false)
  | 14 => ("FixtureTablesModel", "logged", "I", false)
  | 15 => ("FixtureTablesModel", "typed", "I", false)
  | 16 => ("FixtureTablesModel", "text", "[I", true)
  | 17 => ("FixtureTablesModel", "at", "I", false)
  | 18 => ("FixtureTablesModel", "fault", "I", false)
  | 19 => ("FixtureTablesModel", "there", "Z", false)
  | 20 => ("FixtureTablesModel", "sections", "I", false)
  | 21 => ("FixtureTablesModel", "data", "I", false)
  | 22 => ("FixtureTablesModel", "sectionTable", "[I", true)
  | 23 => ("FixtureTablesModel", "sectionWide", "[I", true)
  | 24 => ("FixtureTablesModel", "sectionFirst", "[I", true)
  | 25 => ("FixtureTablesModel", "sectionColumn", "[I", true)
  | 26 => ("FixtureTablesModel", "cell", "[J", true)
  | 27 => ("FixtureTablesModel", "cellNone", "[Z", true)
  | 28 => ("FixtureTablesModel", "newSections", "I", false)
  | 29 => ("FixtureTablesModel", "newData", "I", false)
  | 30 => ("FixtureTablesModel", "newTable", "[I", true)
  | 31 => ("FixtureTablesModel", "newWide", "[I", true)
  | 32 => ("FixtureTablesModel", "newFirst", "[I", true)
  | 33 => ("FixtureTablesModel", "newColumn", "[I", true)
  | 34 => ("FixtureTablesModel", "newCell", "[J", true)
  | 35 => ("FixtureTablesModel", "newNone", "[Z", true)
  | 36 => ("FixtureTablesModel", "order", "[I", true)
  | 37 => ("FixtureTablesModel", "changes", "I", false)
  | 38 => ("FixtureTablesModel", "why", "[I", true)
  | 39 => ("FixtureTablesModel", "row", "[J", true)
  | 40 => ("FixtureTablesModel", "rowNone", "[Z", true)
  | 41 => ("FixtureTablesModel", "differences", "I", false)
  | 42 => ("FixtureTablesModel", "compared", "Z", false)
  | 43 => ("FixtureTablesModel", "difference", "[I", true)
  | 44 => ("FixtureTablesModel", "sorted", "[I", true)
  | 45 => ("FixtureTablesModel", "written", "I", false)
  | _ => ("FixtureTablesModel", "output", "[I", true)
def vwCl : List vw_C := [("FixtureTables", ai_T0, 8), ("FixtureTables$Comparison", ai_T1, 3), ("FixtureTables$Database", ai_T2, 8), ("FixtureTables$Dataset", ai_T3, 10), ("FixtureTables$Log", ai_T4, 4), ("FixtureTables$Reader", ai_T5, 5), ("FixtureTables$Row", ai_T6, 2), ("FixtureTables$Schema", ai_T7, 6), ("FixtureTables$Store", ai_T8, 3), ("FixtureTables$Writer", ai_T9, 2), ("FixtureTablesModel", ai_T10, 47)]
def ai_Store : String := "FixtureTables$Store"
def ai_y0 : MethodName := ⟨"FixtureTables", "<init>", "()V"⟩
def ai_y1 : MethodName := ⟨"FixtureTables", "table", "()I"⟩
def ai_y2 : MethodName := ⟨"FixtureTables", "column", "(IIZI)I"⟩
def ai_y3 : MethodName := ⟨"FixtureTables", "type", "(C)Z"⟩
def ai_y4 : MethodName := ⟨"FixtureTables", "wipe", "()V"⟩
def ai_y5 : MethodName := ⟨"FixtureTables", "read", "()I"⟩
def ai_y6 : MethodName := ⟨"FixtureTables", "fault", "()I"⟩
def ai_y7 : MethodName := ⟨"FixtureTables", "order", "(I)I"⟩
def ai_y8 : MethodName := ⟨"FixtureTables", "apply", "(I)I"⟩
def ai_y9 : MethodName := ⟨"FixtureTables", "failure", "(I)I"⟩
def ai_y10 : MethodName := ⟨"FixtureTables", "rows", "(I)I"⟩
def ai_y11 : MethodName := ⟨"FixtureTables", "value", "(III)J"⟩
def ai_y12 : MethodName := ⟨"FixtureTables", "isNull", "(III)Z"⟩
def ai_y13 : MethodName := ⟨"FixtureTables", "begin", "()I"⟩
def ai_y14 : MethodName := ⟨"FixtureTables", "commit", "()I"⟩
def ai_y15 : MethodName := ⟨"FixtureTables", "rollback", "()I"⟩
def ai_y16 : MethodName := ⟨"FixtureTables", "compare", "(JI)I"⟩
def ai_y17 : MethodName := ⟨"FixtureTables", "difference", "(II)I"⟩
def ai_y18 : MethodName := ⟨"FixtureTables", "write", "(I)I"⟩
def ai_y19 : MethodName := ⟨"FixtureTables", "written", "(I)C"⟩
def ai_y20 : MethodName := ⟨"FixtureTables$Comparison", "<init>", "()V"⟩
def ai_y21 : MethodName := ⟨"FixtureTables$Comparison", "forget", "()V"⟩
def ai_y22 : MethodName := ⟨"FixtureTables$Comparison", "kept", "()I"⟩
def ai_y23 : MethodName := ⟨"FixtureTables$Comparison", "part", "(II)I"⟩
def ai_y24 : MethodName := ⟨"FixtureTables$Comparison", "run", "(LFixtureTables$Database;LFixtureTables$Dataset;JI)V"⟩
def ai_y25 : MethodName := ⟨"FixtureTables$Comparison", "compareSection", "(LFixtureTables$Database;LFixtureTables$Dataset;IJI)V"⟩
def ai_y26 : MethodName := ⟨"FixtureTables$Comparison", "sortRows", "(LFixtureTables$Dataset;I)V"⟩
def ai_y27 : MethodName := ⟨"FixtureTables$Comparison", "keyIsLess", "(LFixtureTables$Dataset;II)Z"⟩
def ai_y28 : MethodName := ⟨"FixtureTables$Comparison", "differs", "(LFixtureTables$Database;LFixtureTables$Dataset;IIIJ)Z"⟩
def ai_y29 : MethodName := ⟨"FixtureTables$Comparison", "add", "(III)V"⟩
def ai_y30 : MethodName := ⟨"FixtureTables$Database", "<init>", "()V"⟩
def ai_y31 : MethodName := ⟨"FixtureTables$Database", "hasCell", "(III)Z"⟩
def ai_y32 : MethodName := ⟨"FixtureTables$Database", "start", "()V"⟩
def ai_y33 : MethodName := ⟨"FixtureTables$Database", "takeBack", "()V"⟩
def ai_y34 : MethodName := ⟨"FixtureTables$Database", "perform", "(ILFixtureTables$Dataset;)Z"⟩
def ai_y35 : MethodName := ⟨"FixtureTables$Database", "clearTables", "(LFixtureTables$Dataset;)Z"⟩
def ai_y36 : MethodName := ⟨"FixtureTables$Database", "clearTable", "(I)Z"⟩
def ai_y37 : MethodName := ⟨"FixtureTables$Database", "othersRefer", "(I)Z"⟩
def ai_y38 : MethodName := ⟨"FixtureTables$Database", "tableRefers", "(III)Z"⟩
def ai_y39 : MethodName := ⟨"FixtureTables$Database", "loadRows", "(ILFixtureTables$Dataset;)Z"⟩
def ai_y40 : MethodName := ⟨"FixtureTables$Database", "loadRow", "(ILFixtureTables$Dataset;I)Z"⟩
def ai_y41 : MethodName := ⟨"FixtureTables$Database", "removeRow", "(III)Z"⟩
def ai_y42 : MethodName := ⟨"FixtureTables$Database", "fillCandidate", "(LFixtureTables$Dataset;II)V"⟩
def ai_y43 : MethodName := ⟨"FixtureTables$Database", "putCandidate", "(III)Z"⟩
def ai_y44 : MethodName := ⟨"FixtureTables$Database", "firstMissing", "(I)I"⟩
def ai_y45 : MethodName := ⟨"FixtureTables$Database", "firstOrphan", "(I)I"⟩
def ai_y46 : MethodName := ⟨"FixtureTables$Database", "noteChanges", "(I)V"⟩
def ai_y47 : MethodName := ⟨"FixtureTables$Database", "fail", "(IIII)Z"⟩
def ai_y48 : MethodName := ⟨"FixtureTables$Database", "setFailure", "(IIII)V"⟩
def ai_y49 : MethodName := ⟨"FixtureTables$Dataset", "<init>", "()V"⟩
def ai_y50 : MethodName := ⟨"FixtureTables$Dataset", "empty", "()V"⟩
def ai_y51 : MethodName := ⟨"FixtureTables$Dataset", "addSection", "(I)V"⟩
def ai_y52 : MethodName := ⟨"FixtureTables$Dataset", "addColumn", "(II)V"⟩
def ai_y53 : MethodName := ⟨"FixtureTables$Dataset", "addRow", "()V"⟩
def ai_y54 : MethodName := ⟨"FixtureTables$Dataset", "setCell", "(IIJ)V"⟩
def ai_y55 : MethodName := ⟨"FixtureTables$Dataset", "sectionTable", "(I)I"⟩
def ai_y56 : MethodName := ⟨"FixtureTables$Dataset", "width", "(I)I"⟩
def ai_y57 : MethodName := ⟨"FixtureTables$Dataset", "columnAt", "(II)I"⟩
def ai_y58 : MethodName := ⟨"FixtureTables$Dataset", "names", "(II)Z"⟩
def ai_y59 : MethodName := ⟨"FixtureTables$Dataset", "firstRow", "(I)I"⟩
def ai_y60 : MethodName := ⟨"FixtureTables$Dataset", "height", "(I)I"⟩
def ai_y61 : MethodName := ⟨"FixtureTables$Dataset", "hasSectionOf", "(I)Z"⟩
def ai_y62 : MethodName := ⟨"FixtureTables$Dataset", "sectionOf", "(I)I"⟩
def ai_y63 : MethodName := ⟨"FixtureTables$Dataset", "tableOf", "(I)I"⟩
def ai_y64 : MethodName := ⟨"FixtureTables$Dataset", "cell", "(II)J"⟩
def ai_y65 : MethodName := ⟨"FixtureTables$Dataset", "lacks", "(II)Z"⟩
def ai_y66 : MethodName := ⟨"FixtureTables$Log", "<init>", "()V"⟩
def ai_y67 : MethodName := ⟨"FixtureTables$Log", "admits", "(I)Z"⟩
def ai_y68 : MethodName := ⟨"FixtureTables$Log", "note", "(I)V"⟩
def ai_y69 : MethodName := ⟨"FixtureTables$Log", "push", "(LFixtureTables$Store;)V"⟩
def ai_y70 : MethodName := ⟨"FixtureTables$Log", "keep", "()V"⟩
def ai_y71 : MethodName := ⟨"FixtureTables$Log", "undo", "(LFixtureTables$Store;)V"⟩
def ai_y72 : MethodName := ⟨"FixtureTables$Reader", "<init>", "()V"⟩
def ai_y73 : MethodName := ⟨"FixtureTables$Reader", "append", "(C)Z"⟩
def ai_y74 : MethodName := ⟨"FixtureTables$Reader", "readDataset", "(LFixtureTables$Schema;LFixtureTables$Dataset;)Z"⟩
def ai_y75 : MethodName := ⟨"FixtureTables$Reader", "readSection", "(LFixtureTables$Schema;LFixtureTables$Dataset;)Z"⟩
def ai_y76 : MethodName := ⟨"FixtureTables$Reader", "readColumns", "(LFixtureTables$Schema;LFixtureTables$Dataset;)Z"⟩
def ai_y77 : MethodName := ⟨"FixtureTables$Reader", "readRow", "(LFixtureTables$Schema;LFixtureTables$Dataset;)Z"⟩
def ai_y78 : MethodName := ⟨"FixtureTables$Reader", "readCell", "(I)Z"⟩
def ai_y79 : MethodName := ⟨"FixtureTables$Reader", "readInteger", "()Z"⟩
def ai_y80 : MethodName := ⟨"FixtureTables$Reader", "readDecimal", "()Z"⟩
def ai_y81 : MethodName := ⟨"FixtureTables$Reader", "readDigits", "(I)I"⟩
def ai_y82 : MethodName := ⟨"FixtureTables$Reader", "readLetters", "()Z"⟩
def ai_y83 : MethodName := ⟨"FixtureTables$Reader", "readQuoted", "()Z"⟩
def ai_y84 : MethodName := ⟨"FixtureTables$Reader", "readBoolean", "()Z"⟩
def ai_y85 : MethodName := ⟨"FixtureTables$Reader", "addCharacter", "(II)V"⟩
def ai_y86 : MethodName := ⟨"FixtureTables$Reader", "accept", "(C)Z"⟩
def ai_y87 : MethodName := ⟨"FixtureTables$Reader", "digitHere", "()I"⟩
def ai_y88 : MethodName := ⟨"FixtureTables$Reader", "characterAt", "(I)I"⟩
def ai_y89 : MethodName := ⟨"FixtureTables$Row", "<init>", "()V"⟩
def ai_y90 : MethodName := ⟨"FixtureTables$Row", "lacks", "(I)Z"⟩
def ai_y91 : MethodName := ⟨"FixtureTables$Row", "put", "(IJZ)V"⟩
def ai_y92 : MethodName := ⟨"FixtureTables$Schema", "<init>", "()V"⟩
def ai_y93 : MethodName := ⟨"FixtureTables$Schema", "hasTable", "(I)Z"⟩
def ai_y94 : MethodName := ⟨"FixtureTables$Schema", "width", "(I)I"⟩
def ai_y95 : MethodName := ⟨"FixtureTables$Schema", "typeOf", "(II)I"⟩
def ai_y96 : MethodName := ⟨"FixtureTables$Schema", "parentOf", "(II)I"⟩
def ai_y97 : MethodName := ⟨"FixtureTables$Schema", "isRequired", "(II)Z"⟩
def ai_y98 : MethodName := ⟨"FixtureTables$Schema", "mayRefer", "(III)Z"⟩
def ai_y99 : MethodName := ⟨"FixtureTables$Schema", "addTable", "()I"⟩
def ai_y100 : MethodName := ⟨"FixtureTables$Schema", "addColumn", "(IIZI)I"⟩
def ai_y101 : MethodName := ⟨"FixtureTables$Schema", "arrange", "()Z"⟩
def ai_y102 : MethodName := ⟨"FixtureTables$Schema", "leastReady", "(I)I"⟩
def ai_y103 : MethodName := ⟨"FixtureTables$Schema", "parentsAreIn", "(II)Z"⟩
def ai_y104 : MethodName := ⟨"FixtureTables$Store", "<init>", "()V"⟩
def ai_y105 : MethodName := ⟨"FixtureTables$Store", "count", "(I)I"⟩
def ai_y106 : MethodName := ⟨"FixtureTables$Store", "cell", "(III)J"⟩
def ai_y107 : MethodName := ⟨"FixtureTables$Store", "lacks", "(III)Z"⟩
def ai_y108 : MethodName := ⟨"FixtureTables$Store", "find", "(IJ)I"⟩
def ai_y109 : MethodName := ⟨"FixtureTables$Store", "refers", "(IIJI)Z"⟩
def ai_y110 : MethodName := ⟨"FixtureTables$Store", "insert", "(ILFixtureTables$Row;)V"⟩
def ai_y111 : MethodName := ⟨"FixtureTables$Store", "replace", "(IILFixtureTables$Row;)V"⟩
def ai_y112 : MethodName := ⟨"FixtureTables$Store", "remove", "(II)V"⟩
def ai_y113 : MethodName := ⟨"FixtureTables$Store", "clear", "(I)V"⟩
def ai_y114 : MethodName := ⟨"FixtureTables$Store", "move", "(III)V"⟩
def ai_y115 : MethodName := ⟨"FixtureTables$Store", "copyFrom", "(LFixtureTables$Store;)V"⟩
def ai_y116 : MethodName := ⟨"FixtureTables$Writer", "<init>", "()V"⟩
def ai_y117 : MethodName := ⟨"FixtureTables$Writer", "writeTable", "(LFixtureTables$Database;I)V"⟩
def ai_y118 : MethodName := ⟨"FixtureTables$Writer", "writeRow", "(LFixtureTables$Database;II)V"⟩
def ai_y119 : MethodName := ⟨"FixtureTables$Writer", "writeCell", "(IJ)V"⟩
def ai_y120 : MethodName := ⟨"FixtureTables$Writer", "writeNumber", "(IJ)V"⟩
def ai_y121 : MethodName := ⟨"FixtureTables$Writer", "writeWhole", "(J)V"⟩
def ai_y122 : MethodName := ⟨"FixtureTables$Writer", "writeText", "(J)V"⟩
def ai_y123 : MethodName := ⟨"FixtureTables$Writer", "isLetters", "(J)Z"⟩
def ai_y124 : MethodName := ⟨"FixtureTables$Writer", "character", "(JI)I"⟩
def ai_y125 : MethodName := ⟨"FixtureTables$Writer", "add", "(I)V"⟩
def ai_y126 : MethodName := ⟨"FixtureTablesModel", "<init>", "()V"⟩
def ai_y127 : MethodName := ⟨"FixtureTablesModel", "thrown", "()I"⟩
def ai_y128 : MethodName := ⟨"FixtureTablesModel", "fail", "(I)I"⟩
def ai_y129 : MethodName := ⟨"FixtureTablesModel", "isTable", "(I)Z"⟩
def ai_y130 : MethodName := ⟨"FixtureTablesModel", "table", "()I"⟩
def ai_y131 : MethodName := ⟨"FixtureTablesModel", "isParent", "(III)Z"⟩
def ai_y132 : MethodName := ⟨"FixtureTablesModel", "column", "(IIZI)I"⟩
def ai_y133 : MethodName := ⟨"FixtureTablesModel", "type", "(C)Z"⟩
def ai_y134 : MethodName := ⟨"FixtureTablesModel", "wipe", "()V"⟩
def ai_y135 : MethodName := ⟨"FixtureTablesModel", "peek", "()I"⟩
def ai_y136 : MethodName := ⟨"FixtureTablesModel", "skips", "(I)Z"⟩
def ai_y137 : MethodName := ⟨"FixtureTablesModel", "isDigit", "()Z"⟩
def ai_y138 : MethodName := ⟨"FixtureTablesModel", "isLetter", "()Z"⟩
def ai_y139 : MethodName := ⟨"FixtureTablesModel", "put", "(IJZ)V"⟩
def ai_y140 : MethodName := ⟨"FixtureTablesModel", "digits", "(I)J"⟩
def ai_y141 : MethodName := ⟨"FixtureTablesModel", "readNumber", "(IZ)Z"⟩
def ai_y142 : MethodName := ⟨"FixtureTablesModel", "readLetters", "(I)Z"⟩
def ai_y143 : MethodName := ⟨"FixtureTablesModel", "readQuoted", "(I)Z"⟩
def ai_y144 : MethodName := ⟨"FixtureTablesModel", "readCell", "(II)Z"⟩
def ai_y145 : MethodName := ⟨"FixtureTablesModel", "readColumns", "(I)Z"⟩
def ai_y146 : MethodName := ⟨"FixtureTablesModel", "readRow", "(I)Z"⟩
def ai_y147 : MethodName := ⟨"FixtureTablesModel", "readSection", "()Z"⟩
def ai_y148 : MethodName := ⟨"FixtureTablesModel", "read", "()I"⟩
def ai_y149 : MethodName := ⟨"FixtureTablesModel", "fault", "()I"⟩
def ai_y150 : MethodName := ⟨"FixtureTablesModel", "isFree", "(II)Z"⟩
def ai_y151 : MethodName := ⟨"FixtureTablesModel", "ordered", "()Z"⟩
def ai_y152 : MethodName := ⟨"FixtureTablesModel", "order", "(I)I"⟩
def ai_y153 : MethodName := ⟨"FixtureTablesModel", "keep", "(I)V"⟩
def ai_y154 : MethodName := ⟨"FixtureTablesModel", "undo", "(I)V"⟩
def ai_y155 : MethodName := ⟨"FixtureTablesModel", "begin", "()I"⟩
def ai_y156 : MethodName := ⟨"FixtureTablesModel", "commit", "()I"⟩
def ai_y157 : MethodName := ⟨"FixtureTablesModel", "rollback", "()I"⟩
def ai_y158 : MethodName := ⟨"FixtureTablesModel", "because", "(IIII)Z"⟩
def ai_y159 : MethodName := ⟨"FixtureTablesModel", "find", "(IJ)I"⟩
def ai_y160 : MethodName := ⟨"FixtureTablesModel", "log", "(I)Z"⟩
def ai_y161 : MethodName := ⟨"FixtureTablesModel", "isReferred", "(II)Z"⟩
def ai_y162 : MethodName := ⟨"FixtureTablesModel", "remove", "(II)V"⟩
def ai_y163 : MethodName := ⟨"FixtureTablesModel", "store", "(II)V"⟩
def ai_y164 : MethodName := ⟨"FixtureTablesModel", "build", "(IIII)V"⟩
def ai_y165 : MethodName := ⟨"FixtureTablesModel", "checkRow", "(II)Z"⟩
def ai_y166 : MethodName := ⟨"FixtureTablesModel", "keyOf", "(I)I"⟩
def ai_y167 : MethodName := ⟨"FixtureTablesModel", "change", "(IIII)Z"⟩
def ai_y168 : MethodName := ⟨"FixtureTablesModel", "perform", "(I)Z"⟩
def ai_y169 : MethodName := ⟨"FixtureTablesModel", "hasSection", "(I)Z"⟩
def ai_y170 : MethodName := ⟨"FixtureTablesModel", "hasChild", "(I)Z"⟩
def ai_y171 : MethodName := ⟨"FixtureTablesModel", "removeAll", "()Z"⟩
def ai_y172 : MethodName := ⟨"FixtureTablesModel", "apply", "(I)I"⟩
def ai_y173 : MethodName := ⟨"FixtureTablesModel", "failure", "(I)I"⟩
def ai_y174 : MethodName := ⟨"FixtureTablesModel", "rows", "(I)I"⟩
def ai_y175 : MethodName := ⟨"FixtureTablesModel", "placeOf", "(III)I"⟩
def ai_y176 : MethodName := ⟨"FixtureTablesModel", "value", "(III)J"⟩
def ai_y177 : MethodName := ⟨"FixtureTablesModel", "isNull", "(III)Z"⟩
def ai_y178 : MethodName := ⟨"FixtureTablesModel", "sort", "(I)V"⟩
def ai_y179 : MethodName := ⟨"FixtureTablesModel", "isBefore", "(II)Z"⟩
def ai_y180 : MethodName := ⟨"FixtureTablesModel", "differ", "(III)V"⟩
def ai_y181 : MethodName := ⟨"FixtureTablesModel", "isOther", "(IIIJ)Z"⟩
def ai_y182 : MethodName := ⟨"FixtureTablesModel", "compareSection", "(IJI)V"⟩
def ai_y183 : MethodName := ⟨"FixtureTablesModel", "compare", "(JI)I"⟩
def ai_y184 : MethodName := ⟨"FixtureTablesModel", "difference", "(II)I"⟩
def ai_y185 : MethodName := ⟨"FixtureTablesModel", "say", "(I)V"⟩
def ai_y186 : MethodName := ⟨"FixtureTablesModel", "sayNumber", "(J)V"⟩
def ai_y187 : MethodName := ⟨"FixtureTablesModel", "sayText", "(J)V"⟩
def ai_y188 : MethodName := ⟨"FixtureTablesModel", "sayValue", "(IJ)V"⟩
def ai_y189 : MethodName := ⟨"FixtureTablesModel", "write", "(I)I"⟩
def ai_y190 : MethodName := ⟨"FixtureTablesModel", "written", "(I)C"⟩
def ai_y191 : MethodName := ⟨"FixtureTablesLaw", "table", "(LFixtureTables;[J)I"⟩
def ai_y192 : MethodName := ⟨"FixtureTablesLaw", "column", "(LFixtureTables;IIZI[J)I"⟩
def ai_y193 : MethodName := ⟨"FixtureTablesLaw", "read", "(LFixtureTables;[J)I"⟩
def ai_y194 : MethodName := ⟨"FixtureTablesLaw", "order", "(LFixtureTables;I[J)I"⟩
def ai_y195 : MethodName := ⟨"FixtureTablesLaw", "apply", "(LFixtureTables;I[J)I"⟩
def ai_y196 : MethodName := ⟨"FixtureTablesLaw", "rows", "(LFixtureTables;I[J)I"⟩
def ai_y197 : MethodName := ⟨"FixtureTablesLaw", "value", "(LFixtureTables;III[J)I"⟩
def ai_y198 : MethodName := ⟨"FixtureTablesLaw", "isNull", "(LFixtureTables;III[J)I"⟩
def ai_y199 : MethodName := ⟨"FixtureTablesLaw", "begin", "(LFixtureTables;[J)I"⟩
def ai_y200 : MethodName := ⟨"FixtureTablesLaw", "commit", "(LFixtureTables;[J)I"⟩
def ai_y201 : MethodName := ⟨"FixtureTablesLaw", "rollback", "(LFixtureTables;[J)I"⟩
def ai_y202 : MethodName := ⟨"FixtureTablesLaw", "compare", "(LFixtureTables;JI[J)I"⟩
def ai_y203 : MethodName := ⟨"FixtureTablesLaw", "difference", "(LFixtureTables;II[J)I"⟩
def ai_y204 : MethodName := ⟨"FixtureTablesLaw", "write", "(LFixtureTables;I[J)I"⟩
def ai_y205 : MethodName := ⟨"FixtureTablesLaw", "written", "(LFixtureTables;I[J)I"⟩
def ai_y206 : MethodName := ⟨"FixtureTablesLaw", "law", "([I)Z"⟩
