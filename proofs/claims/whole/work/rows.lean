section
-- ===== PART A: goes FIRST, ahead of the names: the tables' words, and 'selects' of the private methods out of them =====
/-- a private method of a class that the tables say can be made, by its rows of tables_1 -/
def lw_okq (q : MethodName × Nat) : Prop := (q.1.cls ≠ "java/lang/invoke/MethodHandle" ∧ q.1.cls ≠ "java/lang/invoke/VarHandle") ∧ Cond.instantiable q.1.cls q.2 ∈ tables_1 ∧ Cond.privateMethod q.1 ∈ tables_1 ∧ Cond.instanceMethod q.1 ∈ tables_1
theorem lw_p0 : lw_okq (⟨"java/lang/Throwable", "fillInStackTrace", "(I)Ljava/lang/Throwable;"⟩, 6) := ⟨⟨by decide +kernel, by decide +kernel⟩, List.mem_of_getElem? (i := 349) (by decide +kernel), List.mem_of_getElem? (i := 347) (by decide +kernel), List.mem_of_getElem? (i := 348) (by decide +kernel)⟩
theorem lw_p1 : lw_okq (⟨"FixtureTables$Reader", "readSection", "(LFixtureTables$Schema;LFixtureTables$Dataset;)Z"⟩, 5) := ⟨⟨by decide +kernel, by decide +kernel⟩, List.mem_of_getElem? (i := 158) (by decide +kernel), List.mem_of_getElem? (i := 453) (by decide +kernel), List.mem_of_getElem? (i := 454) (by decide +kernel)⟩
theorem lw_p2 : lw_okq (⟨"FixtureTables$Reader", "digitHere", "()I"⟩, 5) := ⟨⟨by decide +kernel, by decide +kernel⟩, List.mem_of_getElem? (i := 158) (by decide +kernel), List.mem_of_getElem? (i := 457) (by decide +kernel), List.mem_of_getElem? (i := 458) (by decide +kernel)⟩
theorem lw_p3 : lw_okq (⟨"FixtureTables$Reader", "characterAt", "(I)I"⟩, 5) := ⟨⟨by decide +kernel, by decide +kernel⟩, List.mem_of_getElem? (i := 158) (by decide +kernel), List.mem_of_getElem? (i := 461) (by decide +kernel), List.mem_of_getElem? (i := 462) (by decide +kernel)⟩
theorem lw_p4 : lw_okq (⟨"FixtureTables$Reader", "accept", "(C)Z"⟩, 5) := ⟨⟨by decide +kernel, by decide +kernel⟩, List.mem_of_getElem? (i := 158) (by decide +kernel), List.mem_of_getElem? (i := 471) (by decide +kernel), List.mem_of_getElem? (i := 472) (by decide +kernel)⟩
theorem lw_p5 : lw_okq (⟨"FixtureTables$Reader", "readColumns", "(LFixtureTables$Schema;LFixtureTables$Dataset;)Z"⟩, 5) := ⟨⟨by decide +kernel, by decide +kernel⟩, List.mem_of_getElem? (i := 158) (by decide +kernel), List.mem_of_getElem? (i := 475) (by decide +kernel), List.mem_of_getElem? (i := 476) (by decide +kernel)⟩
theorem lw_p6 : lw_okq (⟨"FixtureTables$Reader", "readRow", "(LFixtureTables$Schema;LFixtureTables$Dataset;)Z"⟩, 5) := ⟨⟨by decide +kernel, by decide +kernel⟩, List.mem_of_getElem? (i := 158) (by decide +kernel), List.mem_of_getElem? (i := 495) (by decide +kernel), List.mem_of_getElem? (i := 496) (by decide +kernel)⟩
theorem lw_p7 : lw_okq (⟨"FixtureTables$Reader", "readCell", "(I)Z"⟩, 5) := ⟨⟨by decide +kernel, by decide +kernel⟩, List.mem_of_getElem? (i := 158) (by decide +kernel), List.mem_of_getElem? (i := 508) (by decide +kernel), List.mem_of_getElem? (i := 509) (by decide +kernel)⟩
theorem lw_p8 : lw_okq (⟨"FixtureTables$Reader", "readInteger", "()Z"⟩, 5) := ⟨⟨by decide +kernel, by decide +kernel⟩, List.mem_of_getElem? (i := 158) (by decide +kernel), List.mem_of_getElem? (i := 512) (by decide +kernel), List.mem_of_getElem? (i := 513) (by decide +kernel)⟩
theorem lw_p9 : lw_okq (⟨"FixtureTables$Reader", "readDigits", "(I)I"⟩, 5) := ⟨⟨by decide +kernel, by decide +kernel⟩, List.mem_of_getElem? (i := 158) (by decide +kernel), List.mem_of_getElem? (i := 516) (by decide +kernel), List.mem_of_getElem? (i := 517) (by decide +kernel)⟩
theorem lw_p10 : lw_okq (⟨"FixtureTables$Reader", "readDecimal", "()Z"⟩, 5) := ⟨⟨by decide +kernel, by decide +kernel⟩, List.mem_of_getElem? (i := 158) (by decide +kernel), List.mem_of_getElem? (i := 521) (by decide +kernel), List.mem_of_getElem? (i := 522) (by decide +kernel)⟩
theorem lw_p11 : lw_okq (⟨"FixtureTables$Reader", "readQuoted", "()Z"⟩, 5) := ⟨⟨by decide +kernel, by decide +kernel⟩, List.mem_of_getElem? (i := 158) (by decide +kernel), List.mem_of_getElem? (i := 525) (by decide +kernel), List.mem_of_getElem? (i := 526) (by decide +kernel)⟩
theorem lw_p12 : lw_okq (⟨"FixtureTables$Reader", "addCharacter", "(II)V"⟩, 5) := ⟨⟨by decide +kernel, by decide +kernel⟩, List.mem_of_getElem? (i := 158) (by decide +kernel), List.mem_of_getElem? (i := 529) (by decide +kernel), List.mem_of_getElem? (i := 530) (by decide +kernel)⟩
theorem lw_p13 : lw_okq (⟨"FixtureTables$Reader", "readLetters", "()Z"⟩, 5) := ⟨⟨by decide +kernel, by decide +kernel⟩, List.mem_of_getElem? (i := 158) (by decide +kernel), List.mem_of_getElem? (i := 533) (by decide +kernel), List.mem_of_getElem? (i := 534) (by decide +kernel)⟩
theorem lw_p14 : lw_okq (⟨"FixtureTables$Reader", "readBoolean", "()Z"⟩, 5) := ⟨⟨by decide +kernel, by decide +kernel⟩, List.mem_of_getElem? (i := 158) (by decide +kernel), List.mem_of_getElem? (i := 537) (by decide +kernel), List.mem_of_getElem? (i := 538) (by decide +kernel)⟩
theorem lw_p15 : lw_okq (⟨"FixtureTables$Schema", "leastReady", "(I)I"⟩, 6) := ⟨⟨by decide +kernel, by decide +kernel⟩, List.mem_of_getElem? (i := 36) (by decide +kernel), List.mem_of_getElem? (i := 559) (by decide +kernel), List.mem_of_getElem? (i := 560) (by decide +kernel)⟩
def lw_privs_1 : List (MethodName × Nat) := [(⟨"java/lang/Throwable", "fillInStackTrace", "(I)Ljava/lang/Throwable;"⟩, 6), (⟨"FixtureTables$Reader", "readSection", "(LFixtureTables$Schema;LFixtureTables$Dataset;)Z"⟩, 5), (⟨"FixtureTables$Reader", "digitHere", "()I"⟩, 5), (⟨"FixtureTables$Reader", "characterAt", "(I)I"⟩, 5), (⟨"FixtureTables$Reader", "accept", "(C)Z"⟩, 5), (⟨"FixtureTables$Reader", "readColumns", "(LFixtureTables$Schema;LFixtureTables$Dataset;)Z"⟩, 5), (⟨"FixtureTables$Reader", "readRow", "(LFixtureTables$Schema;LFixtureTables$Dataset;)Z"⟩, 5), (⟨"FixtureTables$Reader", "readCell", "(I)Z"⟩, 5), (⟨"FixtureTables$Reader", "readInteger", "()Z"⟩, 5), (⟨"FixtureTables$Reader", "readDigits", "(I)I"⟩, 5), (⟨"FixtureTables$Reader", "readDecimal", "()Z"⟩, 5), (⟨"FixtureTables$Reader", "readQuoted", "()Z"⟩, 5), (⟨"FixtureTables$Reader", "addCharacter", "(II)V"⟩, 5), (⟨"FixtureTables$Reader", "readLetters", "()Z"⟩, 5), (⟨"FixtureTables$Reader", "readBoolean", "()Z"⟩, 5), (⟨"FixtureTables$Schema", "leastReady", "(I)I"⟩, 6)]
theorem lw_r1 : ∀ q ∈ lw_privs_1, lw_okq q := List.forall_mem_cons.mpr ⟨lw_p0, List.forall_mem_cons.mpr ⟨lw_p1, List.forall_mem_cons.mpr ⟨lw_p2, List.forall_mem_cons.mpr ⟨lw_p3, List.forall_mem_cons.mpr ⟨lw_p4, List.forall_mem_cons.mpr ⟨lw_p5, List.forall_mem_cons.mpr ⟨lw_p6, List.forall_mem_cons.mpr ⟨lw_p7, List.forall_mem_cons.mpr ⟨lw_p8, List.forall_mem_cons.mpr ⟨lw_p9, List.forall_mem_cons.mpr ⟨lw_p10, List.forall_mem_cons.mpr ⟨lw_p11, List.forall_mem_cons.mpr ⟨lw_p12, List.forall_mem_cons.mpr ⟨lw_p13, List.forall_mem_cons.mpr ⟨lw_p14, List.forall_mem_cons.mpr ⟨lw_p15, fun _ h => absurd h List.not_mem_nil⟩⟩⟩⟩⟩⟩⟩⟩⟩⟩⟩⟩⟩⟩⟩⟩
theorem lw_p16 : lw_okq (⟨"FixtureTables$Schema", "parentsAreIn", "(II)Z"⟩, 6) := ⟨⟨by decide +kernel, by decide +kernel⟩, List.mem_of_getElem? (i := 36) (by decide +kernel), List.mem_of_getElem? (i := 563) (by decide +kernel), List.mem_of_getElem? (i := 564) (by decide +kernel)⟩
theorem lw_p17 : lw_okq (⟨"FixtureTables$Database", "setFailure", "(IIII)V"⟩, 8) := ⟨⟨by decide +kernel, by decide +kernel⟩, List.mem_of_getElem? (i := 30) (by decide +kernel), List.mem_of_getElem? (i := 605) (by decide +kernel), List.mem_of_getElem? (i := 606) (by decide +kernel)⟩
theorem lw_p18 : lw_okq (⟨"FixtureTables$Database", "clearTables", "(LFixtureTables$Dataset;)Z"⟩, 8) := ⟨⟨by decide +kernel, by decide +kernel⟩, List.mem_of_getElem? (i := 30) (by decide +kernel), List.mem_of_getElem? (i := 615) (by decide +kernel), List.mem_of_getElem? (i := 616) (by decide +kernel)⟩
theorem lw_p19 : lw_okq (⟨"FixtureTables$Database", "clearTable", "(I)Z"⟩, 8) := ⟨⟨by decide +kernel, by decide +kernel⟩, List.mem_of_getElem? (i := 30) (by decide +kernel), List.mem_of_getElem? (i := 623) (by decide +kernel), List.mem_of_getElem? (i := 624) (by decide +kernel)⟩
theorem lw_p20 : lw_okq (⟨"FixtureTables$Database", "othersRefer", "(I)Z"⟩, 8) := ⟨⟨by decide +kernel, by decide +kernel⟩, List.mem_of_getElem? (i := 30) (by decide +kernel), List.mem_of_getElem? (i := 628) (by decide +kernel), List.mem_of_getElem? (i := 629) (by decide +kernel)⟩
theorem lw_p21 : lw_okq (⟨"FixtureTables$Database", "tableRefers", "(III)Z"⟩, 8) := ⟨⟨by decide +kernel, by decide +kernel⟩, List.mem_of_getElem? (i := 30) (by decide +kernel), List.mem_of_getElem? (i := 632) (by decide +kernel), List.mem_of_getElem? (i := 633) (by decide +kernel)⟩
theorem lw_p22 : lw_okq (⟨"FixtureTables$Database", "fail", "(IIII)Z"⟩, 8) := ⟨⟨by decide +kernel, by decide +kernel⟩, List.mem_of_getElem? (i := 30) (by decide +kernel), List.mem_of_getElem? (i := 646) (by decide +kernel), List.mem_of_getElem? (i := 647) (by decide +kernel)⟩
theorem lw_p23 : lw_okq (⟨"FixtureTables$Database", "noteChanges", "(I)V"⟩, 8) := ⟨⟨by decide +kernel, by decide +kernel⟩, List.mem_of_getElem? (i := 30) (by decide +kernel), List.mem_of_getElem? (i := 658) (by decide +kernel), List.mem_of_getElem? (i := 659) (by decide +kernel)⟩
theorem lw_p24 : lw_okq (⟨"FixtureTables$Database", "loadRows", "(ILFixtureTables$Dataset;)Z"⟩, 8) := ⟨⟨by decide +kernel, by decide +kernel⟩, List.mem_of_getElem? (i := 30) (by decide +kernel), List.mem_of_getElem? (i := 666) (by decide +kernel), List.mem_of_getElem? (i := 667) (by decide +kernel)⟩
theorem lw_p25 : lw_okq (⟨"FixtureTables$Database", "loadRow", "(ILFixtureTables$Dataset;I)Z"⟩, 8) := ⟨⟨by decide +kernel, by decide +kernel⟩, List.mem_of_getElem? (i := 30) (by decide +kernel), List.mem_of_getElem? (i := 674) (by decide +kernel), List.mem_of_getElem? (i := 675) (by decide +kernel)⟩
theorem lw_p26 : lw_okq (⟨"FixtureTables$Database", "removeRow", "(III)Z"⟩, 8) := ⟨⟨by decide +kernel, by decide +kernel⟩, List.mem_of_getElem? (i := 30) (by decide +kernel), List.mem_of_getElem? (i := 690) (by decide +kernel), List.mem_of_getElem? (i := 691) (by decide +kernel)⟩
theorem lw_p27 : lw_okq (⟨"FixtureTables$Store", "move", "(III)V"⟩, 3) := ⟨⟨by decide +kernel, by decide +kernel⟩, List.mem_of_getElem? (i := 67) (by decide +kernel), List.mem_of_getElem? (i := 698) (by decide +kernel), List.mem_of_getElem? (i := 699) (by decide +kernel)⟩
theorem lw_p28 : lw_okq (⟨"FixtureTables$Database", "fillCandidate", "(LFixtureTables$Dataset;II)V"⟩, 8) := ⟨⟨by decide +kernel, by decide +kernel⟩, List.mem_of_getElem? (i := 30) (by decide +kernel), List.mem_of_getElem? (i := 702) (by decide +kernel), List.mem_of_getElem? (i := 703) (by decide +kernel)⟩
theorem lw_p29 : lw_okq (⟨"FixtureTables$Database", "putCandidate", "(III)Z"⟩, 8) := ⟨⟨by decide +kernel, by decide +kernel⟩, List.mem_of_getElem? (i := 30) (by decide +kernel), List.mem_of_getElem? (i := 719) (by decide +kernel), List.mem_of_getElem? (i := 720) (by decide +kernel)⟩
theorem lw_p30 : lw_okq (⟨"FixtureTables$Database", "firstMissing", "(I)I"⟩, 8) := ⟨⟨by decide +kernel, by decide +kernel⟩, List.mem_of_getElem? (i := 30) (by decide +kernel), List.mem_of_getElem? (i := 723) (by decide +kernel), List.mem_of_getElem? (i := 724) (by decide +kernel)⟩
theorem lw_p31 : lw_okq (⟨"FixtureTables$Database", "firstOrphan", "(I)I"⟩, 8) := ⟨⟨by decide +kernel, by decide +kernel⟩, List.mem_of_getElem? (i := 30) (by decide +kernel), List.mem_of_getElem? (i := 735) (by decide +kernel), List.mem_of_getElem? (i := 736) (by decide +kernel)⟩
def lw_privs_2 : List (MethodName × Nat) := [(⟨"FixtureTables$Schema", "parentsAreIn", "(II)Z"⟩, 6), (⟨"FixtureTables$Database", "setFailure", "(IIII)V"⟩, 8), (⟨"FixtureTables$Database", "clearTables", "(LFixtureTables$Dataset;)Z"⟩, 8), (⟨"FixtureTables$Database", "clearTable", "(I)Z"⟩, 8), (⟨"FixtureTables$Database", "othersRefer", "(I)Z"⟩, 8), (⟨"FixtureTables$Database", "tableRefers", "(III)Z"⟩, 8), (⟨"FixtureTables$Database", "fail", "(IIII)Z"⟩, 8), (⟨"FixtureTables$Database", "noteChanges", "(I)V"⟩, 8), (⟨"FixtureTables$Database", "loadRows", "(ILFixtureTables$Dataset;)Z"⟩, 8), (⟨"FixtureTables$Database", "loadRow", "(ILFixtureTables$Dataset;I)Z"⟩, 8), (⟨"FixtureTables$Database", "removeRow", "(III)Z"⟩, 8), (⟨"FixtureTables$Store", "move", "(III)V"⟩, 3), (⟨"FixtureTables$Database", "fillCandidate", "(LFixtureTables$Dataset;II)V"⟩, 8), (⟨"FixtureTables$Database", "putCandidate", "(III)Z"⟩, 8), (⟨"FixtureTables$Database", "firstMissing", "(I)I"⟩, 8), (⟨"FixtureTables$Database", "firstOrphan", "(I)I"⟩, 8)]
theorem lw_r2 : ∀ q ∈ lw_privs_2, lw_okq q := List.forall_mem_cons.mpr ⟨lw_p16, List.forall_mem_cons.mpr ⟨lw_p17, List.forall_mem_cons.mpr ⟨lw_p18, List.forall_mem_cons.mpr ⟨lw_p19, List.forall_mem_cons.mpr ⟨lw_p20, List.forall_mem_cons.mpr ⟨lw_p21, List.forall_mem_cons.mpr ⟨lw_p22, List.forall_mem_cons.mpr ⟨lw_p23, List.forall_mem_cons.mpr ⟨lw_p24, List.forall_mem_cons.mpr ⟨lw_p25, List.forall_mem_cons.mpr ⟨lw_p26, List.forall_mem_cons.mpr ⟨lw_p27, List.forall_mem_cons.mpr ⟨lw_p28, List.forall_mem_cons.mpr ⟨lw_p29, List.forall_mem_cons.mpr ⟨lw_p30, List.forall_mem_cons.mpr ⟨lw_p31, fun _ h => absurd h List.not_mem_nil⟩⟩⟩⟩⟩⟩⟩⟩⟩⟩⟩⟩⟩⟩⟩⟩
theorem lw_p32 : lw_okq (⟨"FixtureTables$Comparison", "compareSection", "(LFixtureTables$Database;LFixtureTables$Dataset;IJI)V"⟩, 3) := ⟨⟨by decide +kernel, by decide +kernel⟩, List.mem_of_getElem? (i := 183) (by decide +kernel), List.mem_of_getElem? (i := 848) (by decide +kernel), List.mem_of_getElem? (i := 849) (by decide +kernel)⟩
theorem lw_p33 : lw_okq (⟨"FixtureTables$Comparison", "sortRows", "(LFixtureTables$Dataset;I)V"⟩, 3) := ⟨⟨by decide +kernel, by decide +kernel⟩, List.mem_of_getElem? (i := 183) (by decide +kernel), List.mem_of_getElem? (i := 858) (by decide +kernel), List.mem_of_getElem? (i := 859) (by decide +kernel)⟩
theorem lw_p34 : lw_okq (⟨"FixtureTables$Comparison", "keyIsLess", "(LFixtureTables$Dataset;II)Z"⟩, 3) := ⟨⟨by decide +kernel, by decide +kernel⟩, List.mem_of_getElem? (i := 183) (by decide +kernel), List.mem_of_getElem? (i := 867) (by decide +kernel), List.mem_of_getElem? (i := 868) (by decide +kernel)⟩
theorem lw_p35 : lw_okq (⟨"FixtureTables$Comparison", "add", "(III)V"⟩, 3) := ⟨⟨by decide +kernel, by decide +kernel⟩, List.mem_of_getElem? (i := 183) (by decide +kernel), List.mem_of_getElem? (i := 873) (by decide +kernel), List.mem_of_getElem? (i := 874) (by decide +kernel)⟩
theorem lw_p36 : lw_okq (⟨"FixtureTables$Comparison", "differs", "(LFixtureTables$Database;LFixtureTables$Dataset;IIIJ)Z"⟩, 3) := ⟨⟨by decide +kernel, by decide +kernel⟩, List.mem_of_getElem? (i := 183) (by decide +kernel), List.mem_of_getElem? (i := 882) (by decide +kernel), List.mem_of_getElem? (i := 883) (by decide +kernel)⟩
theorem lw_p37 : lw_okq (⟨"FixtureTables$Writer", "add", "(I)V"⟩, 2) := ⟨⟨by decide +kernel, by decide +kernel⟩, List.mem_of_getElem? (i := 200) (by decide +kernel), List.mem_of_getElem? (i := 921) (by decide +kernel), List.mem_of_getElem? (i := 922) (by decide +kernel)⟩
theorem lw_p38 : lw_okq (⟨"FixtureTables$Writer", "writeRow", "(LFixtureTables$Database;II)V"⟩, 2) := ⟨⟨by decide +kernel, by decide +kernel⟩, List.mem_of_getElem? (i := 200) (by decide +kernel), List.mem_of_getElem? (i := 927) (by decide +kernel), List.mem_of_getElem? (i := 928) (by decide +kernel)⟩
theorem lw_p39 : lw_okq (⟨"FixtureTables$Writer", "writeCell", "(IJ)V"⟩, 2) := ⟨⟨by decide +kernel, by decide +kernel⟩, List.mem_of_getElem? (i := 200) (by decide +kernel), List.mem_of_getElem? (i := 934) (by decide +kernel), List.mem_of_getElem? (i := 935) (by decide +kernel)⟩
theorem lw_p40 : lw_okq (⟨"FixtureTables$Writer", "writeText", "(J)V"⟩, 2) := ⟨⟨by decide +kernel, by decide +kernel⟩, List.mem_of_getElem? (i := 200) (by decide +kernel), List.mem_of_getElem? (i := 938) (by decide +kernel), List.mem_of_getElem? (i := 939) (by decide +kernel)⟩
theorem lw_p41 : lw_okq (⟨"FixtureTables$Writer", "writeNumber", "(IJ)V"⟩, 2) := ⟨⟨by decide +kernel, by decide +kernel⟩, List.mem_of_getElem? (i := 200) (by decide +kernel), List.mem_of_getElem? (i := 948) (by decide +kernel), List.mem_of_getElem? (i := 949) (by decide +kernel)⟩
theorem lw_p42 : lw_okq (⟨"FixtureTables$Writer", "writeWhole", "(J)V"⟩, 2) := ⟨⟨by decide +kernel, by decide +kernel⟩, List.mem_of_getElem? (i := 200) (by decide +kernel), List.mem_of_getElem? (i := 953) (by decide +kernel), List.mem_of_getElem? (i := 954) (by decide +kernel)⟩
theorem lw_p43 : lw_okq (⟨"FixtureTablesModel", "isTable", "(I)Z"⟩, 47) := ⟨⟨by decide +kernel, by decide +kernel⟩, List.mem_of_getElem? (i := 968) (by decide +kernel), List.mem_of_getElem? (i := 1128) (by decide +kernel), List.mem_of_getElem? (i := 1129) (by decide +kernel)⟩
theorem lw_p44 : lw_okq (⟨"FixtureTablesModel", "isParent", "(III)Z"⟩, 47) := ⟨⟨by decide +kernel, by decide +kernel⟩, List.mem_of_getElem? (i := 968) (by decide +kernel), List.mem_of_getElem? (i := 1132) (by decide +kernel), List.mem_of_getElem? (i := 1133) (by decide +kernel)⟩
theorem lw_p45 : lw_okq (⟨"FixtureTablesModel", "readSection", "()Z"⟩, 47) := ⟨⟨by decide +kernel, by decide +kernel⟩, List.mem_of_getElem? (i := 968) (by decide +kernel), List.mem_of_getElem? (i := 1148) (by decide +kernel), List.mem_of_getElem? (i := 1149) (by decide +kernel)⟩
theorem lw_p46 : lw_okq (⟨"FixtureTablesModel", "peek", "()I"⟩, 47) := ⟨⟨by decide +kernel, by decide +kernel⟩, List.mem_of_getElem? (i := 968) (by decide +kernel), List.mem_of_getElem? (i := 1152) (by decide +kernel), List.mem_of_getElem? (i := 1153) (by decide +kernel)⟩
theorem lw_p47 : lw_okq (⟨"FixtureTablesModel", "isDigit", "()Z"⟩, 47) := ⟨⟨by decide +kernel, by decide +kernel⟩, List.mem_of_getElem? (i := 968) (by decide +kernel), List.mem_of_getElem? (i := 1156) (by decide +kernel), List.mem_of_getElem? (i := 1157) (by decide +kernel)⟩
def lw_privs_3 : List (MethodName × Nat) := [(⟨"FixtureTables$Comparison", "compareSection", "(LFixtureTables$Database;LFixtureTables$Dataset;IJI)V"⟩, 3), (⟨"FixtureTables$Comparison", "sortRows", "(LFixtureTables$Dataset;I)V"⟩, 3), (⟨"FixtureTables$Comparison", "keyIsLess", "(LFixtureTables$Dataset;II)Z"⟩, 3), (⟨"FixtureTables$Comparison", "add", "(III)V"⟩, 3), (⟨"FixtureTables$Comparison", "differs", "(LFixtureTables$Database;LFixtureTables$Dataset;IIIJ)Z"⟩, 3), (⟨"FixtureTables$Writer", "add", "(I)V"⟩, 2), (⟨"FixtureTables$Writer", "writeRow", "(LFixtureTables$Database;II)V"⟩, 2), (⟨"FixtureTables$Writer", "writeCell", "(IJ)V"⟩, 2), (⟨"FixtureTables$Writer", "writeText", "(J)V"⟩, 2), (⟨"FixtureTables$Writer", "writeNumber", "(IJ)V"⟩, 2), (⟨"FixtureTables$Writer", "writeWhole", "(J)V"⟩, 2), (⟨"FixtureTablesModel", "isTable", "(I)Z"⟩, 47), (⟨"FixtureTablesModel", "isParent", "(III)Z"⟩, 47), (⟨"FixtureTablesModel", "readSection", "()Z"⟩, 47), (⟨"FixtureTablesModel", "peek", "()I"⟩, 47), (⟨"FixtureTablesModel", "isDigit", "()Z"⟩, 47)]
theorem lw_r3 : ∀ q ∈ lw_privs_3, lw_okq q := List.forall_mem_cons.mpr ⟨lw_p32, List.forall_mem_cons.mpr ⟨lw_p33, List.forall_mem_cons.mpr ⟨lw_p34, List.forall_mem_cons.mpr ⟨lw_p35, List.forall_mem_cons.mpr ⟨lw_p36, List.forall_mem_cons.mpr ⟨lw_p37, List.forall_mem_cons.mpr ⟨lw_p38, List.forall_mem_cons.mpr ⟨lw_p39, List.forall_mem_cons.mpr ⟨lw_p40, List.forall_mem_cons.mpr ⟨lw_p41, List.forall_mem_cons.mpr ⟨lw_p42, List.forall_mem_cons.mpr ⟨lw_p43, List.forall_mem_cons.mpr ⟨lw_p44, List.forall_mem_cons.mpr ⟨lw_p45, List.forall_mem_cons.mpr ⟨lw_p46, List.forall_mem_cons.mpr ⟨lw_p47, fun _ h => absurd h List.not_mem_nil⟩⟩⟩⟩⟩⟩⟩⟩⟩⟩⟩⟩⟩⟩⟩⟩
theorem lw_p48 : lw_okq (⟨"FixtureTablesModel", "skips", "(I)Z"⟩, 47) := ⟨⟨by decide +kernel, by decide +kernel⟩, List.mem_of_getElem? (i := 968) (by decide +kernel), List.mem_of_getElem? (i := 1160) (by decide +kernel), List.mem_of_getElem? (i := 1161) (by decide +kernel)⟩
theorem lw_p49 : lw_okq (⟨"FixtureTablesModel", "readColumns", "(I)Z"⟩, 47) := ⟨⟨by decide +kernel, by decide +kernel⟩, List.mem_of_getElem? (i := 968) (by decide +kernel), List.mem_of_getElem? (i := 1164) (by decide +kernel), List.mem_of_getElem? (i := 1165) (by decide +kernel)⟩
theorem lw_p50 : lw_okq (⟨"FixtureTablesModel", "readRow", "(I)Z"⟩, 47) := ⟨⟨by decide +kernel, by decide +kernel⟩, List.mem_of_getElem? (i := 968) (by decide +kernel), List.mem_of_getElem? (i := 1168) (by decide +kernel), List.mem_of_getElem? (i := 1169) (by decide +kernel)⟩
theorem lw_p51 : lw_okq (⟨"FixtureTablesModel", "readCell", "(II)Z"⟩, 47) := ⟨⟨by decide +kernel, by decide +kernel⟩, List.mem_of_getElem? (i := 968) (by decide +kernel), List.mem_of_getElem? (i := 1172) (by decide +kernel), List.mem_of_getElem? (i := 1173) (by decide +kernel)⟩
theorem lw_p52 : lw_okq (⟨"FixtureTablesModel", "put", "(IJZ)V"⟩, 47) := ⟨⟨by decide +kernel, by decide +kernel⟩, List.mem_of_getElem? (i := 968) (by decide +kernel), List.mem_of_getElem? (i := 1176) (by decide +kernel), List.mem_of_getElem? (i := 1177) (by decide +kernel)⟩
theorem lw_p53 : lw_okq (⟨"FixtureTablesModel", "readNumber", "(IZ)Z"⟩, 47) := ⟨⟨by decide +kernel, by decide +kernel⟩, List.mem_of_getElem? (i := 968) (by decide +kernel), List.mem_of_getElem? (i := 1180) (by decide +kernel), List.mem_of_getElem? (i := 1181) (by decide +kernel)⟩
theorem lw_p54 : lw_okq (⟨"FixtureTablesModel", "digits", "(I)J"⟩, 47) := ⟨⟨by decide +kernel, by decide +kernel⟩, List.mem_of_getElem? (i := 968) (by decide +kernel), List.mem_of_getElem? (i := 1184) (by decide +kernel), List.mem_of_getElem? (i := 1185) (by decide +kernel)⟩
theorem lw_p55 : lw_okq (⟨"FixtureTablesModel", "readQuoted", "(I)Z"⟩, 47) := ⟨⟨by decide +kernel, by decide +kernel⟩, List.mem_of_getElem? (i := 968) (by decide +kernel), List.mem_of_getElem? (i := 1192) (by decide +kernel), List.mem_of_getElem? (i := 1193) (by decide +kernel)⟩
theorem lw_p56 : lw_okq (⟨"FixtureTablesModel", "readLetters", "(I)Z"⟩, 47) := ⟨⟨by decide +kernel, by decide +kernel⟩, List.mem_of_getElem? (i := 968) (by decide +kernel), List.mem_of_getElem? (i := 1196) (by decide +kernel), List.mem_of_getElem? (i := 1197) (by decide +kernel)⟩
theorem lw_p57 : lw_okq (⟨"FixtureTablesModel", "isLetter", "()Z"⟩, 47) := ⟨⟨by decide +kernel, by decide +kernel⟩, List.mem_of_getElem? (i := 968) (by decide +kernel), List.mem_of_getElem? (i := 1200) (by decide +kernel), List.mem_of_getElem? (i := 1201) (by decide +kernel)⟩
theorem lw_p58 : lw_okq (⟨"FixtureTablesModel", "fail", "(I)I"⟩, 47) := ⟨⟨by decide +kernel, by decide +kernel⟩, List.mem_of_getElem? (i := 968) (by decide +kernel), List.mem_of_getElem? (i := 1204) (by decide +kernel), List.mem_of_getElem? (i := 1205) (by decide +kernel)⟩
theorem lw_p59 : lw_okq (⟨"FixtureTablesModel", "ordered", "()Z"⟩, 47) := ⟨⟨by decide +kernel, by decide +kernel⟩, List.mem_of_getElem? (i := 968) (by decide +kernel), List.mem_of_getElem? (i := 1216) (by decide +kernel), List.mem_of_getElem? (i := 1217) (by decide +kernel)⟩
theorem lw_p60 : lw_okq (⟨"FixtureTablesModel", "isFree", "(II)Z"⟩, 47) := ⟨⟨by decide +kernel, by decide +kernel⟩, List.mem_of_getElem? (i := 968) (by decide +kernel), List.mem_of_getElem? (i := 1220) (by decide +kernel), List.mem_of_getElem? (i := 1221) (by decide +kernel)⟩
theorem lw_p61 : lw_okq (⟨"FixtureTablesModel", "keep", "(I)V"⟩, 47) := ⟨⟨by decide +kernel, by decide +kernel⟩, List.mem_of_getElem? (i := 968) (by decide +kernel), List.mem_of_getElem? (i := 1228) (by decide +kernel), List.mem_of_getElem? (i := 1229) (by decide +kernel)⟩
theorem lw_p62 : lw_okq (⟨"FixtureTablesModel", "undo", "(I)V"⟩, 47) := ⟨⟨by decide +kernel, by decide +kernel⟩, List.mem_of_getElem? (i := 968) (by decide +kernel), List.mem_of_getElem? (i := 1240) (by decide +kernel), List.mem_of_getElem? (i := 1241) (by decide +kernel)⟩
theorem lw_p63 : lw_okq (⟨"FixtureTablesModel", "because", "(IIII)Z"⟩, 47) := ⟨⟨by decide +kernel, by decide +kernel⟩, List.mem_of_getElem? (i := 968) (by decide +kernel), List.mem_of_getElem? (i := 1248) (by decide +kernel), List.mem_of_getElem? (i := 1249) (by decide +kernel)⟩
def lw_privs_4 : List (MethodName × Nat) := [(⟨"FixtureTablesModel", "skips", "(I)Z"⟩, 47), (⟨"FixtureTablesModel", "readColumns", "(I)Z"⟩, 47), (⟨"FixtureTablesModel", "readRow", "(I)Z"⟩, 47), (⟨"FixtureTablesModel", "readCell", "(II)Z"⟩, 47), (⟨"FixtureTablesModel", "put", "(IJZ)V"⟩, 47), (⟨"FixtureTablesModel", "readNumber", "(IZ)Z"⟩, 47), (⟨"FixtureTablesModel", "digits", "(I)J"⟩, 47), (⟨"FixtureTablesModel", "readQuoted", "(I)Z"⟩, 47), (⟨"FixtureTablesModel", "readLetters", "(I)Z"⟩, 47), (⟨"FixtureTablesModel", "isLetter", "()Z"⟩, 47), (⟨"FixtureTablesModel", "fail", "(I)I"⟩, 47), (⟨"FixtureTablesModel", "ordered", "()Z"⟩, 47), (⟨"FixtureTablesModel", "isFree", "(II)Z"⟩, 47), (⟨"FixtureTablesModel", "keep", "(I)V"⟩, 47), (⟨"FixtureTablesModel", "undo", "(I)V"⟩, 47), (⟨"FixtureTablesModel", "because", "(IIII)Z"⟩, 47)]
theorem lw_r4 : ∀ q ∈ lw_privs_4, lw_okq q := List.forall_mem_cons.mpr ⟨lw_p48, List.forall_mem_cons.mpr ⟨lw_p49, List.forall_mem_cons.mpr ⟨lw_p50, List.forall_mem_cons.mpr ⟨lw_p51, List.forall_mem_cons.mpr ⟨lw_p52, List.forall_mem_cons.mpr ⟨lw_p53, List.forall_mem_cons.mpr ⟨lw_p54, List.forall_mem_cons.mpr ⟨lw_p55, List.forall_mem_cons.mpr ⟨lw_p56, List.forall_mem_cons.mpr ⟨lw_p57, List.forall_mem_cons.mpr ⟨lw_p58, List.forall_mem_cons.mpr ⟨lw_p59, List.forall_mem_cons.mpr ⟨lw_p60, List.forall_mem_cons.mpr ⟨lw_p61, List.forall_mem_cons.mpr ⟨lw_p62, List.forall_mem_cons.mpr ⟨lw_p63, fun _ h => absurd h List.not_mem_nil⟩⟩⟩⟩⟩⟩⟩⟩⟩⟩⟩⟩⟩⟩⟩⟩
theorem lw_p64 : lw_okq (⟨"FixtureTablesModel", "perform", "(I)Z"⟩, 47) := ⟨⟨by decide +kernel, by decide +kernel⟩, List.mem_of_getElem? (i := 968) (by decide +kernel), List.mem_of_getElem? (i := 1252) (by decide +kernel), List.mem_of_getElem? (i := 1253) (by decide +kernel)⟩
theorem lw_p65 : lw_okq (⟨"FixtureTablesModel", "change", "(IIII)Z"⟩, 47) := ⟨⟨by decide +kernel, by decide +kernel⟩, List.mem_of_getElem? (i := 968) (by decide +kernel), List.mem_of_getElem? (i := 1256) (by decide +kernel), List.mem_of_getElem? (i := 1257) (by decide +kernel)⟩
theorem lw_p66 : lw_okq (⟨"FixtureTablesModel", "keyOf", "(I)I"⟩, 47) := ⟨⟨by decide +kernel, by decide +kernel⟩, List.mem_of_getElem? (i := 968) (by decide +kernel), List.mem_of_getElem? (i := 1260) (by decide +kernel), List.mem_of_getElem? (i := 1261) (by decide +kernel)⟩
theorem lw_p67 : lw_okq (⟨"FixtureTablesModel", "find", "(IJ)I"⟩, 47) := ⟨⟨by decide +kernel, by decide +kernel⟩, List.mem_of_getElem? (i := 968) (by decide +kernel), List.mem_of_getElem? (i := 1264) (by decide +kernel), List.mem_of_getElem? (i := 1265) (by decide +kernel)⟩
theorem lw_p68 : lw_okq (⟨"FixtureTablesModel", "isReferred", "(II)Z"⟩, 47) := ⟨⟨by decide +kernel, by decide +kernel⟩, List.mem_of_getElem? (i := 968) (by decide +kernel), List.mem_of_getElem? (i := 1268) (by decide +kernel), List.mem_of_getElem? (i := 1269) (by decide +kernel)⟩
theorem lw_p69 : lw_okq (⟨"FixtureTablesModel", "log", "(I)Z"⟩, 47) := ⟨⟨by decide +kernel, by decide +kernel⟩, List.mem_of_getElem? (i := 968) (by decide +kernel), List.mem_of_getElem? (i := 1272) (by decide +kernel), List.mem_of_getElem? (i := 1273) (by decide +kernel)⟩
theorem lw_p70 : lw_okq (⟨"FixtureTablesModel", "remove", "(II)V"⟩, 47) := ⟨⟨by decide +kernel, by decide +kernel⟩, List.mem_of_getElem? (i := 968) (by decide +kernel), List.mem_of_getElem? (i := 1276) (by decide +kernel), List.mem_of_getElem? (i := 1277) (by decide +kernel)⟩
theorem lw_p71 : lw_okq (⟨"FixtureTablesModel", "build", "(IIII)V"⟩, 47) := ⟨⟨by decide +kernel, by decide +kernel⟩, List.mem_of_getElem? (i := 968) (by decide +kernel), List.mem_of_getElem? (i := 1280) (by decide +kernel), List.mem_of_getElem? (i := 1281) (by decide +kernel)⟩
theorem lw_p72 : lw_okq (⟨"FixtureTablesModel", "checkRow", "(II)Z"⟩, 47) := ⟨⟨by decide +kernel, by decide +kernel⟩, List.mem_of_getElem? (i := 968) (by decide +kernel), List.mem_of_getElem? (i := 1284) (by decide +kernel), List.mem_of_getElem? (i := 1285) (by decide +kernel)⟩
theorem lw_p73 : lw_okq (⟨"FixtureTablesModel", "store", "(II)V"⟩, 47) := ⟨⟨by decide +kernel, by decide +kernel⟩, List.mem_of_getElem? (i := 968) (by decide +kernel), List.mem_of_getElem? (i := 1288) (by decide +kernel), List.mem_of_getElem? (i := 1289) (by decide +kernel)⟩
theorem lw_p74 : lw_okq (⟨"FixtureTablesModel", "removeAll", "()Z"⟩, 47) := ⟨⟨by decide +kernel, by decide +kernel⟩, List.mem_of_getElem? (i := 968) (by decide +kernel), List.mem_of_getElem? (i := 1292) (by decide +kernel), List.mem_of_getElem? (i := 1293) (by decide +kernel)⟩
theorem lw_p75 : lw_okq (⟨"FixtureTablesModel", "hasSection", "(I)Z"⟩, 47) := ⟨⟨by decide +kernel, by decide +kernel⟩, List.mem_of_getElem? (i := 968) (by decide +kernel), List.mem_of_getElem? (i := 1296) (by decide +kernel), List.mem_of_getElem? (i := 1297) (by decide +kernel)⟩
theorem lw_p76 : lw_okq (⟨"FixtureTablesModel", "hasChild", "(I)Z"⟩, 47) := ⟨⟨by decide +kernel, by decide +kernel⟩, List.mem_of_getElem? (i := 968) (by decide +kernel), List.mem_of_getElem? (i := 1300) (by decide +kernel), List.mem_of_getElem? (i := 1301) (by decide +kernel)⟩
theorem lw_p77 : lw_okq (⟨"FixtureTablesModel", "placeOf", "(III)I"⟩, 47) := ⟨⟨by decide +kernel, by decide +kernel⟩, List.mem_of_getElem? (i := 968) (by decide +kernel), List.mem_of_getElem? (i := 1316) (by decide +kernel), List.mem_of_getElem? (i := 1317) (by decide +kernel)⟩
theorem lw_p78 : lw_okq (⟨"FixtureTablesModel", "compareSection", "(IJI)V"⟩, 47) := ⟨⟨by decide +kernel, by decide +kernel⟩, List.mem_of_getElem? (i := 968) (by decide +kernel), List.mem_of_getElem? (i := 1328) (by decide +kernel), List.mem_of_getElem? (i := 1329) (by decide +kernel)⟩
theorem lw_p79 : lw_okq (⟨"FixtureTablesModel", "sort", "(I)V"⟩, 47) := ⟨⟨by decide +kernel, by decide +kernel⟩, List.mem_of_getElem? (i := 968) (by decide +kernel), List.mem_of_getElem? (i := 1332) (by decide +kernel), List.mem_of_getElem? (i := 1333) (by decide +kernel)⟩
def lw_privs_5 : List (MethodName × Nat) := [(⟨"FixtureTablesModel", "perform", "(I)Z"⟩, 47), (⟨"FixtureTablesModel", "change", "(IIII)Z"⟩, 47), (⟨"FixtureTablesModel", "keyOf", "(I)I"⟩, 47), (⟨"FixtureTablesModel", "find", "(IJ)I"⟩, 47), (⟨"FixtureTablesModel", "isReferred", "(II)Z"⟩, 47), (⟨"FixtureTablesModel", "log", "(I)Z"⟩, 47), (⟨"FixtureTablesModel", "remove", "(II)V"⟩, 47), (⟨"FixtureTablesModel", "build", "(IIII)V"⟩, 47), (⟨"FixtureTablesModel", "checkRow", "(II)Z"⟩, 47), (⟨"FixtureTablesModel", "store", "(II)V"⟩, 47), (⟨"FixtureTablesModel", "removeAll", "()Z"⟩, 47), (⟨"FixtureTablesModel", "hasSection", "(I)Z"⟩, 47), (⟨"FixtureTablesModel", "hasChild", "(I)Z"⟩, 47), (⟨"FixtureTablesModel", "placeOf", "(III)I"⟩, 47), (⟨"FixtureTablesModel", "compareSection", "(IJI)V"⟩, 47), (⟨"FixtureTablesModel", "sort", "(I)V"⟩, 47)]
theorem lw_r5 : ∀ q ∈ lw_privs_5, lw_okq q := List.forall_mem_cons.mpr ⟨lw_p64, List.forall_mem_cons.mpr ⟨lw_p65, List.forall_mem_cons.mpr ⟨lw_p66, List.forall_mem_cons.mpr ⟨lw_p67, List.forall_mem_cons.mpr ⟨lw_p68, List.forall_mem_cons.mpr ⟨lw_p69, List.forall_mem_cons.mpr ⟨lw_p70, List.forall_mem_cons.mpr ⟨lw_p71, List.forall_mem_cons.mpr ⟨lw_p72, List.forall_mem_cons.mpr ⟨lw_p73, List.forall_mem_cons.mpr ⟨lw_p74, List.forall_mem_cons.mpr ⟨lw_p75, List.forall_mem_cons.mpr ⟨lw_p76, List.forall_mem_cons.mpr ⟨lw_p77, List.forall_mem_cons.mpr ⟨lw_p78, List.forall_mem_cons.mpr ⟨lw_p79, fun _ h => absurd h List.not_mem_nil⟩⟩⟩⟩⟩⟩⟩⟩⟩⟩⟩⟩⟩⟩⟩⟩
theorem lw_p80 : lw_okq (⟨"FixtureTablesModel", "isBefore", "(II)Z"⟩, 47) := ⟨⟨by decide +kernel, by decide +kernel⟩, List.mem_of_getElem? (i := 968) (by decide +kernel), List.mem_of_getElem? (i := 1336) (by decide +kernel), List.mem_of_getElem? (i := 1337) (by decide +kernel)⟩
theorem lw_p81 : lw_okq (⟨"FixtureTablesModel", "differ", "(III)V"⟩, 47) := ⟨⟨by decide +kernel, by decide +kernel⟩, List.mem_of_getElem? (i := 968) (by decide +kernel), List.mem_of_getElem? (i := 1340) (by decide +kernel), List.mem_of_getElem? (i := 1341) (by decide +kernel)⟩
theorem lw_p82 : lw_okq (⟨"FixtureTablesModel", "isOther", "(IIIJ)Z"⟩, 47) := ⟨⟨by decide +kernel, by decide +kernel⟩, List.mem_of_getElem? (i := 968) (by decide +kernel), List.mem_of_getElem? (i := 1344) (by decide +kernel), List.mem_of_getElem? (i := 1345) (by decide +kernel)⟩
theorem lw_p83 : lw_okq (⟨"FixtureTablesModel", "say", "(I)V"⟩, 47) := ⟨⟨by decide +kernel, by decide +kernel⟩, List.mem_of_getElem? (i := 968) (by decide +kernel), List.mem_of_getElem? (i := 1356) (by decide +kernel), List.mem_of_getElem? (i := 1357) (by decide +kernel)⟩
theorem lw_p84 : lw_okq (⟨"FixtureTablesModel", "sayValue", "(IJ)V"⟩, 47) := ⟨⟨by decide +kernel, by decide +kernel⟩, List.mem_of_getElem? (i := 968) (by decide +kernel), List.mem_of_getElem? (i := 1360) (by decide +kernel), List.mem_of_getElem? (i := 1361) (by decide +kernel)⟩
theorem lw_p85 : lw_okq (⟨"FixtureTablesModel", "sayText", "(J)V"⟩, 47) := ⟨⟨by decide +kernel, by decide +kernel⟩, List.mem_of_getElem? (i := 968) (by decide +kernel), List.mem_of_getElem? (i := 1364) (by decide +kernel), List.mem_of_getElem? (i := 1365) (by decide +kernel)⟩
theorem lw_p86 : lw_okq (⟨"FixtureTablesModel", "sayNumber", "(J)V"⟩, 47) := ⟨⟨by decide +kernel, by decide +kernel⟩, List.mem_of_getElem? (i := 968) (by decide +kernel), List.mem_of_getElem? (i := 1369) (by decide +kernel), List.mem_of_getElem? (i := 1370) (by decide +kernel)⟩
def lw_privs_6 : List (MethodName × Nat) := [(⟨"FixtureTablesModel", "isBefore", "(II)Z"⟩, 47), (⟨"FixtureTablesModel", "differ", "(III)V"⟩, 47), (⟨"FixtureTablesModel", "isOther", "(IIIJ)Z"⟩, 47), (⟨"FixtureTablesModel", "say", "(I)V"⟩, 47), (⟨"FixtureTablesModel", "sayValue", "(IJ)V"⟩, 47), (⟨"FixtureTablesModel", "sayText", "(J)V"⟩, 47), (⟨"FixtureTablesModel", "sayNumber", "(J)V"⟩, 47)]
theorem lw_r6 : ∀ q ∈ lw_privs_6, lw_okq q := List.forall_mem_cons.mpr ⟨lw_p80, List.forall_mem_cons.mpr ⟨lw_p81, List.forall_mem_cons.mpr ⟨lw_p82, List.forall_mem_cons.mpr ⟨lw_p83, List.forall_mem_cons.mpr ⟨lw_p84, List.forall_mem_cons.mpr ⟨lw_p85, List.forall_mem_cons.mpr ⟨lw_p86, fun _ h => absurd h List.not_mem_nil⟩⟩⟩⟩⟩⟩⟩
def lw_privs : List (MethodName × Nat) := lw_privs_1 ++ (lw_privs_2 ++ (lw_privs_3 ++ (lw_privs_4 ++ (lw_privs_5 ++ (lw_privs_6)))))
def lw_tbl : List Cond := k2_sels lw_privs ++ tables_1
theorem lw_privs_ok : ∀ q ∈ lw_privs, lw_okq q := by
  show ∀ q ∈ lw_privs_1 ++ (lw_privs_2 ++ (lw_privs_3 ++ (lw_privs_4 ++ (lw_privs_5 ++ (lw_privs_6))))), lw_okq q
  exact List.forall_mem_append.mpr ⟨lw_r1, List.forall_mem_append.mpr ⟨lw_r2, List.forall_mem_append.mpr ⟨lw_r3, List.forall_mem_append.mpr ⟨lw_r4, List.forall_mem_append.mpr ⟨lw_r5, lw_r6⟩⟩⟩⟩⟩
def ai_T0 : u_T := fun k => match k with
  | 0 => ("FixtureTables", "database", "LFixtureTables$Database;", true)
  | 1 => ("FixtureTables", "reader", "LFixtureTables$Reader;", true)
  | 2 => ("FixtureTables", "comparison", "LFixtureTables$Comparison;", true)
  | 3 => ("FixtureTables", "writer", "LFixtureTables$Writer;", true)
  | 4 => ("FixtureTables", "dataset", "LFixtureTables$Dataset;", false)
  | 5 => ("FixtureTables", "spare", "LFixtureTables$Dataset;", false)
  | 6 => ("FixtureTables", "datasetKnown", "Z", false)
  | _ => ("FixtureTables", "faultPlace", "I", false)
def ai_T1 : u_T := fun k => match k with
  | 0 => ("FixtureTables$Comparison", "found", "I", false)
  | 1 => ("FixtureTables$Comparison", "parts", "[I", true)
  | _ => ("FixtureTables$Comparison", "sorted", "[I", true)
def ai_T2 : u_T := fun k => match k with
  | 0 => ("FixtureTables$Database", "schema", "LFixtureTables$Schema;", true)
  | 1 => ("FixtureTables$Database", "store", "LFixtureTables$Store;", true)
  | 2 => ("FixtureTables$Database", "log", "LFixtureTables$Log;", true)
  | 3 => ("FixtureTables$Database", "failure", "[I", true)
  | 4 => ("FixtureTables$Database", "made", "I", false)
  | 5 => ("FixtureTables$Database", "before", "LFixtureTables$Store;", true)
  | 6 => ("FixtureTables$Database", "candidate", "LFixtureTables$Row;", true)
  | _ => ("FixtureTables$Database", "changesBefore", "I", false)
def ai_T3 : u_T := fun k => match k with
  | 0 => ("FixtureTables$Dataset", "sections", "I", false)
  | 1 => ("FixtureTables$Dataset", "rowCount", "I", false)
  | 2 => ("FixtureTables$Dataset", "tables", "[I", true)
  | 3 => ("FixtureTables$Dataset", "widths", "[I", true)
  | 4 => ("FixtureTables$Dataset", "columns", "[I", true)
  | 5 => ("FixtureTables$Dataset", "named", "[I", true)
  | 6 => ("FixtureTables$Dataset", "firstRows", "[I", true)
  | 7 => ("FixtureTables$Dataset", "rowSections", "[I", true)
  | 8 => ("FixtureTables$Dataset", "cells", "[J", true)
  | _ => ("FixtureTables$Dataset", "nulls", "[I", true)
def ai_T4 : u_T := fun k => match k with
  | 0 => ("FixtureTables$Log", "open", "I", false)
  | 1 => ("FixtureTables$Log", "changes", "I", false)
  | 2 => ("FixtureTables$Log", "starts", "[LFixtureTables$Store;", true)
  | _ => ("FixtureTables$Log", "startChanges", "[I", true)
def ai_T5 : u_T := fun k => match k with
  | 0 => ("FixtureTables$Reader", "length", "I", false)
  | 1 => ("FixtureTables$Reader", "at", "I", false)
  | 2 => ("FixtureTables$Reader", "text", "[C", true)
  | 3 => ("FixtureTables$Reader", "cell", "J", false)
  | _ => ("FixtureTables$Reader", "cellIsNull", "Z", false)
def ai_T6 : u_T := fun k => match k with
  | 0 => ("FixtureTables$Row", "cells", "[J", true)
  | _ => ("FixtureTables$Row", "nulls", "I", false)
def ai_T7 : u_T := fun k => match k with
  | 0 => ("FixtureTables$Schema", "tables", "I", false)
  | 1 => ("FixtureTables$Schema", "sequence", "[I", true)
  | 2 => ("FixtureTables$Schema", "widths", "[I", true)
  | 3 => ("FixtureTables$Schema", "types", "[I", true)
  | 4 => ("FixtureTables$Schema", "parents", "[I", true)
  | _ => ("FixtureTables$Schema", "required", "[Z", true)
def ai_T8 : u_T := fun k => match k with
  | 0 => ("FixtureTables$Store", "counts", "[I", true)
  | 1 => ("FixtureTables$Store", "cells", "[J", true)
  | _ => ("FixtureTables$Store", "nulls", "[I", true)
def ai_T9 : u_T := fun k => match k with
  | 0 => ("FixtureTables$Writer", "length", "I", false)
  | _ => ("FixtureTables$Writer", "characters", "[C", true)
def ai_T10 : u_T := fun k => match k with
  | 0 => ("FixtureTablesModel", "code", "I", false)
  | 1 => ("FixtureTablesModel", "tables", "I", false)
  | 2 => ("FixtureTablesModel", "columns", "[I", true)
  | 3 => ("FixtureTablesModel", "type", "[I", true)
  | 4 => ("FixtureTablesModel", "required", "[Z", true)
  | 5 => ("FixtureTablesModel", "parent", "[I", true)
  | 6 => ("FixtureTablesModel", "many", "[I", true)
  | 7 => ("FixtureTablesModel", "value", "[J", true)
  | 8 => ("FixtureTablesModel", "none", "[Z", true)
  | 9 => ("FixtureTablesModel", "oldValue", "[J", true)
  | 10 => ("FixtureTablesModel", "oldNone", "[Z", true)
  | 11 => ("FixtureTablesModel", "oldMany", "[I", true)
  | 12 => ("FixtureTablesModel", "oldLogged", "[I", true)
  | 13 => ("FixtureTablesModel", "open", "I", false)
  | 14 => ("FixtureTablesModel", "logged", "I", false)
  | 15 => ("FixtureTablesModel", "typed", "I", false)
  | 16 => ("FixtureTablesModel", "text", "[I", true)
  | 17 => ("FixtureTablesModel", "at", "I", false)
  | 18 => ("FixtureTablesModel", "fault", "I", false)
  | 19 => ("FixtureTablesModel", "there", "Z", false)
  | 20 => ("FixtureTablesModel", "sections", "I", false)
  | 21 => ("FixtureTablesModel", "data", "I", false)
  | 22 => ("FixtureTablesModel", "sectionTable", "[I", true)
  | 23 => ("FixtureTablesModel", "sectionWide", "[I", true)
  | 24 => ("FixtureTablesModel", "sectionFirst", "[I", true)
  | 25 => ("FixtureTablesModel", "sectionColumn", "[I", true)
  | 26 => ("FixtureTablesModel", "cell", "[J", true)
  | 27 => ("FixtureTablesModel", "cellNone", "[Z", true)
  | 28 => ("FixtureTablesModel", "newSections", "I", false)
  | 29 => ("FixtureTablesModel", "newData", "I", false)
  | 30 => ("FixtureTablesModel", "newTable", "[I", true)
  | 31 => ("FixtureTablesModel", "newWide", "[I", true)
  | 32 => ("FixtureTablesModel", "newFirst", "[I", true)
  | 33 => ("FixtureTablesModel", "newColumn", "[I", true)
  | 34 => ("FixtureTablesModel", "newCell", "[J", true)
  | 35 => ("FixtureTablesModel", "newNone", "[Z", true)
  | 36 => ("FixtureTablesModel", "order", "[I", true)
  | 37 => ("FixtureTablesModel", "changes", "I", false)
  | 38 => ("FixtureTablesModel", "why", "[I", true)
  | 39 => ("FixtureTablesModel", "row", "[J", true)
  | 40 => ("FixtureTablesModel", "rowNone", "[Z", true)
  | 41 => ("FixtureTablesModel", "differences", "I", false)
  | 42 => ("FixtureTablesModel", "compared", "Z", false)
  | 43 => ("FixtureTablesModel", "difference", "[I", true)
  | 44 => ("FixtureTablesModel", "sorted", "[I", true)
  | 45 => ("FixtureTablesModel", "written", "I", false)
  | _ => ("FixtureTablesModel", "output", "[I", true)
def vwCl : List vw_C := [("FixtureTables", ai_T0, 8), ("FixtureTables$Comparison", ai_T1, 3), ("FixtureTables$Database", ai_T2, 8), ("FixtureTables$Dataset", ai_T3, 10), ("FixtureTables$Log", ai_T4, 4), ("FixtureTables$Reader", ai_T5, 5), ("FixtureTables$Row", ai_T6, 2), ("FixtureTables$Schema", ai_T7, 6), ("FixtureTables$Store", ai_T8, 3), ("FixtureTables$Writer", ai_T9, 2), ("FixtureTablesModel", ai_T10, 47)]
def ai_Store : String := "FixtureTables$Store"
def ai_y0 : MethodName := ⟨"FixtureTables", "<init>", "()V"⟩
def ai_y1 : MethodName := ⟨"FixtureTables", "table", "()I"⟩
def ai_y2 : MethodName := ⟨"FixtureTables", "column", "(IIZI)I"⟩
def ai_y3 : MethodName := ⟨"FixtureTables", "type", "(C)Z"⟩
def ai_y4 : MethodName := ⟨"FixtureTables", "wipe", "()V"⟩
def ai_y5 : MethodName := ⟨"FixtureTables", "read", "()I"⟩
def ai_y6 : MethodName := ⟨"FixtureTables", "fault", "()I"⟩
def ai_y7 : MethodName := ⟨"FixtureTables", "order", "(I)I"⟩
def ai_y8 : MethodName := ⟨"FixtureTables", "apply", "(I)I"⟩
def ai_y9 : MethodName := ⟨"FixtureTables", "failure", "(I)I"⟩
def ai_y10 : MethodName := ⟨"FixtureTables", "rows", "(I)I"⟩
def ai_y11 : MethodName := ⟨"FixtureTables", "value", "(III)J"⟩
def ai_y12 : MethodName := ⟨"FixtureTables", "isNull", "(III)Z"⟩
def ai_y13 : MethodName := ⟨"FixtureTables", "begin", "()I"⟩
def ai_y14 : MethodName := ⟨"FixtureTables", "commit", "()I"⟩
def ai_y15 : MethodName := ⟨"FixtureTables", "rollback", "()I"⟩
def ai_y16 : MethodName := ⟨"FixtureTables", "compare", "(JI)I"⟩
def ai_y17 : MethodName := ⟨"FixtureTables", "difference", "(II)I"⟩
def ai_y18 : MethodName := ⟨"FixtureTables", "write", "(I)I"⟩
def ai_y19 : MethodName := ⟨"FixtureTables", "written", "(I)C"⟩
def ai_y20 : MethodName := ⟨"FixtureTables$Comparison", "<init>", "()V"⟩
def ai_y21 : MethodName := ⟨"FixtureTables$Comparison", "forget", "()V"⟩
def ai_y22 : MethodName := ⟨"FixtureTables$Comparison", "kept", "()I"⟩
def ai_y23 : MethodName := ⟨"FixtureTables$Comparison", "part", "(II)I"⟩
def ai_y24 : MethodName := ⟨"FixtureTables$Comparison", "run", "(LFixtureTables$Database;LFixtureTables$Dataset;JI)V"⟩
def ai_y25 : MethodName := ⟨"FixtureTables$Comparison", "compareSection", "(LFixtureTables$Database;LFixtureTables$Dataset;IJI)V"⟩
def ai_y26 : MethodName := ⟨"FixtureTables$Comparison", "sortRows", "(LFixtureTables$Dataset;I)V"⟩
def ai_y27 : MethodName := ⟨"FixtureTables$Comparison", "keyIsLess", "(LFixtureTables$Dataset;II)Z"⟩
def ai_y28 : MethodName := ⟨"FixtureTables$Comparison", "differs", "(LFixtureTables$Database;LFixtureTables$Dataset;IIIJ)Z"⟩
def ai_y29 : MethodName := ⟨"FixtureTables$Comparison", "add", "(III)V"⟩
def ai_y30 : MethodName := ⟨"FixtureTables$Database", "<init>", "()V"⟩
def ai_y31 : MethodName := ⟨"FixtureTables$Database", "hasCell", "(III)Z"⟩
def ai_y32 : MethodName := ⟨"FixtureTables$Database", "start", "()V"⟩
def ai_y33 : MethodName := ⟨"FixtureTables$Database", "takeBack", "()V"⟩
def ai_y34 : MethodName := ⟨"FixtureTables$Database", "perform", "(ILFixtureTables$Dataset;)Z"⟩
def ai_y35 : MethodName := ⟨"FixtureTables$Database", "clearTables", "(LFixtureTables$Dataset;)Z"⟩
def ai_y36 : MethodName := ⟨"FixtureTables$Database", "clearTable", "(I)Z"⟩
def ai_y37 : MethodName := ⟨"FixtureTables$Database", "othersRefer", "(I)Z"⟩
def ai_y38 : MethodName := ⟨"FixtureTables$Database", "tableRefers", "(III)Z"⟩
def ai_y39 : MethodName := ⟨"FixtureTables$Database", "loadRows", "(ILFixtureTables$Dataset;)Z"⟩
def ai_y40 : MethodName := ⟨"FixtureTables$Database", "loadRow", "(ILFixtureTables$Dataset;I)Z"⟩
def ai_y41 : MethodName := ⟨"FixtureTables$Database", "removeRow", "(III)Z"⟩
def ai_y42 : MethodName := ⟨"FixtureTables$Database", "fillCandidate", "(LFixtureTables$Dataset;II)V"⟩
def ai_y43 : MethodName := ⟨"FixtureTables$Database", "putCandidate", "(III)Z"⟩
def ai_y44 : MethodName := ⟨"FixtureTables$Database", "firstMissing", "(I)I"⟩
def ai_y45 : MethodName := ⟨"FixtureTables$Database", "firstOrphan", "(I)I"⟩
def ai_y46 : MethodName := ⟨"FixtureTables$Database", "noteChanges", "(I)V"⟩
def ai_y47 : MethodName := ⟨"FixtureTables$Database", "fail", "(IIII)Z"⟩
def ai_y48 : MethodName := ⟨"FixtureTables$Database", "setFailure", "(IIII)V"⟩
def ai_y49 : MethodName := ⟨"FixtureTables$Dataset", "<init>", "()V"⟩
def ai_y50 : MethodName := ⟨"FixtureTables$Dataset", "empty", "()V"⟩
def ai_y51 : MethodName := ⟨"FixtureTables$Dataset", "addSection", "(I)V"⟩
def ai_y52 : MethodName := ⟨"FixtureTables$Dataset", "addColumn", "(II)V"⟩
def ai_y53 : MethodName := ⟨"FixtureTables$Dataset", "addRow", "()V"⟩
def ai_y54 : MethodName := ⟨"FixtureTables$Dataset", "setCell", "(IIJ)V"⟩
def ai_y55 : MethodName := ⟨"FixtureTables$Dataset", "sectionTable", "(I)I"⟩
def ai_y56 : MethodName := ⟨"FixtureTables$Dataset", "width", "(I)I"⟩
def ai_y57 : MethodName := ⟨"FixtureTables$Dataset", "columnAt", "(II)I"⟩
def ai_y58 : MethodName := ⟨"FixtureTables$Dataset", "names", "(II)Z"⟩
def ai_y59 : MethodName := ⟨"FixtureTables$Dataset", "firstRow", "(I)I"⟩
def ai_y60 : MethodName := ⟨"FixtureTables$Dataset", "height", "(I)I"⟩
def ai_y61 : MethodName := ⟨"FixtureTables$Dataset", "hasSectionOf", "(I)Z"⟩
def ai_y62 : MethodName := ⟨"FixtureTables$Dataset", "sectionOf", "(I)I"⟩
def ai_y63 : MethodName := ⟨"FixtureTables$Dataset", "tableOf", "(I)I"⟩
def ai_y64 : MethodName := ⟨"FixtureTables$Dataset", "cell", "(II)J"⟩
def ai_y65 : MethodName := ⟨"FixtureTables$Dataset", "lacks", "(II)Z"⟩
def ai_y66 : MethodName := ⟨"FixtureTables$Log", "<init>", "()V"⟩
def ai_y67 : MethodName := ⟨"FixtureTables$Log", "admits", "(I)Z"⟩
def ai_y68 : MethodName := ⟨"FixtureTables$Log", "note", "(I)V"⟩
def ai_y69 : MethodName := ⟨"FixtureTables$Log", "push", "(LFixtureTables$Store;)V"⟩
def ai_y70 : MethodName := ⟨"FixtureTables$Log", "keep", "()V"⟩
def ai_y71 : MethodName := ⟨"FixtureTables$Log", "undo", "(LFixtureTables$Store;)V"⟩
def ai_y72 : MethodName := ⟨"FixtureTables$Reader", "<init>", "()V"⟩
def ai_y73 : MethodName := ⟨"FixtureTables$Reader", "append", "(C)Z"⟩
def ai_y74 : MethodName := ⟨"FixtureTables$Reader", "readDataset", "(LFixtureTables$Schema;LFixtureTables$Dataset;)Z"⟩
def ai_y75 : MethodName := ⟨"FixtureTables$Reader", "readSection", "(LFixtureTables$Schema;LFixtureTables$Dataset;)Z"⟩
def ai_y76 : MethodName := ⟨"FixtureTables$Reader", "readColumns", "(LFixtureTables$Schema;LFixtureTables$Dataset;)Z"⟩
def ai_y77 : MethodName := ⟨"FixtureTables$Reader", "readRow", "(LFixtureTables$Schema;LFixtureTables$Dataset;)Z"⟩
def ai_y78 : MethodName := ⟨"FixtureTables$Reader", "readCell", "(I)Z"⟩
def ai_y79 : MethodName := ⟨"FixtureTables$Reader", "readInteger", "()Z"⟩
def ai_y80 : MethodName := ⟨"FixtureTables$Reader", "readDecimal", "()Z"⟩
def ai_y81 : MethodName := ⟨"FixtureTables$Reader", "readDigits", "(I)I"⟩
def ai_y82 : MethodName := ⟨"FixtureTables$Reader", "readLetters", "()Z"⟩
def ai_y83 : MethodName := ⟨"FixtureTables$Reader", "readQuoted", "()Z"⟩
def ai_y84 : MethodName := ⟨"FixtureTables$Reader", "readBoolean", "()Z"⟩
def ai_y85 : MethodName := ⟨"FixtureTables$Reader", "addCharacter", "(II)V"⟩
def ai_y86 : MethodName := ⟨"FixtureTables$Reader", "accept", "(C)Z"⟩
def ai_y87 : MethodName := ⟨"FixtureTables$Reader", "digitHere", "()I"⟩
def ai_y88 : MethodName := ⟨"FixtureTables$Reader", "characterAt", "(I)I"⟩
def ai_y89 : MethodName := ⟨"FixtureTables$Row", "<init>", "()V"⟩
def ai_y90 : MethodName := ⟨"FixtureTables$Row", "lacks", "(I)Z"⟩
def ai_y91 : MethodName := ⟨"FixtureTables$Row", "put", "(IJZ)V"⟩
def ai_y92 : MethodName := ⟨"FixtureTables$Schema", "<init>", "()V"⟩
def ai_y93 : MethodName := ⟨"FixtureTables$Schema", "hasTable", "(I)Z"⟩
def ai_y94 : MethodName := ⟨"FixtureTables$Schema", "width", "(I)I"⟩
def ai_y95 : MethodName := ⟨"FixtureTables$Schema", "typeOf", "(II)I"⟩
def ai_y96 : MethodName := ⟨"FixtureTables$Schema", "parentOf", "(II)I"⟩
def ai_y97 : MethodName := ⟨"FixtureTables$Schema", "isRequired", "(II)Z"⟩
def ai_y98 : MethodName := ⟨"FixtureTables$Schema", "mayRefer", "(III)Z"⟩
def ai_y99 : MethodName := ⟨"FixtureTables$Schema", "addTable", "()I"⟩
def ai_y100 : MethodName := ⟨"FixtureTables$Schema", "addColumn", "(IIZI)I"⟩
def ai_y101 : MethodName := ⟨"FixtureTables$Schema", "arrange", "()Z"⟩
def ai_y102 : MethodName := ⟨"FixtureTables$Schema", "leastReady", "(I)I"⟩
def ai_y103 : MethodName := ⟨"FixtureTables$Schema", "parentsAreIn", "(II)Z"⟩
def ai_y104 : MethodName := ⟨"FixtureTables$Store", "<init>", "()V"⟩
def ai_y105 : MethodName := ⟨"FixtureTables$Store", "count", "(I)I"⟩
def ai_y106 : MethodName := ⟨"FixtureTables$Store", "cell", "(III)J"⟩
def ai_y107 : MethodName := ⟨"FixtureTables$Store", "lacks", "(III)Z"⟩
def ai_y108 : MethodName := ⟨"FixtureTables$Store", "find", "(IJ)I"⟩
def ai_y109 : MethodName := ⟨"FixtureTables$Store", "refers", "(IIJI)Z"⟩
def ai_y110 : MethodName := ⟨"FixtureTables$Store", "insert", "(ILFixtureTables$Row;)V"⟩
def ai_y111 : MethodName := ⟨"FixtureTables$Store", "replace", "(IILFixtureTables$Row;)V"⟩
def ai_y112 : MethodName := ⟨"FixtureTables$Store", "remove", "(II)V"⟩
def ai_y113 : MethodName := ⟨"FixtureTables$Store", "clear", "(I)V"⟩
def ai_y114 : MethodName := ⟨"FixtureTables$Store", "move", "(III)V"⟩
def ai_y115 : MethodName := ⟨"FixtureTables$Store", "copyFrom", "(LFixtureTables$Store;)V"⟩
def ai_y116 : MethodName := ⟨"FixtureTables$Writer", "<init>", "()V"⟩
def ai_y117 : MethodName := ⟨"FixtureTables$Writer", "writeTable", "(LFixtureTables$Database;I)V"⟩
def ai_y118 : MethodName := ⟨"FixtureTables$Writer", "writeRow", "(LFixtureTables$Database;II)V"⟩
def ai_y119 : MethodName := ⟨"FixtureTables$Writer", "writeCell", "(IJ)V"⟩
def ai_y120 : MethodName := ⟨"FixtureTables$Writer", "writeNumber", "(IJ)V"⟩
def ai_y121 : MethodName := ⟨"FixtureTables$Writer", "writeWhole", "(J)V"⟩
def ai_y122 : MethodName := ⟨"FixtureTables$Writer", "writeText", "(J)V"⟩
def ai_y123 : MethodName := ⟨"FixtureTables$Writer", "isLetters", "(J)Z"⟩
def ai_y124 : MethodName := ⟨"FixtureTables$Writer", "character", "(JI)I"⟩
def ai_y125 : MethodName := ⟨"FixtureTables$Writer", "add", "(I)V"⟩
def ai_y126 : MethodName := ⟨"FixtureTablesModel", "<init>", "()V"⟩
def ai_y127 : MethodName := ⟨"FixtureTablesModel", "thrown", "()I"⟩
def ai_y128 : MethodName := ⟨"FixtureTablesModel", "fail", "(I)I"⟩
def ai_y129 : MethodName := ⟨"FixtureTablesModel", "isTable", "(I)Z"⟩
def ai_y130 : MethodName := ⟨"FixtureTablesModel", "table", "()I"⟩
def ai_y131 : MethodName := ⟨"FixtureTablesModel", "isParent", "(III)Z"⟩
def ai_y132 : MethodName := ⟨"FixtureTablesModel", "column", "(IIZI)I"⟩
def ai_y133 : MethodName := ⟨"FixtureTablesModel", "type", "(C)Z"⟩
def ai_y134 : MethodName := ⟨"FixtureTablesModel", "wipe", "()V"⟩
def ai_y135 : MethodName := ⟨"FixtureTablesModel", "peek", "()I"⟩
def ai_y136 : MethodName := ⟨"FixtureTablesModel", "skips", "(I)Z"⟩
def ai_y137 : MethodName := ⟨"FixtureTablesModel", "isDigit", "()Z"⟩
def ai_y138 : MethodName := ⟨"FixtureTablesModel", "isLetter", "()Z"⟩
def ai_y139 : MethodName := ⟨"FixtureTablesModel", "put", "(IJZ)V"⟩
def ai_y140 : MethodName := ⟨"FixtureTablesModel", "digits", "(I)J"⟩
def ai_y141 : MethodName := ⟨"FixtureTablesModel", "readNumber", "(IZ)Z"⟩
def ai_y142 : MethodName := ⟨"FixtureTablesModel", "readLetters", "(I)Z"⟩
def ai_y143 : MethodName := ⟨"FixtureTablesModel", "readQuoted", "(I)Z"⟩
def ai_y144 : MethodName := ⟨"FixtureTablesModel", "readCell", "(II)Z"⟩
def ai_y145 : MethodName := ⟨"FixtureTablesModel", "readColumns", "(I)Z"⟩
def ai_y146 : MethodName := ⟨"FixtureTablesModel", "readRow", "(I)Z"⟩
def ai_y147 : MethodName := ⟨"FixtureTablesModel", "readSection", "()Z"⟩
def ai_y148 : MethodName := ⟨"FixtureTablesModel", "read", "()I"⟩
def ai_y149 : MethodName := ⟨"FixtureTablesModel", "fault", "()I"⟩
def ai_y150 : MethodName := ⟨"FixtureTablesModel", "isFree", "(II)Z"⟩
def ai_y151 : MethodName := ⟨"FixtureTablesModel", "ordered", "()Z"⟩
def ai_y152 : MethodName := ⟨"FixtureTablesModel", "order", "(I)I"⟩
def ai_y153 : MethodName := ⟨"FixtureTablesModel", "keep", "(I)V"⟩
def ai_y154 : MethodName := ⟨"FixtureTablesModel", "undo", "(I)V"⟩
def ai_y155 : MethodName := ⟨"FixtureTablesModel", "begin", "()I"⟩
def ai_y156 : MethodName := ⟨"FixtureTablesModel", "commit", "()I"⟩
def ai_y157 : MethodName := ⟨"FixtureTablesModel", "rollback", "()I"⟩
def ai_y158 : MethodName := ⟨"FixtureTablesModel", "because", "(IIII)Z"⟩
def ai_y159 : MethodName := ⟨"FixtureTablesModel", "find", "(IJ)I"⟩
def ai_y160 : MethodName := ⟨"FixtureTablesModel", "log", "(I)Z"⟩
def ai_y161 : MethodName := ⟨"FixtureTablesModel", "isReferred", "(II)Z"⟩
def ai_y162 : MethodName := ⟨"FixtureTablesModel", "remove", "(II)V"⟩
def ai_y163 : MethodName := ⟨"FixtureTablesModel", "store", "(II)V"⟩
def ai_y164 : MethodName := ⟨"FixtureTablesModel", "build", "(IIII)V"⟩
def ai_y165 : MethodName := ⟨"FixtureTablesModel", "checkRow", "(II)Z"⟩
def ai_y166 : MethodName := ⟨"FixtureTablesModel", "keyOf", "(I)I"⟩
def ai_y167 : MethodName := ⟨"FixtureTablesModel", "change", "(IIII)Z"⟩
def ai_y168 : MethodName := ⟨"FixtureTablesModel", "perform", "(I)Z"⟩
def ai_y169 : MethodName := ⟨"FixtureTablesModel", "hasSection", "(I)Z"⟩
def ai_y170 : MethodName := ⟨"FixtureTablesModel", "hasChild", "(I)Z"⟩
def ai_y171 : MethodName := ⟨"FixtureTablesModel", "removeAll", "()Z"⟩
def ai_y172 : MethodName := ⟨"FixtureTablesModel", "apply", "(I)I"⟩
def ai_y173 : MethodName := ⟨"FixtureTablesModel", "failure", "(I)I"⟩
def ai_y174 : MethodName := ⟨"FixtureTablesModel", "rows", "(I)I"⟩
def ai_y175 : MethodName := ⟨"FixtureTablesModel", "placeOf", "(III)I"⟩
def ai_y176 : MethodName := ⟨"FixtureTablesModel", "value", "(III)J"⟩
def ai_y177 : MethodName := ⟨"FixtureTablesModel", "isNull", "(III)Z"⟩
def ai_y178 : MethodName := ⟨"FixtureTablesModel", "sort", "(I)V"⟩
def ai_y179 : MethodName := ⟨"FixtureTablesModel", "isBefore", "(II)Z"⟩
def ai_y180 : MethodName := ⟨"FixtureTablesModel", "differ", "(III)V"⟩
def ai_y181 : MethodName := ⟨"FixtureTablesModel", "isOther", "(IIIJ)Z"⟩
def ai_y182 : MethodName := ⟨"FixtureTablesModel", "compareSection", "(IJI)V"⟩
def ai_y183 : MethodName := ⟨"FixtureTablesModel", "compare", "(JI)I"⟩
def ai_y184 : MethodName := ⟨"FixtureTablesModel", "difference", "(II)I"⟩
def ai_y185 : MethodName := ⟨"FixtureTablesModel", "say", "(I)V"⟩
def ai_y186 : MethodName := ⟨"FixtureTablesModel", "sayNumber", "(J)V"⟩
def ai_y187 : MethodName := ⟨"FixtureTablesModel", "sayText", "(J)V"⟩
def ai_y188 : MethodName := ⟨"FixtureTablesModel", "sayValue", "(IJ)V"⟩
def ai_y189 : MethodName := ⟨"FixtureTablesModel", "write", "(I)I"⟩
def ai_y190 : MethodName := ⟨"FixtureTablesModel", "written", "(I)C"⟩
def ai_y191 : MethodName := ⟨"FixtureTablesLaw", "table", "(LFixtureTables;[J)I"⟩
def ai_y192 : MethodName := ⟨"FixtureTablesLaw", "column", "(LFixtureTables;IIZI[J)I"⟩
def ai_y193 : MethodName := ⟨"FixtureTablesLaw", "read", "(LFixtureTables;[J)I"⟩
def ai_y194 : MethodName := ⟨"FixtureTablesLaw", "order", "(LFixtureTables;I[J)I"⟩
def ai_y195 : MethodName := ⟨"FixtureTablesLaw", "apply", "(LFixtureTables;I[J)I"⟩
def ai_y196 : MethodName := ⟨"FixtureTablesLaw", "rows", "(LFixtureTables;I[J)I"⟩
def ai_y197 : MethodName := ⟨"FixtureTablesLaw", "value", "(LFixtureTables;III[J)I"⟩
def ai_y198 : MethodName := ⟨"FixtureTablesLaw", "isNull", "(LFixtureTables;III[J)I"⟩
def ai_y199 : MethodName := ⟨"FixtureTablesLaw", "begin", "(LFixtureTables;[J)I"⟩
def ai_y200 : MethodName := ⟨"FixtureTablesLaw", "commit", "(LFixtureTables;[J)I"⟩
def ai_y201 : MethodName := ⟨"FixtureTablesLaw", "rollback", "(LFixtureTables;[J)I"⟩
def ai_y202 : MethodName := ⟨"FixtureTablesLaw", "compare", "(LFixtureTables;JI[J)I"⟩
def ai_y203 : MethodName := ⟨"FixtureTablesLaw", "difference", "(LFixtureTables;II[J)I"⟩
def ai_y204 : MethodName := ⟨"FixtureTablesLaw", "write", "(LFixtureTables;I[J)I"⟩
def ai_y205 : MethodName := ⟨"FixtureTablesLaw", "written", "(LFixtureTables;I[J)I"⟩
def ai_y206 : MethodName := ⟨"FixtureTablesLaw", "law", "([I)Z"⟩
end
section
/-! TABLES of the class, the reference and the law, written by a program of mine out of the class files: places, fields, methods, instructions. -/
abbrev ai_V : Type := Int ⊕ (Int ⊕ Nat)
abbrev ai_L : Type := List (Option ai_V)
abbrev ai_S : Type := Nat → Int → Int
abbrev ai_H : Type := Nat × List (Nat × Nat) × ai_S
abbrev ai_O : Type := (Option ai_V ⊕ Nat) × ai_H
abbrev ai_X : Type := Nat × Nat × Nat × Nat × Nat
abbrev ai_E : Type := Nat × Instr × Nat × ai_X × List Bool
abbrev ai_J : Type := Nat → Nat → ai_L → List ai_V → Nat × Nat → ai_H → (ai_O → Prop) → Prop
def ai_nth {α : Type} : List α → Nat → Option α
  | [], _ => none
  | a :: _, 0 => some a
  | _ :: l, n + 1 => ai_nth l n
def ai_gd {α : Type} (d : α) (l : List α) (n : Nat) : α := match ai_nth l n with
  | some x => x
  | none => d
noncomputable def ai_shT : List (Nat ⊕ (Nat × Nat)) := [.inl 0, .inl 2, .inl 7, .inr (0, 5), .inr (0, 5), .inr (0, 25), .inr (0, 25), .inr (2, 25), .inl 8, .inr (0, 5), .inr (1, 300), .inr (0, 60), .inl 4, .inr (4, 3), .inl 8, .inr (0, 5), .inr (1, 300), .inr (0, 60), .inl 8, .inr (0, 5), .inr (1, 300), .inr (0, 60), .inl 8, .inr (0, 5), .inr (1, 300), .inr (0, 60), .inr (0, 3), .inr (0, 4), .inl 8, .inr (0, 5), .inr (1, 300), .inr (0, 60), .inl 6, .inr (1, 5), .inl 5, .inr (3, 120), .inl 1, .inr (0, 60), .inr (0, 24), .inl 9, .inr (3, 1149), .inl 3, .inr (0, 6), .inr (0, 6), .inr (0, 30), .inr (0, 6), .inr (0, 6), .inr (0, 24), .inr (1, 120), .inr (0, 24), .inl 3, .inr (0, 6), .inr (0, 6), .inr (0, 30), .inr (0, 6), .inr (0, 6), .inr (0, 24), .inr (1, 120), .inr (0, 24), .inl 10, .inr (0, 5), .inr (0, 25), .inr (2, 25), .inr (0, 25), .inr (0, 5), .inr (1, 300), .inr (2, 300), .inr (1, 1200), .inr (2, 1200), .inr (0, 20), .inr (0, 4), .inr (0, 120), .inr (0, 6), .inr (0, 6), .inr (0, 7), .inr (0, 30), .inr (1, 120), .inr (2, 120), .inr (0, 6), .inr (0, 6), .inr (0, 7), .inr (0, 30), .inr (1, 120), .inr (2, 120), .inr (0, 5), .inr (0, 4), .inr (1, 5), .inr (2, 5), .inr (0, 60), .inr (0, 24), .inr (0, 1300), .inr (1, 1)]
noncomputable def ai_sh (p : Nat) : Option (Nat ⊕ (Nat × Nat)) := ai_nth ai_shT p
noncomputable def ai_rfT : List (List Nat) := [[1, 34, 36, 39, 41, 50, 0, 0], [2, 8, 12, 27, 0, 28, 32, 0], [0, 3, 4, 5, 6, 7], [], [], [], [], [], [9, 10, 11], [], [], [], [0, 0, 13, 26], [14, 18, 22], [15, 16, 17], [], [], [], [19, 20, 21], [], [], [], [23, 24, 25], [], [], [], [], [], [29, 30, 31], [], [], [], [33, 0], [], [0, 0, 35, 0, 0], [], [0, 37, 38], [], [], [0, 40], [], [0, 0, 42, 43, 44, 45, 46, 47, 48, 49], [], [], [], [], [], [], [], [], [0, 0, 51, 52, 53, 54, 55, 56, 57, 58], [], [], [], [], [], [], [], [], [0, 0, 60, 61, 62, 63, 64, 65, 66, 67, 68, 69, 70, 0, 0, 0, 71, 0, 0, 0, 0, 0, 72, 73, 74, 75, 76, 77, 0, 0, 78, 79, 80, 81, 82, 83, 84, 0, 85, 86, 87, 0, 0, 88, 89, 0, 90], [], [], [], [], [], [], [], [], [], [], [], [], [], [], [], [], [], [], [], [], [], [], [], [], [], [], [], [], [], [], [], []]
noncomputable def ai_rf (p j : Nat) : Nat := ai_gd 0 (ai_gd [] ai_rfT p) j
noncomputable def ai_kdT : List (List Nat) := [[2, 2, 2, 2, 4, 4, 3, 0], [0, 2, 2], [2, 2, 2, 2, 0, 2, 2, 0], [0, 0, 2, 2, 2, 2, 2, 2, 2, 2], [0, 0, 2, 2], [0, 0, 2, 1, 3], [2, 0], [0, 2, 2, 2, 2, 2], [2, 2, 2], [0, 2], [0, 0, 2, 2, 2, 2, 2, 2, 2, 2, 2, 2, 2, 0, 0, 0, 2, 0, 0, 3, 0, 0, 2, 2, 2, 2, 2, 2, 0, 0, 2, 2, 2, 2, 2, 2, 2, 0, 2, 2, 2, 0, 3, 2, 2, 0, 2]]
noncomputable def ai_kd (c j : Nat) : Nat := ai_gd 0 (ai_gd [] ai_kdT c) j
noncomputable def ai_nf (c : Nat) : Nat := (ai_gd [] ai_kdT c).length
noncomputable def ai_ftT : List (List FieldType) := [[.object "FixtureTables$Database", .object "FixtureTables$Reader", .object "FixtureTables$Comparison", .object "FixtureTables$Writer", .object "FixtureTables$Dataset", .object "FixtureTables$Dataset", .boolean, .int], [.int, .array .int, .array .int], [.object "FixtureTables$Schema", .object "FixtureTables$Store", .object "FixtureTables$Log", .array .int, .int, .object "FixtureTables$Store", .object "FixtureTables$Row", .int], [.int, .int, .array .int, .array .int, .array .int, .array .int, .array .int, .array .int, .array .long, .array .int], [.int, .int, .array (.object "FixtureTables$Store"), .array .int], [.int, .int, .array .char, .long, .boolean], [.array .long, .int], [.int, .array .int, .array .int, .array .int, .array .int, .array .boolean], [.array .int, .array .long, .array .int], [.int, .array .char], [.int, .int, .array .int, .array .int, .array .boolean, .array .int, .array .int, .array .long, .array .boolean, .array .long, .array .boolean, .array .int, .array .int, .int, .int, .int, .array .int, .int, .int, .boolean, .int, .int, .array .int, .array .int, .array .int, .array .int, .array .long, .array .boolean, .int, .int, .array .int, .array .int, .array .int, .array .int, .array .long, .array .boolean, .array .int, .int, .array .int, .array .long, .array .boolean, .int, .boolean, .array .int, .array .int, .int, .array .int]]
noncomputable def ai_ft (c j : Nat) : FieldType := ai_gd .int (ai_gd [] ai_ftT c) j
noncomputable def ai_us (z c : Nat) : List (Nat × Nat) := ((List.range (ai_nf c)).filter (fun j => ai_kd c j == 2 || ai_kd c j == 4)).map (fun j => (z, j))
noncomputable def ai_law : Nat := 206
noncomputable def ai_mLT : List Nat := [1, 1, 6, 2, 1, 2, 1, 2, 2, 2, 2, 4, 4, 1, 1, 1, 4, 3, 2, 2, 1, 1, 1, 3, 7, 12, 7, 4, 12, 4, 1, 4, 1, 1, 3, 4, 3, 4, 8, 6, 6, 5, 6, 5, 3, 7, 2, 5, 5, 1, 1, 2, 3, 2, 5, 2, 2, 3, 3, 2, 3, 3, 2, 2, 3, 3, 2, 2, 2, 2, 1, 2, 1, 2, 4, 5, 7, 7, 2, 2, 4, 3, 3, 3, 1, 3, 2, 2, 2, 1, 2, 5, 1, 2, 2, 3, 3, 3, 4, 1, 7, 4, 3, 5, 1, 2, 4, 4, 5, 9, 4, 5, 4, 2, 6, 2, 1, 4, 5, 4, 6, 6, 5, 4, 3, 2, 1, 1, 2, 2, 1, 4, 6, 2, 1, 1, 2, 1, 1, 5, 5, 9, 5, 8, 4, 5, 3, 4, 2, 1, 6, 5, 2, 3, 3, 1, 1, 1, 5, 6, 2, 10, 4, 5, 7, 5, 4, 7, 6, 4, 6, 3, 3, 2, 2, 4, 5, 5, 7, 3, 4, 8, 10, 5, 3, 2, 7, 6, 6, 4, 2, 3, 7, 3, 4, 4, 4, 6, 6, 3, 3, 3, 6, 5, 4, 4, 8]
noncomputable def ai_mL (m : Nat) : Nat := ai_gd 0 ai_mLT m
noncomputable def ai_mfT : List Nat := [4, 6, 6, 1, 0, 6, 0, 6, 7, 0, 6, 6, 6, 6, 6, 6, 6, 6, 6, 6, 1, 0, 1, 0, 4, 3, 2, 1, 1, 0, 3, 1, 2, 2, 6, 4, 3, 2, 1, 5, 4, 3, 1, 3, 1, 1, 1, 1, 0, 1, 0, 0, 0, 0, 0, 0, 0, 0, 0, 0, 0, 0, 0, 0, 0, 0, 2, 0, 0, 2, 0, 2, 1, 0, 5, 4, 2, 3, 2, 1, 1, 0, 1, 1, 1, 0, 0, 1, 0, 1, 0, 0, 1, 0, 0, 0, 0, 0, 1, 0, 0, 3, 2, 1, 1, 0, 0, 0, 0, 0, 2, 1, 2, 0, 1, 1, 1, 5, 4, 3, 2, 1, 2, 1, 0, 0, 1, 0, 0, 0, 0, 1, 2, 0, 0, 0, 1, 1, 1, 0, 2, 3, 2, 1, 4, 2, 5, 6, 7, 0, 0, 1, 2, 0, 0, 1, 0, 1, 0, 0, 0, 0, 0, 0, 0, 1, 0, 2, 3, 0, 0, 1, 4, 0, 1, 1, 2, 2, 1, 0, 0, 0, 2, 3, 0, 0, 1, 1, 2, 3, 0, 7, 7, 7, 7, 8, 7, 7, 7, 7, 7, 7, 7, 7, 7, 7, 11]
noncomputable def ai_mf (m : Nat) : Nat := ai_gd 0 ai_mfT m
noncomputable def ai_mwT : List Nat := [81, 82, 82, 21, 0, 139, 0, 91, 170, 0, 82, 82, 82, 82, 82, 82, 128, 82, 141, 82, 20, 0, 21, 0, 102, 71, 45, 22, 23, 0, 61, 21, 47, 47, 148, 100, 78, 55, 28, 123, 98, 74, 24, 74, 22, 24, 21, 24, 0, 20, 0, 0, 0, 0, 0, 0, 0, 0, 0, 0, 0, 0, 0, 0, 0, 0, 40, 0, 0, 47, 0, 47, 20, 0, 116, 92, 42, 66, 45, 22, 22, 0, 22, 22, 21, 0, 0, 21, 0, 20, 0, 0, 20, 0, 0, 0, 0, 0, 22, 0, 0, 68, 46, 22, 20, 0, 0, 0, 0, 0, 51, 26, 51, 0, 26, 26, 20, 118, 94, 71, 46, 21, 45, 22, 0, 0, 20, 0, 0, 0, 0, 21, 44, 0, 0, 0, 20, 20, 20, 0, 40, 64, 40, 24, 92, 41, 115, 137, 160, 0, 0, 25, 49, 0, 0, 22, 0, 22, 0, 0, 0, 0, 0, 0, 0, 25, 0, 49, 75, 0, 0, 25, 100, 0, 21, 21, 44, 44, 23, 0, 0, 0, 49, 78, 0, 0, 21, 21, 47, 72, 0, 102, 107, 160, 112, 191, 103, 105, 105, 102, 102, 102, 151, 104, 162, 103, 424]
noncomputable def ai_mw (m : Nat) : Nat := ai_gd 0 ai_mwT m
noncomputable def ai_mcT : List Nat := [58, 1, 1, 0, 0, 1, 0, 1, 1, 0, 1, 1, 1, 1, 1, 1, 1, 1, 1, 1, 2, 0, 0, 0, 0, 0, 0, 0, 0, 0, 32, 0, 0, 0, 0, 0, 0, 0, 0, 0, 0, 0, 0, 0, 0, 0, 0, 0, 0, 8, 0, 0, 0, 0, 0, 0, 0, 0, 0, 0, 0, 0, 0, 0, 0, 0, 14, 0, 0, 0, 0, 0, 1, 0, 0, 0, 0, 0, 0, 0, 0, 0, 0, 0, 0, 0, 0, 0, 0, 1, 0, 0, 5, 0, 0, 0, 0, 0, 0, 0, 0, 0, 0, 0, 3, 0, 0, 0, 0, 0, 0, 0, 0, 0, 0, 0, 1, 0, 0, 0, 0, 0, 0, 0, 0, 0, 31, 0, 0, 0, 0, 0, 0, 0, 0, 0, 0, 0, 0, 0, 0, 0, 0, 0, 0, 0, 0, 0, 0, 0, 0, 0, 0, 0, 0, 0, 0, 0, 0, 0, 0, 0, 0, 0, 0, 0, 0, 0, 0, 0, 0, 0, 0, 0, 0, 0, 0, 0, 0, 0, 0, 0, 0, 0, 0, 0, 0, 0, 0, 0, 0, 1, 1, 1, 1, 1, 1, 1, 1, 1, 1, 1, 1, 1, 1, 1, 601024]
noncomputable def ai_mc (m : Nat) : Nat := ai_gd 0 ai_mcT m
noncomputable def ai_msT : List Nat := [3787, 6, 6, 0, 0, 6, 0, 6, 6, 0, 6, 6, 6, 6, 6, 6, 6, 6, 6, 6, 84, 0, 0, 0, 0, 0, 0, 0, 0, 0, 1952, 0, 0, 0, 0, 0, 0, 0, 0, 0, 0, 0, 0, 0, 0, 0, 0, 0, 0, 222, 0, 0, 0, 0, 0, 0, 0, 0, 0, 0, 0, 0, 0, 0, 0, 0, 1110, 0, 0, 0, 0, 0, 120, 0, 0, 0, 0, 0, 0, 0, 0, 0, 0, 0, 0, 0, 0, 0, 0, 5, 0, 0, 85, 0, 0, 0, 0, 0, 0, 0, 0, 0, 0, 0, 365, 0, 0, 0, 0, 0, 0, 0, 0, 0, 0, 0, 1149, 0, 0, 0, 0, 0, 0, 0, 0, 0, 5210, 0, 0, 0, 0, 0, 0, 0, 0, 0, 0, 0, 0, 0, 0, 0, 0, 0, 0, 0, 0, 0, 0, 0, 0, 0, 0, 0, 0, 0, 0, 0, 0, 0, 0, 0, 0, 0, 0, 0, 0, 0, 0, 0, 0, 0, 0, 0, 0, 0, 0, 0, 0, 0, 0, 0, 0, 0, 0, 0, 0, 0, 0, 0, 0, 6, 6, 6, 6, 6, 6, 6, 6, 6, 6, 6, 6, 6, 6, 6, 7293034]
noncomputable def ai_ms (m : Nat) : Nat := ai_gd 0 ai_msT m
noncomputable def ai_rm (m : Nat) : Room := { frames := ai_mf m, cells := ai_mc m, slots := ai_ms m, locals := ai_mw m }
noncomputable def ai_mBT : List ByteArray := [prog_1_method_1_code, prog_1_method_2_code, prog_1_method_3_code, prog_1_method_4_code, prog_1_method_5_code, prog_1_method_6_code, prog_1_method_7_code, prog_1_method_8_code, prog_1_method_9_code, prog_1_method_10_code, prog_1_method_11_code, prog_1_method_12_code, prog_1_method_13_code, prog_1_method_14_code, prog_1_method_15_code, prog_1_method_16_code, prog_1_method_17_code, prog_1_method_18_code, prog_1_method_19_code, prog_1_method_20_code, prog_2_method_1_code, prog_2_method_2_code, prog_2_method_3_code, prog_2_method_4_code, prog_2_method_5_code, prog_2_method_6_code, prog_2_method_7_code, prog_2_method_8_code, prog_2_method_9_code, prog_2_method_10_code, prog_3_method_1_code, prog_3_method_2_code, prog_3_method_3_code, prog_3_method_4_code, prog_3_method_5_code, prog_3_method_6_code, prog_3_method_7_code, prog_3_method_8_code, prog_3_method_9_code, prog_3_method_10_code, prog_3_method_11_code, prog_3_method_12_code, prog_3_method_13_code, prog_3_method_14_code, prog_3_method_15_code, prog_3_method_16_code, prog_3_method_17_code, prog_3_method_18_code, prog_3_method_19_code, prog_4_method_1_code, prog_4_method_2_code, prog_4_method_3_code, prog_4_method_4_code, prog_4_method_5_code, prog_4_method_6_code, prog_4_method_7_code, prog_4_method_8_code, prog_4_method_9_code, prog_4_method_10_code, prog_4_method_11_code, prog_4_method_12_code, prog_4_method_13_code, prog_4_method_14_code, prog_4_method_15_code, prog_4_method_16_code, prog_4_method_17_code, prog_5_method_1_code, prog_5_method_2_code, prog_5_method_3_code, prog_5_method_4_code, prog_5_method_5_code, prog_5_method_6_code, prog_6_method_1_code, prog_6_method_2_code, prog_6_method_3_code, prog_6_method_4_code, prog_6_method_5_code, prog_6_method_6_code, prog_6_method_7_code, prog_6_method_8_code, prog_6_method_9_code, prog_6_method_10_code, prog_6_method_11_code, prog_6_method_12_code, prog_6_method_13_code, prog_6_method_14_code, prog_6_method_15_code, prog_6_method_16_code, prog_6_method_17_code, prog_7_method_1_code, prog_7_method_2_code, prog_7_method_3_code, prog_8_method_1_code, prog_8_method_2_code, prog_8_method_3_code, prog_8_method_4_code, prog_8_method_5_code, prog_8_method_6_code, prog_8_method_7_code, prog_8_method_8_code, prog_8_method_9_code, prog_8_method_10_code, prog_8_method_11_code, prog_8_method_12_code, prog_9_method_1_code, prog_9_method_2_code, prog_9_method_3_code, prog_9_method_4_code, prog_9_method_5_code, prog_9_method_6_code, prog_9_method_7_code, prog_9_method_8_code, prog_9_method_9_code, prog_9_method_10_code, prog_9_method_11_code, prog_9_method_12_code, prog_10_method_1_code, prog_10_method_2_code, prog_10_method_3_code, prog_10_method_4_code, prog_10_method_5_code, prog_10_method_6_code, prog_10_method_7_code, prog_10_method_8_code, prog_10_method_9_code, prog_10_method_10_code, prog_12_method_1_code, prog_12_method_2_code, prog_12_method_3_code, prog_12_method_4_code, prog_12_method_5_code, prog_12_method_6_code, prog_12_method_7_code, prog_12_method_8_code, prog_12_method_9_code, prog_12_method_10_code, prog_12_method_11_code, prog_12_method_12_code, prog_12_method_13_code, prog_12_method_14_code, prog_12_method_15_code, prog_12_method_16_code, prog_12_method_17_code, prog_12_method_18_code, prog_12_method_19_code, prog_12_method_20_code, prog_12_method_21_code, prog_12_method_22_code, prog_12_method_23_code, prog_12_method_24_code, prog_12_method_25_code, prog_12_method_26_code, prog_12_method_27_code, prog_12_method_28_code, prog_12_method_29_code, prog_12_method_30_code, prog_12_method_31_code, prog_12_method_32_code, prog_12_method_33_code, prog_12_method_34_code, prog_12_method_35_code, prog_12_method_36_code, prog_12_method_37_code, prog_12_method_38_code, prog_12_method_39_code, prog_12_method_40_code, prog_12_method_41_code, prog_12_method_42_code, prog_12_method_43_code, prog_12_method_44_code, prog_12_method_45_code, prog_12_method_46_code, prog_12_method_47_code, prog_12_method_48_code, prog_12_method_49_code, prog_12_method_50_code, prog_12_method_51_code, prog_12_method_52_code, prog_12_method_53_code, prog_12_method_54_code, prog_12_method_55_code, prog_12_method_56_code, prog_12_method_57_code, prog_12_method_58_code, prog_12_method_59_code, prog_12_method_60_code, prog_12_method_61_code, prog_12_method_62_code, prog_12_method_63_code, prog_12_method_64_code, prog_12_method_65_code, method_3_code, method_4_code, method_5_code, method_6_code, method_7_code, method_8_code, method_9_code, method_10_code, method_11_code, method_12_code, method_13_code, method_14_code, method_15_code, method_16_code, method_17_code, code]
noncomputable def ai_mB (m : Nat) : ByteArray := ai_gd ⟨#[]⟩ ai_mBT m
noncomputable def ai_mYT : List MethodName := [ai_y0, ai_y1, ai_y2, ai_y3, ai_y4, ai_y5, ai_y6, ai_y7, ai_y8, ai_y9, ai_y10, ai_y11, ai_y12, ai_y13, ai_y14, ai_y15, ai_y16, ai_y17, ai_y18, ai_y19, ai_y20, ai_y21, ai_y22, ai_y23, ai_y24, ai_y25, ai_y26, ai_y27, ai_y28, ai_y29, ai_y30, ai_y31, ai_y32, ai_y33, ai_y34, ai_y35, ai_y36, ai_y37, ai_y38, ai_y39, ai_y40, ai_y41, ai_y42, ai_y43, ai_y44, ai_y45, ai_y46, ai_y47, ai_y48, ai_y49, ai_y50, ai_y51, ai_y52, ai_y53, ai_y54, ai_y55, ai_y56, ai_y57, ai_y58, ai_y59, ai_y60, ai_y61, ai_y62, ai_y63, ai_y64, ai_y65, ai_y66, ai_y67, ai_y68, ai_y69, ai_y70, ai_y71, ai_y72, ai_y73, ai_y74, ai_y75, ai_y76, ai_y77, ai_y78, ai_y79, ai_y80, ai_y81, ai_y82, ai_y83, ai_y84, ai_y85, ai_y86, ai_y87, ai_y88, ai_y89, ai_y90, ai_y91, ai_y92, ai_y93, ai_y94, ai_y95, ai_y96, ai_y97, ai_y98, ai_y99, ai_y100, ai_y101, ai_y102, ai_y103, ai_y104, ai_y105, ai_y106, ai_y107, ai_y108, ai_y109, ai_y110, ai_y111, ai_y112, ai_y113, ai_y114, ai_y115, ai_y116, ai_y117, ai_y118, ai_y119, ai_y120, ai_y121, ai_y122, ai_y123, ai_y124, ai_y125, ai_y126, ai_y127, ai_y128, ai_y129, ai_y130, ai_y131, ai_y132, ai_y133, ai_y134, ai_y135, ai_y136, ai_y137, ai_y138, ai_y139, ai_y140, ai_y141, ai_y142, ai_y143, ai_y144, ai_y145, ai_y146, ai_y147, ai_y148, ai_y149, ai_y150, ai_y151, ai_y152, ai_y153, ai_y154, ai_y155, ai_y156, ai_y157, ai_y158, ai_y159, ai_y160, ai_y161, ai_y162, ai_y163, ai_y164, ai_y165, ai_y166, ai_y167, ai_y168, ai_y169, ai_y170, ai_y171, ai_y172, ai_y173, ai_y174, ai_y175, ai_y176, ai_y177, ai_y178, ai_y179, ai_y180, ai_y181, ai_y182, ai_y183, ai_y184, ai_y185, ai_y186, ai_y187, ai_y188, ai_y189, ai_y190, ai_y191, ai_y192, ai_y193, ai_y194, ai_y195, ai_y196, ai_y197, ai_y198, ai_y199, ai_y200, ai_y201, ai_y202, ai_y203, ai_y204, ai_y205, ai_y206]
noncomputable def ai_mY (m : Nat) : MethodName := ai_gd ⟨"", "", ""⟩ ai_mYT m
noncomputable def ai_mRT : List (Option FieldType) := [none, some .int, some .int, some .boolean, none, some .int, some .int, some .int, some .int, some .int, some .int, some .long, some .boolean, some .int, some .int, some .int, some .int, some .int, some .int, some .char, none, none, some .int, some .int, none, none, none, some .boolean, some .boolean, none, none, some .boolean, none, none, some .boolean, some .boolean, some .boolean, some .boolean, some .boolean, some .boolean, some .boolean, some .boolean, none, some .boolean, some .int, some .int, none, some .boolean, none, none, none, none, none, none, none, some .int, some .int, some .int, some .boolean, some .int, some .int, some .boolean, some .int, some .int, some .long, some .boolean, none, some .boolean, none, none, none, none, none, some .boolean, some .boolean, some .boolean, some .boolean, some .boolean, some .boolean, some .boolean, some .boolean, some .int, some .boolean, some .boolean, some .boolean, none, some .boolean, some .int, some .int, none, some .boolean, none, none, some .boolean, some .int, some .int, some .int, some .boolean, some .boolean, some .int, some .int, some .boolean, some .int, some .boolean, none, some .int, some .long, some .boolean, some .int, some .boolean, none, none, none, none, none, none, none, none, none, none, none, none, none, some .boolean, some .int, none, none, some .int, some .int, some .boolean, some .int, some .boolean, some .int, some .boolean, none, some .int, some .boolean, some .boolean, some .boolean, none, some .long, some .boolean, some .boolean, some .boolean, some .boolean, some .boolean, some .boolean, some .boolean, some .int, some .int, some .boolean, some .boolean, some .int, none, none, some .int, some .int, some .int, some .boolean, some .int, some .boolean, some .boolean, none, none, none, some .boolean, some .int, some .boolean, some .boolean, some .boolean, some .boolean, some .boolean, some .int, some .int, some .int, some .int, some .long, some .boolean, none, some .boolean, none, some .boolean, none, some .int, some .int, none, none, none, none, some .int, some .char, some .int, some .int, some .int, some .int, some .int, some .int, some .int, some .int, some .int, some .int, some .int, some .int, some .int, some .int, some .int, some .boolean]
noncomputable def ai_mR (m : Nat) : Option FieldType := ai_gd none ai_mRT m
noncomputable def ai_hhT : List (List (Nat × Nat × Nat × Nat)) := [[], [], [], [], [], [], [], [], [], [], [], [], [], [], [], [], [], [], [], [], [], [], [], [], [], [], [], [], [], [], [], [], [], [], [], [], [], [], [], [], [], [], [], [], [], [], [], [], [], [], [], [], [], [], [], [], [], [], [], [], [], [], [], [], [], [], [], [], [], [], [], [], [], [], [], [], [], [], [], [], [], [], [], [], [], [], [], [], [], [], [], [], [], [], [], [], [], [], [], [], [], [], [], [], [], [], [], [], [], [], [], [], [], [], [], [], [], [], [], [], [], [], [], [], [], [], [], [], [], [], [], [], [], [], [], [], [], [], [], [], [], [], [], [], [], [], [], [], [], [], [], [], [], [], [], [], [], [], [], [], [], [], [], [], [], [], [], [], [], [], [], [], [], [], [], [], [], [], [], [], [], [], [], [], [], [], [], [], [], [], [], [(0, 8, 11, 13)], [(0, 14, 17, 19), (0, 14, 21, 13)], [(0, 8, 11, 19)], [(0, 9, 12, 19), (0, 9, 15, 28)], [(0, 9, 12, 19), (0, 9, 15, 28), (0, 9, 18, 13)], [(0, 9, 12, 36)], [(0, 11, 14, 36)], [(0, 19, 22, 36)], [(0, 8, 11, 13)], [(0, 8, 11, 13)], [(0, 8, 11, 13)], [(0, 11, 14, 19), (0, 11, 18, 13)], [(0, 10, 13, 36), (0, 10, 17, 19)], [(0, 9, 12, 36), (0, 9, 15, 13)], [(0, 9, 12, 36)], []]
noncomputable def ai_hh (m : Nat) : List (Nat × Nat × Nat × Nat) := ai_gd [] ai_hhT m
noncomputable def ai_ctT : List (List (Nat × Nat × Nat)) := [[], [], [], [], [], [], [], [], [], [], [], [], [], [], [], [], [], [], [], [], [], [], [], [], [], [], [], [], [], [], [], [], [], [], [], [], [], [], [], [], [], [], [], [], [], [], [], [], [], [], [], [], [], [], [], [], [], [], [], [], [], [], [], [], [], [], [], [], [], [], [], [], [], [], [], [], [], [], [], [], [], [], [], [], [], [], [], [], [], [], [], [], [], [], [], [], [], [], [], [], [], [], [], [], [], [], [], [], [], [], [], [], [], [], [], [], [], [], [], [], [], [], [], [], [], [], [], [], [], [], [], [], [], [], [], [], [], [], [], [], [], [], [], [], [], [], [], [], [], [], [], [], [], [], [], [], [], [], [], [], [], [], [], [], [], [], [], [], [], [], [], [], [], [], [], [], [], [], [], [], [], [], [], [], [], [], [], [], [], [], [], [(0, 8, 2)], [(1, 12, 6), (0, 15, 6)], [(1, 8, 2)], [(1, 9, 3), (2, 12, 3)], [(1, 9, 3), (2, 12, 3), (0, 15, 3)], [(3, 9, 3)], [(3, 10, 5)], [(3, 14, 5)], [(0, 8, 2)], [(0, 8, 2)], [(0, 8, 2)], [(1, 10, 5), (0, 13, 5)], [(3, 10, 4), (1, 13, 4)], [(3, 9, 3), (0, 12, 3)], [(3, 9, 3)], []]
def ai_ctf : List (Nat × Nat × Nat) → Nat → Option (Nat × Nat)
  | [], _ => none
  | a :: l, x => match Nat.beq a.1 x with
    | true => some a.2
    | false => ai_ctf l x
noncomputable def ai_ct (m x : Nat) : Option (Nat × Nat) := ai_ctf (ai_gd [] ai_ctT m) x
noncomputable def ai_xnT : List String := ["java/lang/IllegalStateException", "java/lang/IllegalArgumentException", "java/lang/UnsupportedOperationException", "java/lang/IndexOutOfBoundsException"]
noncomputable def ai_xn (x : Nat) : String := ai_gd "" ai_xnT x
noncomputable def ai_strs : List (String × Nat × String) := [("FixtureTables", 66, "there are 5 tables"), ("FixtureTables", 81, "no such table or type"), ("FixtureTables", 88, "no such parent for this type"), ("FixtureTables", 112, "5 columns, or rows, or a transaction is open"), ("FixtureTables", 135, "the text is no dataset"), ("FixtureTables", 140, "no such place"), ("FixtureTables", 148, "references in a circle"), ("FixtureTables", 158, "no such operation"), ("FixtureTables", 160, "no dataset was read"), ("FixtureTables", 169, "a check does not hold"), ("FixtureTables", 179, "no such table"), ("FixtureTables", 185, "no such table, row or column"), ("FixtureTables", 194, "3 transactions are open"), ("FixtureTables", 200, "no transaction is open"), ("FixtureTables", 208, "delta is below 0"), ("FixtureTables", 220, "no such difference"), ("FixtureTables", 222, "no such what"), ("FixtureTables", 228, "the table has no columns"), ("FixtureTables", 235, "no such character")]
noncomputable def ai_wwT : List (Nat × Nat × Nat × Nat) := [(1025, 1024, 0, 1001), (2068, 2066, 2067, 1001), (2149, 2147, 2148, 1001), (2044, 2042, 2043, 1001), (2052, 2050, 2051, 1001), (2203, 2201, 2202, 1001), (2056, 2054, 2055, 1001), (3072, 3070, 3071, 1001), (3112, 3110, 3111, 1001), (2060, 2058, 2059, 1001), (4040, 4038, 4039, 1001), (4063, 4061, 4062, 1001), (4077, 4075, 4076, 1001), (4085, 4083, 4084, 1001), (4098, 4096, 4097, 1001), (4110, 4108, 4109, 1001), (4121, 4119, 4120, 1001), (4177, 4175, 4176, 1001), (4194, 4192, 4193, 1001), (5005, 5003, 5004, 1001), (1186, 1185, 0, 1008), (2192, 2190, 2191, 1008), (4181, 4179, 4180, 1008), (4187, 4185, 4186, 1008), (4126, 4124, 4125, 1008), (4130, 4129, 32, 1008), (4140, 4139, 33, 1008), (4149, 4148, 34, 1008), (4164, 4163, 36, 1008), (4155, 4154, 35, 1008), (1033, 1032, 0, 1002), (4067, 4065, 4066, 1002), (3116, 3114, 3115, 1002), (4031, 4029, 4030, 1002), (3133, 3131, 3132, 1002), (3137, 3136, 18, 1002), (3145, 3144, 19, 1002), (3150, 3149, 20, 1002), (3154, 3153, 21, 1002), (3188, 3187, 24, 1002), (3196, 3195, 25, 1002), (3212, 3211, 26, 1002), (3224, 3223, 28, 1002), (4001, 4000, 29, 1002), (4005, 4004, 30, 1002), (4017, 4016, 31, 1002), (3180, 3179, 23, 1002), (3168, 3167, 22, 1002), (3127, 3126, 17, 1002), (1218, 1217, 0, 1010), (2211, 2209, 2210, 1010), (2229, 2227, 2228, 1010), (3009, 3007, 3008, 1010), (3013, 3011, 3012, 1010), (3063, 3061, 3062, 1010), (3001, 2239, 3000, 1010), (3021, 3019, 3020, 1010), (3025, 3023, 3024, 1010), (3005, 3003, 3004, 1010), (4144, 4142, 4143, 1010), (4134, 4132, 4133, 1010), (3141, 3139, 3140, 1010), (3228, 3226, 3227, 1010), (3192, 3190, 3191, 1010), (3204, 3202, 3203, 1010), (3200, 3198, 3199, 1010), (1087, 1086, 0, 1005), (3172, 3170, 3171, 1005), (3184, 3182, 3183, 1005), (4090, 4088, 4089, 1005), (4103, 4101, 4102, 1005), (4114, 4112, 4113, 1005), (1161, 1160, 0, 1007), (2048, 2046, 2047, 1007), (2207, 2205, 2206, 1007), (2215, 2214, 1, 1007), (2237, 2236, 5, 1007), (3017, 3016, 6, 1007), (3030, 3029, 7, 1007), (3034, 3033, 8, 1007), (3043, 3042, 10, 1007), (3038, 3037, 9, 1007), (3055, 3054, 13, 1007), (3047, 3046, 11, 1007), (3059, 3058, 14, 1007), (3051, 3050, 12, 1007), (2233, 2232, 4, 1007), (2219, 2218, 2, 1007), (2223, 2222, 3, 1007), (1111, 1110, 0, 1006), (4013, 4011, 4012, 1006), (3233, 3231, 3232, 1006), (1039, 1038, 0, 1003), (2153, 2151, 2152, 1003), (2183, 2181, 2182, 1003), (2178, 2176, 2177, 1003), (3089, 3087, 3088, 1003), (4009, 4007, 4008, 1003), (2173, 2171, 2172, 1003), (2141, 2139, 2140, 1003), (2196, 2194, 2195, 1003), (3077, 3075, 3076, 1003), (3081, 3080, 15, 1003), (3085, 3084, 16, 1003), (1070, 1069, 0, 1004), (2187, 2185, 2186, 1004), (3158, 3156, 3157, 1004), (3237, 3235, 3236, 1004), (3208, 3206, 3207, 1004), (3164, 3162, 3163, 1004), (4021, 4019, 4020, 1004), (4026, 4024, 4025, 1004), (3216, 3214, 3215, 1004), (3176, 3174, 3175, 1004), (3220, 3219, 27, 1004), (3120, 3118, 3119, 1004), (1203, 1202, 0, 1009), (4199, 4197, 4198, 1009), (4209, 4208, 38, 1009), (4216, 4215, 39, 1009), (4230, 4229, 41, 1009), (4235, 4234, 42, 1009), (4220, 4219, 40, 1009), (4223, 4222, 0, 1009), (4226, 4225, 0, 1009), (4203, 4202, 37, 1009), (5011, 5010, 0, 1011), (5158, 5156, 5157, 1011), (6006, 6005, 58, 1011), (5170, 5169, 43, 1011), (5162, 5160, 5161, 1011), (5174, 5173, 44, 1011), (5166, 5164, 5165, 1011), (5178, 5176, 5177, 1011), (5182, 5180, 5181, 1011), (5194, 5193, 46, 1011), (5202, 5201, 48, 1011), (5198, 5197, 47, 1011), (6002, 6001, 57, 1011), (5218, 5217, 52, 1011), (5226, 5225, 54, 1011), (5222, 5221, 53, 1011), (5238, 5237, 56, 1011), (5234, 5233, 55, 1011), (5214, 5213, 51, 1011), (5206, 5205, 49, 1011), (5210, 5209, 50, 1011), (5190, 5189, 45, 1011), (5186, 5184, 5185, 1011), (6010, 6008, 6009, 1011), (6022, 6021, 60, 1011), (6018, 6017, 59, 1011), (6014, 6012, 6013, 1011), (6030, 6029, 61, 1011), (6042, 6041, 62, 1011), (6026, 6024, 6025, 1011), (6034, 6032, 6033, 1011), (6038, 6036, 6037, 1011), (6050, 6049, 63, 1011), (6066, 6065, 67, 1011), (6074, 6073, 69, 1011), (6070, 6069, 68, 1011), (6078, 6077, 70, 1011), (6090, 6089, 73, 1011), (6082, 6081, 71, 1011), (6086, 6085, 72, 1011), (6062, 6061, 66, 1011), (6058, 6057, 65, 1011), (6054, 6053, 64, 1011), (6098, 6097, 75, 1011), (6102, 6101, 76, 1011), (6094, 6093, 74, 1011), (6046, 6044, 6045, 1011), (6106, 6104, 6105, 1011), (6110, 6108, 6109, 1011), (6118, 6117, 77, 1011), (6114, 6112, 6113, 1011), (6122, 6120, 6121, 1011), (6134, 6133, 79, 1011), (6138, 6137, 80, 1011), (6142, 6141, 81, 1011), (6146, 6145, 82, 1011), (6130, 6129, 78, 1011), (6126, 6124, 6125, 1011), (6150, 6148, 6149, 1011), (6158, 6157, 83, 1011), (6171, 6170, 86, 1011), (6166, 6165, 85, 1011), (6162, 6161, 84, 1011), (6154, 6152, 6153, 1011), (6176, 6174, 6175, 1011), (2063, 2062, 0, 1000), (2144, 2143, 0, 1000), (2199, 2198, 0, 1000), (3067, 3066, 0, 1000), (3108, 3107, 0, 1000), (4035, 4034, 0, 1000), (4059, 4058, 0, 1000), (4073, 4072, 0, 1000), (4081, 4080, 0, 1000), (4094, 4093, 0, 1000), (4106, 4105, 0, 1000), (4117, 4116, 0, 1000), (4173, 4172, 0, 1000), (4190, 4189, 0, 1000), (5001, 5000, 0, 1000), (0, 0, 0, 1000)]
noncomputable def ai_ww (m : Nat) : Nat × Nat × Nat × Nat := ai_gd (0, 0, 0, 0) ai_wwT m
noncomputable def ai_cwT : List (Nat × Nat × List Nat) := [(1022, 1001, [2024, 2026, 2028, 2030, 2032, 2034, 2036, 2038]), (1183, 1008, [1192, 1194, 1196]), (1030, 1002, [1140, 1142, 1144, 1146, 1148, 1150, 1152, 1154]), (1215, 1010, [1235, 1237, 1239, 2001, 2003, 2005, 2007, 2009, 2011, 2013]), (1084, 1005, [1098, 1100, 1102, 1104]), (1158, 1007, [1170, 1172, 1174, 1176, 1178]), (1108, 1006, [1118, 1120]), (1036, 1003, [1051, 1053, 1055, 1057, 1059, 1061]), (1067, 1004, [1075, 1077, 1079]), (1200, 1009, [1209, 1211]), (5008, 1011, [5060, 5062, 5064, 5066, 5068, 5070, 5072, 5074, 5076, 5078, 5080, 5082, 5084, 5086, 5088, 5090, 5092, 5094, 5096, 5098, 5100, 5102, 5104, 5106, 5108, 5110, 5112, 5114, 5116, 5118, 5120, 5122, 5124, 5126, 5128, 5130, 5132, 5134, 5136, 5138, 5140, 5142, 5144, 5146, 5148, 5150, 5152])]
noncomputable def ai_cx (c : Nat) : Nat × Nat × List Nat := ai_gd (0, 0, []) ai_cwT c
noncomputable def ai_mKT : List Nat := [1, 0, 0, 0, 0, 0, 0, 0, 0, 0, 0, 0, 0, 0, 0, 0, 0, 0, 0, 0, 1, 0, 0, 0, 0, 0, 0, 0, 0, 0, 1, 0, 0, 0, 0, 0, 0, 0, 0, 0, 0, 0, 0, 0, 0, 0, 0, 0, 0, 1, 0, 0, 0, 0, 0, 0, 0, 0, 0, 0, 0, 0, 0, 0, 0, 0, 1, 0, 0, 0, 0, 0, 1, 0, 0, 0, 0, 0, 0, 0, 0, 0, 0, 0, 0, 0, 0, 0, 0, 1, 0, 0, 1, 0, 0, 0, 0, 0, 0, 0, 0, 0, 0, 0, 1, 0, 0, 0, 0, 0, 0, 0, 0, 0, 0, 0, 1, 0, 0, 0, 0, 0, 0, 2, 2, 0, 1, 0, 0, 0, 0, 0, 0, 0, 0, 0, 0, 0, 0, 0, 0, 0, 0, 0, 0, 0, 0, 0, 0, 0, 0, 0, 0, 0, 0, 0, 0, 0, 0, 0, 0, 0, 0, 0, 0, 0, 0, 0, 0, 0, 0, 0, 0, 0, 0, 0, 0, 0, 0, 0, 0, 0, 0, 0, 0, 0, 0, 0, 0, 0, 0, 2, 2, 2, 2, 2, 2, 2, 2, 2, 2, 2, 2, 2, 2, 2, 2]
noncomputable def ai_mK (m : Nat) : Nat := ai_gd 9 ai_mKT m
noncomputable def ai_mNT : List Nat := [0, 0, 4, 1, 0, 0, 0, 1, 1, 1, 1, 3, 3, 0, 0, 0, 2, 2, 1, 1, 0, 0, 0, 2, 4, 5, 2, 3, 6, 3, 0, 3, 0, 0, 2, 1, 1, 1, 3, 2, 3, 3, 3, 3, 1, 1, 1, 4, 4, 0, 0, 1, 2, 0, 3, 1, 1, 2, 2, 1, 1, 1, 1, 1, 2, 2, 0, 1, 1, 1, 0, 1, 0, 1, 2, 2, 2, 2, 1, 0, 0, 1, 0, 0, 0, 2, 1, 0, 1, 0, 1, 3, 0, 1, 1, 2, 2, 2, 3, 0, 4, 0, 1, 2, 0, 1, 3, 3, 2, 4, 2, 3, 2, 1, 3, 1, 0, 2, 3, 2, 2, 1, 1, 1, 2, 1, 0, 0, 1, 1, 0, 3, 4, 1, 0, 0, 1, 0, 0, 3, 1, 2, 1, 1, 2, 1, 1, 0, 0, 0, 2, 0, 1, 1, 1, 0, 0, 0, 4, 2, 1, 2, 2, 2, 4, 2, 1, 4, 1, 1, 1, 0, 1, 1, 1, 3, 3, 3, 1, 2, 3, 4, 3, 2, 2, 1, 1, 1, 2, 1, 1, 2, 6, 2, 3, 3, 3, 5, 5, 2, 2, 2, 4, 4, 3, 3, 1]
noncomputable def ai_mN (m : Nat) : Nat := ai_gd 0 ai_mNT m
noncomputable def ai_mCT : List Nat := [0, 0, 0, 0, 0, 0, 0, 0, 0, 0, 0, 0, 0, 0, 0, 0, 0, 0, 0, 0, 1, 1, 1, 1, 1, 1, 1, 1, 1, 1, 2, 2, 2, 2, 2, 2, 2, 2, 2, 2, 2, 2, 2, 2, 2, 2, 2, 2, 2, 3, 3, 3, 3, 3, 3, 3, 3, 3, 3, 3, 3, 3, 3, 3, 3, 3, 4, 4, 4, 4, 4, 4, 5, 5, 5, 5, 5, 5, 5, 5, 5, 5, 5, 5, 5, 5, 5, 5, 5, 6, 6, 6, 7, 7, 7, 7, 7, 7, 7, 7, 7, 7, 7, 7, 8, 8, 8, 8, 8, 8, 8, 8, 8, 8, 8, 8, 9, 9, 9, 9, 9, 9, 9, 9, 9, 9, 10, 10, 10, 10, 10, 10, 10, 10, 10, 10, 10, 10, 10, 10, 10, 10, 10, 10, 10, 10, 10, 10, 10, 10, 10, 10, 10, 10, 10, 10, 10, 10, 10, 10, 10, 10, 10, 10, 10, 10, 10, 10, 10, 10, 10, 10, 10, 10, 10, 10, 10, 10, 10, 10, 10, 10, 10, 10, 10, 10, 10, 10, 10, 10, 10, 99, 99, 99, 99, 99, 99, 99, 99, 99, 99, 99, 99, 99, 99, 99, 99]
noncomputable def ai_mC (m : Nat) : Nat := ai_gd 99 ai_mCT m
noncomputable def ai_awT : List Nat := [1064, 1082, 1065, 1181]
noncomputable def ai_aw (k : Nat) : Nat := ai_gd 0 ai_awT k
noncomputable def ai_lwT : List (Nat × Nat × Nat) := [(1027, 1028, 0), (3123, 3122, 1018), (4168, 1020, 4169), (4157, 1020, 4158)]
noncomputable def ai_lw (k : Nat) : Nat × Nat × Nat := ai_gd (0, 0, 0) ai_lwT k
noncomputable def ai_WS : List Cond := lw_tbl.filter goodWord
noncomputable def ai_o0 : List ai_E := [
  (0, .aload_n 0, 1, (0, 0, 0, 0, 0), []),
  (1, .invokespecial 3, 3, (1000, 0, 0, 1, 1026), []),
  (4, .aload_n 0, 1, (0, 0, 0, 0, 0), []),
  (5, .new 9, 3, (2, 8, 0, 0, 1029), []),
  (8, .dup, 1, (0, 0, 0, 0, 0), []),
  (9, .invokespecial 11, 3, (30, 1, 0, 0, 1031), []),
  (12, .putfield 12, 3, (0, 0, 2, 0, 2016), []),
  (15, .aload_n 0, 1, (0, 0, 0, 0, 0), []),
  (16, .new 16, 3, (5, 5, 0, 0, 1157), []),
  (19, .dup, 1, (0, 0, 0, 0, 0), []),
  (20, .invokespecial 18, 3, (72, 1, 0, 0, 1159), []),
  (23, .putfield 19, 3, (0, 1, 2, 0, 2017), []),
  (26, .aload_n 0, 1, (0, 0, 0, 0, 0), []),
  (27, .new 23, 3, (1, 3, 0, 0, 1182), []),
  (30, .dup, 1, (0, 0, 0, 0, 0), []),
  (31, .invokespecial 25, 3, (20, 1, 0, 0, 1184), []),
  (34, .putfield 26, 3, (0, 2, 2, 0, 2018), []),
  (37, .aload_n 0, 1, (0, 0, 0, 0, 0), []),
  (38, .new 30, 3, (9, 2, 0, 0, 1199), []),
  (41, .dup, 1, (0, 0, 0, 0, 0), []),
  (42, .invokespecial 32, 3, (116, 1, 0, 0, 1201), []),
  (45, .putfield 33, 3, (0, 3, 2, 0, 2019), []),
  (48, .aload_n 0, 1, (0, 0, 0, 0, 0), []),
  (49, .new 37, 3, (3, 10, 0, 0, 1214), []),
  (52, .dup, 1, (0, 0, 0, 0, 0), []),
  (53, .invokespecial 39, 3, (49, 1, 0, 0, 1216), []),
  (56, .putfield 40, 3, (0, 4, 4, 0, 2020), []),
  (59, .aload_n 0, 1, (0, 0, 0, 0, 0), []),
  (60, .new 37, 3, (3, 10, 0, 0, 1214), []),
  (63, .dup, 1, (0, 0, 0, 0, 0), []),
  (64, .invokespecial 39, 3, (49, 1, 0, 0, 1216), []),
  (67, .putfield 44, 3, (0, 5, 4, 0, 2021), []),
  (70, .aload_n 0, 1, (0, 0, 0, 0, 0), []),
  (71, .iconst 0, 1, (0, 0, 0, 0, 0), []),
  (72, .putfield 47, 3, (0, 6, 3, 0, 2022), []),
  (75, .aload_n 0, 1, (0, 0, 0, 0, 0), []),
  (76, .iconst (-1), 1, (0, 0, 0, 0, 0), []),
  (77, .putfield 51, 3, (0, 7, 0, 0, 2023), []),
  (80, .return_, 1, (0, 0, 0, 0, 0), [])]
noncomputable def ai_o1 : List ai_E := [
  (0, .aload_n 0, 1, (0, 0, 0, 0, 0), []),
  (1, .getfield 12, 3, (0, 0, 2, 0, 2016), []),
  (4, .getfield 55, 3, (2, 0, 2, 0, 1124), []),
  (7, .getfield 59, 3, (7, 0, 0, 0, 1042), []),
  (10, .iconst 5, 1, (0, 0, 0, 0, 0), []),
  (11, .if_icmp .ne 13, 3, (11, 0, 0, 0, 0), []),
  (14, .new 64, 3, (0, 0, 1, 0, 2069), []),
  (17, .dup, 1, (0, 0, 0, 0, 0), []),
  (18, .ldc 66, 2, (0, 0, 0, 0, 0), []),
  (20, .invokespecial 68, 3, (0, 0, 0, 2, 2112), []),
  (23, .athrow, 1, (0, 0, 0, 0, 0), []),
  (24, .aload_n 0, 1, (0, 0, 0, 0, 0), []),
  (25, .getfield 12, 3, (0, 0, 2, 0, 2016), []),
  (28, .getfield 55, 3, (2, 0, 2, 0, 1124), []),
  (31, .invokevirtual 71, 3, (99, 1, 0, 0, 2138), []),
  (34, .ireturn, 1, (0, 0, 0, 0, 0), [])]
noncomputable def ai_o2 : List ai_E := [
  (0, .aload_n 0, 1, (0, 0, 0, 0, 0), []),
  (1, .getfield 12, 3, (0, 0, 2, 0, 2016), []),
  (4, .getfield 55, 3, (2, 0, 2, 0, 1124), []),
  (7, .astore 5, 2, (0, 0, 0, 0, 0), []),
  (9, .aload 5, 2, (0, 0, 0, 0, 0), []),
  (11, .iload_n 1, 1, (0, 0, 0, 0, 0), []),
  (12, .invokevirtual 75, 3, (93, 2, 0, 0, 2150), []),
  (15, .ifCond .eq 12, 3, (13, 0, 0, 0, 0), []),
  (18, .iload_n 2, 1, (0, 0, 0, 0, 0), []),
  (19, .ifCond .lt 8, 3, (13, 0, 0, 0, 0), []),
  (22, .iload_n 2, 1, (0, 0, 0, 0, 0), []),
  (23, .iconst 3, 1, (0, 0, 0, 0, 0), []),
  (24, .if_icmp .le 13, 3, (18, 0, 0, 0, 0), []),
  (27, .new 79, 3, (1, 0, 1, 0, 2154), []),
  (30, .dup, 1, (0, 0, 0, 0, 0), []),
  (31, .ldc 81, 2, (0, 0, 0, 0, 0), []),
  (33, .invokespecial 83, 3, (0, 0, 0, 2, 2164), []),
  (36, .athrow, 1, (0, 0, 0, 0, 0), []),
  (37, .iload 4, 2, (0, 0, 0, 0, 0), []),
  (39, .iconst (-1), 1, (0, 0, 0, 0, 0), []),
  (40, .if_icmp .eq 25, 3, (32, 0, 0, 0, 0), []),
  (43, .aload 5, 2, (0, 0, 0, 0, 0), []),
  (45, .iload_n 1, 1, (0, 0, 0, 0, 0), []),
  (46, .iload_n 2, 1, (0, 0, 0, 0, 0), []),
  (47, .iload 4, 2, (0, 0, 0, 0, 0), []),
  (49, .invokevirtual 84, 3, (98, 4, 0, 0, 2170), []),
  (52, .ifCond .ne 13, 3, (32, 0, 0, 0, 0), []),
  (55, .new 79, 3, (1, 0, 1, 0, 2154), []),
  (58, .dup, 1, (0, 0, 0, 0, 0), []),
  (59, .ldc 88, 2, (0, 0, 0, 0, 0), []),
  (61, .invokespecial 83, 3, (0, 0, 0, 2, 2164), []),
  (64, .athrow, 1, (0, 0, 0, 0, 0), []),
  (65, .aload 5, 2, (0, 0, 0, 0, 0), []),
  (67, .iload_n 1, 1, (0, 0, 0, 0, 0), []),
  (68, .invokevirtual 90, 3, (94, 2, 0, 0, 2180), []),
  (71, .iconst 5, 1, (0, 0, 0, 0, 0), []),
  (72, .if_icmp .eq 30, 3, (48, 0, 0, 0, 0), []),
  (75, .aload_n 0, 1, (0, 0, 0, 0, 0), []),
  (76, .getfield 12, 3, (0, 0, 2, 0, 2016), []),
  (79, .getfield 94, 3, (2, 1, 2, 0, 1129), []),
  (82, .iload_n 1, 1, (0, 0, 0, 0, 0), []),
  (83, .invokevirtual 98, 3, (105, 2, 0, 0, 2184), []),
  (86, .ifCond .gt 16, 3, (48, 0, 0, 0, 0), []),
  (89, .aload_n 0, 1, (0, 0, 0, 0, 0), []),
  (90, .getfield 12, 3, (0, 0, 2, 0, 2016), []),
  (93, .getfield 103, 3, (2, 2, 2, 0, 1132), []),
  (96, .getfield 107, 3, (4, 0, 0, 0, 1093), []),
  (99, .ifCond .le 13, 3, (53, 0, 0, 0, 0), []),
  (102, .new 64, 3, (0, 0, 1, 0, 2069), []),
  (105, .dup, 1, (0, 0, 0, 0, 0), []),
  (106, .ldc 112, 2, (0, 0, 0, 0, 0), []),
  (108, .invokespecial 68, 3, (0, 0, 0, 2, 2112), []),
  (111, .athrow, 1, (0, 0, 0, 0, 0), []),
  (112, .aload_n 0, 1, (0, 0, 0, 0, 0), []),
  (113, .iconst 0, 1, (0, 0, 0, 0, 0), []),
  (114, .putfield 47, 3, (0, 6, 3, 0, 2022), []),
  (117, .aload_n 0, 1, (0, 0, 0, 0, 0), []),
  (118, .getfield 26, 3, (0, 2, 2, 0, 2018), []),
  (121, .invokevirtual 114, 3, (21, 1, 0, 0, 2189), []),
  (124, .aload 5, 2, (0, 0, 0, 0, 0), []),
  (126, .iload_n 1, 1, (0, 0, 0, 0, 0), []),
  (127, .iload_n 2, 1, (0, 0, 0, 0, 0), []),
  (128, .iload_n 3, 1, (0, 0, 0, 0, 0), []),
  (129, .iload 4, 2, (0, 0, 0, 0, 0), []),
  (131, .invokevirtual 117, 3, (100, 5, 0, 0, 2193), []),
  (134, .ireturn, 1, (0, 0, 0, 0, 0), [])]
noncomputable def ai_o3 : List ai_E := [
  (0, .aload_n 0, 1, (0, 0, 0, 0, 0), []),
  (1, .getfield 19, 3, (0, 1, 2, 0, 2017), []),
  (4, .iload_n 1, 1, (0, 0, 0, 0, 0), []),
  (5, .invokevirtual 121, 3, (73, 2, 0, 0, 2045), []),
  (8, .ireturn, 1, (3, 0, 0, 0, 0), [])]
noncomputable def ai_o4 : List ai_E := [
  (0, .aload_n 0, 1, (0, 0, 0, 0, 0), []),
  (1, .getfield 19, 3, (0, 1, 2, 0, 2017), []),
  (4, .iconst 0, 1, (0, 0, 0, 0, 0), []),
  (5, .putfield 125, 3, (5, 0, 0, 0, 1164), []),
  (8, .return_, 1, (0, 0, 0, 0, 0), [])]
noncomputable def ai_o5 : List ai_E := [
  (0, .aload_n 0, 1, (0, 0, 0, 0, 0), []),
  (1, .getfield 19, 3, (0, 1, 2, 0, 2017), []),
  (4, .aload_n 0, 1, (0, 0, 0, 0, 0), []),
  (5, .getfield 12, 3, (0, 0, 2, 0, 2016), []),
  (8, .getfield 55, 3, (2, 0, 2, 0, 1124), []),
  (11, .aload_n 0, 1, (0, 0, 0, 0, 0), []),
  (12, .getfield 44, 3, (0, 5, 4, 0, 2021), []),
  (15, .invokevirtual 128, 3, (74, 3, 0, 0, 2204), []),
  (18, .ifCond .ne 24, 3, (19, 0, 0, 0, 0), []),
  (21, .aload_n 0, 1, (0, 0, 0, 0, 0), []),
  (22, .aload_n 0, 1, (0, 0, 0, 0, 0), []),
  (23, .getfield 19, 3, (0, 1, 2, 0, 2017), []),
  (26, .getfield 132, 3, (5, 1, 0, 0, 1166), []),
  (29, .putfield 51, 3, (0, 7, 0, 0, 2023), []),
  (32, .new 79, 3, (1, 0, 1, 0, 2154), []),
  (35, .dup, 1, (0, 0, 0, 0, 0), []),
  (36, .ldc 135, 2, (0, 0, 0, 0, 0), []),
  (38, .invokespecial 83, 3, (0, 0, 0, 2, 2164), []),
  (41, .athrow, 1, (0, 0, 0, 0, 0), []),
  (42, .aload_n 0, 1, (0, 0, 0, 0, 0), []),
  (43, .getfield 40, 3, (0, 4, 4, 0, 2020), []),
  (46, .astore_n 1, 1, (0, 0, 0, 0, 0), []),
  (47, .aload_n 0, 1, (0, 0, 0, 0, 0), []),
  (48, .aload_n 0, 1, (0, 0, 0, 0, 0), []),
  (49, .getfield 44, 3, (0, 5, 4, 0, 2021), []),
  (52, .putfield 40, 3, (0, 4, 4, 0, 2020), []),
  (55, .aload_n 0, 1, (0, 0, 0, 0, 0), []),
  (56, .aload_n 1, 1, (0, 0, 0, 0, 0), []),
  (57, .putfield 44, 3, (0, 5, 4, 0, 2021), []),
  (60, .aload_n 0, 1, (0, 0, 0, 0, 0), []),
  (61, .iconst 1, 1, (0, 0, 0, 0, 0), []),
  (62, .putfield 47, 3, (0, 6, 3, 0, 2022), []),
  (65, .aload_n 0, 1, (0, 0, 0, 0, 0), []),
  (66, .iconst (-1), 1, (0, 0, 0, 0, 0), []),
  (67, .putfield 51, 3, (0, 7, 0, 0, 2023), []),
  (70, .aload_n 0, 1, (0, 0, 0, 0, 0), []),
  (71, .getfield 26, 3, (0, 2, 2, 0, 2018), []),
  (74, .invokevirtual 114, 3, (21, 1, 0, 0, 2189), []),
  (77, .aload_n 0, 1, (0, 0, 0, 0, 0), []),
  (78, .getfield 40, 3, (0, 4, 4, 0, 2020), []),
  (81, .getfield 137, 3, (3, 1, 0, 0, 1225), []),
  (84, .ireturn, 1, (0, 0, 0, 0, 0), [])]
noncomputable def ai_o6 : List ai_E := [
  (0, .aload_n 0, 1, (0, 0, 0, 0, 0), []),
  (1, .getfield 51, 3, (0, 7, 0, 0, 2023), []),
  (4, .ireturn, 1, (0, 0, 0, 0, 0), [])]
noncomputable def ai_o7 : List ai_E := [
  (0, .aload_n 0, 1, (0, 0, 0, 0, 0), []),
  (1, .getfield 12, 3, (0, 0, 2, 0, 2016), []),
  (4, .getfield 55, 3, (2, 0, 2, 0, 1124), []),
  (7, .iload_n 1, 1, (0, 0, 0, 0, 0), []),
  (8, .invokevirtual 75, 3, (93, 2, 0, 0, 2150), []),
  (11, .ifCond .ne 13, 3, (11, 0, 0, 0, 0), []),
  (14, .new 79, 3, (1, 0, 1, 0, 2154), []),
  (17, .dup, 1, (0, 0, 0, 0, 0), []),
  (18, .ldc 140, 2, (0, 0, 0, 0, 0), []),
  (20, .invokespecial 83, 3, (0, 0, 0, 2, 2164), []),
  (23, .athrow, 1, (0, 0, 0, 0, 0), []),
  (24, .aload_n 0, 1, (0, 0, 0, 0, 0), []),
  (25, .getfield 12, 3, (0, 0, 2, 0, 2016), []),
  (28, .getfield 55, 3, (2, 0, 2, 0, 1124), []),
  (31, .invokevirtual 142, 3, (101, 1, 0, 0, 3074), []),
  (34, .ifCond .ne 13, 3, (21, 0, 0, 0, 0), []),
  (37, .new 146, 3, (2, 0, 1, 0, 3090), []),
  (40, .dup, 1, (0, 0, 0, 0, 0), []),
  (41, .ldc 148, 2, (0, 0, 0, 0, 0), []),
  (43, .invokespecial 150, 3, (0, 0, 0, 2, 3100), []),
  (46, .athrow, 1, (0, 0, 0, 0, 0), []),
  (47, .aload_n 0, 1, (0, 0, 0, 0, 0), []),
  (48, .getfield 12, 3, (0, 0, 2, 0, 2016), []),
  (51, .getfield 55, 3, (2, 0, 2, 0, 1124), []),
  (54, .getfield 151, 3, (7, 1, 2, 0, 1046), []),
  (57, .iload_n 1, 1, (0, 0, 0, 0, 0), []),
  (58, .iaload, 1, (0, 0, 0, 0, 0), []),
  (59, .ireturn, 1, (0, 0, 0, 0, 0), [])]
noncomputable def ai_o8 : List ai_E := [
  (0, .aload_n 0, 1, (0, 0, 0, 0, 0), []),
  (1, .getfield 12, 3, (0, 0, 2, 0, 2016), []),
  (4, .invokevirtual 155, 3, (32, 1, 0, 0, 3113), []),
  (7, .iload_n 1, 1, (0, 0, 0, 0, 0), []),
  (8, .ifCond .lt 8, 3, (8, 0, 0, 0, 0), []),
  (11, .iload_n 1, 1, (0, 0, 0, 0, 0), []),
  (12, .iconst 5, 1, (0, 0, 0, 0, 0), []),
  (13, .if_icmp .le 13, 3, (13, 0, 0, 0, 0), []),
  (16, .new 79, 3, (1, 0, 1, 0, 2154), []),
  (19, .dup, 1, (0, 0, 0, 0, 0), []),
  (20, .ldc 158, 2, (0, 0, 0, 0, 0), []),
  (22, .invokespecial 83, 3, (0, 0, 0, 2, 2164), []),
  (25, .athrow, 1, (0, 0, 0, 0, 0), []),
  (26, .aload_n 0, 1, (0, 0, 0, 0, 0), []),
  (27, .getfield 12, 3, (0, 0, 2, 0, 2016), []),
  (30, .getfield 55, 3, (2, 0, 2, 0, 1124), []),
  (33, .invokevirtual 142, 3, (101, 1, 0, 0, 3074), []),
  (36, .ifCond .ne 13, 3, (23, 0, 0, 0, 0), []),
  (39, .new 146, 3, (2, 0, 1, 0, 3090), []),
  (42, .dup, 1, (0, 0, 0, 0, 0), []),
  (43, .ldc 148, 2, (0, 0, 0, 0, 0), []),
  (45, .invokespecial 150, 3, (0, 0, 0, 2, 3100), []),
  (48, .athrow, 1, (0, 0, 0, 0, 0), []),
  (49, .aload_n 0, 1, (0, 0, 0, 0, 0), []),
  (50, .getfield 47, 3, (0, 6, 3, 0, 2022), []),
  (53, .ifCond .ne 13, 3, (31, 0, 0, 0, 0), []),
  (56, .new 64, 3, (0, 0, 1, 0, 2069), []),
  (59, .dup, 1, (0, 0, 0, 0, 0), []),
  (60, .ldc 160, 2, (0, 0, 0, 0, 0), []),
  (62, .invokespecial 68, 3, (0, 0, 0, 2, 2112), []),
  (65, .athrow, 1, (0, 0, 0, 0, 0), []),
  (66, .aload_n 0, 1, (0, 0, 0, 0, 0), []),
  (67, .getfield 12, 3, (0, 0, 2, 0, 2016), []),
  (70, .iload_n 1, 1, (0, 0, 0, 0, 0), []),
  (71, .aload_n 0, 1, (0, 0, 0, 0, 0), []),
  (72, .getfield 40, 3, (0, 4, 4, 0, 2020), []),
  (75, .invokevirtual 162, 3, (34, 3, 0, 0, 3130), []),
  (78, .ifCond .ne 20, 3, (46, 0, 0, 0, 0), []),
  (81, .aload_n 0, 1, (0, 0, 0, 0, 0), []),
  (82, .getfield 12, 3, (0, 0, 2, 0, 2016), []),
  (85, .invokevirtual 166, 3, (33, 1, 0, 0, 4028), []),
  (88, .new 64, 3, (0, 0, 1, 0, 2069), []),
  (91, .dup, 1, (0, 0, 0, 0, 0), []),
  (92, .ldc 169, 2, (0, 0, 0, 0, 0), []),
  (94, .invokespecial 68, 3, (0, 0, 0, 2, 2112), []),
  (97, .athrow, 1, (0, 0, 0, 0, 0), []),
  (98, .aload_n 0, 1, (0, 0, 0, 0, 0), []),
  (99, .getfield 12, 3, (0, 0, 2, 0, 2016), []),
  (102, .getfield 171, 3, (2, 4, 0, 0, 1136), []),
  (105, .ireturn, 1, (0, 0, 0, 0, 0), [])]
noncomputable def ai_o9 : List ai_E := [
  (0, .iload_n 1, 1, (0, 0, 0, 0, 0), []),
  (1, .ifCond .lt 15, 3, (8, 0, 0, 0, 0), []),
  (4, .iload_n 1, 1, (0, 0, 0, 0, 0), []),
  (5, .aload_n 0, 1, (0, 0, 0, 0, 0), []),
  (6, .getfield 12, 3, (0, 0, 2, 0, 2016), []),
  (9, .getfield 174, 3, (2, 3, 2, 0, 1134), []),
  (12, .arraylength, 1, (0, 0, 0, 0, 0), []),
  (13, .if_icmp .lt 7, 3, (10, 0, 0, 0, 0), []),
  (16, .iconst (-1), 1, (0, 0, 0, 0, 0), []),
  (17, .goto 12, 3, (15, 0, 0, 0, 0), []),
  (20, .aload_n 0, 1, (0, 0, 0, 0, 0), []),
  (21, .getfield 12, 3, (0, 0, 2, 0, 2016), []),
  (24, .getfield 174, 3, (2, 3, 2, 0, 1134), []),
  (27, .iload_n 1, 1, (0, 0, 0, 0, 0), []),
  (28, .iaload, 1, (0, 0, 0, 0, 0), []),
  (29, .ireturn, 1, (0, 0, 0, 0, 0), [])]
noncomputable def ai_o10 : List ai_E := [
  (0, .aload_n 0, 1, (0, 0, 0, 0, 0), []),
  (1, .getfield 12, 3, (0, 0, 2, 0, 2016), []),
  (4, .getfield 55, 3, (2, 0, 2, 0, 1124), []),
  (7, .iload_n 1, 1, (0, 0, 0, 0, 0), []),
  (8, .invokevirtual 75, 3, (93, 2, 0, 0, 2150), []),
  (11, .ifCond .ne 13, 3, (11, 0, 0, 0, 0), []),
  (14, .new 177, 3, (3, 0, 1, 0, 4041), []),
  (17, .dup, 1, (0, 0, 0, 0, 0), []),
  (18, .ldc 179, 2, (0, 0, 0, 0, 0), []),
  (20, .invokespecial 181, 3, (0, 0, 0, 2, 4051), []),
  (23, .athrow, 1, (0, 0, 0, 0, 0), []),
  (24, .aload_n 0, 1, (0, 0, 0, 0, 0), []),
  (25, .getfield 12, 3, (0, 0, 2, 0, 2016), []),
  (28, .getfield 94, 3, (2, 1, 2, 0, 1129), []),
  (31, .iload_n 1, 1, (0, 0, 0, 0, 0), []),
  (32, .invokevirtual 98, 3, (105, 2, 0, 0, 2184), []),
  (35, .ireturn, 1, (0, 0, 0, 0, 0), [])]
noncomputable def ai_o11 : List ai_E := [
  (0, .aload_n 0, 1, (0, 0, 0, 0, 0), []),
  (1, .getfield 12, 3, (0, 0, 2, 0, 2016), []),
  (4, .iload_n 1, 1, (0, 0, 0, 0, 0), []),
  (5, .iload_n 2, 1, (0, 0, 0, 0, 0), []),
  (6, .iload_n 3, 1, (0, 0, 0, 0, 0), []),
  (7, .invokevirtual 182, 3, (31, 4, 0, 0, 4064), []),
  (10, .ifCond .ne 13, 3, (12, 0, 0, 0, 0), []),
  (13, .new 177, 3, (3, 0, 1, 0, 4041), []),
  (16, .dup, 1, (0, 0, 0, 0, 0), []),
  (17, .ldc 185, 2, (0, 0, 0, 0, 0), []),
  (19, .invokespecial 181, 3, (0, 0, 0, 2, 4051), []),
  (22, .athrow, 1, (0, 0, 0, 0, 0), []),
  (23, .aload_n 0, 1, (0, 0, 0, 0, 0), []),
  (24, .getfield 12, 3, (0, 0, 2, 0, 2016), []),
  (27, .getfield 94, 3, (2, 1, 2, 0, 1129), []),
  (30, .iload_n 1, 1, (0, 0, 0, 0, 0), []),
  (31, .iload_n 2, 1, (0, 0, 0, 0, 0), []),
  (32, .iload_n 3, 1, (0, 0, 0, 0, 0), []),
  (33, .invokevirtual 187, 3, (106, 4, 0, 0, 4070), []),
  (36, .lreturn, 1, (0, 0, 0, 0, 0), [])]
noncomputable def ai_o12 : List ai_E := [
  (0, .aload_n 0, 1, (0, 0, 0, 0, 0), []),
  (1, .getfield 12, 3, (0, 0, 2, 0, 2016), []),
  (4, .iload_n 1, 1, (0, 0, 0, 0, 0), []),
  (5, .iload_n 2, 1, (0, 0, 0, 0, 0), []),
  (6, .iload_n 3, 1, (0, 0, 0, 0, 0), []),
  (7, .invokevirtual 182, 3, (31, 4, 0, 0, 4064), []),
  (10, .ifCond .ne 13, 3, (12, 0, 0, 0, 0), []),
  (13, .new 177, 3, (3, 0, 1, 0, 4041), []),
  (16, .dup, 1, (0, 0, 0, 0, 0), []),
  (17, .ldc 185, 2, (0, 0, 0, 0, 0), []),
  (19, .invokespecial 181, 3, (0, 0, 0, 2, 4051), []),
  (22, .athrow, 1, (0, 0, 0, 0, 0), []),
  (23, .aload_n 0, 1, (0, 0, 0, 0, 0), []),
  (24, .getfield 12, 3, (0, 0, 2, 0, 2016), []),
  (27, .getfield 94, 3, (2, 1, 2, 0, 1129), []),
  (30, .iload_n 1, 1, (0, 0, 0, 0, 0), []),
  (31, .iload_n 2, 1, (0, 0, 0, 0, 0), []),
  (32, .iload_n 3, 1, (0, 0, 0, 0, 0), []),
  (33, .invokevirtual 191, 3, (107, 4, 0, 0, 4078), []),
  (36, .ireturn, 1, (3, 0, 0, 0, 0), [])]
noncomputable def ai_o13 : List ai_E := [
  (0, .aload_n 0, 1, (0, 0, 0, 0, 0), []),
  (1, .getfield 12, 3, (0, 0, 2, 0, 2016), []),
  (4, .getfield 103, 3, (2, 2, 2, 0, 1132), []),
  (7, .getfield 107, 3, (4, 0, 0, 0, 1093), []),
  (10, .iconst 3, 1, (0, 0, 0, 0, 0), []),
  (11, .if_icmp .ne 13, 3, (11, 0, 0, 0, 0), []),
  (14, .new 64, 3, (0, 0, 1, 0, 2069), []),
  (17, .dup, 1, (0, 0, 0, 0, 0), []),
  (18, .ldc 194, 2, (0, 0, 0, 0, 0), []),
  (20, .invokespecial 68, 3, (0, 0, 0, 2, 2112), []),
  (23, .athrow, 1, (0, 0, 0, 0, 0), []),
  (24, .aload_n 0, 1, (0, 0, 0, 0, 0), []),
  (25, .getfield 12, 3, (0, 0, 2, 0, 2016), []),
  (28, .getfield 103, 3, (2, 2, 2, 0, 1132), []),
  (31, .aload_n 0, 1, (0, 0, 0, 0, 0), []),
  (32, .getfield 12, 3, (0, 0, 2, 0, 2016), []),
  (35, .getfield 94, 3, (2, 1, 2, 0, 1129), []),
  (38, .invokevirtual 196, 3, (69, 2, 0, 0, 4087), []),
  (41, .aload_n 0, 1, (0, 0, 0, 0, 0), []),
  (42, .getfield 12, 3, (0, 0, 2, 0, 2016), []),
  (45, .getfield 103, 3, (2, 2, 2, 0, 1132), []),
  (48, .getfield 107, 3, (4, 0, 0, 0, 1093), []),
  (51, .ireturn, 1, (0, 0, 0, 0, 0), [])]
noncomputable def ai_o14 : List ai_E := [
  (0, .aload_n 0, 1, (0, 0, 0, 0, 0), []),
  (1, .getfield 12, 3, (0, 0, 2, 0, 2016), []),
  (4, .getfield 103, 3, (2, 2, 2, 0, 1132), []),
  (7, .getfield 107, 3, (4, 0, 0, 0, 1093), []),
  (10, .ifCond .ne 13, 3, (10, 0, 0, 0, 0), []),
  (13, .new 64, 3, (0, 0, 1, 0, 2069), []),
  (16, .dup, 1, (0, 0, 0, 0, 0), []),
  (17, .ldc 200, 2, (0, 0, 0, 0, 0), []),
  (19, .invokespecial 68, 3, (0, 0, 0, 2, 2112), []),
  (22, .athrow, 1, (0, 0, 0, 0, 0), []),
  (23, .aload_n 0, 1, (0, 0, 0, 0, 0), []),
  (24, .getfield 12, 3, (0, 0, 2, 0, 2016), []),
  (27, .getfield 103, 3, (2, 2, 2, 0, 1132), []),
  (30, .invokevirtual 202, 3, (70, 1, 0, 0, 4100), []),
  (33, .aload_n 0, 1, (0, 0, 0, 0, 0), []),
  (34, .getfield 12, 3, (0, 0, 2, 0, 2016), []),
  (37, .getfield 103, 3, (2, 2, 2, 0, 1132), []),
  (40, .getfield 107, 3, (4, 0, 0, 0, 1093), []),
  (43, .ireturn, 1, (0, 0, 0, 0, 0), [])]
noncomputable def ai_o15 : List ai_E := [
  (0, .aload_n 0, 1, (0, 0, 0, 0, 0), []),
  (1, .getfield 12, 3, (0, 0, 2, 0, 2016), []),
  (4, .getfield 103, 3, (2, 2, 2, 0, 1132), []),
  (7, .getfield 107, 3, (4, 0, 0, 0, 1093), []),
  (10, .ifCond .ne 13, 3, (10, 0, 0, 0, 0), []),
  (13, .new 64, 3, (0, 0, 1, 0, 2069), []),
  (16, .dup, 1, (0, 0, 0, 0, 0), []),
  (17, .ldc 200, 2, (0, 0, 0, 0, 0), []),
  (19, .invokespecial 68, 3, (0, 0, 0, 2, 2112), []),
  (22, .athrow, 1, (0, 0, 0, 0, 0), []),
  (23, .aload_n 0, 1, (0, 0, 0, 0, 0), []),
  (24, .getfield 12, 3, (0, 0, 2, 0, 2016), []),
  (27, .getfield 103, 3, (2, 2, 2, 0, 1132), []),
  (30, .aload_n 0, 1, (0, 0, 0, 0, 0), []),
  (31, .getfield 12, 3, (0, 0, 2, 0, 2016), []),
  (34, .getfield 94, 3, (2, 1, 2, 0, 1129), []),
  (37, .invokevirtual 205, 3, (71, 2, 0, 0, 4111), []),
  (40, .aload_n 0, 1, (0, 0, 0, 0, 0), []),
  (41, .getfield 12, 3, (0, 0, 2, 0, 2016), []),
  (44, .getfield 103, 3, (2, 2, 2, 0, 1132), []),
  (47, .getfield 107, 3, (4, 0, 0, 0, 1093), []),
  (50, .ireturn, 1, (0, 0, 0, 0, 0), [])]
noncomputable def ai_o16 : List ai_E := [
  (0, .lload_n 1, 1, (0, 0, 0, 0, 0), []),
  (1, .lconst 0, 1, (0, 0, 0, 0, 0), []),
  (2, .lcmp, 1, (0, 0, 0, 0, 0), []),
  (3, .ifCond .ge 13, 3, (9, 0, 0, 0, 0), []),
  (6, .new 79, 3, (1, 0, 1, 0, 2154), []),
  (9, .dup, 1, (0, 0, 0, 0, 0), []),
  (10, .ldc 208, 2, (0, 0, 0, 0, 0), []),
  (12, .invokespecial 83, 3, (0, 0, 0, 2, 2164), []),
  (15, .athrow, 1, (0, 0, 0, 0, 0), []),
  (16, .aload_n 0, 1, (0, 0, 0, 0, 0), []),
  (17, .getfield 47, 3, (0, 6, 3, 0, 2022), []),
  (20, .ifCond .ne 13, 3, (17, 0, 0, 0, 0), []),
  (23, .new 64, 3, (0, 0, 1, 0, 2069), []),
  (26, .dup, 1, (0, 0, 0, 0, 0), []),
  (27, .ldc 160, 2, (0, 0, 0, 0, 0), []),
  (29, .invokespecial 68, 3, (0, 0, 0, 2, 2112), []),
  (32, .athrow, 1, (0, 0, 0, 0, 0), []),
  (33, .aload_n 0, 1, (0, 0, 0, 0, 0), []),
  (34, .getfield 26, 3, (0, 2, 2, 0, 2018), []),
  (37, .aload_n 0, 1, (0, 0, 0, 0, 0), []),
  (38, .getfield 12, 3, (0, 0, 2, 0, 2016), []),
  (41, .aload_n 0, 1, (0, 0, 0, 0, 0), []),
  (42, .getfield 40, 3, (0, 4, 4, 0, 2020), []),
  (45, .lload_n 1, 1, (0, 0, 0, 0, 0), []),
  (46, .iload_n 3, 1, (0, 0, 0, 0, 0), []),
  (47, .invokevirtual 210, 3, (24, 5, 0, 0, 4123), []),
  (50, .aload_n 0, 1, (0, 0, 0, 0, 0), []),
  (51, .getfield 26, 3, (0, 2, 2, 0, 2018), []),
  (54, .getfield 214, 3, (1, 0, 0, 0, 1189), []),
  (57, .ireturn, 1, (0, 0, 0, 0, 0), [])]
noncomputable def ai_o17 : List ai_E := [
  (0, .iload_n 1, 1, (0, 0, 0, 0, 0), []),
  (1, .ifCond .lt 14, 3, (7, 0, 0, 0, 0), []),
  (4, .iload_n 1, 1, (0, 0, 0, 0, 0), []),
  (5, .aload_n 0, 1, (0, 0, 0, 0, 0), []),
  (6, .getfield 26, 3, (0, 2, 2, 0, 2018), []),
  (9, .invokevirtual 217, 3, (22, 1, 0, 0, 4178), []),
  (12, .if_icmp .lt 13, 3, (12, 0, 0, 0, 0), []),
  (15, .new 177, 3, (3, 0, 1, 0, 4041), []),
  (18, .dup, 1, (0, 0, 0, 0, 0), []),
  (19, .ldc 220, 2, (0, 0, 0, 0, 0), []),
  (21, .invokespecial 181, 3, (0, 0, 0, 2, 4051), []),
  (24, .athrow, 1, (0, 0, 0, 0, 0), []),
  (25, .iload_n 2, 1, (0, 0, 0, 0, 0), []),
  (26, .ifCond .lt 8, 3, (17, 0, 0, 0, 0), []),
  (29, .iload_n 2, 1, (0, 0, 0, 0, 0), []),
  (30, .iconst 3, 1, (0, 0, 0, 0, 0), []),
  (31, .if_icmp .lt 13, 3, (22, 0, 0, 0, 0), []),
  (34, .new 79, 3, (1, 0, 1, 0, 2154), []),
  (37, .dup, 1, (0, 0, 0, 0, 0), []),
  (38, .ldc 222, 2, (0, 0, 0, 0, 0), []),
  (40, .invokespecial 83, 3, (0, 0, 0, 2, 2164), []),
  (43, .athrow, 1, (0, 0, 0, 0, 0), []),
  (44, .aload_n 0, 1, (0, 0, 0, 0, 0), []),
  (45, .getfield 26, 3, (0, 2, 2, 0, 2018), []),
  (48, .iload_n 1, 1, (0, 0, 0, 0, 0), []),
  (49, .iload_n 2, 1, (0, 0, 0, 0, 0), []),
  (50, .invokevirtual 224, 3, (23, 3, 0, 0, 4184), []),
  (53, .ireturn, 1, (0, 0, 0, 0, 0), [])]
noncomputable def ai_o18 : List ai_E := [
  (0, .aload_n 0, 1, (0, 0, 0, 0, 0), []),
  (1, .getfield 12, 3, (0, 0, 2, 0, 2016), []),
  (4, .getfield 55, 3, (2, 0, 2, 0, 1124), []),
  (7, .iload_n 1, 1, (0, 0, 0, 0, 0), []),
  (8, .invokevirtual 75, 3, (93, 2, 0, 0, 2150), []),
  (11, .ifCond .ne 13, 3, (11, 0, 0, 0, 0), []),
  (14, .new 177, 3, (3, 0, 1, 0, 4041), []),
  (17, .dup, 1, (0, 0, 0, 0, 0), []),
  (18, .ldc 179, 2, (0, 0, 0, 0, 0), []),
  (20, .invokespecial 181, 3, (0, 0, 0, 2, 4051), []),
  (23, .athrow, 1, (0, 0, 0, 0, 0), []),
  (24, .aload_n 0, 1, (0, 0, 0, 0, 0), []),
  (25, .getfield 12, 3, (0, 0, 2, 0, 2016), []),
  (28, .getfield 55, 3, (2, 0, 2, 0, 1124), []),
  (31, .iload_n 1, 1, (0, 0, 0, 0, 0), []),
  (32, .invokevirtual 90, 3, (94, 2, 0, 0, 2180), []),
  (35, .ifCond .ne 13, 3, (22, 0, 0, 0, 0), []),
  (38, .new 64, 3, (0, 0, 1, 0, 2069), []),
  (41, .dup, 1, (0, 0, 0, 0, 0), []),
  (42, .ldc 228, 2, (0, 0, 0, 0, 0), []),
  (44, .invokespecial 68, 3, (0, 0, 0, 2, 2112), []),
  (47, .athrow, 1, (0, 0, 0, 0, 0), []),
  (48, .aload_n 0, 1, (0, 0, 0, 0, 0), []),
  (49, .getfield 33, 3, (0, 3, 2, 0, 2019), []),
  (52, .aload_n 0, 1, (0, 0, 0, 0, 0), []),
  (53, .getfield 12, 3, (0, 0, 2, 0, 2016), []),
  (56, .iload_n 1, 1, (0, 0, 0, 0, 0), []),
  (57, .invokevirtual 230, 3, (117, 3, 0, 0, 4196), []),
  (60, .aload_n 0, 1, (0, 0, 0, 0, 0), []),
  (61, .getfield 33, 3, (0, 3, 2, 0, 2019), []),
  (64, .getfield 234, 3, (9, 0, 0, 0, 1206), []),
  (67, .ireturn, 1, (0, 0, 0, 0, 0), [])]
noncomputable def ai_o19 : List ai_E := [
  (0, .iload_n 1, 1, (0, 0, 0, 0, 0), []),
  (1, .ifCond .lt 14, 3, (7, 0, 0, 0, 0), []),
  (4, .iload_n 1, 1, (0, 0, 0, 0, 0), []),
  (5, .aload_n 0, 1, (0, 0, 0, 0, 0), []),
  (6, .getfield 33, 3, (0, 3, 2, 0, 2019), []),
  (9, .getfield 234, 3, (9, 0, 0, 0, 1206), []),
  (12, .if_icmp .lt 13, 3, (12, 0, 0, 0, 0), []),
  (15, .new 177, 3, (3, 0, 1, 0, 4041), []),
  (18, .dup, 1, (0, 0, 0, 0, 0), []),
  (19, .ldc 235, 2, (0, 0, 0, 0, 0), []),
  (21, .invokespecial 181, 3, (0, 0, 0, 2, 4051), []),
  (24, .athrow, 1, (0, 0, 0, 0, 0), []),
  (25, .aload_n 0, 1, (0, 0, 0, 0, 0), []),
  (26, .getfield 33, 3, (0, 3, 2, 0, 2019), []),
  (29, .getfield 237, 3, (9, 1, 2, 0, 1208), []),
  (32, .iload_n 1, 1, (0, 0, 0, 0, 0), []),
  (33, .caload, 1, (0, 0, 0, 0, 0), []),
  (34, .ireturn, 1, (5, 0, 0, 0, 0), [])]
noncomputable def ai_o20 : List ai_E := [
  (0, .aload_n 0, 1, (0, 0, 0, 0, 0), []),
  (1, .invokespecial 3, 3, (1000, 0, 0, 1, 1187), []),
  (4, .aload_n 0, 1, (0, 0, 0, 0, 0), []),
  (5, .iconst 0, 1, (0, 0, 0, 0, 0), []),
  (6, .putfield 9, 3, (1, 0, 0, 0, 1188), []),
  (9, .aload_n 0, 1, (0, 0, 0, 0, 0), []),
  (10, .bipush 60, 2, (0, 0, 0, 0, 0), []),
  (12, .newarray .int, 2, (0, 0, 0, 0, 0), []),
  (14, .putfield 15, 3, (1, 1, 2, 0, 1190), []),
  (17, .aload_n 0, 1, (0, 0, 0, 0, 0), []),
  (18, .bipush 24, 2, (0, 0, 0, 0, 0), []),
  (20, .newarray .int, 2, (0, 0, 0, 0, 0), []),
  (22, .putfield 19, 3, (1, 2, 2, 0, 1191), []),
  (25, .return_, 1, (0, 0, 0, 0, 0), [])]
noncomputable def ai_o21 : List ai_E := [
  (0, .aload_n 0, 1, (0, 0, 0, 0, 0), []),
  (1, .iconst 0, 1, (0, 0, 0, 0, 0), []),
  (2, .putfield 9, 3, (1, 0, 0, 0, 1188), []),
  (5, .return_, 1, (0, 0, 0, 0, 0), [])]
noncomputable def ai_o22 : List ai_E := [
  (0, .aload_n 0, 1, (0, 0, 0, 0, 0), []),
  (1, .getfield 9, 3, (1, 0, 0, 0, 1188), []),
  (4, .bipush 20, 2, (0, 0, 0, 0, 0), []),
  (6, .invokestatic 22, 3, (1003, 0, 0, 1, 4156), []),
  (9, .ireturn, 1, (0, 0, 0, 0, 0), [])]
noncomputable def ai_o23 : List ai_E := [
  (0, .aload_n 0, 1, (0, 0, 0, 0, 0), []),
  (1, .getfield 15, 3, (1, 1, 2, 0, 1190), []),
  (4, .iload_n 1, 1, (0, 0, 0, 0, 0), []),
  (5, .iconst 3, 1, (0, 0, 0, 0, 0), []),
  (6, .imul, 1, (0, 0, 0, 0, 0), []),
  (7, .iload_n 2, 1, (0, 0, 0, 0, 0), []),
  (8, .iadd, 1, (0, 0, 0, 0, 0), []),
  (9, .iaload, 1, (0, 0, 0, 0, 0), []),
  (10, .ireturn, 1, (0, 0, 0, 0, 0), [])]
noncomputable def ai_o24 : List ai_E := [
  (0, .aload_n 0, 1, (0, 0, 0, 0, 0), []),
  (1, .iconst 0, 1, (0, 0, 0, 0, 0), []),
  (2, .putfield 9, 3, (1, 0, 0, 0, 1188), []),
  (5, .iconst 0, 1, (0, 0, 0, 0, 0), []),
  (6, .istore 6, 2, (0, 0, 0, 0, 0), []),
  (8, .iload 6, 2, (0, 0, 0, 0, 0), [true, true, true, true, false, true, true]),
  (10, .aload_n 2, 1, (0, 0, 0, 0, 0), []),
  (11, .getfield 28, 3, (3, 0, 0, 0, 1222), []),
  (14, .if_icmp .ge 20, 3, (18, 0, 0, 0, 0), []),
  (17, .aload_n 0, 1, (0, 0, 0, 0, 0), []),
  (18, .aload_n 1, 1, (0, 0, 0, 0, 0), []),
  (19, .aload_n 2, 1, (0, 0, 0, 0, 0), []),
  (20, .iload 6, 2, (0, 0, 0, 0, 0), []),
  (22, .lload_n 3, 1, (0, 0, 0, 0, 0), []),
  (23, .iload 5, 2, (0, 0, 0, 0, 0), []),
  (25, .invokevirtual 33, 3, (25, 6, 0, 0, 4127), []),
  (28, .iinc 6 1, 3, (0, 0, 0, 0, 0), []),
  (31, .goto (-23), 3, (5, 0, 0, 0, 0), []),
  (34, .return_, 1, (0, 0, 0, 0, 0), [])]
noncomputable def ai_o25 : List ai_E := [
  (0, .aload_n 2, 1, (0, 0, 0, 0, 0), []),
  (1, .iload_n 3, 1, (0, 0, 0, 0, 0), []),
  (2, .invokevirtual 37, 3, (60, 2, 0, 0, 4131), []),
  (5, .istore 7, 2, (0, 0, 0, 0, 0), []),
  (7, .aload_n 1, 1, (0, 0, 0, 0, 0), []),
  (8, .getfield 41, 3, (2, 1, 2, 0, 1130), []),
  (11, .aload_n 2, 1, (0, 0, 0, 0, 0), []),
  (12, .iload_n 3, 1, (0, 0, 0, 0, 0), []),
  (13, .invokevirtual 47, 3, (55, 2, 0, 0, 4135), []),
  (16, .invokevirtual 50, 3, (105, 2, 0, 0, 4136), []),
  (19, .istore 8, 2, (0, 0, 0, 0, 0), []),
  (21, .aload_n 0, 1, (0, 0, 0, 0, 0), []),
  (22, .aload_n 2, 1, (0, 0, 0, 0, 0), []),
  (23, .iload_n 3, 1, (0, 0, 0, 0, 0), []),
  (24, .invokevirtual 55, 3, (26, 3, 0, 0, 4137), []),
  (27, .iload 7, 2, (0, 0, 0, 0, 0), []),
  (29, .iload 8, 2, (0, 0, 0, 0, 0), []),
  (31, .if_icmp .eq 10, 3, (23, 0, 0, 0, 0), []),
  (34, .aload_n 0, 1, (0, 0, 0, 0, 0), []),
  (35, .iload_n 3, 1, (0, 0, 0, 0, 0), []),
  (36, .iconst (-1), 1, (0, 0, 0, 0, 0), []),
  (37, .iconst (-1), 1, (0, 0, 0, 0, 0), []),
  (38, .invokevirtual 59, 3, (29, 4, 0, 0, 4152), []),
  (41, .iconst 0, 1, (0, 0, 0, 0, 0), []),
  (42, .istore 9, 2, (0, 0, 0, 0, 0), []),
  (44, .iload 9, 2, (0, 0, 0, 0, 0), [true, true, true, true, true, false, true, true, true, true, false, false]),
  (46, .iload 7, 2, (0, 0, 0, 0, 0), []),
  (48, .iload 8, 2, (0, 0, 0, 0, 0), []),
  (50, .invokestatic 22, 3, (1003, 0, 0, 1, 4156), []),
  (53, .if_icmp .ge 72, 3, (66, 0, 0, 0, 0), []),
  (56, .iconst 0, 1, (0, 0, 0, 0, 0), []),
  (57, .istore 10, 2, (0, 0, 0, 0, 0), []),
  (59, .iload 10, 2, (0, 0, 0, 0, 0), [true, true, true, true, true, false, true, true, true, true, true, false]),
  (61, .aload_n 2, 1, (0, 0, 0, 0, 0), []),
  (62, .iload_n 3, 1, (0, 0, 0, 0, 0), []),
  (63, .invokevirtual 63, 3, (56, 2, 0, 0, 4159), []),
  (66, .if_icmp .ge 53, 3, (64, 0, 0, 0, 0), []),
  (69, .aload_n 2, 1, (0, 0, 0, 0, 0), []),
  (70, .iload_n 3, 1, (0, 0, 0, 0, 0), []),
  (71, .iload 10, 2, (0, 0, 0, 0, 0), []),
  (73, .invokevirtual 66, 3, (57, 3, 0, 0, 4160), []),
  (76, .istore 11, 2, (0, 0, 0, 0, 0), []),
  (78, .iload 6, 2, (0, 0, 0, 0, 0), []),
  (80, .iload 11, 2, (0, 0, 0, 0, 0), []),
  (82, .ishr, 1, (0, 0, 0, 0, 0), []),
  (83, .iconst 1, 1, (0, 0, 0, 0, 0), []),
  (84, .iand, 1, (0, 0, 0, 0, 0), []),
  (85, .ifCond .ne 28, 3, (62, 0, 0, 0, 0), []),
  (88, .aload_n 0, 1, (0, 0, 0, 0, 0), []),
  (89, .aload_n 1, 1, (0, 0, 0, 0, 0), []),
  (90, .aload_n 2, 1, (0, 0, 0, 0, 0), []),
  (91, .iload_n 3, 1, (0, 0, 0, 0, 0), []),
  (92, .iload 9, 2, (0, 0, 0, 0, 0), []),
  (94, .iload 11, 2, (0, 0, 0, 0, 0), []),
  (96, .lload 4, 2, (0, 0, 0, 0, 0), []),
  (98, .invokevirtual 69, 3, (28, 7, 0, 0, 4161), []),
  (101, .ifCond .eq 12, 3, (62, 0, 0, 0, 0), []),
  (104, .aload_n 0, 1, (0, 0, 0, 0, 0), []),
  (105, .iload_n 3, 1, (0, 0, 0, 0, 0), []),
  (106, .iload 9, 2, (0, 0, 0, 0, 0), []),
  (108, .iload 11, 2, (0, 0, 0, 0, 0), []),
  (110, .invokevirtual 59, 3, (29, 4, 0, 0, 4152), []),
  (113, .iinc 10 1, 3, (0, 0, 0, 0, 0), []),
  (116, .goto (-57), 3, (32, 0, 0, 0, 0), []),
  (119, .iinc 9 1, 3, (0, 0, 0, 0, 0), []),
  (122, .goto (-78), 3, (25, 0, 0, 0, 0), []),
  (125, .return_, 1, (0, 0, 0, 0, 0), [])]
noncomputable def ai_o26 : List ai_E := [
  (0, .aload_n 1, 1, (0, 0, 0, 0, 0), []),
  (1, .iload_n 2, 1, (0, 0, 0, 0, 0), []),
  (2, .invokevirtual 73, 3, (59, 2, 0, 0, 4141), []),
  (5, .istore_n 3, 1, (0, 0, 0, 0, 0), []),
  (6, .aload_n 1, 1, (0, 0, 0, 0, 0), []),
  (7, .iload_n 2, 1, (0, 0, 0, 0, 0), []),
  (8, .iconst 0, 1, (0, 0, 0, 0, 0), []),
  (9, .invokevirtual 76, 3, (58, 3, 0, 0, 4145), []),
  (12, .istore 4, 2, (0, 0, 0, 0, 0), []),
  (14, .iconst 0, 1, (0, 0, 0, 0, 0), []),
  (15, .istore 5, 2, (0, 0, 0, 0, 0), []),
  (17, .iload 5, 2, (0, 0, 0, 0, 0), [true, true, true, true, true, true, false]),
  (19, .aload_n 1, 1, (0, 0, 0, 0, 0), []),
  (20, .iload_n 2, 1, (0, 0, 0, 0, 0), []),
  (21, .invokevirtual 37, 3, (60, 2, 0, 0, 4131), []),
  (24, .if_icmp .ge 77, 3, (56, 0, 0, 0, 0), []),
  (27, .iload 5, 2, (0, 0, 0, 0, 0), []),
  (29, .istore 6, 2, (0, 0, 0, 0, 0), []),
  (31, .iload 4, 2, (0, 0, 0, 0, 0), [true, true, true, true, true, true, true]),
  (33, .ifCond .eq 51, 3, (47, 0, 0, 0, 0), []),
  (36, .iload 6, 2, (0, 0, 0, 0, 0), []),
  (38, .ifCond .le 46, 3, (47, 0, 0, 0, 0), []),
  (41, .aload_n 0, 1, (0, 0, 0, 0, 0), []),
  (42, .aload_n 1, 1, (0, 0, 0, 0, 0), []),
  (43, .iload_n 3, 1, (0, 0, 0, 0, 0), []),
  (44, .iload 5, 2, (0, 0, 0, 0, 0), []),
  (46, .iadd, 1, (0, 0, 0, 0, 0), []),
  (47, .aload_n 0, 1, (0, 0, 0, 0, 0), []),
  (48, .getfield 19, 3, (1, 2, 2, 0, 1191), []),
  (51, .iload 6, 2, (0, 0, 0, 0, 0), []),
  (53, .iconst 1, 1, (0, 0, 0, 0, 0), []),
  (54, .isub, 1, (0, 0, 0, 0, 0), []),
  (55, .iaload, 1, (0, 0, 0, 0, 0), []),
  (56, .invokevirtual 80, 3, (27, 4, 0, 0, 4146), []),
  (59, .ifCond .eq 25, 3, (47, 0, 0, 0, 0), []),
  (62, .aload_n 0, 1, (0, 0, 0, 0, 0), []),
  (63, .getfield 19, 3, (1, 2, 2, 0, 1191), []),
  (66, .iload 6, 2, (0, 0, 0, 0, 0), []),
  (68, .aload_n 0, 1, (0, 0, 0, 0, 0), []),
  (69, .getfield 19, 3, (1, 2, 2, 0, 1191), []),
  (72, .iload 6, 2, (0, 0, 0, 0, 0), []),
  (74, .iconst 1, 1, (0, 0, 0, 0, 0), []),
  (75, .isub, 1, (0, 0, 0, 0, 0), []),
  (76, .iaload, 1, (0, 0, 0, 0, 0), []),
  (77, .iastore, 1, (0, 0, 0, 0, 0), []),
  (78, .iinc 6 (-1), 3, (0, 0, 0, 0, 0), []),
  (81, .goto (-50), 3, (18, 0, 0, 0, 0), []),
  (84, .aload_n 0, 1, (0, 0, 0, 0, 0), []),
  (85, .getfield 19, 3, (1, 2, 2, 0, 1191), []),
  (88, .iload 6, 2, (0, 0, 0, 0, 0), []),
  (90, .iload_n 3, 1, (0, 0, 0, 0, 0), []),
  (91, .iload 5, 2, (0, 0, 0, 0, 0), []),
  (93, .iadd, 1, (0, 0, 0, 0, 0), []),
  (94, .iastore, 1, (0, 0, 0, 0, 0), []),
  (95, .iinc 5 1, 3, (0, 0, 0, 0, 0), []),
  (98, .goto (-81), 3, (11, 0, 0, 0, 0), []),
  (101, .return_, 1, (0, 0, 0, 0, 0), [])]
noncomputable def ai_o27 : List ai_E := [
  (0, .aload_n 1, 1, (0, 0, 0, 0, 0), []),
  (1, .iload_n 2, 1, (0, 0, 0, 0, 0), []),
  (2, .iconst 0, 1, (0, 0, 0, 0, 0), []),
  (3, .invokevirtual 84, 3, (65, 3, 0, 0, 4150), []),
  (6, .ifCond .ne 12, 3, (10, 0, 0, 0, 0), []),
  (9, .aload_n 1, 1, (0, 0, 0, 0, 0), []),
  (10, .iload_n 3, 1, (0, 0, 0, 0, 0), []),
  (11, .iconst 0, 1, (0, 0, 0, 0, 0), []),
  (12, .invokevirtual 84, 3, (65, 3, 0, 0, 4150), []),
  (15, .ifCond .eq 27, 3, (24, 0, 0, 0, 0), []),
  (18, .aload_n 1, 1, (0, 0, 0, 0, 0), []),
  (19, .iload_n 2, 1, (0, 0, 0, 0, 0), []),
  (20, .iconst 0, 1, (0, 0, 0, 0, 0), []),
  (21, .invokevirtual 84, 3, (65, 3, 0, 0, 4150), []),
  (24, .ifCond .eq 16, 3, (22, 0, 0, 0, 0), []),
  (27, .aload_n 1, 1, (0, 0, 0, 0, 0), []),
  (28, .iload_n 3, 1, (0, 0, 0, 0, 0), []),
  (29, .iconst 0, 1, (0, 0, 0, 0, 0), []),
  (30, .invokevirtual 84, 3, (65, 3, 0, 0, 4150), []),
  (33, .ifCond .ne 7, 3, (22, 0, 0, 0, 0), []),
  (36, .iconst 1, 1, (0, 0, 0, 0, 0), []),
  (37, .goto 4, 3, (23, 0, 0, 0, 0), []),
  (40, .iconst 0, 1, (0, 0, 0, 0, 0), []),
  (41, .ireturn, 1, (3, 0, 0, 0, 0), []),
  (42, .aload_n 1, 1, (0, 0, 0, 0, 0), []),
  (43, .iload_n 2, 1, (0, 0, 0, 0, 0), []),
  (44, .iconst 0, 1, (0, 0, 0, 0, 0), []),
  (45, .invokevirtual 87, 3, (64, 3, 0, 0, 4151), []),
  (48, .aload_n 1, 1, (0, 0, 0, 0, 0), []),
  (49, .iload_n 3, 1, (0, 0, 0, 0, 0), []),
  (50, .iconst 0, 1, (0, 0, 0, 0, 0), []),
  (51, .invokevirtual 87, 3, (64, 3, 0, 0, 4151), []),
  (54, .lcmp, 1, (0, 0, 0, 0, 0), []),
  (55, .ifCond .ge 7, 3, (36, 0, 0, 0, 0), []),
  (58, .iconst 1, 1, (0, 0, 0, 0, 0), []),
  (59, .goto 4, 3, (37, 0, 0, 0, 0), []),
  (62, .iconst 0, 1, (0, 0, 0, 0, 0), []),
  (63, .ireturn, 1, (3, 0, 0, 0, 0), [])]
noncomputable def ai_o28 : List ai_E := [
  (0, .aload_n 2, 1, (0, 0, 0, 0, 0), []),
  (1, .iload_n 3, 1, (0, 0, 0, 0, 0), []),
  (2, .invokevirtual 47, 3, (55, 2, 0, 0, 4135), []),
  (5, .istore 8, 2, (0, 0, 0, 0, 0), []),
  (7, .aload_n 2, 1, (0, 0, 0, 0, 0), []),
  (8, .aload_n 0, 1, (0, 0, 0, 0, 0), []),
  (9, .getfield 19, 3, (1, 2, 2, 0, 1191), []),
  (12, .iload 4, 2, (0, 0, 0, 0, 0), []),
  (14, .iaload, 1, (0, 0, 0, 0, 0), []),
  (15, .iload 5, 2, (0, 0, 0, 0, 0), []),
  (17, .invokevirtual 84, 3, (65, 3, 0, 0, 4150), []),
  (20, .istore 9, 2, (0, 0, 0, 0, 0), []),
  (22, .iload 9, 2, (0, 0, 0, 0, 0), []),
  (24, .ifCond .ne 19, 3, (21, 0, 0, 0, 0), []),
  (27, .aload_n 1, 1, (0, 0, 0, 0, 0), []),
  (28, .getfield 41, 3, (2, 1, 2, 0, 1130), []),
  (31, .iload 8, 2, (0, 0, 0, 0, 0), []),
  (33, .iload 4, 2, (0, 0, 0, 0, 0), []),
  (35, .iload 5, 2, (0, 0, 0, 0, 0), []),
  (37, .invokevirtual 91, 3, (107, 4, 0, 0, 4165), []),
  (40, .ifCond .eq 27, 3, (33, 0, 0, 0, 0), []),
  (43, .iload 9, 2, (0, 0, 0, 0, 0), []),
  (45, .aload_n 1, 1, (0, 0, 0, 0, 0), []),
  (46, .getfield 41, 3, (2, 1, 2, 0, 1130), []),
  (49, .iload 8, 2, (0, 0, 0, 0, 0), []),
  (51, .iload 4, 2, (0, 0, 0, 0, 0), []),
  (53, .iload 5, 2, (0, 0, 0, 0, 0), []),
  (55, .invokevirtual 91, 3, (107, 4, 0, 0, 4165), []),
  (58, .if_icmp .eq 7, 3, (31, 0, 0, 0, 0), []),
  (61, .iconst 1, 1, (0, 0, 0, 0, 0), []),
  (62, .goto 4, 3, (32, 0, 0, 0, 0), []),
  (65, .iconst 0, 1, (0, 0, 0, 0, 0), []),
  (66, .ireturn, 1, (3, 0, 0, 0, 0), []),
  (67, .aload_n 2, 1, (0, 0, 0, 0, 0), []),
  (68, .aload_n 0, 1, (0, 0, 0, 0, 0), []),
  (69, .getfield 19, 3, (1, 2, 2, 0, 1191), []),
  (72, .iload 4, 2, (0, 0, 0, 0, 0), []),
  (74, .iaload, 1, (0, 0, 0, 0, 0), []),
  (75, .iload 5, 2, (0, 0, 0, 0, 0), []),
  (77, .invokevirtual 87, 3, (64, 3, 0, 0, 4151), []),
  (80, .aload_n 1, 1, (0, 0, 0, 0, 0), []),
  (81, .getfield 41, 3, (2, 1, 2, 0, 1130), []),
  (84, .iload 8, 2, (0, 0, 0, 0, 0), []),
  (86, .iload 4, 2, (0, 0, 0, 0, 0), []),
  (88, .iload 5, 2, (0, 0, 0, 0, 0), []),
  (90, .invokevirtual 94, 3, (106, 4, 0, 0, 4166), []),
  (93, .lsub, 1, (0, 0, 0, 0, 0), []),
  (94, .invokestatic 97, 3, (1002, 0, 0, 1, 4167), []),
  (97, .lstore 10, 2, (0, 0, 0, 0, 0), []),
  (99, .lload 10, 2, (0, 0, 0, 0, 0), []),
  (101, .aload_n 1, 1, (0, 0, 0, 0, 0), []),
  (102, .getfield 101, 3, (2, 0, 2, 0, 1126), []),
  (105, .iload 8, 2, (0, 0, 0, 0, 0), []),
  (107, .iload 5, 2, (0, 0, 0, 0, 0), []),
  (109, .invokevirtual 105, 3, (95, 3, 0, 0, 4170), []),
  (112, .iconst 1, 1, (0, 0, 0, 0, 0), []),
  (113, .if_icmp .ne 8, 3, (59, 0, 0, 0, 0), []),
  (116, .lload 6, 2, (0, 0, 0, 0, 0), []),
  (118, .goto 4, 3, (60, 0, 0, 0, 0), []),
  (121, .lconst 0, 1, (0, 0, 0, 0, 0), []),
  (122, .lcmp, 1, (0, 0, 0, 0, 0), []),
  (123, .ifCond .le 7, 3, (64, 0, 0, 0, 0), []),
  (126, .iconst 1, 1, (0, 0, 0, 0, 0), []),
  (127, .goto 4, 3, (65, 0, 0, 0, 0), []),
  (130, .iconst 0, 1, (0, 0, 0, 0, 0), []),
  (131, .ireturn, 1, (3, 0, 0, 0, 0), [])]
noncomputable def ai_o29 : List ai_E := [
  (0, .aload_n 0, 1, (0, 0, 0, 0, 0), []),
  (1, .getfield 9, 3, (1, 0, 0, 0, 1188), []),
  (4, .bipush 20, 2, (0, 0, 0, 0, 0), []),
  (6, .if_icmp .ge 43, 3, (32, 0, 0, 0, 0), []),
  (9, .aload_n 0, 1, (0, 0, 0, 0, 0), []),
  (10, .getfield 15, 3, (1, 1, 2, 0, 1190), []),
  (13, .aload_n 0, 1, (0, 0, 0, 0, 0), []),
  (14, .getfield 9, 3, (1, 0, 0, 0, 1188), []),
  (17, .iconst 3, 1, (0, 0, 0, 0, 0), []),
  (18, .imul, 1, (0, 0, 0, 0, 0), []),
  (19, .iload_n 1, 1, (0, 0, 0, 0, 0), []),
  (20, .iastore, 1, (0, 0, 0, 0, 0), []),
  (21, .aload_n 0, 1, (0, 0, 0, 0, 0), []),
  (22, .getfield 15, 3, (1, 1, 2, 0, 1190), []),
  (25, .aload_n 0, 1, (0, 0, 0, 0, 0), []),
  (26, .getfield 9, 3, (1, 0, 0, 0, 1188), []),
  (29, .iconst 3, 1, (0, 0, 0, 0, 0), []),
  (30, .imul, 1, (0, 0, 0, 0, 0), []),
  (31, .iconst 1, 1, (0, 0, 0, 0, 0), []),
  (32, .iadd, 1, (0, 0, 0, 0, 0), []),
  (33, .iload_n 2, 1, (0, 0, 0, 0, 0), []),
  (34, .iastore, 1, (0, 0, 0, 0, 0), []),
  (35, .aload_n 0, 1, (0, 0, 0, 0, 0), []),
  (36, .getfield 15, 3, (1, 1, 2, 0, 1190), []),
  (39, .aload_n 0, 1, (0, 0, 0, 0, 0), []),
  (40, .getfield 9, 3, (1, 0, 0, 0, 1188), []),
  (43, .iconst 3, 1, (0, 0, 0, 0, 0), []),
  (44, .imul, 1, (0, 0, 0, 0, 0), []),
  (45, .iconst 2, 1, (0, 0, 0, 0, 0), []),
  (46, .iadd, 1, (0, 0, 0, 0, 0), []),
  (47, .iload_n 3, 1, (0, 0, 0, 0, 0), []),
  (48, .iastore, 1, (0, 0, 0, 0, 0), []),
  (49, .aload_n 0, 1, (0, 0, 0, 0, 0), []),
  (50, .dup, 1, (0, 0, 0, 0, 0), []),
  (51, .getfield 9, 3, (1, 0, 0, 0, 1188), []),
  (54, .iconst 1, 1, (0, 0, 0, 0, 0), []),
  (55, .iadd, 1, (0, 0, 0, 0, 0), []),
  (56, .putfield 9, 3, (1, 0, 0, 0, 1188), []),
  (59, .return_, 1, (0, 0, 0, 0, 0), [])]
noncomputable def ai_o30 : List ai_E := [
  (0, .aload_n 0, 1, (0, 0, 0, 0, 0), []),
  (1, .invokespecial 3, 3, (1000, 0, 0, 1, 1034), []),
  (4, .aload_n 0, 1, (0, 0, 0, 0, 0), []),
  (5, .new 9, 3, (7, 6, 0, 0, 1035), []),
  (8, .dup, 1, (0, 0, 0, 0, 0), []),
  (9, .invokespecial 11, 3, (92, 1, 0, 0, 1037), []),
  (12, .putfield 12, 3, (2, 0, 2, 0, 1123), []),
  (15, .aload_n 0, 1, (0, 0, 0, 0, 0), []),
  (16, .new 18, 3, (8, 3, 0, 0, 1066), []),
  (19, .dup, 1, (0, 0, 0, 0, 0), []),
  (20, .invokespecial 20, 3, (104, 1, 0, 0, 1068), []),
  (23, .putfield 21, 3, (2, 1, 2, 0, 1127), []),
  (26, .aload_n 0, 1, (0, 0, 0, 0, 0), []),
  (27, .new 25, 3, (4, 4, 0, 0, 1083), []),
  (30, .dup, 1, (0, 0, 0, 0, 0), []),
  (31, .invokespecial 27, 3, (66, 1, 0, 0, 1085), []),
  (34, .putfield 28, 3, (2, 2, 2, 0, 1131), []),
  (37, .aload_n 0, 1, (0, 0, 0, 0, 0), []),
  (38, .iconst 4, 1, (0, 0, 0, 0, 0), []),
  (39, .newarray .int, 2, (0, 0, 0, 0, 0), []),
  (41, .dup, 1, (0, 0, 0, 0, 0), []),
  (42, .iconst 0, 1, (0, 0, 0, 0, 0), []),
  (43, .iconst 0, 1, (0, 0, 0, 0, 0), []),
  (44, .iastore, 1, (0, 0, 0, 0, 0), []),
  (45, .dup, 1, (0, 0, 0, 0, 0), []),
  (46, .iconst 1, 1, (0, 0, 0, 0, 0), []),
  (47, .iconst (-1), 1, (0, 0, 0, 0, 0), []),
  (48, .iastore, 1, (0, 0, 0, 0, 0), []),
  (49, .dup, 1, (0, 0, 0, 0, 0), []),
  (50, .iconst 2, 1, (0, 0, 0, 0, 0), []),
  (51, .iconst (-1), 1, (0, 0, 0, 0, 0), []),
  (52, .iastore, 1, (0, 0, 0, 0, 0), []),
  (53, .dup, 1, (0, 0, 0, 0, 0), []),
  (54, .iconst 3, 1, (0, 0, 0, 0, 0), []),
  (55, .iconst (-1), 1, (0, 0, 0, 0, 0), []),
  (56, .iastore, 1, (0, 0, 0, 0, 0), []),
  (57, .putfield 32, 3, (2, 3, 2, 0, 1133), []),
  (60, .aload_n 0, 1, (0, 0, 0, 0, 0), []),
  (61, .iconst 0, 1, (0, 0, 0, 0, 0), []),
  (62, .putfield 36, 3, (2, 4, 0, 0, 1135), []),
  (65, .aload_n 0, 1, (0, 0, 0, 0, 0), []),
  (66, .new 18, 3, (8, 3, 0, 0, 1066), []),
  (69, .dup, 1, (0, 0, 0, 0, 0), []),
  (70, .invokespecial 20, 3, (104, 1, 0, 0, 1068), []),
  (73, .putfield 40, 3, (2, 5, 2, 0, 1137), []),
  (76, .aload_n 0, 1, (0, 0, 0, 0, 0), []),
  (77, .new 43, 3, (6, 2, 0, 0, 1107), []),
  (80, .dup, 1, (0, 0, 0, 0, 0), []),
  (81, .invokespecial 45, 3, (89, 1, 0, 0, 1109), []),
  (84, .putfield 46, 3, (2, 6, 2, 0, 1138), []),
  (87, .aload_n 0, 1, (0, 0, 0, 0, 0), []),
  (88, .iconst 0, 1, (0, 0, 0, 0, 0), []),
  (89, .putfield 50, 3, (2, 7, 0, 0, 1139), []),
  (92, .return_, 1, (0, 0, 0, 0, 0), [])]
noncomputable def ai_o31 : List ai_E := [
  (0, .aload_n 0, 1, (0, 0, 0, 0, 0), []),
  (1, .getfield 12, 3, (2, 0, 2, 0, 1123), []),
  (4, .iload_n 1, 1, (0, 0, 0, 0, 0), []),
  (5, .invokevirtual 53, 3, (93, 2, 0, 0, 4068), []),
  (8, .ifCond .eq 39, 3, (23, 0, 0, 0, 0), []),
  (11, .iload_n 2, 1, (0, 0, 0, 0, 0), []),
  (12, .ifCond .lt 35, 3, (23, 0, 0, 0, 0), []),
  (15, .iload_n 2, 1, (0, 0, 0, 0, 0), []),
  (16, .aload_n 0, 1, (0, 0, 0, 0, 0), []),
  (17, .getfield 21, 3, (2, 1, 2, 0, 1127), []),
  (20, .iload_n 1, 1, (0, 0, 0, 0, 0), []),
  (21, .invokevirtual 57, 3, (105, 2, 0, 0, 3146), []),
  (24, .if_icmp .ge 23, 3, (23, 0, 0, 0, 0), []),
  (27, .iload_n 3, 1, (0, 0, 0, 0, 0), []),
  (28, .ifCond .lt 19, 3, (23, 0, 0, 0, 0), []),
  (31, .iload_n 3, 1, (0, 0, 0, 0, 0), []),
  (32, .aload_n 0, 1, (0, 0, 0, 0, 0), []),
  (33, .getfield 12, 3, (2, 0, 2, 0, 1123), []),
  (36, .iload_n 1, 1, (0, 0, 0, 0, 0), []),
  (37, .invokevirtual 61, 3, (94, 2, 0, 0, 3159), []),
  (40, .if_icmp .ge 7, 3, (23, 0, 0, 0, 0), []),
  (43, .iconst 1, 1, (0, 0, 0, 0, 0), []),
  (44, .goto 4, 3, (24, 0, 0, 0, 0), []),
  (47, .iconst 0, 1, (0, 0, 0, 0, 0), []),
  (48, .ireturn, 1, (3, 0, 0, 0, 0), [])]
noncomputable def ai_o32 : List ai_E := [
  (0, .aload_n 0, 1, (0, 0, 0, 0, 0), []),
  (1, .getfield 40, 3, (2, 5, 2, 0, 1137), []),
  (4, .aload_n 0, 1, (0, 0, 0, 0, 0), []),
  (5, .getfield 21, 3, (2, 1, 2, 0, 1127), []),
  (8, .invokevirtual 64, 3, (115, 2, 0, 0, 3117), []),
  (11, .aload_n 0, 1, (0, 0, 0, 0, 0), []),
  (12, .aload_n 0, 1, (0, 0, 0, 0, 0), []),
  (13, .getfield 28, 3, (2, 2, 2, 0, 1131), []),
  (16, .getfield 68, 3, (4, 1, 0, 0, 1095), []),
  (19, .putfield 50, 3, (2, 7, 0, 0, 1139), []),
  (22, .aload_n 0, 1, (0, 0, 0, 0, 0), []),
  (23, .iconst 0, 1, (0, 0, 0, 0, 0), []),
  (24, .putfield 36, 3, (2, 4, 0, 0, 1135), []),
  (27, .aload_n 0, 1, (0, 0, 0, 0, 0), []),
  (28, .iconst 0, 1, (0, 0, 0, 0, 0), []),
  (29, .iconst (-1), 1, (0, 0, 0, 0, 0), []),
  (30, .iconst (-1), 1, (0, 0, 0, 0, 0), []),
  (31, .iconst (-1), 1, (0, 0, 0, 0, 0), []),
  (32, .invokevirtual 71, 3, (48, 5, 0, 0, 3124), []),
  (35, .return_, 1, (0, 0, 0, 0, 0), [])]
noncomputable def ai_o33 : List ai_E := [
  (0, .aload_n 0, 1, (0, 0, 0, 0, 0), []),
  (1, .getfield 21, 3, (2, 1, 2, 0, 1127), []),
  (4, .aload_n 0, 1, (0, 0, 0, 0, 0), []),
  (5, .getfield 40, 3, (2, 5, 2, 0, 1137), []),
  (8, .invokevirtual 64, 3, (115, 2, 0, 0, 3117), []),
  (11, .aload_n 0, 1, (0, 0, 0, 0, 0), []),
  (12, .getfield 28, 3, (2, 2, 2, 0, 1131), []),
  (15, .aload_n 0, 1, (0, 0, 0, 0, 0), []),
  (16, .getfield 50, 3, (2, 7, 0, 0, 1139), []),
  (19, .putfield 68, 3, (4, 1, 0, 0, 1095), []),
  (22, .return_, 1, (0, 0, 0, 0, 0), [])]
noncomputable def ai_o34 : List ai_E := [
  (0, .iload_n 1, 1, (0, 0, 0, 0, 0), []),
  (1, .iconst 4, 1, (0, 0, 0, 0, 0), []),
  (2, .if_icmp .ne 9, 3, (7, 0, 0, 0, 0), []),
  (5, .aload_n 0, 1, (0, 0, 0, 0, 0), []),
  (6, .aload_n 2, 1, (0, 0, 0, 0, 0), []),
  (7, .invokevirtual 75, 3, (35, 2, 0, 0, 3134), []),
  (10, .ireturn, 1, (3, 0, 0, 0, 0), []),
  (11, .iload_n 1, 1, (0, 0, 0, 0, 0), []),
  (12, .iconst 5, 1, (0, 0, 0, 0, 0), []),
  (13, .if_icmp .ne 26, 3, (23, 0, 0, 0, 0), []),
  (16, .aload_n 0, 1, (0, 0, 0, 0, 0), []),
  (17, .aload_n 2, 1, (0, 0, 0, 0, 0), []),
  (18, .invokevirtual 75, 3, (35, 2, 0, 0, 3134), []),
  (21, .ifCond .eq 16, 3, (21, 0, 0, 0, 0), []),
  (24, .aload_n 0, 1, (0, 0, 0, 0, 0), []),
  (25, .iconst 0, 1, (0, 0, 0, 0, 0), []),
  (26, .aload_n 2, 1, (0, 0, 0, 0, 0), []),
  (27, .invokevirtual 79, 3, (39, 3, 0, 0, 3185), []),
  (30, .ifCond .eq 7, 3, (21, 0, 0, 0, 0), []),
  (33, .iconst 1, 1, (0, 0, 0, 0, 0), []),
  (34, .goto 4, 3, (22, 0, 0, 0, 0), []),
  (37, .iconst 0, 1, (0, 0, 0, 0, 0), []),
  (38, .ireturn, 1, (3, 0, 0, 0, 0), []),
  (39, .aload_n 0, 1, (0, 0, 0, 0, 0), []),
  (40, .iload_n 1, 1, (0, 0, 0, 0, 0), []),
  (41, .aload_n 2, 1, (0, 0, 0, 0, 0), []),
  (42, .invokevirtual 79, 3, (39, 3, 0, 0, 3185), []),
  (45, .ireturn, 1, (3, 0, 0, 0, 0), [])]
noncomputable def ai_o35 : List ai_E := [
  (0, .aload_n 0, 1, (0, 0, 0, 0, 0), []),
  (1, .getfield 12, 3, (2, 0, 2, 0, 1123), []),
  (4, .getfield 83, 3, (7, 0, 0, 0, 1043), []),
  (7, .iconst 1, 1, (0, 0, 0, 0, 0), []),
  (8, .isub, 1, (0, 0, 0, 0, 0), []),
  (9, .istore_n 2, 1, (0, 0, 0, 0, 0), []),
  (10, .iload_n 2, 1, (0, 0, 0, 0, 0), [true, true, true, false]),
  (11, .ifCond .lt 37, 3, (26, 0, 0, 0, 0), []),
  (14, .aload_n 0, 1, (0, 0, 0, 0, 0), []),
  (15, .getfield 12, 3, (2, 0, 2, 0, 1123), []),
  (18, .getfield 86, 3, (7, 1, 2, 0, 1045), []),
  (21, .iload_n 2, 1, (0, 0, 0, 0, 0), []),
  (22, .iaload, 1, (0, 0, 0, 0, 0), []),
  (23, .istore_n 3, 1, (0, 0, 0, 0, 0), []),
  (24, .aload_n 1, 1, (0, 0, 0, 0, 0), []),
  (25, .iload_n 3, 1, (0, 0, 0, 0, 0), []),
  (26, .invokevirtual 89, 3, (61, 2, 0, 0, 3138), []),
  (29, .ifCond .eq 13, 3, (24, 0, 0, 0, 0), []),
  (32, .aload_n 0, 1, (0, 0, 0, 0, 0), []),
  (33, .iload_n 3, 1, (0, 0, 0, 0, 0), []),
  (34, .invokevirtual 94, 3, (36, 2, 0, 0, 3142), []),
  (37, .ifCond .ne 5, 3, (24, 0, 0, 0, 0), []),
  (40, .iconst 0, 1, (0, 0, 0, 0, 0), []),
  (41, .ireturn, 1, (3, 0, 0, 0, 0), []),
  (42, .iinc 2 (-1), 3, (0, 0, 0, 0, 0), []),
  (45, .goto (-35), 3, (6, 0, 0, 0, 0), []),
  (48, .iconst 1, 1, (0, 0, 0, 0, 0), []),
  (49, .ireturn, 1, (3, 0, 0, 0, 0), [])]
noncomputable def ai_o36 : List ai_E := [
  (0, .aload_n 0, 1, (0, 0, 0, 0, 0), []),
  (1, .getfield 21, 3, (2, 1, 2, 0, 1127), []),
  (4, .iload_n 1, 1, (0, 0, 0, 0, 0), []),
  (5, .invokevirtual 57, 3, (105, 2, 0, 0, 3146), []),
  (8, .istore_n 2, 1, (0, 0, 0, 0, 0), []),
  (9, .aload_n 0, 1, (0, 0, 0, 0, 0), []),
  (10, .iload_n 1, 1, (0, 0, 0, 0, 0), []),
  (11, .invokevirtual 97, 3, (37, 2, 0, 0, 3147), []),
  (14, .ifCond .eq 12, 3, (16, 0, 0, 0, 0), []),
  (17, .aload_n 0, 1, (0, 0, 0, 0, 0), []),
  (18, .iconst 4, 1, (0, 0, 0, 0, 0), []),
  (19, .iload_n 1, 1, (0, 0, 0, 0, 0), []),
  (20, .iconst (-1), 1, (0, 0, 0, 0, 0), []),
  (21, .iconst (-1), 1, (0, 0, 0, 0, 0), []),
  (22, .invokevirtual 100, 3, (47, 5, 0, 0, 3165), []),
  (25, .ireturn, 1, (3, 0, 0, 0, 0), []),
  (26, .aload_n 0, 1, (0, 0, 0, 0, 0), []),
  (27, .getfield 28, 3, (2, 2, 2, 0, 1131), []),
  (30, .iload_n 2, 1, (0, 0, 0, 0, 0), []),
  (31, .invokevirtual 104, 3, (67, 2, 0, 0, 3169), []),
  (34, .ifCond .ne 13, 3, (28, 0, 0, 0, 0), []),
  (37, .aload_n 0, 1, (0, 0, 0, 0, 0), []),
  (38, .bipush 7, 2, (0, 0, 0, 0, 0), []),
  (40, .iload_n 1, 1, (0, 0, 0, 0, 0), []),
  (41, .iconst (-1), 1, (0, 0, 0, 0, 0), []),
  (42, .iconst (-1), 1, (0, 0, 0, 0, 0), []),
  (43, .invokevirtual 100, 3, (47, 5, 0, 0, 3165), []),
  (46, .ireturn, 1, (3, 0, 0, 0, 0), []),
  (47, .aload_n 0, 1, (0, 0, 0, 0, 0), []),
  (48, .getfield 21, 3, (2, 1, 2, 0, 1127), []),
  (51, .iload_n 1, 1, (0, 0, 0, 0, 0), []),
  (52, .invokevirtual 107, 3, (113, 2, 0, 0, 3173), []),
  (55, .aload_n 0, 1, (0, 0, 0, 0, 0), []),
  (56, .iload_n 2, 1, (0, 0, 0, 0, 0), []),
  (57, .invokevirtual 111, 3, (46, 2, 0, 0, 3177), []),
  (60, .iconst 1, 1, (0, 0, 0, 0, 0), []),
  (61, .ireturn, 1, (3, 0, 0, 0, 0), [])]
noncomputable def ai_o37 : List ai_E := [
  (0, .iconst 0, 1, (0, 0, 0, 0, 0), []),
  (1, .istore_n 2, 1, (0, 0, 0, 0, 0), []),
  (2, .iload_n 2, 1, (0, 0, 0, 0, 0), [true, true, true, false]),
  (3, .aload_n 0, 1, (0, 0, 0, 0, 0), []),
  (4, .getfield 21, 3, (2, 1, 2, 0, 1127), []),
  (7, .iload_n 1, 1, (0, 0, 0, 0, 0), []),
  (8, .invokevirtual 57, 3, (105, 2, 0, 0, 3146), []),
  (11, .if_icmp .ge 45, 3, (30, 0, 0, 0, 0), []),
  (14, .iconst 0, 1, (0, 0, 0, 0, 0), []),
  (15, .istore_n 3, 1, (0, 0, 0, 0, 0), []),
  (16, .iload_n 3, 1, (0, 0, 0, 0, 0), [true, true, true, true]),
  (17, .aload_n 0, 1, (0, 0, 0, 0, 0), []),
  (18, .getfield 12, 3, (2, 0, 2, 0, 1123), []),
  (21, .getfield 83, 3, (7, 0, 0, 0, 1043), []),
  (24, .if_icmp .ge 26, 3, (28, 0, 0, 0, 0), []),
  (27, .iload_n 3, 1, (0, 0, 0, 0, 0), []),
  (28, .iload_n 1, 1, (0, 0, 0, 0, 0), []),
  (29, .if_icmp .eq 15, 3, (26, 0, 0, 0, 0), []),
  (32, .aload_n 0, 1, (0, 0, 0, 0, 0), []),
  (33, .iload_n 3, 1, (0, 0, 0, 0, 0), []),
  (34, .iload_n 1, 1, (0, 0, 0, 0, 0), []),
  (35, .iload_n 2, 1, (0, 0, 0, 0, 0), []),
  (36, .invokevirtual 114, 3, (38, 4, 0, 0, 3151), []),
  (39, .ifCond .eq 5, 3, (26, 0, 0, 0, 0), []),
  (42, .iconst 1, 1, (0, 0, 0, 0, 0), []),
  (43, .ireturn, 1, (3, 0, 0, 0, 0), []),
  (44, .iinc 3 1, 3, (0, 0, 0, 0, 0), []),
  (47, .goto (-31), 3, (10, 0, 0, 0, 0), []),
  (50, .iinc 2 1, 3, (0, 0, 0, 0, 0), []),
  (53, .goto (-51), 3, (2, 0, 0, 0, 0), []),
  (56, .iconst 0, 1, (0, 0, 0, 0, 0), []),
  (57, .ireturn, 1, (3, 0, 0, 0, 0), [])]
noncomputable def ai_o38 : List ai_E := [
  (0, .iload_n 1, 1, (0, 0, 0, 0, 0), []),
  (1, .iload_n 2, 1, (0, 0, 0, 0, 0), []),
  (2, .if_icmp .ne 7, 3, (5, 0, 0, 0, 0), []),
  (5, .iload_n 3, 1, (0, 0, 0, 0, 0), []),
  (6, .goto 4, 3, (6, 0, 0, 0, 0), []),
  (9, .iconst (-1), 1, (0, 0, 0, 0, 0), []),
  (10, .istore 4, 2, (0, 0, 0, 0, 0), []),
  (12, .aload_n 0, 1, (0, 0, 0, 0, 0), []),
  (13, .getfield 21, 3, (2, 1, 2, 0, 1127), []),
  (16, .iload_n 2, 1, (0, 0, 0, 0, 0), []),
  (17, .iload_n 3, 1, (0, 0, 0, 0, 0), []),
  (18, .iconst 0, 1, (0, 0, 0, 0, 0), []),
  (19, .invokevirtual 118, 3, (106, 4, 0, 0, 3155), []),
  (22, .lstore 5, 2, (0, 0, 0, 0, 0), []),
  (24, .iconst 0, 1, (0, 0, 0, 0, 0), []),
  (25, .istore 7, 2, (0, 0, 0, 0, 0), []),
  (27, .iload 7, 2, (0, 0, 0, 0, 0), [true, true, true, false, true, true, false, true]),
  (29, .aload_n 0, 1, (0, 0, 0, 0, 0), []),
  (30, .getfield 12, 3, (2, 0, 2, 0, 1123), []),
  (33, .iload_n 1, 1, (0, 0, 0, 0, 0), []),
  (34, .invokevirtual 61, 3, (94, 2, 0, 0, 3159), []),
  (37, .if_icmp .ge 42, 3, (41, 0, 0, 0, 0), []),
  (40, .aload_n 0, 1, (0, 0, 0, 0, 0), []),
  (41, .getfield 12, 3, (2, 0, 2, 0, 1123), []),
  (44, .iload_n 1, 1, (0, 0, 0, 0, 0), []),
  (45, .iload 7, 2, (0, 0, 0, 0, 0), []),
  (47, .invokevirtual 122, 3, (96, 3, 0, 0, 3160), []),
  (50, .iload_n 2, 1, (0, 0, 0, 0, 0), []),
  (51, .if_icmp .ne 22, 3, (39, 0, 0, 0, 0), []),
  (54, .aload_n 0, 1, (0, 0, 0, 0, 0), []),
  (55, .getfield 21, 3, (2, 1, 2, 0, 1127), []),
  (58, .iload_n 1, 1, (0, 0, 0, 0, 0), []),
  (59, .iload 7, 2, (0, 0, 0, 0, 0), []),
  (61, .lload 5, 2, (0, 0, 0, 0, 0), []),
  (63, .iload 4, 2, (0, 0, 0, 0, 0), []),
  (65, .invokevirtual 126, 3, (109, 5, 0, 0, 3161), []),
  (68, .ifCond .eq 5, 3, (39, 0, 0, 0, 0), []),
  (71, .iconst 1, 1, (0, 0, 0, 0, 0), []),
  (72, .ireturn, 1, (3, 0, 0, 0, 0), []),
  (73, .iinc 7 1, 3, (0, 0, 0, 0, 0), []),
  (76, .goto (-49), 3, (16, 0, 0, 0, 0), []),
  (79, .iconst 0, 1, (0, 0, 0, 0, 0), []),
  (80, .ireturn, 1, (3, 0, 0, 0, 0), [])]
noncomputable def ai_o39 : List ai_E := [
  (0, .iconst 0, 1, (0, 0, 0, 0, 0), []),
  (1, .istore_n 3, 1, (0, 0, 0, 0, 0), []),
  (2, .iload_n 3, 1, (0, 0, 0, 0, 0), [true, true, true, true, false, false]),
  (3, .aload_n 0, 1, (0, 0, 0, 0, 0), []),
  (4, .getfield 12, 3, (2, 0, 2, 0, 1123), []),
  (7, .getfield 83, 3, (7, 0, 0, 0, 1043), []),
  (10, .if_icmp .ge 81, 3, (47, 0, 0, 0, 0), []),
  (13, .aload_n 0, 1, (0, 0, 0, 0, 0), []),
  (14, .getfield 12, 3, (2, 0, 2, 0, 1123), []),
  (17, .getfield 86, 3, (7, 1, 2, 0, 1045), []),
  (20, .iload_n 1, 1, (0, 0, 0, 0, 0), []),
  (21, .iconst 3, 1, (0, 0, 0, 0, 0), []),
  (22, .if_icmp .ne 17, 3, (21, 0, 0, 0, 0), []),
  (25, .aload_n 0, 1, (0, 0, 0, 0, 0), []),
  (26, .getfield 12, 3, (2, 0, 2, 0, 1123), []),
  (29, .getfield 83, 3, (7, 0, 0, 0, 1043), []),
  (32, .iconst 1, 1, (0, 0, 0, 0, 0), []),
  (33, .isub, 1, (0, 0, 0, 0, 0), []),
  (34, .iload_n 3, 1, (0, 0, 0, 0, 0), []),
  (35, .isub, 1, (0, 0, 0, 0, 0), []),
  (36, .goto 4, 3, (22, 0, 0, 0, 0), []),
  (39, .iload_n 3, 1, (0, 0, 0, 0, 0), []),
  (40, .iaload, 1, (0, 0, 0, 0, 0), []),
  (41, .istore 4, 2, (0, 0, 0, 0, 0), []),
  (43, .iconst 0, 1, (0, 0, 0, 0, 0), []),
  (44, .istore 5, 2, (0, 0, 0, 0, 0), []),
  (46, .iload 5, 2, (0, 0, 0, 0, 0), [true, true, true, true, true, true]),
  (48, .aload_n 2, 1, (0, 0, 0, 0, 0), []),
  (49, .getfield 130, 3, (3, 1, 0, 0, 1226), []),
  (52, .if_icmp .ge 33, 3, (45, 0, 0, 0, 0), []),
  (55, .aload_n 2, 1, (0, 0, 0, 0, 0), []),
  (56, .iload 5, 2, (0, 0, 0, 0, 0), []),
  (58, .invokevirtual 133, 3, (63, 2, 0, 0, 3189), []),
  (61, .iload 4, 2, (0, 0, 0, 0, 0), []),
  (63, .if_icmp .ne 16, 3, (43, 0, 0, 0, 0), []),
  (66, .aload_n 0, 1, (0, 0, 0, 0, 0), []),
  (67, .iload_n 1, 1, (0, 0, 0, 0, 0), []),
  (68, .aload_n 2, 1, (0, 0, 0, 0, 0), []),
  (69, .iload 5, 2, (0, 0, 0, 0, 0), []),
  (71, .invokevirtual 136, 3, (40, 4, 0, 0, 3193), []),
  (74, .ifCond .ne 5, 3, (43, 0, 0, 0, 0), []),
  (77, .iconst 0, 1, (0, 0, 0, 0, 0), []),
  (78, .ireturn, 1, (3, 0, 0, 0, 0), []),
  (79, .iinc 5 1, 3, (0, 0, 0, 0, 0), []),
  (82, .goto (-36), 3, (26, 0, 0, 0, 0), []),
  (85, .iinc 3 1, 3, (0, 0, 0, 0, 0), []),
  (88, .goto (-86), 3, (2, 0, 0, 0, 0), []),
  (91, .iconst 1, 1, (0, 0, 0, 0, 0), []),
  (92, .ireturn, 1, (3, 0, 0, 0, 0), [])]
noncomputable def ai_o40 : List ai_E := [
  (0, .aload_n 2, 1, (0, 0, 0, 0, 0), []),
  (1, .iload_n 3, 1, (0, 0, 0, 0, 0), []),
  (2, .invokevirtual 133, 3, (63, 2, 0, 0, 3189), []),
  (5, .istore 4, 2, (0, 0, 0, 0, 0), []),
  (7, .aload_n 2, 1, (0, 0, 0, 0, 0), []),
  (8, .iload_n 3, 1, (0, 0, 0, 0, 0), []),
  (9, .iconst 0, 1, (0, 0, 0, 0, 0), []),
  (10, .invokevirtual 140, 3, (65, 3, 0, 0, 3197), []),
  (13, .ifCond .eq 13, 3, (16, 0, 0, 0, 0), []),
  (16, .aload_n 0, 1, (0, 0, 0, 0, 0), []),
  (17, .iconst 1, 1, (0, 0, 0, 0, 0), []),
  (18, .iload 4, 2, (0, 0, 0, 0, 0), []),
  (20, .iload_n 3, 1, (0, 0, 0, 0, 0), []),
  (21, .iconst 0, 1, (0, 0, 0, 0, 0), []),
  (22, .invokevirtual 100, 3, (47, 5, 0, 0, 3165), []),
  (25, .ireturn, 1, (3, 0, 0, 0, 0), []),
  (26, .aload_n 0, 1, (0, 0, 0, 0, 0), []),
  (27, .getfield 21, 3, (2, 1, 2, 0, 1127), []),
  (30, .iload 4, 2, (0, 0, 0, 0, 0), []),
  (32, .aload_n 2, 1, (0, 0, 0, 0, 0), []),
  (33, .iload_n 3, 1, (0, 0, 0, 0, 0), []),
  (34, .iconst 0, 1, (0, 0, 0, 0, 0), []),
  (35, .invokevirtual 144, 3, (64, 3, 0, 0, 3201), []),
  (38, .invokevirtual 147, 3, (108, 3, 0, 0, 3205), []),
  (41, .istore 5, 2, (0, 0, 0, 0, 0), []),
  (43, .iload_n 1, 1, (0, 0, 0, 0, 0), []),
  (44, .iconst 3, 1, (0, 0, 0, 0, 0), []),
  (45, .if_icmp .ne 27, 3, (41, 0, 0, 0, 0), []),
  (48, .iload 5, 2, (0, 0, 0, 0, 0), []),
  (50, .iconst (-1), 1, (0, 0, 0, 0, 0), []),
  (51, .if_icmp .eq 15, 3, (37, 0, 0, 0, 0), []),
  (54, .aload_n 0, 1, (0, 0, 0, 0, 0), []),
  (55, .iload 4, 2, (0, 0, 0, 0, 0), []),
  (57, .iload 5, 2, (0, 0, 0, 0, 0), []),
  (59, .iload_n 3, 1, (0, 0, 0, 0, 0), []),
  (60, .invokevirtual 151, 3, (41, 4, 0, 0, 3209), []),
  (63, .ifCond .eq 7, 3, (39, 0, 0, 0, 0), []),
  (66, .iconst 1, 1, (0, 0, 0, 0, 0), []),
  (67, .goto 4, 3, (40, 0, 0, 0, 0), []),
  (70, .iconst 0, 1, (0, 0, 0, 0, 0), []),
  (71, .ireturn, 1, (3, 0, 0, 0, 0), []),
  (72, .iload_n 1, 1, (0, 0, 0, 0, 0), []),
  (73, .ifCond .ne 19, 3, (53, 0, 0, 0, 0), []),
  (76, .iload 5, 2, (0, 0, 0, 0, 0), []),
  (78, .iconst (-1), 1, (0, 0, 0, 0, 0), []),
  (79, .if_icmp .eq 13, 3, (53, 0, 0, 0, 0), []),
  (82, .aload_n 0, 1, (0, 0, 0, 0, 0), []),
  (83, .iconst 2, 1, (0, 0, 0, 0, 0), []),
  (84, .iload 4, 2, (0, 0, 0, 0, 0), []),
  (86, .iload_n 3, 1, (0, 0, 0, 0, 0), []),
  (87, .iconst (-1), 1, (0, 0, 0, 0, 0), []),
  (88, .invokevirtual 100, 3, (47, 5, 0, 0, 3165), []),
  (91, .ireturn, 1, (3, 0, 0, 0, 0), []),
  (92, .iload_n 1, 1, (0, 0, 0, 0, 0), []),
  (93, .iconst 1, 1, (0, 0, 0, 0, 0), []),
  (94, .if_icmp .ne 19, 3, (66, 0, 0, 0, 0), []),
  (97, .iload 5, 2, (0, 0, 0, 0, 0), []),
  (99, .iconst (-1), 1, (0, 0, 0, 0, 0), []),
  (100, .if_icmp .ne 13, 3, (66, 0, 0, 0, 0), []),
  (103, .aload_n 0, 1, (0, 0, 0, 0, 0), []),
  (104, .iconst 5, 1, (0, 0, 0, 0, 0), []),
  (105, .iload 4, 2, (0, 0, 0, 0, 0), []),
  (107, .iload_n 3, 1, (0, 0, 0, 0, 0), []),
  (108, .iconst (-1), 1, (0, 0, 0, 0, 0), []),
  (109, .invokevirtual 100, 3, (47, 5, 0, 0, 3165), []),
  (112, .ireturn, 1, (3, 0, 0, 0, 0), []),
  (113, .aload_n 0, 1, (0, 0, 0, 0, 0), []),
  (114, .aload_n 2, 1, (0, 0, 0, 0, 0), []),
  (115, .iload_n 3, 1, (0, 0, 0, 0, 0), []),
  (116, .iload 5, 2, (0, 0, 0, 0, 0), []),
  (118, .invokevirtual 154, 3, (42, 4, 0, 0, 3221), []),
  (121, .aload_n 0, 1, (0, 0, 0, 0, 0), []),
  (122, .iload 4, 2, (0, 0, 0, 0, 0), []),
  (124, .iload 5, 2, (0, 0, 0, 0, 0), []),
  (126, .iload_n 3, 1, (0, 0, 0, 0, 0), []),
  (127, .invokevirtual 158, 3, (43, 4, 0, 0, 3238), []),
  (130, .ireturn, 1, (3, 0, 0, 0, 0), [])]
noncomputable def ai_o41 : List ai_E := [
  (0, .iconst 0, 1, (0, 0, 0, 0, 0), []),
  (1, .istore 4, 2, (0, 0, 0, 0, 0), []),
  (3, .iload 4, 2, (0, 0, 0, 0, 0), [true, true, true, true, true]),
  (5, .aload_n 0, 1, (0, 0, 0, 0, 0), []),
  (6, .getfield 12, 3, (2, 0, 2, 0, 1123), []),
  (9, .getfield 83, 3, (7, 0, 0, 0, 1043), []),
  (12, .if_icmp .ge 29, 3, (22, 0, 0, 0, 0), []),
  (15, .aload_n 0, 1, (0, 0, 0, 0, 0), []),
  (16, .iload 4, 2, (0, 0, 0, 0, 0), []),
  (18, .iload_n 1, 1, (0, 0, 0, 0, 0), []),
  (19, .iload_n 2, 1, (0, 0, 0, 0, 0), []),
  (20, .invokevirtual 114, 3, (38, 4, 0, 0, 3151), []),
  (23, .ifCond .eq 12, 3, (20, 0, 0, 0, 0), []),
  (26, .aload_n 0, 1, (0, 0, 0, 0, 0), []),
  (27, .iconst 4, 1, (0, 0, 0, 0, 0), []),
  (28, .iload_n 1, 1, (0, 0, 0, 0, 0), []),
  (29, .iload_n 3, 1, (0, 0, 0, 0, 0), []),
  (30, .iconst (-1), 1, (0, 0, 0, 0, 0), []),
  (31, .invokevirtual 100, 3, (47, 5, 0, 0, 3165), []),
  (34, .ireturn, 1, (3, 0, 0, 0, 0), []),
  (35, .iinc 4 1, 3, (0, 0, 0, 0, 0), []),
  (38, .goto (-35), 3, (2, 0, 0, 0, 0), []),
  (41, .aload_n 0, 1, (0, 0, 0, 0, 0), []),
  (42, .getfield 28, 3, (2, 2, 2, 0, 1131), []),
  (45, .iconst 1, 1, (0, 0, 0, 0, 0), []),
  (46, .invokevirtual 104, 3, (67, 2, 0, 0, 3169), []),
  (49, .ifCond .ne 13, 3, (34, 0, 0, 0, 0), []),
  (52, .aload_n 0, 1, (0, 0, 0, 0, 0), []),
  (53, .bipush 7, 2, (0, 0, 0, 0, 0), []),
  (55, .iload_n 1, 1, (0, 0, 0, 0, 0), []),
  (56, .iload_n 3, 1, (0, 0, 0, 0, 0), []),
  (57, .iconst (-1), 1, (0, 0, 0, 0, 0), []),
  (58, .invokevirtual 100, 3, (47, 5, 0, 0, 3165), []),
  (61, .ireturn, 1, (3, 0, 0, 0, 0), []),
  (62, .aload_n 0, 1, (0, 0, 0, 0, 0), []),
  (63, .getfield 21, 3, (2, 1, 2, 0, 1127), []),
  (66, .iload_n 1, 1, (0, 0, 0, 0, 0), []),
  (67, .iload_n 2, 1, (0, 0, 0, 0, 0), []),
  (68, .invokevirtual 161, 3, (112, 3, 0, 0, 3213), []),
  (71, .aload_n 0, 1, (0, 0, 0, 0, 0), []),
  (72, .iconst 1, 1, (0, 0, 0, 0, 0), []),
  (73, .invokevirtual 111, 3, (46, 2, 0, 0, 3177), []),
  (76, .iconst 1, 1, (0, 0, 0, 0, 0), []),
  (77, .ireturn, 1, (3, 0, 0, 0, 0), [])]
noncomputable def ai_o42 : List ai_E := [
  (0, .aload_n 1, 1, (0, 0, 0, 0, 0), []),
  (1, .iload_n 2, 1, (0, 0, 0, 0, 0), []),
  (2, .invokevirtual 133, 3, (63, 2, 0, 0, 3189), []),
  (5, .istore 4, 2, (0, 0, 0, 0, 0), []),
  (7, .iconst 0, 1, (0, 0, 0, 0, 0), []),
  (8, .istore 5, 2, (0, 0, 0, 0, 0), []),
  (10, .iload 5, 2, (0, 0, 0, 0, 0), [true, true, true, true, true, true]),
  (12, .iconst 5, 1, (0, 0, 0, 0, 0), []),
  (13, .if_icmp .ge 87, 3, (50, 0, 0, 0, 0), []),
  (16, .iload_n 3, 1, (0, 0, 0, 0, 0), []),
  (17, .iconst (-1), 1, (0, 0, 0, 0, 0), []),
  (18, .if_icmp .eq 17, 3, (19, 0, 0, 0, 0), []),
  (21, .aload_n 1, 1, (0, 0, 0, 0, 0), []),
  (22, .aload_n 1, 1, (0, 0, 0, 0, 0), []),
  (23, .iload_n 2, 1, (0, 0, 0, 0, 0), []),
  (24, .invokevirtual 165, 3, (62, 2, 0, 0, 3225), []),
  (27, .iload 5, 2, (0, 0, 0, 0, 0), []),
  (29, .invokevirtual 168, 3, (58, 3, 0, 0, 3229), []),
  (32, .ifCond .eq 29, 3, (32, 0, 0, 0, 0), []),
  (35, .aload_n 0, 1, (0, 0, 0, 0, 0), []),
  (36, .getfield 46, 3, (2, 6, 2, 0, 1138), []),
  (39, .iload 5, 2, (0, 0, 0, 0, 0), []),
  (41, .aload_n 1, 1, (0, 0, 0, 0, 0), []),
  (42, .iload_n 2, 1, (0, 0, 0, 0, 0), []),
  (43, .iload 5, 2, (0, 0, 0, 0, 0), []),
  (45, .invokevirtual 144, 3, (64, 3, 0, 0, 3201), []),
  (48, .aload_n 1, 1, (0, 0, 0, 0, 0), []),
  (49, .iload_n 2, 1, (0, 0, 0, 0, 0), []),
  (50, .iload 5, 2, (0, 0, 0, 0, 0), []),
  (52, .invokevirtual 140, 3, (65, 3, 0, 0, 3197), []),
  (55, .invokevirtual 171, 3, (91, 4, 0, 0, 3230), []),
  (58, .goto 36, 3, (48, 0, 0, 0, 0), []),
  (61, .aload_n 0, 1, (0, 0, 0, 0, 0), []),
  (62, .getfield 46, 3, (2, 6, 2, 0, 1138), []),
  (65, .iload 5, 2, (0, 0, 0, 0, 0), []),
  (67, .aload_n 0, 1, (0, 0, 0, 0, 0), []),
  (68, .getfield 21, 3, (2, 1, 2, 0, 1127), []),
  (71, .iload 4, 2, (0, 0, 0, 0, 0), []),
  (73, .iload_n 3, 1, (0, 0, 0, 0, 0), []),
  (74, .iload 5, 2, (0, 0, 0, 0, 0), []),
  (76, .invokevirtual 118, 3, (106, 4, 0, 0, 3155), []),
  (79, .aload_n 0, 1, (0, 0, 0, 0, 0), []),
  (80, .getfield 21, 3, (2, 1, 2, 0, 1127), []),
  (83, .iload 4, 2, (0, 0, 0, 0, 0), []),
  (85, .iload_n 3, 1, (0, 0, 0, 0, 0), []),
  (86, .iload 5, 2, (0, 0, 0, 0, 0), []),
  (88, .invokevirtual 175, 3, (107, 4, 0, 0, 3234), []),
  (91, .invokevirtual 171, 3, (91, 4, 0, 0, 3230), []),
  (94, .iinc 5 1, 3, (0, 0, 0, 0, 0), []),
  (97, .goto (-87), 3, (6, 0, 0, 0, 0), []),
  (100, .return_, 1, (0, 0, 0, 0, 0), [])]
noncomputable def ai_o43 : List ai_E := [
  (0, .aload_n 0, 1, (0, 0, 0, 0, 0), []),
  (1, .iload_n 1, 1, (0, 0, 0, 0, 0), []),
  (2, .invokevirtual 177, 3, (44, 2, 0, 0, 4002), []),
  (5, .istore 4, 2, (0, 0, 0, 0, 0), []),
  (7, .iload 4, 2, (0, 0, 0, 0, 0), []),
  (9, .iconst (-1), 1, (0, 0, 0, 0, 0), []),
  (10, .if_icmp .eq 13, 3, (14, 0, 0, 0, 0), []),
  (13, .aload_n 0, 1, (0, 0, 0, 0, 0), []),
  (14, .iconst 1, 1, (0, 0, 0, 0, 0), []),
  (15, .iload_n 1, 1, (0, 0, 0, 0, 0), []),
  (16, .iload_n 3, 1, (0, 0, 0, 0, 0), []),
  (17, .iload 4, 2, (0, 0, 0, 0, 0), []),
  (19, .invokevirtual 100, 3, (47, 5, 0, 0, 3165), []),
  (22, .ireturn, 1, (3, 0, 0, 0, 0), []),
  (23, .aload_n 0, 1, (0, 0, 0, 0, 0), []),
  (24, .iload_n 1, 1, (0, 0, 0, 0, 0), []),
  (25, .invokevirtual 180, 3, (45, 2, 0, 0, 4014), []),
  (28, .istore 4, 2, (0, 0, 0, 0, 0), []),
  (30, .iload 4, 2, (0, 0, 0, 0, 0), []),
  (32, .iconst (-1), 1, (0, 0, 0, 0, 0), []),
  (33, .if_icmp .eq 13, 3, (28, 0, 0, 0, 0), []),
  (36, .aload_n 0, 1, (0, 0, 0, 0, 0), []),
  (37, .iconst 3, 1, (0, 0, 0, 0, 0), []),
  (38, .iload_n 1, 1, (0, 0, 0, 0, 0), []),
  (39, .iload_n 3, 1, (0, 0, 0, 0, 0), []),
  (40, .iload 4, 2, (0, 0, 0, 0, 0), []),
  (42, .invokevirtual 100, 3, (47, 5, 0, 0, 3165), []),
  (45, .ireturn, 1, (3, 0, 0, 0, 0), []),
  (46, .iload_n 2, 1, (0, 0, 0, 0, 0), []),
  (47, .iconst (-1), 1, (0, 0, 0, 0, 0), []),
  (48, .if_icmp .ne 26, 3, (44, 0, 0, 0, 0), []),
  (51, .aload_n 0, 1, (0, 0, 0, 0, 0), []),
  (52, .getfield 21, 3, (2, 1, 2, 0, 1127), []),
  (55, .iload_n 1, 1, (0, 0, 0, 0, 0), []),
  (56, .invokevirtual 57, 3, (105, 2, 0, 0, 3146), []),
  (59, .bipush 12, 2, (0, 0, 0, 0, 0), []),
  (61, .if_icmp .ne 13, 3, (44, 0, 0, 0, 0), []),
  (64, .aload_n 0, 1, (0, 0, 0, 0, 0), []),
  (65, .bipush 6, 2, (0, 0, 0, 0, 0), []),
  (67, .iload_n 1, 1, (0, 0, 0, 0, 0), []),
  (68, .iload_n 3, 1, (0, 0, 0, 0, 0), []),
  (69, .iconst (-1), 1, (0, 0, 0, 0, 0), []),
  (70, .invokevirtual 100, 3, (47, 5, 0, 0, 3165), []),
  (73, .ireturn, 1, (3, 0, 0, 0, 0), []),
  (74, .aload_n 0, 1, (0, 0, 0, 0, 0), []),
  (75, .getfield 28, 3, (2, 2, 2, 0, 1131), []),
  (78, .iconst 1, 1, (0, 0, 0, 0, 0), []),
  (79, .invokevirtual 104, 3, (67, 2, 0, 0, 3169), []),
  (82, .ifCond .ne 13, 3, (56, 0, 0, 0, 0), []),
  (85, .aload_n 0, 1, (0, 0, 0, 0, 0), []),
  (86, .bipush 7, 2, (0, 0, 0, 0, 0), []),
  (88, .iload_n 1, 1, (0, 0, 0, 0, 0), []),
  (89, .iload_n 3, 1, (0, 0, 0, 0, 0), []),
  (90, .iconst (-1), 1, (0, 0, 0, 0, 0), []),
  (91, .invokevirtual 100, 3, (47, 5, 0, 0, 3165), []),
  (94, .ireturn, 1, (3, 0, 0, 0, 0), []),
  (95, .iload_n 2, 1, (0, 0, 0, 0, 0), []),
  (96, .iconst (-1), 1, (0, 0, 0, 0, 0), []),
  (97, .if_icmp .ne 18, 3, (66, 0, 0, 0, 0), []),
  (100, .aload_n 0, 1, (0, 0, 0, 0, 0), []),
  (101, .getfield 21, 3, (2, 1, 2, 0, 1127), []),
  (104, .iload_n 1, 1, (0, 0, 0, 0, 0), []),
  (105, .aload_n 0, 1, (0, 0, 0, 0, 0), []),
  (106, .getfield 46, 3, (2, 6, 2, 0, 1138), []),
  (109, .invokevirtual 183, 3, (110, 3, 0, 0, 4018), []),
  (112, .goto 16, 3, (73, 0, 0, 0, 0), []),
  (115, .aload_n 0, 1, (0, 0, 0, 0, 0), []),
  (116, .getfield 21, 3, (2, 1, 2, 0, 1127), []),
  (119, .iload_n 1, 1, (0, 0, 0, 0, 0), []),
  (120, .iload_n 2, 1, (0, 0, 0, 0, 0), []),
  (121, .aload_n 0, 1, (0, 0, 0, 0, 0), []),
  (122, .getfield 46, 3, (2, 6, 2, 0, 1138), []),
  (125, .invokevirtual 187, 3, (111, 4, 0, 0, 4027), []),
  (128, .aload_n 0, 1, (0, 0, 0, 0, 0), []),
  (129, .iconst 1, 1, (0, 0, 0, 0, 0), []),
  (130, .invokevirtual 111, 3, (46, 2, 0, 0, 3177), []),
  (133, .iconst 1, 1, (0, 0, 0, 0, 0), []),
  (134, .ireturn, 1, (3, 0, 0, 0, 0), [])]
noncomputable def ai_o44 : List ai_E := [
  (0, .iconst 0, 1, (0, 0, 0, 0, 0), []),
  (1, .istore_n 2, 1, (0, 0, 0, 0, 0), []),
  (2, .iload_n 2, 1, (0, 0, 0, 0, 0), [true, true, true]),
  (3, .aload_n 0, 1, (0, 0, 0, 0, 0), []),
  (4, .getfield 12, 3, (2, 0, 2, 0, 1123), []),
  (7, .iload_n 1, 1, (0, 0, 0, 0, 0), []),
  (8, .invokevirtual 61, 3, (94, 2, 0, 0, 3159), []),
  (11, .if_icmp .ge 34, 3, (23, 0, 0, 0, 0), []),
  (14, .aload_n 0, 1, (0, 0, 0, 0, 0), []),
  (15, .getfield 12, 3, (2, 0, 2, 0, 1123), []),
  (18, .iload_n 1, 1, (0, 0, 0, 0, 0), []),
  (19, .iload_n 2, 1, (0, 0, 0, 0, 0), []),
  (20, .invokevirtual 191, 3, (97, 3, 0, 0, 4006), []),
  (23, .ifCond .eq 16, 3, (21, 0, 0, 0, 0), []),
  (26, .aload_n 0, 1, (0, 0, 0, 0, 0), []),
  (27, .getfield 46, 3, (2, 6, 2, 0, 1138), []),
  (30, .iload_n 2, 1, (0, 0, 0, 0, 0), []),
  (31, .invokevirtual 194, 3, (90, 2, 0, 0, 4010), []),
  (34, .ifCond .eq 5, 3, (21, 0, 0, 0, 0), []),
  (37, .iload_n 2, 1, (0, 0, 0, 0, 0), []),
  (38, .ireturn, 1, (0, 0, 0, 0, 0), []),
  (39, .iinc 2 1, 3, (0, 0, 0, 0, 0), []),
  (42, .goto (-40), 3, (2, 0, 0, 0, 0), []),
  (45, .iconst (-1), 1, (0, 0, 0, 0, 0), []),
  (46, .ireturn, 1, (0, 0, 0, 0, 0), [])]
noncomputable def ai_o45 : List ai_E := [
  (0, .iconst 0, 1, (0, 0, 0, 0, 0), []),
  (1, .istore_n 2, 1, (0, 0, 0, 0, 0), []),
  (2, .iload_n 2, 1, (0, 0, 0, 0, 0), [true, true, true, false, false, false, false]),
  (3, .aload_n 0, 1, (0, 0, 0, 0, 0), []),
  (4, .getfield 12, 3, (2, 0, 2, 0, 1123), []),
  (7, .iload_n 1, 1, (0, 0, 0, 0, 0), []),
  (8, .invokevirtual 61, 3, (94, 2, 0, 0, 3159), []),
  (11, .if_icmp .ge 94, 3, (56, 0, 0, 0, 0), []),
  (14, .aload_n 0, 1, (0, 0, 0, 0, 0), []),
  (15, .getfield 12, 3, (2, 0, 2, 0, 1123), []),
  (18, .iload_n 1, 1, (0, 0, 0, 0, 0), []),
  (19, .iload_n 2, 1, (0, 0, 0, 0, 0), []),
  (20, .invokevirtual 122, 3, (96, 3, 0, 0, 3160), []),
  (23, .istore_n 3, 1, (0, 0, 0, 0, 0), []),
  (24, .aload_n 0, 1, (0, 0, 0, 0, 0), []),
  (25, .getfield 46, 3, (2, 6, 2, 0, 1138), []),
  (28, .getfield 196, 3, (6, 0, 2, 0, 1115), []),
  (31, .iload_n 2, 1, (0, 0, 0, 0, 0), []),
  (32, .laload, 1, (0, 0, 0, 0, 0), []),
  (33, .lstore 4, 2, (0, 0, 0, 0, 0), []),
  (35, .iload_n 3, 1, (0, 0, 0, 0, 0), []),
  (36, .iload_n 1, 1, (0, 0, 0, 0, 0), []),
  (37, .if_icmp .ne 22, 3, (33, 0, 0, 0, 0), []),
  (40, .lload 4, 2, (0, 0, 0, 0, 0), []),
  (42, .aload_n 0, 1, (0, 0, 0, 0, 0), []),
  (43, .getfield 46, 3, (2, 6, 2, 0, 1138), []),
  (46, .getfield 196, 3, (6, 0, 2, 0, 1115), []),
  (49, .iconst 0, 1, (0, 0, 0, 0, 0), []),
  (50, .laload, 1, (0, 0, 0, 0, 0), []),
  (51, .lcmp, 1, (0, 0, 0, 0, 0), []),
  (52, .ifCond .ne 7, 3, (33, 0, 0, 0, 0), []),
  (55, .iconst 1, 1, (0, 0, 0, 0, 0), []),
  (56, .goto 4, 3, (34, 0, 0, 0, 0), []),
  (59, .iconst 0, 1, (0, 0, 0, 0, 0), []),
  (60, .istore 6, 2, (0, 0, 0, 0, 0), []),
  (62, .iload_n 3, 1, (0, 0, 0, 0, 0), []),
  (63, .iconst (-1), 1, (0, 0, 0, 0, 0), []),
  (64, .if_icmp .eq 35, 3, (54, 0, 0, 0, 0), []),
  (67, .aload_n 0, 1, (0, 0, 0, 0, 0), []),
  (68, .getfield 46, 3, (2, 6, 2, 0, 1138), []),
  (71, .iload_n 2, 1, (0, 0, 0, 0, 0), []),
  (72, .invokevirtual 194, 3, (90, 2, 0, 0, 4010), []),
  (75, .ifCond .ne 24, 3, (54, 0, 0, 0, 0), []),
  (78, .iload 6, 2, (0, 0, 0, 0, 0), []),
  (80, .ifCond .ne 19, 3, (54, 0, 0, 0, 0), []),
  (83, .aload_n 0, 1, (0, 0, 0, 0, 0), []),
  (84, .getfield 21, 3, (2, 1, 2, 0, 1127), []),
  (87, .iload_n 3, 1, (0, 0, 0, 0, 0), []),
  (88, .lload 4, 2, (0, 0, 0, 0, 0), []),
  (90, .invokevirtual 147, 3, (108, 3, 0, 0, 3205), []),
  (93, .iconst (-1), 1, (0, 0, 0, 0, 0), []),
  (94, .if_icmp .ne 5, 3, (54, 0, 0, 0, 0), []),
  (97, .iload_n 2, 1, (0, 0, 0, 0, 0), []),
  (98, .ireturn, 1, (0, 0, 0, 0, 0), []),
  (99, .iinc 2 1, 3, (0, 0, 0, 0, 0), []),
  (102, .goto (-100), 3, (2, 0, 0, 0, 0), []),
  (105, .iconst (-1), 1, (0, 0, 0, 0, 0), []),
  (106, .ireturn, 1, (0, 0, 0, 0, 0), [])]
noncomputable def ai_o46 : List ai_E := [
  (0, .aload_n 0, 1, (0, 0, 0, 0, 0), []),
  (1, .dup, 1, (0, 0, 0, 0, 0), []),
  (2, .getfield 36, 3, (2, 4, 0, 0, 1135), []),
  (5, .iload_n 1, 1, (0, 0, 0, 0, 0), []),
  (6, .iadd, 1, (0, 0, 0, 0, 0), []),
  (7, .putfield 36, 3, (2, 4, 0, 0, 1135), []),
  (10, .aload_n 0, 1, (0, 0, 0, 0, 0), []),
  (11, .getfield 28, 3, (2, 2, 2, 0, 1131), []),
  (14, .iload_n 1, 1, (0, 0, 0, 0, 0), []),
  (15, .invokevirtual 200, 3, (68, 2, 0, 0, 3181), []),
  (18, .return_, 1, (0, 0, 0, 0, 0), [])]
noncomputable def ai_o47 : List ai_E := [
  (0, .aload_n 0, 1, (0, 0, 0, 0, 0), []),
  (1, .iload_n 1, 1, (0, 0, 0, 0, 0), []),
  (2, .iload_n 2, 1, (0, 0, 0, 0, 0), []),
  (3, .iload_n 3, 1, (0, 0, 0, 0, 0), []),
  (4, .iload 4, 2, (0, 0, 0, 0, 0), []),
  (6, .invokevirtual 71, 3, (48, 5, 0, 0, 3124), []),
  (9, .iconst 0, 1, (0, 0, 0, 0, 0), []),
  (10, .ireturn, 1, (3, 0, 0, 0, 0), [])]
noncomputable def ai_o48 : List ai_E := [
  (0, .aload_n 0, 1, (0, 0, 0, 0, 0), []),
  (1, .getfield 32, 3, (2, 3, 2, 0, 1133), []),
  (4, .iconst 0, 1, (0, 0, 0, 0, 0), []),
  (5, .iload_n 1, 1, (0, 0, 0, 0, 0), []),
  (6, .iastore, 1, (0, 0, 0, 0, 0), []),
  (7, .aload_n 0, 1, (0, 0, 0, 0, 0), []),
  (8, .getfield 32, 3, (2, 3, 2, 0, 1133), []),
  (11, .iconst 1, 1, (0, 0, 0, 0, 0), []),
  (12, .iload_n 2, 1, (0, 0, 0, 0, 0), []),
  (13, .iastore, 1, (0, 0, 0, 0, 0), []),
  (14, .aload_n 0, 1, (0, 0, 0, 0, 0), []),
  (15, .getfield 32, 3, (2, 3, 2, 0, 1133), []),
  (18, .iconst 2, 1, (0, 0, 0, 0, 0), []),
  (19, .iload_n 3, 1, (0, 0, 0, 0, 0), []),
  (20, .iastore, 1, (0, 0, 0, 0, 0), []),
  (21, .aload_n 0, 1, (0, 0, 0, 0, 0), []),
  (22, .getfield 32, 3, (2, 3, 2, 0, 1133), []),
  (25, .iconst 3, 1, (0, 0, 0, 0, 0), []),
  (26, .iload 4, 2, (0, 0, 0, 0, 0), []),
  (28, .iastore, 1, (0, 0, 0, 0, 0), []),
  (29, .return_, 1, (0, 0, 0, 0, 0), [])]
noncomputable def ai_o49 : List ai_E := [
  (0, .aload_n 0, 1, (0, 0, 0, 0, 0), []),
  (1, .invokespecial 3, 3, (1000, 0, 0, 1, 1219), []),
  (4, .aload_n 0, 1, (0, 0, 0, 0, 0), []),
  (5, .iconst 0, 1, (0, 0, 0, 0, 0), []),
  (6, .putfield 9, 3, (3, 0, 0, 0, 1220), []),
  (9, .aload_n 0, 1, (0, 0, 0, 0, 0), []),
  (10, .iconst 0, 1, (0, 0, 0, 0, 0), []),
  (11, .putfield 15, 3, (3, 1, 0, 0, 1223), []),
  (14, .aload_n 0, 1, (0, 0, 0, 0, 0), []),
  (15, .bipush 6, 2, (0, 0, 0, 0, 0), []),
  (17, .newarray .int, 2, (0, 0, 0, 0, 0), []),
  (19, .putfield 18, 3, (3, 2, 2, 0, 1227), []),
  (22, .aload_n 0, 1, (0, 0, 0, 0, 0), []),
  (23, .bipush 6, 2, (0, 0, 0, 0, 0), []),
  (25, .newarray .int, 2, (0, 0, 0, 0, 0), []),
  (27, .putfield 22, 3, (3, 3, 2, 0, 1228), []),
  (30, .aload_n 0, 1, (0, 0, 0, 0, 0), []),
  (31, .bipush 30, 2, (0, 0, 0, 0, 0), []),
  (33, .newarray .int, 2, (0, 0, 0, 0, 0), []),
  (35, .putfield 25, 3, (3, 4, 2, 0, 1229), []),
  (38, .aload_n 0, 1, (0, 0, 0, 0, 0), []),
  (39, .bipush 6, 2, (0, 0, 0, 0, 0), []),
  (41, .newarray .int, 2, (0, 0, 0, 0, 0), []),
  (43, .putfield 28, 3, (3, 5, 2, 0, 1230), []),
  (46, .aload_n 0, 1, (0, 0, 0, 0, 0), []),
  (47, .bipush 6, 2, (0, 0, 0, 0, 0), []),
  (49, .newarray .int, 2, (0, 0, 0, 0, 0), []),
  (51, .putfield 31, 3, (3, 6, 2, 0, 1231), []),
  (54, .aload_n 0, 1, (0, 0, 0, 0, 0), []),
  (55, .bipush 24, 2, (0, 0, 0, 0, 0), []),
  (57, .newarray .int, 2, (0, 0, 0, 0, 0), []),
  (59, .putfield 34, 3, (3, 7, 2, 0, 1232), []),
  (62, .aload_n 0, 1, (0, 0, 0, 0, 0), []),
  (63, .bipush 120, 2, (0, 0, 0, 0, 0), []),
  (65, .newarray .long, 2, (1, 0, 0, 0, 0), []),
  (67, .putfield 37, 3, (3, 8, 2, 0, 1233), []),
  (70, .aload_n 0, 1, (0, 0, 0, 0, 0), []),
  (71, .bipush 24, 2, (0, 0, 0, 0, 0), []),
  (73, .newarray .int, 2, (0, 0, 0, 0, 0), []),
  (75, .putfield 41, 3, (3, 9, 2, 0, 1234), []),
  (78, .return_, 1, (0, 0, 0, 0, 0), [])]
noncomputable def ai_o50 : List ai_E := [
  (0, .aload_n 0, 1, (0, 0, 0, 0, 0), []),
  (1, .iconst 0, 1, (0, 0, 0, 0, 0), []),
  (2, .putfield 9, 3, (3, 0, 0, 0, 1220), []),
  (5, .aload_n 0, 1, (0, 0, 0, 0, 0), []),
  (6, .iconst 0, 1, (0, 0, 0, 0, 0), []),
  (7, .putfield 15, 3, (3, 1, 0, 0, 1223), []),
  (10, .return_, 1, (0, 0, 0, 0, 0), [])]
noncomputable def ai_o51 : List ai_E := [
  (0, .aload_n 0, 1, (0, 0, 0, 0, 0), []),
  (1, .getfield 18, 3, (3, 2, 2, 0, 1227), []),
  (4, .aload_n 0, 1, (0, 0, 0, 0, 0), []),
  (5, .getfield 9, 3, (3, 0, 0, 0, 1220), []),
  (8, .iload_n 1, 1, (0, 0, 0, 0, 0), []),
  (9, .iastore, 1, (0, 0, 0, 0, 0), []),
  (10, .aload_n 0, 1, (0, 0, 0, 0, 0), []),
  (11, .getfield 22, 3, (3, 3, 2, 0, 1228), []),
  (14, .aload_n 0, 1, (0, 0, 0, 0, 0), []),
  (15, .getfield 9, 3, (3, 0, 0, 0, 1220), []),
  (18, .iconst 0, 1, (0, 0, 0, 0, 0), []),
  (19, .iastore, 1, (0, 0, 0, 0, 0), []),
  (20, .aload_n 0, 1, (0, 0, 0, 0, 0), []),
  (21, .getfield 28, 3, (3, 5, 2, 0, 1230), []),
  (24, .aload_n 0, 1, (0, 0, 0, 0, 0), []),
  (25, .getfield 9, 3, (3, 0, 0, 0, 1220), []),
  (28, .iconst 0, 1, (0, 0, 0, 0, 0), []),
  (29, .iastore, 1, (0, 0, 0, 0, 0), []),
  (30, .aload_n 0, 1, (0, 0, 0, 0, 0), []),
  (31, .getfield 31, 3, (3, 6, 2, 0, 1231), []),
  (34, .aload_n 0, 1, (0, 0, 0, 0, 0), []),
  (35, .getfield 9, 3, (3, 0, 0, 0, 1220), []),
  (38, .aload_n 0, 1, (0, 0, 0, 0, 0), []),
  (39, .getfield 15, 3, (3, 1, 0, 0, 1223), []),
  (42, .iastore, 1, (0, 0, 0, 0, 0), []),
  (43, .aload_n 0, 1, (0, 0, 0, 0, 0), []),
  (44, .dup, 1, (0, 0, 0, 0, 0), []),
  (45, .getfield 9, 3, (3, 0, 0, 0, 1220), []),
  (48, .iconst 1, 1, (0, 0, 0, 0, 0), []),
  (49, .iadd, 1, (0, 0, 0, 0, 0), []),
  (50, .putfield 9, 3, (3, 0, 0, 0, 1220), []),
  (53, .return_, 1, (0, 0, 0, 0, 0), [])]
noncomputable def ai_o52 : List ai_E := [
  (0, .aload_n 0, 1, (0, 0, 0, 0, 0), []),
  (1, .getfield 25, 3, (3, 4, 2, 0, 1229), []),
  (4, .iload_n 1, 1, (0, 0, 0, 0, 0), []),
  (5, .iconst 5, 1, (0, 0, 0, 0, 0), []),
  (6, .imul, 1, (0, 0, 0, 0, 0), []),
  (7, .aload_n 0, 1, (0, 0, 0, 0, 0), []),
  (8, .getfield 22, 3, (3, 3, 2, 0, 1228), []),
  (11, .iload_n 1, 1, (0, 0, 0, 0, 0), []),
  (12, .iaload, 1, (0, 0, 0, 0, 0), []),
  (13, .iadd, 1, (0, 0, 0, 0, 0), []),
  (14, .iload_n 2, 1, (0, 0, 0, 0, 0), []),
  (15, .iastore, 1, (0, 0, 0, 0, 0), []),
  (16, .aload_n 0, 1, (0, 0, 0, 0, 0), []),
  (17, .getfield 22, 3, (3, 3, 2, 0, 1228), []),
  (20, .iload_n 1, 1, (0, 0, 0, 0, 0), []),
  (21, .dup2, 1, (0, 0, 0, 0, 0), []),
  (22, .iaload, 1, (0, 0, 0, 0, 0), []),
  (23, .iconst 1, 1, (0, 0, 0, 0, 0), []),
  (24, .iadd, 1, (0, 0, 0, 0, 0), []),
  (25, .iastore, 1, (0, 0, 0, 0, 0), []),
  (26, .aload_n 0, 1, (0, 0, 0, 0, 0), []),
  (27, .getfield 28, 3, (3, 5, 2, 0, 1230), []),
  (30, .iload_n 1, 1, (0, 0, 0, 0, 0), []),
  (31, .dup2, 1, (0, 0, 0, 0, 0), []),
  (32, .iaload, 1, (0, 0, 0, 0, 0), []),
  (33, .iconst 1, 1, (0, 0, 0, 0, 0), []),
  (34, .iload_n 2, 1, (0, 0, 0, 0, 0), []),
  (35, .ishl, 1, (0, 0, 0, 0, 0), []),
  (36, .ior, 1, (0, 0, 0, 0, 0), []),
  (37, .iastore, 1, (0, 0, 0, 0, 0), []),
  (38, .return_, 1, (0, 0, 0, 0, 0), [])]
noncomputable def ai_o53 : List ai_E := [
  (0, .aload_n 0, 1, (0, 0, 0, 0, 0), []),
  (1, .getfield 34, 3, (3, 7, 2, 0, 1232), []),
  (4, .aload_n 0, 1, (0, 0, 0, 0, 0), []),
  (5, .getfield 15, 3, (3, 1, 0, 0, 1223), []),
  (8, .aload_n 0, 1, (0, 0, 0, 0, 0), []),
  (9, .getfield 9, 3, (3, 0, 0, 0, 1220), []),
  (12, .iconst 1, 1, (0, 0, 0, 0, 0), []),
  (13, .isub, 1, (0, 0, 0, 0, 0), []),
  (14, .iastore, 1, (0, 0, 0, 0, 0), []),
  (15, .iconst 0, 1, (0, 0, 0, 0, 0), []),
  (16, .istore_n 1, 1, (0, 0, 0, 0, 0), []),
  (17, .iload_n 1, 1, (0, 0, 0, 0, 0), [true, true]),
  (18, .iconst 5, 1, (0, 0, 0, 0, 0), []),
  (19, .if_icmp .ge 23, 3, (26, 0, 0, 0, 0), []),
  (22, .aload_n 0, 1, (0, 0, 0, 0, 0), []),
  (23, .getfield 37, 3, (3, 8, 2, 0, 1233), []),
  (26, .aload_n 0, 1, (0, 0, 0, 0, 0), []),
  (27, .getfield 15, 3, (3, 1, 0, 0, 1223), []),
  (30, .iconst 5, 1, (0, 0, 0, 0, 0), []),
  (31, .imul, 1, (0, 0, 0, 0, 0), []),
  (32, .iload_n 1, 1, (0, 0, 0, 0, 0), []),
  (33, .iadd, 1, (0, 0, 0, 0, 0), []),
  (34, .lconst 0, 1, (0, 0, 0, 0, 0), []),
  (35, .lastore, 1, (0, 0, 0, 0, 0), []),
  (36, .iinc 1 1, 3, (0, 0, 0, 0, 0), []),
  (39, .goto (-22), 3, (11, 0, 0, 0, 0), []),
  (42, .aload_n 0, 1, (0, 0, 0, 0, 0), []),
  (43, .getfield 41, 3, (3, 9, 2, 0, 1234), []),
  (46, .aload_n 0, 1, (0, 0, 0, 0, 0), []),
  (47, .getfield 15, 3, (3, 1, 0, 0, 1223), []),
  (50, .bipush 31, 2, (0, 0, 0, 0, 0), []),
  (52, .iastore, 1, (0, 0, 0, 0, 0), []),
  (53, .aload_n 0, 1, (0, 0, 0, 0, 0), []),
  (54, .dup, 1, (0, 0, 0, 0, 0), []),
  (55, .getfield 15, 3, (3, 1, 0, 0, 1223), []),
  (58, .iconst 1, 1, (0, 0, 0, 0, 0), []),
  (59, .iadd, 1, (0, 0, 0, 0, 0), []),
  (60, .putfield 15, 3, (3, 1, 0, 0, 1223), []),
  (63, .return_, 1, (0, 0, 0, 0, 0), [])]
noncomputable def ai_o54 : List ai_E := [
  (0, .aload_n 0, 1, (0, 0, 0, 0, 0), []),
  (1, .getfield 37, 3, (3, 8, 2, 0, 1233), []),
  (4, .iload_n 1, 1, (0, 0, 0, 0, 0), []),
  (5, .iconst 5, 1, (0, 0, 0, 0, 0), []),
  (6, .imul, 1, (0, 0, 0, 0, 0), []),
  (7, .iload_n 2, 1, (0, 0, 0, 0, 0), []),
  (8, .iadd, 1, (0, 0, 0, 0, 0), []),
  (9, .lload_n 3, 1, (0, 0, 0, 0, 0), []),
  (10, .lastore, 1, (0, 0, 0, 0, 0), []),
  (11, .aload_n 0, 1, (0, 0, 0, 0, 0), []),
  (12, .getfield 41, 3, (3, 9, 2, 0, 1234), []),
  (15, .iload_n 1, 1, (0, 0, 0, 0, 0), []),
  (16, .dup2, 1, (0, 0, 0, 0, 0), []),
  (17, .iaload, 1, (0, 0, 0, 0, 0), []),
  (18, .iconst 1, 1, (0, 0, 0, 0, 0), []),
  (19, .iload_n 2, 1, (0, 0, 0, 0, 0), []),
  (20, .ishl, 1, (0, 0, 0, 0, 0), []),
  (21, .iconst (-1), 1, (0, 0, 0, 0, 0), []),
  (22, .ixor, 1, (0, 0, 0, 0, 0), []),
  (23, .iand, 1, (0, 0, 0, 0, 0), []),
  (24, .iastore, 1, (0, 0, 0, 0, 0), []),
  (25, .return_, 1, (0, 0, 0, 0, 0), [])]
noncomputable def ai_o55 : List ai_E := [
  (0, .aload_n 0, 1, (0, 0, 0, 0, 0), []),
  (1, .getfield 18, 3, (3, 2, 2, 0, 1227), []),
  (4, .iload_n 1, 1, (0, 0, 0, 0, 0), []),
  (5, .iaload, 1, (0, 0, 0, 0, 0), []),
  (6, .ireturn, 1, (0, 0, 0, 0, 0), [])]
noncomputable def ai_o56 : List ai_E := [
  (0, .aload_n 0, 1, (0, 0, 0, 0, 0), []),
  (1, .getfield 22, 3, (3, 3, 2, 0, 1228), []),
  (4, .iload_n 1, 1, (0, 0, 0, 0, 0), []),
  (5, .iaload, 1, (0, 0, 0, 0, 0), []),
  (6, .ireturn, 1, (0, 0, 0, 0, 0), [])]
noncomputable def ai_o57 : List ai_E := [
  (0, .aload_n 0, 1, (0, 0, 0, 0, 0), []),
  (1, .getfield 25, 3, (3, 4, 2, 0, 1229), []),
  (4, .iload_n 1, 1, (0, 0, 0, 0, 0), []),
  (5, .iconst 5, 1, (0, 0, 0, 0, 0), []),
  (6, .imul, 1, (0, 0, 0, 0, 0), []),
  (7, .iload_n 2, 1, (0, 0, 0, 0, 0), []),
  (8, .iadd, 1, (0, 0, 0, 0, 0), []),
  (9, .iaload, 1, (0, 0, 0, 0, 0), []),
  (10, .ireturn, 1, (0, 0, 0, 0, 0), [])]
noncomputable def ai_o58 : List ai_E := [
  (0, .aload_n 0, 1, (0, 0, 0, 0, 0), []),
  (1, .getfield 28, 3, (3, 5, 2, 0, 1230), []),
  (4, .iload_n 1, 1, (0, 0, 0, 0, 0), []),
  (5, .iaload, 1, (0, 0, 0, 0, 0), []),
  (6, .iload_n 2, 1, (0, 0, 0, 0, 0), []),
  (7, .ishr, 1, (0, 0, 0, 0, 0), []),
  (8, .iconst 1, 1, (0, 0, 0, 0, 0), []),
  (9, .iand, 1, (0, 0, 0, 0, 0), []),
  (10, .ifCond .eq 7, 3, (11, 0, 0, 0, 0), []),
  (13, .iconst 1, 1, (0, 0, 0, 0, 0), []),
  (14, .goto 4, 3, (12, 0, 0, 0, 0), []),
  (17, .iconst 0, 1, (0, 0, 0, 0, 0), []),
  (18, .ireturn, 1, (3, 0, 0, 0, 0), [])]
noncomputable def ai_o59 : List ai_E := [
  (0, .aload_n 0, 1, (0, 0, 0, 0, 0), []),
  (1, .getfield 31, 3, (3, 6, 2, 0, 1231), []),
  (4, .iload_n 1, 1, (0, 0, 0, 0, 0), []),
  (5, .iaload, 1, (0, 0, 0, 0, 0), []),
  (6, .ireturn, 1, (0, 0, 0, 0, 0), [])]
noncomputable def ai_o60 : List ai_E := [
  (0, .iload_n 1, 1, (0, 0, 0, 0, 0), []),
  (1, .iconst 1, 1, (0, 0, 0, 0, 0), []),
  (2, .iadd, 1, (0, 0, 0, 0, 0), []),
  (3, .aload_n 0, 1, (0, 0, 0, 0, 0), []),
  (4, .getfield 9, 3, (3, 0, 0, 0, 1220), []),
  (7, .if_icmp .ge 14, 3, (13, 0, 0, 0, 0), []),
  (10, .aload_n 0, 1, (0, 0, 0, 0, 0), []),
  (11, .getfield 31, 3, (3, 6, 2, 0, 1231), []),
  (14, .iload_n 1, 1, (0, 0, 0, 0, 0), []),
  (15, .iconst 1, 1, (0, 0, 0, 0, 0), []),
  (16, .iadd, 1, (0, 0, 0, 0, 0), []),
  (17, .iaload, 1, (0, 0, 0, 0, 0), []),
  (18, .goto 7, 3, (15, 0, 0, 0, 0), []),
  (21, .aload_n 0, 1, (0, 0, 0, 0, 0), []),
  (22, .getfield 15, 3, (3, 1, 0, 0, 1223), []),
  (25, .istore_n 2, 1, (0, 0, 0, 0, 0), []),
  (26, .iload_n 2, 1, (0, 0, 0, 0, 0), []),
  (27, .aload_n 0, 1, (0, 0, 0, 0, 0), []),
  (28, .getfield 31, 3, (3, 6, 2, 0, 1231), []),
  (31, .iload_n 1, 1, (0, 0, 0, 0, 0), []),
  (32, .iaload, 1, (0, 0, 0, 0, 0), []),
  (33, .isub, 1, (0, 0, 0, 0, 0), []),
  (34, .ireturn, 1, (0, 0, 0, 0, 0), [])]
noncomputable def ai_o61 : List ai_E := [
  (0, .iconst 0, 1, (0, 0, 0, 0, 0), []),
  (1, .istore_n 2, 1, (0, 0, 0, 0, 0), []),
  (2, .iload_n 2, 1, (0, 0, 0, 0, 0), [true, true, true]),
  (3, .aload_n 0, 1, (0, 0, 0, 0, 0), []),
  (4, .getfield 9, 3, (3, 0, 0, 0, 1220), []),
  (7, .if_icmp .ge 21, 3, (16, 0, 0, 0, 0), []),
  (10, .aload_n 0, 1, (0, 0, 0, 0, 0), []),
  (11, .getfield 18, 3, (3, 2, 2, 0, 1227), []),
  (14, .iload_n 2, 1, (0, 0, 0, 0, 0), []),
  (15, .iaload, 1, (0, 0, 0, 0, 0), []),
  (16, .iload_n 1, 1, (0, 0, 0, 0, 0), []),
  (17, .if_icmp .ne 5, 3, (14, 0, 0, 0, 0), []),
  (20, .iconst 1, 1, (0, 0, 0, 0, 0), []),
  (21, .ireturn, 1, (3, 0, 0, 0, 0), []),
  (22, .iinc 2 1, 3, (0, 0, 0, 0, 0), []),
  (25, .goto (-23), 3, (2, 0, 0, 0, 0), []),
  (28, .iconst 0, 1, (0, 0, 0, 0, 0), []),
  (29, .ireturn, 1, (3, 0, 0, 0, 0), [])]
noncomputable def ai_o62 : List ai_E := [
  (0, .aload_n 0, 1, (0, 0, 0, 0, 0), []),
  (1, .getfield 34, 3, (3, 7, 2, 0, 1232), []),
  (4, .iload_n 1, 1, (0, 0, 0, 0, 0), []),
  (5, .iaload, 1, (0, 0, 0, 0, 0), []),
  (6, .ireturn, 1, (0, 0, 0, 0, 0), [])]
noncomputable def ai_o63 : List ai_E := [
  (0, .aload_n 0, 1, (0, 0, 0, 0, 0), []),
  (1, .getfield 18, 3, (3, 2, 2, 0, 1227), []),
  (4, .aload_n 0, 1, (0, 0, 0, 0, 0), []),
  (5, .getfield 34, 3, (3, 7, 2, 0, 1232), []),
  (8, .iload_n 1, 1, (0, 0, 0, 0, 0), []),
  (9, .iaload, 1, (0, 0, 0, 0, 0), []),
  (10, .iaload, 1, (0, 0, 0, 0, 0), []),
  (11, .ireturn, 1, (0, 0, 0, 0, 0), [])]
noncomputable def ai_o64 : List ai_E := [
  (0, .aload_n 0, 1, (0, 0, 0, 0, 0), []),
  (1, .getfield 37, 3, (3, 8, 2, 0, 1233), []),
  (4, .iload_n 1, 1, (0, 0, 0, 0, 0), []),
  (5, .iconst 5, 1, (0, 0, 0, 0, 0), []),
  (6, .imul, 1, (0, 0, 0, 0, 0), []),
  (7, .iload_n 2, 1, (0, 0, 0, 0, 0), []),
  (8, .iadd, 1, (0, 0, 0, 0, 0), []),
  (9, .laload, 1, (0, 0, 0, 0, 0), []),
  (10, .lreturn, 1, (0, 0, 0, 0, 0), [])]
noncomputable def ai_o65 : List ai_E := [
  (0, .aload_n 0, 1, (0, 0, 0, 0, 0), []),
  (1, .getfield 41, 3, (3, 9, 2, 0, 1234), []),
  (4, .iload_n 1, 1, (0, 0, 0, 0, 0), []),
  (5, .iaload, 1, (0, 0, 0, 0, 0), []),
  (6, .iload_n 2, 1, (0, 0, 0, 0, 0), []),
  (7, .ishr, 1, (0, 0, 0, 0, 0), []),
  (8, .iconst 1, 1, (0, 0, 0, 0, 0), []),
  (9, .iand, 1, (0, 0, 0, 0, 0), []),
  (10, .ifCond .eq 7, 3, (11, 0, 0, 0, 0), []),
  (13, .iconst 1, 1, (0, 0, 0, 0, 0), []),
  (14, .goto 4, 3, (12, 0, 0, 0, 0), []),
  (17, .iconst 0, 1, (0, 0, 0, 0, 0), []),
  (18, .ireturn, 1, (3, 0, 0, 0, 0), [])]
noncomputable def ai_o66 : List ai_E := [
  (0, .aload_n 0, 1, (0, 0, 0, 0, 0), []),
  (1, .invokespecial 3, 3, (1000, 0, 0, 1, 1088), []),
  (4, .aload_n 0, 1, (0, 0, 0, 0, 0), []),
  (5, .iconst 0, 1, (0, 0, 0, 0, 0), []),
  (6, .putfield 9, 3, (4, 0, 0, 0, 1092), []),
  (9, .aload_n 0, 1, (0, 0, 0, 0, 0), []),
  (10, .iconst 0, 1, (0, 0, 0, 0, 0), []),
  (11, .putfield 15, 3, (4, 1, 0, 0, 1094), []),
  (14, .aload_n 0, 1, (0, 0, 0, 0, 0), []),
  (15, .iconst 3, 1, (0, 0, 0, 0, 0), []),
  (16, .anewarray 18, 3, (0, 0, 0, 0, 1089), []),
  (19, .putfield 20, 3, (4, 2, 2, 0, 1096), []),
  (22, .iconst 0, 1, (0, 0, 0, 0, 0), []),
  (23, .istore_n 1, 1, (0, 0, 0, 0, 0), []),
  (24, .iload_n 1, 1, (0, 0, 0, 0, 0), [true, true]),
  (25, .iconst 3, 1, (0, 0, 0, 0, 0), []),
  (26, .if_icmp .ge 22, 3, (26, 0, 0, 0, 0), []),
  (29, .aload_n 0, 1, (0, 0, 0, 0, 0), []),
  (30, .getfield 20, 3, (4, 2, 2, 0, 1096), []),
  (33, .iload_n 1, 1, (0, 0, 0, 0, 0), []),
  (34, .new 18, 3, (8, 3, 0, 0, 1089), []),
  (37, .dup, 1, (0, 0, 0, 0, 0), []),
  (38, .invokespecial 24, 3, (104, 1, 0, 0, 1091), []),
  (41, .aastore, 1, (0, 0, 0, 0, 0), []),
  (42, .iinc 1 1, 3, (0, 0, 0, 0, 0), []),
  (45, .goto (-21), 3, (14, 0, 0, 0, 0), []),
  (48, .aload_n 0, 1, (0, 0, 0, 0, 0), []),
  (49, .iconst 3, 1, (0, 0, 0, 0, 0), []),
  (50, .newarray .int, 2, (0, 0, 0, 0, 0), []),
  (52, .putfield 25, 3, (4, 3, 2, 0, 1097), []),
  (55, .return_, 1, (0, 0, 0, 0, 0), [])]
noncomputable def ai_o67 : List ai_E := [
  (0, .aload_n 0, 1, (0, 0, 0, 0, 0), []),
  (1, .getfield 9, 3, (4, 0, 0, 0, 1092), []),
  (4, .ifCond .eq 15, 3, (9, 0, 0, 0, 0), []),
  (7, .aload_n 0, 1, (0, 0, 0, 0, 0), []),
  (8, .getfield 15, 3, (4, 1, 0, 0, 1094), []),
  (11, .iload_n 1, 1, (0, 0, 0, 0, 0), []),
  (12, .iadd, 1, (0, 0, 0, 0, 0), []),
  (13, .sipush 200, 3, (0, 0, 0, 0, 0), []),
  (16, .if_icmp .gt 7, 3, (11, 0, 0, 0, 0), []),
  (19, .iconst 1, 1, (0, 0, 0, 0, 0), []),
  (20, .goto 4, 3, (12, 0, 0, 0, 0), []),
  (23, .iconst 0, 1, (0, 0, 0, 0, 0), []),
  (24, .ireturn, 1, (3, 0, 0, 0, 0), [])]
noncomputable def ai_o68 : List ai_E := [
  (0, .aload_n 0, 1, (0, 0, 0, 0, 0), []),
  (1, .getfield 9, 3, (4, 0, 0, 0, 1092), []),
  (4, .ifCond .le 13, 3, (9, 0, 0, 0, 0), []),
  (7, .aload_n 0, 1, (0, 0, 0, 0, 0), []),
  (8, .dup, 1, (0, 0, 0, 0, 0), []),
  (9, .getfield 15, 3, (4, 1, 0, 0, 1094), []),
  (12, .iload_n 1, 1, (0, 0, 0, 0, 0), []),
  (13, .iadd, 1, (0, 0, 0, 0, 0), []),
  (14, .putfield 15, 3, (4, 1, 0, 0, 1094), []),
  (17, .return_, 1, (0, 0, 0, 0, 0), [])]
noncomputable def ai_o69 : List ai_E := [
  (0, .aload_n 0, 1, (0, 0, 0, 0, 0), []),
  (1, .getfield 9, 3, (4, 0, 0, 0, 1092), []),
  (4, .ifCond .ne 8, 3, (6, 0, 0, 0, 0), []),
  (7, .aload_n 0, 1, (0, 0, 0, 0, 0), []),
  (8, .iconst 0, 1, (0, 0, 0, 0, 0), []),
  (9, .putfield 15, 3, (4, 1, 0, 0, 1094), []),
  (12, .aload_n 0, 1, (0, 0, 0, 0, 0), []),
  (13, .getfield 20, 3, (4, 2, 2, 0, 1096), []),
  (16, .aload_n 0, 1, (0, 0, 0, 0, 0), []),
  (17, .getfield 9, 3, (4, 0, 0, 0, 1092), []),
  (20, .aaload, 1, (0, 0, 0, 0, 0), []),
  (21, .aload_n 1, 1, (0, 0, 0, 0, 0), []),
  (22, .invokevirtual 29, 3, (115, 2, 0, 0, 4091), []),
  (25, .aload_n 0, 1, (0, 0, 0, 0, 0), []),
  (26, .getfield 25, 3, (4, 3, 2, 0, 1097), []),
  (29, .aload_n 0, 1, (0, 0, 0, 0, 0), []),
  (30, .getfield 9, 3, (4, 0, 0, 0, 1092), []),
  (33, .aload_n 0, 1, (0, 0, 0, 0, 0), []),
  (34, .getfield 15, 3, (4, 1, 0, 0, 1094), []),
  (37, .iastore, 1, (0, 0, 0, 0, 0), []),
  (38, .aload_n 0, 1, (0, 0, 0, 0, 0), []),
  (39, .dup, 1, (0, 0, 0, 0, 0), []),
  (40, .getfield 9, 3, (4, 0, 0, 0, 1092), []),
  (43, .iconst 1, 1, (0, 0, 0, 0, 0), []),
  (44, .iadd, 1, (0, 0, 0, 0, 0), []),
  (45, .putfield 9, 3, (4, 0, 0, 0, 1092), []),
  (48, .return_, 1, (0, 0, 0, 0, 0), [])]
noncomputable def ai_o70 : List ai_E := [
  (0, .aload_n 0, 1, (0, 0, 0, 0, 0), []),
  (1, .dup, 1, (0, 0, 0, 0, 0), []),
  (2, .getfield 9, 3, (4, 0, 0, 0, 1092), []),
  (5, .iconst 1, 1, (0, 0, 0, 0, 0), []),
  (6, .isub, 1, (0, 0, 0, 0, 0), []),
  (7, .putfield 9, 3, (4, 0, 0, 0, 1092), []),
  (10, .return_, 1, (0, 0, 0, 0, 0), [])]
noncomputable def ai_o71 : List ai_E := [
  (0, .aload_n 0, 1, (0, 0, 0, 0, 0), []),
  (1, .dup, 1, (0, 0, 0, 0, 0), []),
  (2, .getfield 9, 3, (4, 0, 0, 0, 1092), []),
  (5, .iconst 1, 1, (0, 0, 0, 0, 0), []),
  (6, .isub, 1, (0, 0, 0, 0, 0), []),
  (7, .putfield 9, 3, (4, 0, 0, 0, 1092), []),
  (10, .aload_n 1, 1, (0, 0, 0, 0, 0), []),
  (11, .aload_n 0, 1, (0, 0, 0, 0, 0), []),
  (12, .getfield 20, 3, (4, 2, 2, 0, 1096), []),
  (15, .aload_n 0, 1, (0, 0, 0, 0, 0), []),
  (16, .getfield 9, 3, (4, 0, 0, 0, 1092), []),
  (19, .aaload, 1, (0, 0, 0, 0, 0), []),
  (20, .invokevirtual 29, 3, (115, 2, 0, 0, 4091), []),
  (23, .aload_n 0, 1, (0, 0, 0, 0, 0), []),
  (24, .aload_n 0, 1, (0, 0, 0, 0, 0), []),
  (25, .getfield 25, 3, (4, 3, 2, 0, 1097), []),
  (28, .aload_n 0, 1, (0, 0, 0, 0, 0), []),
  (29, .getfield 9, 3, (4, 0, 0, 0, 1092), []),
  (32, .iaload, 1, (0, 0, 0, 0, 0), []),
  (33, .putfield 15, 3, (4, 1, 0, 0, 1094), []),
  (36, .return_, 1, (0, 0, 0, 0, 0), [])]
noncomputable def ai_o72 : List ai_E := [
  (0, .aload_n 0, 1, (0, 0, 0, 0, 0), []),
  (1, .invokespecial 3, 3, (1000, 0, 0, 1, 1162), []),
  (4, .aload_n 0, 1, (0, 0, 0, 0, 0), []),
  (5, .iconst 0, 1, (0, 0, 0, 0, 0), []),
  (6, .putfield 9, 3, (5, 0, 0, 0, 1163), []),
  (9, .aload_n 0, 1, (0, 0, 0, 0, 0), []),
  (10, .iconst 0, 1, (0, 0, 0, 0, 0), []),
  (11, .putfield 15, 3, (5, 1, 0, 0, 1165), []),
  (14, .aload_n 0, 1, (0, 0, 0, 0, 0), []),
  (15, .bipush 120, 2, (0, 0, 0, 0, 0), []),
  (17, .newarray .char, 2, (3, 0, 0, 0, 0), []),
  (19, .putfield 18, 3, (5, 2, 2, 0, 1167), []),
  (22, .aload_n 0, 1, (0, 0, 0, 0, 0), []),
  (23, .lconst 0, 1, (0, 0, 0, 0, 0), []),
  (24, .putfield 22, 3, (5, 3, 1, 0, 1168), []),
  (27, .aload_n 0, 1, (0, 0, 0, 0, 0), []),
  (28, .iconst 0, 1, (0, 0, 0, 0, 0), []),
  (29, .putfield 26, 3, (5, 4, 3, 0, 1169), []),
  (32, .return_, 1, (0, 0, 0, 0, 0), [])]
noncomputable def ai_o73 : List ai_E := [
  (0, .aload_n 0, 1, (0, 0, 0, 0, 0), []),
  (1, .getfield 9, 3, (5, 0, 0, 0, 1163), []),
  (4, .bipush 120, 2, (0, 0, 0, 0, 0), []),
  (6, .if_icmp .lt 5, 3, (6, 0, 0, 0, 0), []),
  (9, .iconst 0, 1, (0, 0, 0, 0, 0), []),
  (10, .ireturn, 1, (3, 0, 0, 0, 0), []),
  (11, .aload_n 0, 1, (0, 0, 0, 0, 0), []),
  (12, .getfield 18, 3, (5, 2, 2, 0, 1167), []),
  (15, .aload_n 0, 1, (0, 0, 0, 0, 0), []),
  (16, .getfield 9, 3, (5, 0, 0, 0, 1163), []),
  (19, .iload_n 1, 1, (0, 0, 0, 0, 0), []),
  (20, .castore, 1, (0, 0, 0, 0, 0), []),
  (21, .aload_n 0, 1, (0, 0, 0, 0, 0), []),
  (22, .dup, 1, (0, 0, 0, 0, 0), []),
  (23, .getfield 9, 3, (5, 0, 0, 0, 1163), []),
  (26, .iconst 1, 1, (0, 0, 0, 0, 0), []),
  (27, .iadd, 1, (0, 0, 0, 0, 0), []),
  (28, .putfield 9, 3, (5, 0, 0, 0, 1163), []),
  (31, .iconst 1, 1, (0, 0, 0, 0, 0), []),
  (32, .ireturn, 1, (3, 0, 0, 0, 0), [])]
noncomputable def ai_o74 : List ai_E := [
  (0, .aload_n 0, 1, (0, 0, 0, 0, 0), []),
  (1, .iconst 0, 1, (0, 0, 0, 0, 0), []),
  (2, .putfield 15, 3, (5, 1, 0, 0, 1165), []),
  (5, .aload_n 2, 1, (0, 0, 0, 0, 0), []),
  (6, .invokevirtual 30, 3, (50, 1, 0, 0, 2208), []),
  (9, .iconst 0, 1, (0, 0, 0, 0, 0), []),
  (10, .istore_n 3, 1, (0, 0, 0, 0, 0), []),
  (11, .iload_n 3, 1, (0, 0, 0, 0, 0), [true, true, true, true]),
  (12, .bipush 6, 2, (0, 0, 0, 0, 0), []),
  (14, .if_icmp .ge 31, 3, (24, 0, 0, 0, 0), []),
  (17, .aload_n 0, 1, (0, 0, 0, 0, 0), []),
  (18, .getfield 15, 3, (5, 1, 0, 0, 1165), []),
  (21, .aload_n 0, 1, (0, 0, 0, 0, 0), []),
  (22, .getfield 9, 3, (5, 0, 0, 0, 1163), []),
  (25, .if_icmp .ge 20, 3, (24, 0, 0, 0, 0), []),
  (28, .aload_n 0, 1, (0, 0, 0, 0, 0), []),
  (29, .aload_n 1, 1, (0, 0, 0, 0, 0), []),
  (30, .aload_n 2, 1, (0, 0, 0, 0, 0), []),
  (31, .invokevirtual 35, 3, (75, 3, 0, 0, 2212), []),
  (34, .ifCond .ne 5, 3, (22, 0, 0, 0, 0), []),
  (37, .iconst 0, 1, (0, 0, 0, 0, 0), []),
  (38, .ireturn, 1, (3, 0, 0, 0, 0), []),
  (39, .iinc 3 1, 3, (0, 0, 0, 0, 0), []),
  (42, .goto (-31), 3, (7, 0, 0, 0, 0), []),
  (45, .aload_n 0, 1, (0, 0, 0, 0, 0), []),
  (46, .getfield 15, 3, (5, 1, 0, 0, 1165), []),
  (49, .aload_n 0, 1, (0, 0, 0, 0, 0), []),
  (50, .getfield 9, 3, (5, 0, 0, 0, 1163), []),
  (53, .if_icmp .ne 7, 3, (31, 0, 0, 0, 0), []),
  (56, .iconst 1, 1, (0, 0, 0, 0, 0), []),
  (57, .goto 4, 3, (32, 0, 0, 0, 0), []),
  (60, .iconst 0, 1, (0, 0, 0, 0, 0), []),
  (61, .ireturn, 1, (3, 0, 0, 0, 0), [])]
noncomputable def ai_o75 : List ai_E := [
  (0, .aload_n 0, 1, (0, 0, 0, 0, 0), []),
  (1, .invokevirtual 39, 3, (87, 1, 0, 0, 2216), []),
  (4, .istore_n 3, 1, (0, 0, 0, 0, 0), []),
  (5, .aload_n 1, 1, (0, 0, 0, 0, 0), []),
  (6, .iload_n 3, 1, (0, 0, 0, 0, 0), []),
  (7, .invokevirtual 43, 3, (93, 2, 0, 0, 2224), []),
  (10, .ifCond .eq 11, 3, (11, 0, 0, 0, 0), []),
  (13, .aload_n 1, 1, (0, 0, 0, 0, 0), []),
  (14, .iload_n 3, 1, (0, 0, 0, 0, 0), []),
  (15, .invokevirtual 49, 3, (94, 2, 0, 0, 2225), []),
  (18, .ifCond .ne 5, 3, (13, 0, 0, 0, 0), []),
  (21, .iconst 0, 1, (0, 0, 0, 0, 0), []),
  (22, .ireturn, 1, (3, 0, 0, 0, 0), []),
  (23, .aload_n 0, 1, (0, 0, 0, 0, 0), []),
  (24, .dup, 1, (0, 0, 0, 0, 0), []),
  (25, .getfield 15, 3, (5, 1, 0, 0, 1165), []),
  (28, .iconst 1, 1, (0, 0, 0, 0, 0), []),
  (29, .iadd, 1, (0, 0, 0, 0, 0), []),
  (30, .putfield 15, 3, (5, 1, 0, 0, 1165), []),
  (33, .aload_n 2, 1, (0, 0, 0, 0, 0), []),
  (34, .iload_n 3, 1, (0, 0, 0, 0, 0), []),
  (35, .invokevirtual 53, 3, (51, 2, 0, 0, 2226), []),
  (38, .aload_n 0, 1, (0, 0, 0, 0, 0), []),
  (39, .bipush 40, 2, (0, 0, 0, 0, 0), []),
  (41, .invokevirtual 57, 3, (86, 2, 0, 0, 2230), []),
  (44, .ifCond .eq 21, 3, (35, 0, 0, 0, 0), []),
  (47, .aload_n 0, 1, (0, 0, 0, 0, 0), []),
  (48, .aload_n 1, 1, (0, 0, 0, 0, 0), []),
  (49, .aload_n 2, 1, (0, 0, 0, 0, 0), []),
  (50, .invokevirtual 61, 3, (76, 3, 0, 0, 2234), []),
  (53, .ifCond .eq 12, 3, (35, 0, 0, 0, 0), []),
  (56, .aload_n 0, 1, (0, 0, 0, 0, 0), []),
  (57, .bipush 41, 2, (0, 0, 0, 0, 0), []),
  (59, .invokevirtual 57, 3, (86, 2, 0, 0, 2230), []),
  (62, .ifCond .ne 5, 3, (37, 0, 0, 0, 0), []),
  (65, .iconst 0, 1, (0, 0, 0, 0, 0), []),
  (66, .ireturn, 1, (3, 0, 0, 0, 0), []),
  (67, .aload_n 2, 1, (0, 0, 0, 0, 0), []),
  (68, .getfield 64, 3, (3, 1, 0, 0, 1224), []),
  (71, .istore 4, 2, (0, 0, 0, 0, 0), []),
  (73, .iload 4, 2, (0, 0, 0, 0, 0), [true, true, true, false, true]),
  (75, .bipush 24, 2, (0, 0, 0, 0, 0), []),
  (77, .if_icmp .ge 33, 3, (58, 0, 0, 0, 0), []),
  (80, .aload_n 0, 1, (0, 0, 0, 0, 0), []),
  (81, .bipush 58, 2, (0, 0, 0, 0, 0), []),
  (83, .invokevirtual 57, 3, (86, 2, 0, 0, 2230), []),
  (86, .ifCond .eq 24, 3, (58, 0, 0, 0, 0), []),
  (89, .aload_n 2, 1, (0, 0, 0, 0, 0), []),
  (90, .invokevirtual 67, 3, (53, 1, 0, 0, 3010), []),
  (93, .aload_n 0, 1, (0, 0, 0, 0, 0), []),
  (94, .aload_n 1, 1, (0, 0, 0, 0, 0), []),
  (95, .aload_n 2, 1, (0, 0, 0, 0, 0), []),
  (96, .invokevirtual 70, 3, (77, 3, 0, 0, 3014), []),
  (99, .ifCond .ne 5, 3, (56, 0, 0, 0, 0), []),
  (102, .iconst 0, 1, (0, 0, 0, 0, 0), []),
  (103, .ireturn, 1, (3, 0, 0, 0, 0), []),
  (104, .iinc 4 1, 3, (0, 0, 0, 0, 0), []),
  (107, .goto (-34), 3, (40, 0, 0, 0, 0), []),
  (110, .aload_n 0, 1, (0, 0, 0, 0, 0), []),
  (111, .bipush 59, 2, (0, 0, 0, 0, 0), []),
  (113, .invokevirtual 57, 3, (86, 2, 0, 0, 2230), []),
  (116, .ireturn, 1, (3, 0, 0, 0, 0), [])]
noncomputable def ai_o76 : List ai_E := [
  (0, .aload_n 2, 1, (0, 0, 0, 0, 0), []),
  (1, .getfield 73, 3, (3, 0, 0, 0, 1221), []),
  (4, .iconst 1, 1, (0, 0, 0, 0, 0), []),
  (5, .isub, 1, (0, 0, 0, 0, 0), []),
  (6, .istore_n 3, 1, (0, 0, 0, 0, 0), []),
  (7, .aload_n 1, 1, (0, 0, 0, 0, 0), []),
  (8, .aload_n 2, 1, (0, 0, 0, 0, 0), []),
  (9, .iload_n 3, 1, (0, 0, 0, 0, 0), []),
  (10, .invokevirtual 76, 3, (55, 2, 0, 0, 2238), []),
  (13, .invokevirtual 49, 3, (94, 2, 0, 0, 2225), []),
  (16, .istore 4, 2, (0, 0, 0, 0, 0), []),
  (18, .iconst 0, 1, (0, 0, 0, 0, 0), []),
  (19, .istore 5, 2, (0, 0, 0, 0, 0), []),
  (21, .iload 5, 2, (0, 0, 0, 0, 0), [true, false, true, true, true, true, false]),
  (23, .iload 4, 2, (0, 0, 0, 0, 0), []),
  (25, .if_icmp .ge 66, 3, (48, 0, 0, 0, 0), []),
  (28, .aload_n 0, 1, (0, 0, 0, 0, 0), []),
  (29, .invokevirtual 39, 3, (87, 1, 0, 0, 2216), []),
  (32, .istore 6, 2, (0, 0, 0, 0, 0), []),
  (34, .iload 6, 2, (0, 0, 0, 0, 0), []),
  (36, .iconst (-1), 1, (0, 0, 0, 0, 0), []),
  (37, .if_icmp .eq 20, 3, (30, 0, 0, 0, 0), []),
  (40, .iload 6, 2, (0, 0, 0, 0, 0), []),
  (42, .iload 4, 2, (0, 0, 0, 0, 0), []),
  (44, .if_icmp .ge 13, 3, (30, 0, 0, 0, 0), []),
  (47, .aload_n 2, 1, (0, 0, 0, 0, 0), []),
  (48, .iload_n 3, 1, (0, 0, 0, 0, 0), []),
  (49, .iload 6, 2, (0, 0, 0, 0, 0), []),
  (51, .invokevirtual 79, 3, (58, 3, 0, 0, 3002), []),
  (54, .ifCond .eq 14, 3, (36, 0, 0, 0, 0), []),
  (57, .iload 5, 2, (0, 0, 0, 0, 0), []),
  (59, .ifCond .le 7, 3, (34, 0, 0, 0, 0), []),
  (62, .iconst 1, 1, (0, 0, 0, 0, 0), []),
  (63, .goto 4, 3, (35, 0, 0, 0, 0), []),
  (66, .iconst 0, 1, (0, 0, 0, 0, 0), []),
  (67, .ireturn, 1, (3, 0, 0, 0, 0), []),
  (68, .aload_n 2, 1, (0, 0, 0, 0, 0), []),
  (69, .iload_n 3, 1, (0, 0, 0, 0, 0), []),
  (70, .iload 6, 2, (0, 0, 0, 0, 0), []),
  (72, .invokevirtual 83, 3, (52, 3, 0, 0, 3006), []),
  (75, .aload_n 0, 1, (0, 0, 0, 0, 0), []),
  (76, .dup, 1, (0, 0, 0, 0, 0), []),
  (77, .getfield 15, 3, (5, 1, 0, 0, 1165), []),
  (80, .iconst 1, 1, (0, 0, 0, 0, 0), []),
  (81, .iadd, 1, (0, 0, 0, 0, 0), []),
  (82, .putfield 15, 3, (5, 1, 0, 0, 1165), []),
  (85, .iinc 5 1, 3, (0, 0, 0, 0, 0), []),
  (88, .goto (-67), 3, (13, 0, 0, 0, 0), []),
  (91, .iconst 1, 1, (0, 0, 0, 0, 0), []),
  (92, .ireturn, 1, (3, 0, 0, 0, 0), [])]
noncomputable def ai_o77 : List ai_E := [
  (0, .aload_n 2, 1, (0, 0, 0, 0, 0), []),
  (1, .getfield 73, 3, (3, 0, 0, 0, 1221), []),
  (4, .iconst 1, 1, (0, 0, 0, 0, 0), []),
  (5, .isub, 1, (0, 0, 0, 0, 0), []),
  (6, .istore_n 3, 1, (0, 0, 0, 0, 0), []),
  (7, .aload_n 2, 1, (0, 0, 0, 0, 0), []),
  (8, .getfield 64, 3, (3, 1, 0, 0, 1224), []),
  (11, .iconst 1, 1, (0, 0, 0, 0, 0), []),
  (12, .isub, 1, (0, 0, 0, 0, 0), []),
  (13, .istore 4, 2, (0, 0, 0, 0, 0), []),
  (15, .iconst 0, 1, (0, 0, 0, 0, 0), []),
  (16, .istore 5, 2, (0, 0, 0, 0, 0), []),
  (18, .iload 5, 2, (0, 0, 0, 0, 0), [true, true, true, true, true, true, false]),
  (20, .aload_n 2, 1, (0, 0, 0, 0, 0), []),
  (21, .iload_n 3, 1, (0, 0, 0, 0, 0), []),
  (22, .invokevirtual 87, 3, (56, 2, 0, 0, 3018), []),
  (25, .if_icmp .ge 73, 3, (52, 0, 0, 0, 0), []),
  (28, .aload_n 2, 1, (0, 0, 0, 0, 0), []),
  (29, .iload_n 3, 1, (0, 0, 0, 0, 0), []),
  (30, .iload 5, 2, (0, 0, 0, 0, 0), []),
  (32, .invokevirtual 88, 3, (57, 3, 0, 0, 3022), []),
  (35, .istore 6, 2, (0, 0, 0, 0, 0), []),
  (37, .iload 5, 2, (0, 0, 0, 0, 0), []),
  (39, .ifCond .le 14, 3, (30, 0, 0, 0, 0), []),
  (42, .aload_n 0, 1, (0, 0, 0, 0, 0), []),
  (43, .bipush 44, 2, (0, 0, 0, 0, 0), []),
  (45, .invokevirtual 57, 3, (86, 2, 0, 0, 2230), []),
  (48, .ifCond .ne 5, 3, (30, 0, 0, 0, 0), []),
  (51, .iconst 0, 1, (0, 0, 0, 0, 0), []),
  (52, .ireturn, 1, (3, 0, 0, 0, 0), []),
  (53, .aload_n 0, 1, (0, 0, 0, 0, 0), []),
  (54, .aload_n 1, 1, (0, 0, 0, 0, 0), []),
  (55, .aload_n 2, 1, (0, 0, 0, 0, 0), []),
  (56, .iload_n 3, 1, (0, 0, 0, 0, 0), []),
  (57, .invokevirtual 76, 3, (55, 2, 0, 0, 2238), []),
  (60, .iload 6, 2, (0, 0, 0, 0, 0), []),
  (62, .invokevirtual 92, 3, (95, 3, 0, 0, 3026), []),
  (65, .invokevirtual 95, 3, (78, 2, 0, 0, 3027), []),
  (68, .ifCond .ne 5, 3, (41, 0, 0, 0, 0), []),
  (71, .iconst 0, 1, (0, 0, 0, 0, 0), []),
  (72, .ireturn, 1, (3, 0, 0, 0, 0), []),
  (73, .aload_n 0, 1, (0, 0, 0, 0, 0), []),
  (74, .getfield 26, 3, (5, 4, 3, 0, 1169), []),
  (77, .ifCond .ne 15, 3, (50, 0, 0, 0, 0), []),
  (80, .aload_n 2, 1, (0, 0, 0, 0, 0), []),
  (81, .iload 4, 2, (0, 0, 0, 0, 0), []),
  (83, .iload 6, 2, (0, 0, 0, 0, 0), []),
  (85, .aload_n 0, 1, (0, 0, 0, 0, 0), []),
  (86, .getfield 22, 3, (5, 3, 1, 0, 1168), []),
  (89, .invokevirtual 98, 3, (54, 4, 0, 0, 3060), []),
  (92, .iinc 5 1, 3, (0, 0, 0, 0, 0), []),
  (95, .goto (-77), 3, (12, 0, 0, 0, 0), []),
  (98, .iconst 1, 1, (0, 0, 0, 0, 0), []),
  (99, .ireturn, 1, (3, 0, 0, 0, 0), [])]
noncomputable def ai_o78 : List ai_E := [
  (0, .aload_n 0, 1, (0, 0, 0, 0, 0), []),
  (1, .lconst 0, 1, (0, 0, 0, 0, 0), []),
  (2, .putfield 22, 3, (5, 3, 1, 0, 1168), []),
  (5, .aload_n 0, 1, (0, 0, 0, 0, 0), []),
  (6, .aload_n 0, 1, (0, 0, 0, 0, 0), []),
  (7, .bipush 126, 2, (0, 0, 0, 0, 0), []),
  (9, .invokevirtual 57, 3, (86, 2, 0, 0, 2230), []),
  (12, .putfield 26, 3, (5, 4, 3, 0, 1169), []),
  (15, .aload_n 0, 1, (0, 0, 0, 0, 0), []),
  (16, .getfield 26, 3, (5, 4, 3, 0, 1169), []),
  (19, .ifCond .eq 5, 3, (13, 0, 0, 0, 0), []),
  (22, .iconst 1, 1, (0, 0, 0, 0, 0), []),
  (23, .ireturn, 1, (3, 0, 0, 0, 0), []),
  (24, .iload_n 1, 1, (0, 0, 0, 0, 0), []),
  (25, .ifCond .ne 8, 3, (18, 0, 0, 0, 0), []),
  (28, .aload_n 0, 1, (0, 0, 0, 0, 0), []),
  (29, .invokevirtual 102, 3, (79, 1, 0, 0, 3031), []),
  (32, .ireturn, 1, (3, 0, 0, 0, 0), []),
  (33, .iload_n 1, 1, (0, 0, 0, 0, 0), []),
  (34, .iconst 1, 1, (0, 0, 0, 0, 0), []),
  (35, .if_icmp .ne 8, 3, (24, 0, 0, 0, 0), []),
  (38, .aload_n 0, 1, (0, 0, 0, 0, 0), []),
  (39, .invokevirtual 106, 3, (80, 1, 0, 0, 3040), []),
  (42, .ireturn, 1, (3, 0, 0, 0, 0), []),
  (43, .iload_n 1, 1, (0, 0, 0, 0, 0), []),
  (44, .iconst 2, 1, (0, 0, 0, 0, 0), []),
  (45, .if_icmp .ne 24, 3, (37, 0, 0, 0, 0), []),
  (48, .aload_n 0, 1, (0, 0, 0, 0, 0), []),
  (49, .bipush 39, 2, (0, 0, 0, 0, 0), []),
  (51, .invokevirtual 57, 3, (86, 2, 0, 0, 2230), []),
  (54, .ifCond .eq 10, 3, (34, 0, 0, 0, 0), []),
  (57, .aload_n 0, 1, (0, 0, 0, 0, 0), []),
  (58, .invokevirtual 109, 3, (83, 1, 0, 0, 3044), []),
  (61, .goto 7, 3, (36, 0, 0, 0, 0), []),
  (64, .aload_n 0, 1, (0, 0, 0, 0, 0), []),
  (65, .invokevirtual 112, 3, (82, 1, 0, 0, 3052), []),
  (68, .ireturn, 1, (3, 0, 0, 0, 0), []),
  (69, .aload_n 0, 1, (0, 0, 0, 0, 0), []),
  (70, .invokevirtual 115, 3, (84, 1, 0, 0, 3056), []),
  (73, .ireturn, 1, (3, 0, 0, 0, 0), [])]
noncomputable def ai_o79 : List ai_E := [
  (0, .aload_n 0, 1, (0, 0, 0, 0, 0), []),
  (1, .bipush 45, 2, (0, 0, 0, 0, 0), []),
  (3, .invokevirtual 57, 3, (86, 2, 0, 0, 2230), []),
  (6, .istore_n 1, 1, (0, 0, 0, 0, 0), []),
  (7, .aload_n 0, 1, (0, 0, 0, 0, 0), []),
  (8, .bipush 9, 2, (0, 0, 0, 0, 0), []),
  (10, .invokevirtual 118, 3, (81, 2, 0, 0, 3035), []),
  (13, .ifCond .ne 5, 3, (10, 0, 0, 0, 0), []),
  (16, .iconst 0, 1, (0, 0, 0, 0, 0), []),
  (17, .ireturn, 1, (3, 0, 0, 0, 0), []),
  (18, .aload_n 0, 1, (0, 0, 0, 0, 0), []),
  (19, .iload_n 1, 1, (0, 0, 0, 0, 0), []),
  (20, .ifCond .eq 11, 3, (17, 0, 0, 0, 0), []),
  (23, .aload_n 0, 1, (0, 0, 0, 0, 0), []),
  (24, .getfield 22, 3, (5, 3, 1, 0, 1168), []),
  (27, .lneg, 1, (0, 0, 0, 0, 0), []),
  (28, .goto 7, 3, (19, 0, 0, 0, 0), []),
  (31, .aload_n 0, 1, (0, 0, 0, 0, 0), []),
  (32, .getfield 22, 3, (5, 3, 1, 0, 1168), []),
  (35, .putfield 22, 3, (5, 3, 1, 0, 1168), []),
  (38, .iconst 1, 1, (0, 0, 0, 0, 0), []),
  (39, .ireturn, 1, (3, 0, 0, 0, 0), [])]
noncomputable def ai_o80 : List ai_E := [
  (0, .aload_n 0, 1, (0, 0, 0, 0, 0), []),
  (1, .bipush 45, 2, (0, 0, 0, 0, 0), []),
  (3, .invokevirtual 57, 3, (86, 2, 0, 0, 2230), []),
  (6, .istore_n 1, 1, (0, 0, 0, 0, 0), []),
  (7, .aload_n 0, 1, (0, 0, 0, 0, 0), []),
  (8, .bipush 6, 2, (0, 0, 0, 0, 0), []),
  (10, .invokevirtual 118, 3, (81, 2, 0, 0, 3035), []),
  (13, .ifCond .ne 5, 3, (10, 0, 0, 0, 0), []),
  (16, .iconst 0, 1, (0, 0, 0, 0, 0), []),
  (17, .ireturn, 1, (3, 0, 0, 0, 0), []),
  (18, .iconst 0, 1, (0, 0, 0, 0, 0), []),
  (19, .istore_n 2, 1, (0, 0, 0, 0, 0), []),
  (20, .aload_n 0, 1, (0, 0, 0, 0, 0), []),
  (21, .bipush 46, 2, (0, 0, 0, 0, 0), []),
  (23, .invokevirtual 57, 3, (86, 2, 0, 0, 2230), []),
  (26, .ifCond .eq 15, 3, (24, 0, 0, 0, 0), []),
  (29, .aload_n 0, 1, (0, 0, 0, 0, 0), []),
  (30, .iconst 2, 1, (0, 0, 0, 0, 0), []),
  (31, .invokevirtual 118, 3, (81, 2, 0, 0, 3035), []),
  (34, .istore_n 2, 1, (0, 0, 0, 0, 0), []),
  (35, .iload_n 2, 1, (0, 0, 0, 0, 0), []),
  (36, .ifCond .ne 5, 3, (24, 0, 0, 0, 0), []),
  (39, .iconst 0, 1, (0, 0, 0, 0, 0), []),
  (40, .ireturn, 1, (3, 0, 0, 0, 0), []),
  (41, .iload_n 2, 1, (0, 0, 0, 0, 0), []),
  (42, .istore_n 3, 1, (0, 0, 0, 0, 0), []),
  (43, .iload_n 3, 1, (0, 0, 0, 0, 0), [true, true, false, true]),
  (44, .iconst 2, 1, (0, 0, 0, 0, 0), []),
  (45, .if_icmp .ge 21, 3, (37, 0, 0, 0, 0), []),
  (48, .aload_n 0, 1, (0, 0, 0, 0, 0), []),
  (49, .dup, 1, (0, 0, 0, 0, 0), []),
  (50, .getfield 22, 3, (5, 3, 1, 0, 1168), []),
  (53, .ldc2_w 121, 3, (0, 10, 0, 0, 3039), []),
  (56, .lmul, 1, (0, 0, 0, 0, 0), []),
  (57, .putfield 22, 3, (5, 3, 1, 0, 1168), []),
  (60, .iinc 3 1, 3, (0, 0, 0, 0, 0), []),
  (63, .goto (-20), 3, (26, 0, 0, 0, 0), []),
  (66, .aload_n 0, 1, (0, 0, 0, 0, 0), []),
  (67, .iload_n 1, 1, (0, 0, 0, 0, 0), []),
  (68, .ifCond .eq 11, 3, (44, 0, 0, 0, 0), []),
  (71, .aload_n 0, 1, (0, 0, 0, 0, 0), []),
  (72, .getfield 22, 3, (5, 3, 1, 0, 1168), []),
  (75, .lneg, 1, (0, 0, 0, 0, 0), []),
  (76, .goto 7, 3, (46, 0, 0, 0, 0), []),
  (79, .aload_n 0, 1, (0, 0, 0, 0, 0), []),
  (80, .getfield 22, 3, (5, 3, 1, 0, 1168), []),
  (83, .putfield 22, 3, (5, 3, 1, 0, 1168), []),
  (86, .iconst 1, 1, (0, 0, 0, 0, 0), []),
  (87, .ireturn, 1, (3, 0, 0, 0, 0), [])]
noncomputable def ai_o81 : List ai_E := [
  (0, .iconst 0, 1, (0, 0, 0, 0, 0), []),
  (1, .istore_n 2, 1, (0, 0, 0, 0, 0), []),
  (2, .iload_n 2, 1, (0, 0, 0, 0, 0), [true, true, true]),
  (3, .iload_n 1, 1, (0, 0, 0, 0, 0), []),
  (4, .if_icmp .ge 86, 3, (49, 0, 0, 0, 0), []),
  (7, .aload_n 0, 1, (0, 0, 0, 0, 0), []),
  (8, .getfield 15, 3, (5, 1, 0, 0, 1165), []),
  (11, .aload_n 0, 1, (0, 0, 0, 0, 0), []),
  (12, .getfield 9, 3, (5, 0, 0, 0, 1163), []),
  (15, .if_icmp .ge 31, 3, (24, 0, 0, 0, 0), []),
  (18, .aload_n 0, 1, (0, 0, 0, 0, 0), []),
  (19, .getfield 18, 3, (5, 2, 2, 0, 1167), []),
  (22, .aload_n 0, 1, (0, 0, 0, 0, 0), []),
  (23, .getfield 15, 3, (5, 1, 0, 0, 1165), []),
  (26, .caload, 1, (0, 0, 0, 0, 0), []),
  (27, .bipush 48, 2, (0, 0, 0, 0, 0), []),
  (29, .if_icmp .lt 17, 3, (24, 0, 0, 0, 0), []),
  (32, .aload_n 0, 1, (0, 0, 0, 0, 0), []),
  (33, .getfield 18, 3, (5, 2, 2, 0, 1167), []),
  (36, .aload_n 0, 1, (0, 0, 0, 0, 0), []),
  (37, .getfield 15, 3, (5, 1, 0, 0, 1165), []),
  (40, .caload, 1, (0, 0, 0, 0, 0), []),
  (41, .bipush 57, 2, (0, 0, 0, 0, 0), []),
  (43, .if_icmp .le 5, 3, (26, 0, 0, 0, 0), []),
  (46, .iload_n 2, 1, (0, 0, 0, 0, 0), []),
  (47, .ireturn, 1, (0, 0, 0, 0, 0), []),
  (48, .aload_n 0, 1, (0, 0, 0, 0, 0), []),
  (49, .aload_n 0, 1, (0, 0, 0, 0, 0), []),
  (50, .getfield 22, 3, (5, 3, 1, 0, 1168), []),
  (53, .ldc2_w 121, 3, (0, 10, 0, 0, 3039), []),
  (56, .lmul, 1, (0, 0, 0, 0, 0), []),
  (57, .aload_n 0, 1, (0, 0, 0, 0, 0), []),
  (58, .getfield 18, 3, (5, 2, 2, 0, 1167), []),
  (61, .aload_n 0, 1, (0, 0, 0, 0, 0), []),
  (62, .getfield 15, 3, (5, 1, 0, 0, 1165), []),
  (65, .caload, 1, (0, 0, 0, 0, 0), []),
  (66, .bipush 48, 2, (0, 0, 0, 0, 0), []),
  (68, .isub, 1, (0, 0, 0, 0, 0), []),
  (69, .i2l, 1, (0, 0, 0, 0, 0), []),
  (70, .ladd, 1, (0, 0, 0, 0, 0), []),
  (71, .putfield 22, 3, (5, 3, 1, 0, 1168), []),
  (74, .aload_n 0, 1, (0, 0, 0, 0, 0), []),
  (75, .dup, 1, (0, 0, 0, 0, 0), []),
  (76, .getfield 15, 3, (5, 1, 0, 0, 1165), []),
  (79, .iconst 1, 1, (0, 0, 0, 0, 0), []),
  (80, .iadd, 1, (0, 0, 0, 0, 0), []),
  (81, .putfield 15, 3, (5, 1, 0, 0, 1165), []),
  (84, .iinc 2 1, 3, (0, 0, 0, 0, 0), []),
  (87, .goto (-85), 3, (2, 0, 0, 0, 0), []),
  (90, .iload_n 1, 1, (0, 0, 0, 0, 0), []),
  (91, .ireturn, 1, (0, 0, 0, 0, 0), [])]
noncomputable def ai_o82 : List ai_E := [
  (0, .iconst 0, 1, (0, 0, 0, 0, 0), []),
  (1, .istore_n 1, 1, (0, 0, 0, 0, 0), []),
  (2, .iload_n 1, 1, (0, 0, 0, 0, 0), [true, true, false]),
  (3, .bipush 8, 2, (0, 0, 0, 0, 0), []),
  (5, .if_icmp .ge 56, 3, (34, 0, 0, 0, 0), []),
  (8, .aload_n 0, 1, (0, 0, 0, 0, 0), []),
  (9, .aload_n 0, 1, (0, 0, 0, 0, 0), []),
  (10, .getfield 15, 3, (5, 1, 0, 0, 1165), []),
  (13, .invokevirtual 123, 3, (88, 2, 0, 0, 2220), []),
  (16, .istore_n 2, 1, (0, 0, 0, 0, 0), []),
  (17, .iload_n 2, 1, (0, 0, 0, 0, 0), []),
  (18, .bipush 97, 2, (0, 0, 0, 0, 0), []),
  (20, .if_icmp .lt 9, 3, (16, 0, 0, 0, 0), []),
  (23, .iload_n 2, 1, (0, 0, 0, 0, 0), []),
  (24, .bipush 122, 2, (0, 0, 0, 0, 0), []),
  (26, .if_icmp .le 13, 3, (22, 0, 0, 0, 0), []),
  (29, .iload_n 1, 1, (0, 0, 0, 0, 0), []),
  (30, .ifCond .le 7, 3, (20, 0, 0, 0, 0), []),
  (33, .iconst 1, 1, (0, 0, 0, 0, 0), []),
  (34, .goto 4, 3, (21, 0, 0, 0, 0), []),
  (37, .iconst 0, 1, (0, 0, 0, 0, 0), []),
  (38, .ireturn, 1, (3, 0, 0, 0, 0), []),
  (39, .aload_n 0, 1, (0, 0, 0, 0, 0), []),
  (40, .iload_n 2, 1, (0, 0, 0, 0, 0), []),
  (41, .iload_n 1, 1, (0, 0, 0, 0, 0), []),
  (42, .invokevirtual 126, 3, (85, 3, 0, 0, 3048), []),
  (45, .aload_n 0, 1, (0, 0, 0, 0, 0), []),
  (46, .dup, 1, (0, 0, 0, 0, 0), []),
  (47, .getfield 15, 3, (5, 1, 0, 0, 1165), []),
  (50, .iconst 1, 1, (0, 0, 0, 0, 0), []),
  (51, .iadd, 1, (0, 0, 0, 0, 0), []),
  (52, .putfield 15, 3, (5, 1, 0, 0, 1165), []),
  (55, .iinc 1 1, 3, (0, 0, 0, 0, 0), []),
  (58, .goto (-56), 3, (2, 0, 0, 0, 0), []),
  (61, .iconst 1, 1, (0, 0, 0, 0, 0), []),
  (62, .ireturn, 1, (3, 0, 0, 0, 0), [])]
noncomputable def ai_o83 : List ai_E := [
  (0, .iconst 0, 1, (0, 0, 0, 0, 0), []),
  (1, .istore_n 1, 1, (0, 0, 0, 0, 0), []),
  (2, .iload_n 1, 1, (0, 0, 0, 0, 0), [true, true, false]),
  (3, .bipush 8, 2, (0, 0, 0, 0, 0), []),
  (5, .if_icmp .ge 82, 3, (48, 0, 0, 0, 0), []),
  (8, .aload_n 0, 1, (0, 0, 0, 0, 0), []),
  (9, .aload_n 0, 1, (0, 0, 0, 0, 0), []),
  (10, .getfield 15, 3, (5, 1, 0, 0, 1165), []),
  (13, .invokevirtual 123, 3, (88, 2, 0, 0, 2220), []),
  (16, .istore_n 2, 1, (0, 0, 0, 0, 0), []),
  (17, .iload_n 2, 1, (0, 0, 0, 0, 0), []),
  (18, .bipush 32, 2, (0, 0, 0, 0, 0), []),
  (20, .if_icmp .lt 9, 3, (16, 0, 0, 0, 0), []),
  (23, .iload_n 2, 1, (0, 0, 0, 0, 0), []),
  (24, .bipush 126, 2, (0, 0, 0, 0, 0), []),
  (26, .if_icmp .le 5, 3, (18, 0, 0, 0, 0), []),
  (29, .iconst 0, 1, (0, 0, 0, 0, 0), []),
  (30, .ireturn, 1, (3, 0, 0, 0, 0), []),
  (31, .iload_n 2, 1, (0, 0, 0, 0, 0), []),
  (32, .bipush 39, 2, (0, 0, 0, 0, 0), []),
  (34, .if_icmp .ne 31, 3, (36, 0, 0, 0, 0), []),
  (37, .aload_n 0, 1, (0, 0, 0, 0, 0), []),
  (38, .aload_n 0, 1, (0, 0, 0, 0, 0), []),
  (39, .getfield 15, 3, (5, 1, 0, 0, 1165), []),
  (42, .iconst 1, 1, (0, 0, 0, 0, 0), []),
  (43, .iadd, 1, (0, 0, 0, 0, 0), []),
  (44, .invokevirtual 123, 3, (88, 2, 0, 0, 2220), []),
  (47, .bipush 39, 2, (0, 0, 0, 0, 0), []),
  (49, .if_icmp .eq 6, 3, (30, 0, 0, 0, 0), []),
  (52, .goto 35, 3, (48, 0, 0, 0, 0), []),
  (55, .aload_n 0, 1, (0, 0, 0, 0, 0), []),
  (56, .dup, 1, (0, 0, 0, 0, 0), []),
  (57, .getfield 15, 3, (5, 1, 0, 0, 1165), []),
  (60, .iconst 1, 1, (0, 0, 0, 0, 0), []),
  (61, .iadd, 1, (0, 0, 0, 0, 0), []),
  (62, .putfield 15, 3, (5, 1, 0, 0, 1165), []),
  (65, .aload_n 0, 1, (0, 0, 0, 0, 0), []),
  (66, .iload_n 2, 1, (0, 0, 0, 0, 0), []),
  (67, .iload_n 1, 1, (0, 0, 0, 0, 0), []),
  (68, .invokevirtual 126, 3, (85, 3, 0, 0, 3048), []),
  (71, .aload_n 0, 1, (0, 0, 0, 0, 0), []),
  (72, .dup, 1, (0, 0, 0, 0, 0), []),
  (73, .getfield 15, 3, (5, 1, 0, 0, 1165), []),
  (76, .iconst 1, 1, (0, 0, 0, 0, 0), []),
  (77, .iadd, 1, (0, 0, 0, 0, 0), []),
  (78, .putfield 15, 3, (5, 1, 0, 0, 1165), []),
  (81, .iinc 1 1, 3, (0, 0, 0, 0, 0), []),
  (84, .goto (-82), 3, (2, 0, 0, 0, 0), []),
  (87, .aload_n 0, 1, (0, 0, 0, 0, 0), []),
  (88, .bipush 39, 2, (0, 0, 0, 0, 0), []),
  (90, .invokevirtual 57, 3, (86, 2, 0, 0, 2230), []),
  (93, .ireturn, 1, (3, 0, 0, 0, 0), [])]
noncomputable def ai_o84 : List ai_E := [
  (0, .aload_n 0, 1, (0, 0, 0, 0, 0), []),
  (1, .aload_n 0, 1, (0, 0, 0, 0, 0), []),
  (2, .aload_n 0, 1, (0, 0, 0, 0, 0), []),
  (3, .getfield 15, 3, (5, 1, 0, 0, 1165), []),
  (6, .invokevirtual 123, 3, (88, 2, 0, 0, 2220), []),
  (9, .bipush 116, 2, (0, 0, 0, 0, 0), []),
  (11, .if_icmp .ne 7, 3, (9, 0, 0, 0, 0), []),
  (14, .lconst 1, 1, (0, 0, 0, 0, 0), []),
  (15, .goto 4, 3, (10, 0, 0, 0, 0), []),
  (18, .lconst 0, 1, (0, 0, 0, 0, 0), []),
  (19, .putfield 22, 3, (5, 3, 1, 0, 1168), []),
  (22, .aload_n 0, 1, (0, 0, 0, 0, 0), []),
  (23, .bipush 116, 2, (0, 0, 0, 0, 0), []),
  (25, .invokevirtual 57, 3, (86, 2, 0, 0, 2230), []),
  (28, .ifCond .ne 12, 3, (19, 0, 0, 0, 0), []),
  (31, .aload_n 0, 1, (0, 0, 0, 0, 0), []),
  (32, .bipush 102, 2, (0, 0, 0, 0, 0), []),
  (34, .invokevirtual 57, 3, (86, 2, 0, 0, 2230), []),
  (37, .ifCond .eq 7, 3, (21, 0, 0, 0, 0), []),
  (40, .iconst 1, 1, (0, 0, 0, 0, 0), []),
  (41, .goto 4, 3, (22, 0, 0, 0, 0), []),
  (44, .iconst 0, 1, (0, 0, 0, 0, 0), []),
  (45, .ireturn, 1, (3, 0, 0, 0, 0), [])]
noncomputable def ai_o85 : List ai_E := [
  (0, .aload_n 0, 1, (0, 0, 0, 0, 0), []),
  (1, .dup, 1, (0, 0, 0, 0, 0), []),
  (2, .getfield 22, 3, (5, 3, 1, 0, 1168), []),
  (5, .iload_n 1, 1, (0, 0, 0, 0, 0), []),
  (6, .i2l, 1, (0, 0, 0, 0, 0), []),
  (7, .bipush 7, 2, (0, 0, 0, 0, 0), []),
  (9, .bipush 7, 2, (0, 0, 0, 0, 0), []),
  (11, .iload_n 2, 1, (0, 0, 0, 0, 0), []),
  (12, .isub, 1, (0, 0, 0, 0, 0), []),
  (13, .imul, 1, (0, 0, 0, 0, 0), []),
  (14, .lshl, 1, (0, 0, 0, 0, 0), []),
  (15, .lor, 1, (0, 0, 0, 0, 0), []),
  (16, .putfield 22, 3, (5, 3, 1, 0, 1168), []),
  (19, .return_, 1, (0, 0, 0, 0, 0), [])]
noncomputable def ai_o86 : List ai_E := [
  (0, .aload_n 0, 1, (0, 0, 0, 0, 0), []),
  (1, .getfield 15, 3, (5, 1, 0, 0, 1165), []),
  (4, .aload_n 0, 1, (0, 0, 0, 0, 0), []),
  (5, .getfield 9, 3, (5, 0, 0, 0, 1163), []),
  (8, .if_icmp .ge 16, 3, (12, 0, 0, 0, 0), []),
  (11, .aload_n 0, 1, (0, 0, 0, 0, 0), []),
  (12, .getfield 18, 3, (5, 2, 2, 0, 1167), []),
  (15, .aload_n 0, 1, (0, 0, 0, 0, 0), []),
  (16, .getfield 15, 3, (5, 1, 0, 0, 1165), []),
  (19, .caload, 1, (0, 0, 0, 0, 0), []),
  (20, .iload_n 1, 1, (0, 0, 0, 0, 0), []),
  (21, .if_icmp .eq 5, 3, (14, 0, 0, 0, 0), []),
  (24, .iconst 0, 1, (0, 0, 0, 0, 0), []),
  (25, .ireturn, 1, (3, 0, 0, 0, 0), []),
  (26, .aload_n 0, 1, (0, 0, 0, 0, 0), []),
  (27, .dup, 1, (0, 0, 0, 0, 0), []),
  (28, .getfield 15, 3, (5, 1, 0, 0, 1165), []),
  (31, .iconst 1, 1, (0, 0, 0, 0, 0), []),
  (32, .iadd, 1, (0, 0, 0, 0, 0), []),
  (33, .putfield 15, 3, (5, 1, 0, 0, 1165), []),
  (36, .iconst 1, 1, (0, 0, 0, 0, 0), []),
  (37, .ireturn, 1, (3, 0, 0, 0, 0), [])]
noncomputable def ai_o87 : List ai_E := [
  (0, .aload_n 0, 1, (0, 0, 0, 0, 0), []),
  (1, .aload_n 0, 1, (0, 0, 0, 0, 0), []),
  (2, .getfield 15, 3, (5, 1, 0, 0, 1165), []),
  (5, .invokevirtual 123, 3, (88, 2, 0, 0, 2220), []),
  (8, .istore_n 1, 1, (0, 0, 0, 0, 0), []),
  (9, .iload_n 1, 1, (0, 0, 0, 0, 0), []),
  (10, .bipush 48, 2, (0, 0, 0, 0, 0), []),
  (12, .if_icmp .lt 16, 3, (15, 0, 0, 0, 0), []),
  (15, .iload_n 1, 1, (0, 0, 0, 0, 0), []),
  (16, .bipush 57, 2, (0, 0, 0, 0, 0), []),
  (18, .if_icmp .gt 10, 3, (15, 0, 0, 0, 0), []),
  (21, .iload_n 1, 1, (0, 0, 0, 0, 0), []),
  (22, .bipush 48, 2, (0, 0, 0, 0, 0), []),
  (24, .isub, 1, (0, 0, 0, 0, 0), []),
  (25, .goto 4, 3, (16, 0, 0, 0, 0), []),
  (28, .iconst (-1), 1, (0, 0, 0, 0, 0), []),
  (29, .ireturn, 1, (0, 0, 0, 0, 0), [])]
noncomputable def ai_o88 : List ai_E := [
  (0, .iload_n 1, 1, (0, 0, 0, 0, 0), []),
  (1, .aload_n 0, 1, (0, 0, 0, 0, 0), []),
  (2, .getfield 9, 3, (5, 0, 0, 0, 1163), []),
  (5, .if_icmp .ge 12, 3, (9, 0, 0, 0, 0), []),
  (8, .aload_n 0, 1, (0, 0, 0, 0, 0), []),
  (9, .getfield 18, 3, (5, 2, 2, 0, 1167), []),
  (12, .iload_n 1, 1, (0, 0, 0, 0, 0), []),
  (13, .caload, 1, (0, 0, 0, 0, 0), []),
  (14, .goto 4, 3, (10, 0, 0, 0, 0), []),
  (17, .iconst (-1), 1, (0, 0, 0, 0, 0), []),
  (18, .ireturn, 1, (0, 0, 0, 0, 0), [])]
noncomputable def ai_o89 : List ai_E := [
  (0, .aload_n 0, 1, (0, 0, 0, 0, 0), []),
  (1, .invokespecial 3, 3, (1000, 0, 0, 1, 1112), []),
  (4, .aload_n 0, 1, (0, 0, 0, 0, 0), []),
  (5, .iconst 5, 1, (0, 0, 0, 0, 0), []),
  (6, .newarray .long, 2, (1, 0, 0, 0, 0), []),
  (8, .putfield 9, 3, (6, 0, 2, 0, 1113), []),
  (11, .aload_n 0, 1, (0, 0, 0, 0, 0), []),
  (12, .iconst 0, 1, (0, 0, 0, 0, 0), []),
  (13, .putfield 15, 3, (6, 1, 0, 0, 1116), []),
  (16, .return_, 1, (0, 0, 0, 0, 0), [])]
noncomputable def ai_o90 : List ai_E := [
  (0, .aload_n 0, 1, (0, 0, 0, 0, 0), []),
  (1, .getfield 15, 3, (6, 1, 0, 0, 1116), []),
  (4, .iload_n 1, 1, (0, 0, 0, 0, 0), []),
  (5, .ishr, 1, (0, 0, 0, 0, 0), []),
  (6, .iconst 1, 1, (0, 0, 0, 0, 0), []),
  (7, .iand, 1, (0, 0, 0, 0, 0), []),
  (8, .ifCond .eq 7, 3, (9, 0, 0, 0, 0), []),
  (11, .iconst 1, 1, (0, 0, 0, 0, 0), []),
  (12, .goto 4, 3, (10, 0, 0, 0, 0), []),
  (15, .iconst 0, 1, (0, 0, 0, 0, 0), []),
  (16, .ireturn, 1, (3, 0, 0, 0, 0), [])]
noncomputable def ai_o91 : List ai_E := [
  (0, .aload_n 0, 1, (0, 0, 0, 0, 0), []),
  (1, .getfield 9, 3, (6, 0, 2, 0, 1113), []),
  (4, .iload_n 1, 1, (0, 0, 0, 0, 0), []),
  (5, .lload_n 2, 1, (0, 0, 0, 0, 0), []),
  (6, .lastore, 1, (0, 0, 0, 0, 0), []),
  (7, .aload_n 0, 1, (0, 0, 0, 0, 0), []),
  (8, .iload 4, 2, (0, 0, 0, 0, 0), []),
  (10, .ifCond .eq 14, 3, (15, 0, 0, 0, 0), []),
  (13, .aload_n 0, 1, (0, 0, 0, 0, 0), []),
  (14, .getfield 15, 3, (6, 1, 0, 0, 1116), []),
  (17, .iconst 1, 1, (0, 0, 0, 0, 0), []),
  (18, .iload_n 1, 1, (0, 0, 0, 0, 0), []),
  (19, .ishl, 1, (0, 0, 0, 0, 0), []),
  (20, .ior, 1, (0, 0, 0, 0, 0), []),
  (21, .goto 13, 3, (23, 0, 0, 0, 0), []),
  (24, .aload_n 0, 1, (0, 0, 0, 0, 0), []),
  (25, .getfield 15, 3, (6, 1, 0, 0, 1116), []),
  (28, .iconst 1, 1, (0, 0, 0, 0, 0), []),
  (29, .iload_n 1, 1, (0, 0, 0, 0, 0), []),
  (30, .ishl, 1, (0, 0, 0, 0, 0), []),
  (31, .iconst (-1), 1, (0, 0, 0, 0, 0), []),
  (32, .ixor, 1, (0, 0, 0, 0, 0), []),
  (33, .iand, 1, (0, 0, 0, 0, 0), []),
  (34, .putfield 15, 3, (6, 1, 0, 0, 1116), []),
  (37, .return_, 1, (0, 0, 0, 0, 0), [])]
noncomputable def ai_o92 : List ai_E := [
  (0, .aload_n 0, 1, (0, 0, 0, 0, 0), []),
  (1, .invokespecial 3, 3, (1000, 0, 0, 1, 1040), []),
  (4, .aload_n 0, 1, (0, 0, 0, 0, 0), []),
  (5, .iconst 0, 1, (0, 0, 0, 0, 0), []),
  (6, .putfield 9, 3, (7, 0, 0, 0, 1041), []),
  (9, .aload_n 0, 1, (0, 0, 0, 0, 0), []),
  (10, .iconst 5, 1, (0, 0, 0, 0, 0), []),
  (11, .newarray .int, 2, (0, 0, 0, 0, 0), []),
  (13, .putfield 15, 3, (7, 1, 2, 0, 1044), []),
  (16, .aload_n 0, 1, (0, 0, 0, 0, 0), []),
  (17, .iconst 5, 1, (0, 0, 0, 0, 0), []),
  (18, .newarray .int, 2, (0, 0, 0, 0, 0), []),
  (20, .putfield 19, 3, (7, 2, 2, 0, 1047), []),
  (23, .aload_n 0, 1, (0, 0, 0, 0, 0), []),
  (24, .bipush 25, 2, (0, 0, 0, 0, 0), []),
  (26, .newarray .int, 2, (0, 0, 0, 0, 0), []),
  (28, .putfield 22, 3, (7, 3, 2, 0, 1048), []),
  (31, .aload_n 0, 1, (0, 0, 0, 0, 0), []),
  (32, .bipush 25, 2, (0, 0, 0, 0, 0), []),
  (34, .newarray .int, 2, (0, 0, 0, 0, 0), []),
  (36, .putfield 25, 3, (7, 4, 2, 0, 1049), []),
  (39, .aload_n 0, 1, (0, 0, 0, 0, 0), []),
  (40, .bipush 25, 2, (0, 0, 0, 0, 0), []),
  (42, .newarray .boolean, 2, (2, 0, 0, 0, 0), []),
  (44, .putfield 28, 3, (7, 5, 2, 0, 1050), []),
  (47, .return_, 1, (0, 0, 0, 0, 0), [])]
noncomputable def ai_o93 : List ai_E := [
  (0, .iload_n 1, 1, (0, 0, 0, 0, 0), []),
  (1, .ifCond .lt 15, 3, (8, 0, 0, 0, 0), []),
  (4, .iload_n 1, 1, (0, 0, 0, 0, 0), []),
  (5, .aload_n 0, 1, (0, 0, 0, 0, 0), []),
  (6, .getfield 9, 3, (7, 0, 0, 0, 1041), []),
  (9, .if_icmp .ge 7, 3, (8, 0, 0, 0, 0), []),
  (12, .iconst 1, 1, (0, 0, 0, 0, 0), []),
  (13, .goto 4, 3, (9, 0, 0, 0, 0), []),
  (16, .iconst 0, 1, (0, 0, 0, 0, 0), []),
  (17, .ireturn, 1, (3, 0, 0, 0, 0), [])]
noncomputable def ai_o94 : List ai_E := [
  (0, .aload_n 0, 1, (0, 0, 0, 0, 0), []),
  (1, .getfield 19, 3, (7, 2, 2, 0, 1047), []),
  (4, .iload_n 1, 1, (0, 0, 0, 0, 0), []),
  (5, .iaload, 1, (0, 0, 0, 0, 0), []),
  (6, .ireturn, 1, (0, 0, 0, 0, 0), [])]
noncomputable def ai_o95 : List ai_E := [
  (0, .aload_n 0, 1, (0, 0, 0, 0, 0), []),
  (1, .getfield 22, 3, (7, 3, 2, 0, 1048), []),
  (4, .iload_n 1, 1, (0, 0, 0, 0, 0), []),
  (5, .iconst 5, 1, (0, 0, 0, 0, 0), []),
  (6, .imul, 1, (0, 0, 0, 0, 0), []),
  (7, .iload_n 2, 1, (0, 0, 0, 0, 0), []),
  (8, .iadd, 1, (0, 0, 0, 0, 0), []),
  (9, .iaload, 1, (0, 0, 0, 0, 0), []),
  (10, .ireturn, 1, (0, 0, 0, 0, 0), [])]
noncomputable def ai_o96 : List ai_E := [
  (0, .aload_n 0, 1, (0, 0, 0, 0, 0), []),
  (1, .getfield 25, 3, (7, 4, 2, 0, 1049), []),
  (4, .iload_n 1, 1, (0, 0, 0, 0, 0), []),
  (5, .iconst 5, 1, (0, 0, 0, 0, 0), []),
  (6, .imul, 1, (0, 0, 0, 0, 0), []),
  (7, .iload_n 2, 1, (0, 0, 0, 0, 0), []),
  (8, .iadd, 1, (0, 0, 0, 0, 0), []),
  (9, .iaload, 1, (0, 0, 0, 0, 0), []),
  (10, .ireturn, 1, (0, 0, 0, 0, 0), [])]
noncomputable def ai_o97 : List ai_E := [
  (0, .aload_n 0, 1, (0, 0, 0, 0, 0), []),
  (1, .getfield 28, 3, (7, 5, 2, 0, 1050), []),
  (4, .iload_n 1, 1, (0, 0, 0, 0, 0), []),
  (5, .iconst 5, 1, (0, 0, 0, 0, 0), []),
  (6, .imul, 1, (0, 0, 0, 0, 0), []),
  (7, .iload_n 2, 1, (0, 0, 0, 0, 0), []),
  (8, .iadd, 1, (0, 0, 0, 0, 0), []),
  (9, .baload, 1, (0, 0, 0, 0, 0), []),
  (10, .ireturn, 1, (3, 0, 0, 0, 0), [])]
noncomputable def ai_o98 : List ai_E := [
  (0, .aload_n 0, 1, (0, 0, 0, 0, 0), []),
  (1, .iload_n 3, 1, (0, 0, 0, 0, 0), []),
  (2, .invokevirtual 32, 3, (93, 2, 0, 0, 2174), []),
  (5, .ifCond .ne 5, 3, (6, 0, 0, 0, 0), []),
  (8, .iconst 0, 1, (0, 0, 0, 0, 0), []),
  (9, .ireturn, 1, (3, 0, 0, 0, 0), []),
  (10, .aload_n 0, 1, (0, 0, 0, 0, 0), []),
  (11, .getfield 19, 3, (7, 2, 2, 0, 1047), []),
  (14, .iload_n 3, 1, (0, 0, 0, 0, 0), []),
  (15, .iaload, 1, (0, 0, 0, 0, 0), []),
  (16, .ifCond .ne 14, 3, (18, 0, 0, 0, 0), []),
  (19, .iload_n 3, 1, (0, 0, 0, 0, 0), []),
  (20, .iload_n 1, 1, (0, 0, 0, 0, 0), []),
  (21, .if_icmp .ne 7, 3, (16, 0, 0, 0, 0), []),
  (24, .iconst 1, 1, (0, 0, 0, 0, 0), []),
  (25, .goto 4, 3, (17, 0, 0, 0, 0), []),
  (28, .iconst 0, 1, (0, 0, 0, 0, 0), []),
  (29, .ireturn, 1, (3, 0, 0, 0, 0), []),
  (30, .aload_n 0, 1, (0, 0, 0, 0, 0), []),
  (31, .iload_n 3, 1, (0, 0, 0, 0, 0), []),
  (32, .iconst 0, 1, (0, 0, 0, 0, 0), []),
  (33, .invokevirtual 36, 3, (95, 3, 0, 0, 2175), []),
  (36, .iload_n 2, 1, (0, 0, 0, 0, 0), []),
  (37, .if_icmp .ne 7, 3, (26, 0, 0, 0, 0), []),
  (40, .iconst 1, 1, (0, 0, 0, 0, 0), []),
  (41, .goto 4, 3, (27, 0, 0, 0, 0), []),
  (44, .iconst 0, 1, (0, 0, 0, 0, 0), []),
  (45, .ireturn, 1, (3, 0, 0, 0, 0), [])]
noncomputable def ai_o99 : List ai_E := [
  (0, .aload_n 0, 1, (0, 0, 0, 0, 0), []),
  (1, .getfield 19, 3, (7, 2, 2, 0, 1047), []),
  (4, .aload_n 0, 1, (0, 0, 0, 0, 0), []),
  (5, .getfield 9, 3, (7, 0, 0, 0, 1041), []),
  (8, .iconst 0, 1, (0, 0, 0, 0, 0), []),
  (9, .iastore, 1, (0, 0, 0, 0, 0), []),
  (10, .aload_n 0, 1, (0, 0, 0, 0, 0), []),
  (11, .dup, 1, (0, 0, 0, 0, 0), []),
  (12, .getfield 9, 3, (7, 0, 0, 0, 1041), []),
  (15, .iconst 1, 1, (0, 0, 0, 0, 0), []),
  (16, .iadd, 1, (0, 0, 0, 0, 0), []),
  (17, .putfield 9, 3, (7, 0, 0, 0, 1041), []),
  (20, .aload_n 0, 1, (0, 0, 0, 0, 0), []),
  (21, .getfield 9, 3, (7, 0, 0, 0, 1041), []),
  (24, .iconst 1, 1, (0, 0, 0, 0, 0), []),
  (25, .isub, 1, (0, 0, 0, 0, 0), []),
  (26, .ireturn, 1, (0, 0, 0, 0, 0), [])]
noncomputable def ai_o100 : List ai_E := [
  (0, .aload_n 0, 1, (0, 0, 0, 0, 0), []),
  (1, .getfield 19, 3, (7, 2, 2, 0, 1047), []),
  (4, .iload_n 1, 1, (0, 0, 0, 0, 0), []),
  (5, .iaload, 1, (0, 0, 0, 0, 0), []),
  (6, .istore 5, 2, (0, 0, 0, 0, 0), []),
  (8, .iload_n 1, 1, (0, 0, 0, 0, 0), []),
  (9, .iconst 5, 1, (0, 0, 0, 0, 0), []),
  (10, .imul, 1, (0, 0, 0, 0, 0), []),
  (11, .iload 5, 2, (0, 0, 0, 0, 0), []),
  (13, .iadd, 1, (0, 0, 0, 0, 0), []),
  (14, .istore 6, 2, (0, 0, 0, 0, 0), []),
  (16, .aload_n 0, 1, (0, 0, 0, 0, 0), []),
  (17, .getfield 22, 3, (7, 3, 2, 0, 1048), []),
  (20, .iload 6, 2, (0, 0, 0, 0, 0), []),
  (22, .iload_n 2, 1, (0, 0, 0, 0, 0), []),
  (23, .iastore, 1, (0, 0, 0, 0, 0), []),
  (24, .aload_n 0, 1, (0, 0, 0, 0, 0), []),
  (25, .getfield 25, 3, (7, 4, 2, 0, 1049), []),
  (28, .iload 6, 2, (0, 0, 0, 0, 0), []),
  (30, .iload 4, 2, (0, 0, 0, 0, 0), []),
  (32, .iastore, 1, (0, 0, 0, 0, 0), []),
  (33, .aload_n 0, 1, (0, 0, 0, 0, 0), []),
  (34, .getfield 28, 3, (7, 5, 2, 0, 1050), []),
  (37, .iload 6, 2, (0, 0, 0, 0, 0), []),
  (39, .iload_n 3, 1, (0, 0, 0, 0, 0), []),
  (40, .bastore, 1, (0, 0, 0, 0, 0), []),
  (41, .aload_n 0, 1, (0, 0, 0, 0, 0), []),
  (42, .getfield 19, 3, (7, 2, 2, 0, 1047), []),
  (45, .iload_n 1, 1, (0, 0, 0, 0, 0), []),
  (46, .iload 5, 2, (0, 0, 0, 0, 0), []),
  (48, .iconst 1, 1, (0, 0, 0, 0, 0), []),
  (49, .iadd, 1, (0, 0, 0, 0, 0), []),
  (50, .iastore, 1, (0, 0, 0, 0, 0), []),
  (51, .iload 5, 2, (0, 0, 0, 0, 0), []),
  (53, .ireturn, 1, (0, 0, 0, 0, 0), [])]
noncomputable def ai_o101 : List ai_E := [
  (0, .iconst 0, 1, (0, 0, 0, 0, 0), []),
  (1, .istore_n 1, 1, (0, 0, 0, 0, 0), []),
  (2, .iconst 0, 1, (0, 0, 0, 0, 0), []),
  (3, .istore_n 2, 1, (0, 0, 0, 0, 0), []),
  (4, .iload_n 2, 1, (0, 0, 0, 0, 0), [true, true, true, false]),
  (5, .aload_n 0, 1, (0, 0, 0, 0, 0), []),
  (6, .getfield 9, 3, (7, 0, 0, 0, 1041), []),
  (9, .if_icmp .ge 35, 3, (30, 0, 0, 0, 0), []),
  (12, .aload_n 0, 1, (0, 0, 0, 0, 0), []),
  (13, .iload_n 1, 1, (0, 0, 0, 0, 0), []),
  (14, .invokevirtual 40, 3, (102, 2, 0, 0, 3078), []),
  (17, .istore_n 3, 1, (0, 0, 0, 0, 0), []),
  (18, .iload_n 3, 1, (0, 0, 0, 0, 0), []),
  (19, .iconst (-1), 1, (0, 0, 0, 0, 0), []),
  (20, .if_icmp .ne 5, 3, (17, 0, 0, 0, 0), []),
  (23, .iconst 0, 1, (0, 0, 0, 0, 0), []),
  (24, .ireturn, 1, (3, 0, 0, 0, 0), []),
  (25, .aload_n 0, 1, (0, 0, 0, 0, 0), []),
  (26, .getfield 15, 3, (7, 1, 2, 0, 1044), []),
  (29, .iload_n 2, 1, (0, 0, 0, 0, 0), []),
  (30, .iload_n 3, 1, (0, 0, 0, 0, 0), []),
  (31, .iastore, 1, (0, 0, 0, 0, 0), []),
  (32, .iload_n 1, 1, (0, 0, 0, 0, 0), []),
  (33, .iconst 1, 1, (0, 0, 0, 0, 0), []),
  (34, .iload_n 3, 1, (0, 0, 0, 0, 0), []),
  (35, .ishl, 1, (0, 0, 0, 0, 0), []),
  (36, .ior, 1, (0, 0, 0, 0, 0), []),
  (37, .istore_n 1, 1, (0, 0, 0, 0, 0), []),
  (38, .iinc 2 1, 3, (0, 0, 0, 0, 0), []),
  (41, .goto (-37), 3, (4, 0, 0, 0, 0), []),
  (44, .iconst 1, 1, (0, 0, 0, 0, 0), []),
  (45, .ireturn, 1, (3, 0, 0, 0, 0), [])]
noncomputable def ai_o102 : List ai_E := [
  (0, .iconst 0, 1, (0, 0, 0, 0, 0), []),
  (1, .istore_n 2, 1, (0, 0, 0, 0, 0), []),
  (2, .iload_n 2, 1, (0, 0, 0, 0, 0), [true, true, true]),
  (3, .aload_n 0, 1, (0, 0, 0, 0, 0), []),
  (4, .getfield 9, 3, (7, 0, 0, 0, 1041), []),
  (7, .if_icmp .ge 32, 3, (25, 0, 0, 0, 0), []),
  (10, .iload_n 1, 1, (0, 0, 0, 0, 0), []),
  (11, .iload_n 2, 1, (0, 0, 0, 0, 0), []),
  (12, .ishr, 1, (0, 0, 0, 0, 0), []),
  (13, .iconst 1, 1, (0, 0, 0, 0, 0), []),
  (14, .iand, 1, (0, 0, 0, 0, 0), []),
  (15, .ifCond .ne 18, 3, (23, 0, 0, 0, 0), []),
  (18, .aload_n 0, 1, (0, 0, 0, 0, 0), []),
  (19, .iload_n 2, 1, (0, 0, 0, 0, 0), []),
  (20, .iload_n 1, 1, (0, 0, 0, 0, 0), []),
  (21, .iconst 1, 1, (0, 0, 0, 0, 0), []),
  (22, .iload_n 2, 1, (0, 0, 0, 0, 0), []),
  (23, .ishl, 1, (0, 0, 0, 0, 0), []),
  (24, .ior, 1, (0, 0, 0, 0, 0), []),
  (25, .invokevirtual 44, 3, (103, 3, 0, 0, 3082), []),
  (28, .ifCond .eq 5, 3, (23, 0, 0, 0, 0), []),
  (31, .iload_n 2, 1, (0, 0, 0, 0, 0), []),
  (32, .ireturn, 1, (0, 0, 0, 0, 0), []),
  (33, .iinc 2 1, 3, (0, 0, 0, 0, 0), []),
  (36, .goto (-34), 3, (2, 0, 0, 0, 0), []),
  (39, .iconst (-1), 1, (0, 0, 0, 0, 0), []),
  (40, .ireturn, 1, (0, 0, 0, 0, 0), [])]
noncomputable def ai_o103 : List ai_E := [
  (0, .iconst 0, 1, (0, 0, 0, 0, 0), []),
  (1, .istore_n 3, 1, (0, 0, 0, 0, 0), []),
  (2, .iload_n 3, 1, (0, 0, 0, 0, 0), [true, true, true, true, false]),
  (3, .aload_n 0, 1, (0, 0, 0, 0, 0), []),
  (4, .getfield 19, 3, (7, 2, 2, 0, 1047), []),
  (7, .iload_n 1, 1, (0, 0, 0, 0, 0), []),
  (8, .iaload, 1, (0, 0, 0, 0, 0), []),
  (9, .if_icmp .ge 34, 3, (26, 0, 0, 0, 0), []),
  (12, .aload_n 0, 1, (0, 0, 0, 0, 0), []),
  (13, .iload_n 1, 1, (0, 0, 0, 0, 0), []),
  (14, .iload_n 3, 1, (0, 0, 0, 0, 0), []),
  (15, .invokevirtual 48, 3, (96, 3, 0, 0, 3086), []),
  (18, .istore 4, 2, (0, 0, 0, 0, 0), []),
  (20, .iload 4, 2, (0, 0, 0, 0, 0), []),
  (22, .iconst (-1), 1, (0, 0, 0, 0, 0), []),
  (23, .if_icmp .eq 14, 3, (24, 0, 0, 0, 0), []),
  (26, .iload_n 2, 1, (0, 0, 0, 0, 0), []),
  (27, .iload 4, 2, (0, 0, 0, 0, 0), []),
  (29, .ishr, 1, (0, 0, 0, 0, 0), []),
  (30, .iconst 1, 1, (0, 0, 0, 0, 0), []),
  (31, .iand, 1, (0, 0, 0, 0, 0), []),
  (32, .ifCond .ne 5, 3, (24, 0, 0, 0, 0), []),
  (35, .iconst 0, 1, (0, 0, 0, 0, 0), []),
  (36, .ireturn, 1, (3, 0, 0, 0, 0), []),
  (37, .iinc 3 1, 3, (0, 0, 0, 0, 0), []),
  (40, .goto (-38), 3, (2, 0, 0, 0, 0), []),
  (43, .iconst 1, 1, (0, 0, 0, 0, 0), []),
  (44, .ireturn, 1, (3, 0, 0, 0, 0), [])]
noncomputable def ai_o104 : List ai_E := [
  (0, .aload_n 0, 1, (0, 0, 0, 0, 0), []),
  (1, .invokespecial 3, 3, (1000, 0, 0, 1, 1071), []),
  (4, .aload_n 0, 1, (0, 0, 0, 0, 0), []),
  (5, .iconst 5, 1, (0, 0, 0, 0, 0), []),
  (6, .newarray .int, 2, (0, 0, 0, 0, 0), []),
  (8, .putfield 9, 3, (8, 0, 2, 0, 1072), []),
  (11, .aload_n 0, 1, (0, 0, 0, 0, 0), []),
  (12, .sipush 300, 3, (0, 0, 0, 0, 0), []),
  (15, .newarray .long, 2, (1, 0, 0, 0, 0), []),
  (17, .putfield 15, 3, (8, 1, 2, 0, 1073), []),
  (20, .aload_n 0, 1, (0, 0, 0, 0, 0), []),
  (21, .bipush 60, 2, (0, 0, 0, 0, 0), []),
  (23, .newarray .int, 2, (0, 0, 0, 0, 0), []),
  (25, .putfield 19, 3, (8, 2, 2, 0, 1074), []),
  (28, .return_, 1, (0, 0, 0, 0, 0), [])]
noncomputable def ai_o105 : List ai_E := [
  (0, .aload_n 0, 1, (0, 0, 0, 0, 0), []),
  (1, .getfield 9, 3, (8, 0, 2, 0, 1072), []),
  (4, .iload_n 1, 1, (0, 0, 0, 0, 0), []),
  (5, .iaload, 1, (0, 0, 0, 0, 0), []),
  (6, .ireturn, 1, (0, 0, 0, 0, 0), [])]
noncomputable def ai_o106 : List ai_E := [
  (0, .aload_n 0, 1, (0, 0, 0, 0, 0), []),
  (1, .getfield 15, 3, (8, 1, 2, 0, 1073), []),
  (4, .iload_n 1, 1, (0, 0, 0, 0, 0), []),
  (5, .bipush 12, 2, (0, 0, 0, 0, 0), []),
  (7, .imul, 1, (0, 0, 0, 0, 0), []),
  (8, .iload_n 2, 1, (0, 0, 0, 0, 0), []),
  (9, .iadd, 1, (0, 0, 0, 0, 0), []),
  (10, .iconst 5, 1, (0, 0, 0, 0, 0), []),
  (11, .imul, 1, (0, 0, 0, 0, 0), []),
  (12, .iload_n 3, 1, (0, 0, 0, 0, 0), []),
  (13, .iadd, 1, (0, 0, 0, 0, 0), []),
  (14, .laload, 1, (0, 0, 0, 0, 0), []),
  (15, .lreturn, 1, (0, 0, 0, 0, 0), [])]
noncomputable def ai_o107 : List ai_E := [
  (0, .aload_n 0, 1, (0, 0, 0, 0, 0), []),
  (1, .getfield 19, 3, (8, 2, 2, 0, 1074), []),
  (4, .iload_n 1, 1, (0, 0, 0, 0, 0), []),
  (5, .bipush 12, 2, (0, 0, 0, 0, 0), []),
  (7, .imul, 1, (0, 0, 0, 0, 0), []),
  (8, .iload_n 2, 1, (0, 0, 0, 0, 0), []),
  (9, .iadd, 1, (0, 0, 0, 0, 0), []),
  (10, .iaload, 1, (0, 0, 0, 0, 0), []),
  (11, .iload_n 3, 1, (0, 0, 0, 0, 0), []),
  (12, .ishr, 1, (0, 0, 0, 0, 0), []),
  (13, .iconst 1, 1, (0, 0, 0, 0, 0), []),
  (14, .iand, 1, (0, 0, 0, 0, 0), []),
  (15, .ifCond .eq 7, 3, (15, 0, 0, 0, 0), []),
  (18, .iconst 1, 1, (0, 0, 0, 0, 0), []),
  (19, .goto 4, 3, (16, 0, 0, 0, 0), []),
  (22, .iconst 0, 1, (0, 0, 0, 0, 0), []),
  (23, .ireturn, 1, (3, 0, 0, 0, 0), [])]
noncomputable def ai_o108 : List ai_E := [
  (0, .iconst 0, 1, (0, 0, 0, 0, 0), []),
  (1, .istore 4, 2, (0, 0, 0, 0, 0), []),
  (3, .iload 4, 2, (0, 0, 0, 0, 0), [true, true, true, false, true]),
  (5, .aload_n 0, 1, (0, 0, 0, 0, 0), []),
  (6, .getfield 9, 3, (8, 0, 2, 0, 1072), []),
  (9, .iload_n 1, 1, (0, 0, 0, 0, 0), []),
  (10, .iaload, 1, (0, 0, 0, 0, 0), []),
  (11, .if_icmp .ge 33, 3, (27, 0, 0, 0, 0), []),
  (14, .aload_n 0, 1, (0, 0, 0, 0, 0), []),
  (15, .getfield 15, 3, (8, 1, 2, 0, 1073), []),
  (18, .iload_n 1, 1, (0, 0, 0, 0, 0), []),
  (19, .bipush 12, 2, (0, 0, 0, 0, 0), []),
  (21, .imul, 1, (0, 0, 0, 0, 0), []),
  (22, .iload 4, 2, (0, 0, 0, 0, 0), []),
  (24, .iadd, 1, (0, 0, 0, 0, 0), []),
  (25, .iconst 5, 1, (0, 0, 0, 0, 0), []),
  (26, .imul, 1, (0, 0, 0, 0, 0), []),
  (27, .iconst 0, 1, (0, 0, 0, 0, 0), []),
  (28, .iadd, 1, (0, 0, 0, 0, 0), []),
  (29, .laload, 1, (0, 0, 0, 0, 0), []),
  (30, .lload_n 2, 1, (0, 0, 0, 0, 0), []),
  (31, .lcmp, 1, (0, 0, 0, 0, 0), []),
  (32, .ifCond .ne 6, 3, (25, 0, 0, 0, 0), []),
  (35, .iload 4, 2, (0, 0, 0, 0, 0), []),
  (37, .ireturn, 1, (0, 0, 0, 0, 0), []),
  (38, .iinc 4 1, 3, (0, 0, 0, 0, 0), []),
  (41, .goto (-38), 3, (2, 0, 0, 0, 0), []),
  (44, .iconst (-1), 1, (0, 0, 0, 0, 0), []),
  (45, .ireturn, 1, (0, 0, 0, 0, 0), [])]
noncomputable def ai_o109 : List ai_E := [
  (0, .iconst 0, 1, (0, 0, 0, 0, 0), []),
  (1, .istore 6, 2, (0, 0, 0, 0, 0), []),
  (3, .iload 6, 2, (0, 0, 0, 0, 0), [true, true, true, true, false, true, true, false, false]),
  (5, .aload_n 0, 1, (0, 0, 0, 0, 0), []),
  (6, .getfield 9, 3, (8, 0, 2, 0, 1072), []),
  (9, .iload_n 1, 1, (0, 0, 0, 0, 0), []),
  (10, .iaload, 1, (0, 0, 0, 0, 0), []),
  (11, .if_icmp .ge 69, 3, (47, 0, 0, 0, 0), []),
  (14, .iload_n 1, 1, (0, 0, 0, 0, 0), []),
  (15, .bipush 12, 2, (0, 0, 0, 0, 0), []),
  (17, .imul, 1, (0, 0, 0, 0, 0), []),
  (18, .iload 6, 2, (0, 0, 0, 0, 0), []),
  (20, .iadd, 1, (0, 0, 0, 0, 0), []),
  (21, .istore 7, 2, (0, 0, 0, 0, 0), []),
  (23, .aload_n 0, 1, (0, 0, 0, 0, 0), []),
  (24, .getfield 19, 3, (8, 2, 2, 0, 1074), []),
  (27, .iload 7, 2, (0, 0, 0, 0, 0), []),
  (29, .iaload, 1, (0, 0, 0, 0, 0), []),
  (30, .iload_n 2, 1, (0, 0, 0, 0, 0), []),
  (31, .ishr, 1, (0, 0, 0, 0, 0), []),
  (32, .iconst 1, 1, (0, 0, 0, 0, 0), []),
  (33, .iand, 1, (0, 0, 0, 0, 0), []),
  (34, .ifCond .eq 7, 3, (25, 0, 0, 0, 0), []),
  (37, .iconst 1, 1, (0, 0, 0, 0, 0), []),
  (38, .goto 4, 3, (26, 0, 0, 0, 0), []),
  (41, .iconst 0, 1, (0, 0, 0, 0, 0), []),
  (42, .istore 8, 2, (0, 0, 0, 0, 0), []),
  (44, .iload 6, 2, (0, 0, 0, 0, 0), []),
  (46, .iload 5, 2, (0, 0, 0, 0, 0), []),
  (48, .if_icmp .eq 26, 3, (45, 0, 0, 0, 0), []),
  (51, .iload 8, 2, (0, 0, 0, 0, 0), []),
  (53, .ifCond .ne 21, 3, (45, 0, 0, 0, 0), []),
  (56, .aload_n 0, 1, (0, 0, 0, 0, 0), []),
  (57, .getfield 15, 3, (8, 1, 2, 0, 1073), []),
  (60, .iload 7, 2, (0, 0, 0, 0, 0), []),
  (62, .iconst 5, 1, (0, 0, 0, 0, 0), []),
  (63, .imul, 1, (0, 0, 0, 0, 0), []),
  (64, .iload_n 2, 1, (0, 0, 0, 0, 0), []),
  (65, .iadd, 1, (0, 0, 0, 0, 0), []),
  (66, .laload, 1, (0, 0, 0, 0, 0), []),
  (67, .lload_n 3, 1, (0, 0, 0, 0, 0), []),
  (68, .lcmp, 1, (0, 0, 0, 0, 0), []),
  (69, .ifCond .ne 5, 3, (45, 0, 0, 0, 0), []),
  (72, .iconst 1, 1, (0, 0, 0, 0, 0), []),
  (73, .ireturn, 1, (3, 0, 0, 0, 0), []),
  (74, .iinc 6 1, 3, (0, 0, 0, 0, 0), []),
  (77, .goto (-74), 3, (2, 0, 0, 0, 0), []),
  (80, .iconst 0, 1, (0, 0, 0, 0, 0), []),
  (81, .ireturn, 1, (3, 0, 0, 0, 0), [])]
noncomputable def ai_o110 : List ai_E := [
  (0, .aload_n 0, 1, (0, 0, 0, 0, 0), []),
  (1, .getfield 9, 3, (8, 0, 2, 0, 1072), []),
  (4, .iload_n 1, 1, (0, 0, 0, 0, 0), []),
  (5, .iaload, 1, (0, 0, 0, 0, 0), []),
  (6, .istore_n 3, 1, (0, 0, 0, 0, 0), []),
  (7, .iload_n 3, 1, (0, 0, 0, 0, 0), []),
  (8, .bipush 12, 2, (0, 0, 0, 0, 0), []),
  (10, .if_icmp .lt 4, 3, (9, 0, 0, 0, 0), []),
  (13, .return_, 1, (0, 0, 0, 0, 0), []),
  (14, .iload_n 3, 1, (0, 0, 0, 0, 0), [true, true, true, true]),
  (15, .ifCond .le 37, 3, (33, 0, 0, 0, 0), []),
  (18, .aload_n 0, 1, (0, 0, 0, 0, 0), []),
  (19, .iload_n 1, 1, (0, 0, 0, 0, 0), []),
  (20, .iload_n 3, 1, (0, 0, 0, 0, 0), []),
  (21, .iconst 1, 1, (0, 0, 0, 0, 0), []),
  (22, .isub, 1, (0, 0, 0, 0, 0), []),
  (23, .iconst 0, 1, (0, 0, 0, 0, 0), []),
  (24, .invokevirtual 22, 3, (106, 4, 0, 0, 4022), []),
  (27, .aload_n 2, 1, (0, 0, 0, 0, 0), []),
  (28, .getfield 26, 3, (6, 0, 2, 0, 1114), []),
  (31, .iconst 0, 1, (0, 0, 0, 0, 0), []),
  (32, .laload, 1, (0, 0, 0, 0, 0), []),
  (33, .lcmp, 1, (0, 0, 0, 0, 0), []),
  (34, .ifCond .le 18, 3, (33, 0, 0, 0, 0), []),
  (37, .aload_n 0, 1, (0, 0, 0, 0, 0), []),
  (38, .iload_n 1, 1, (0, 0, 0, 0, 0), []),
  (39, .iload_n 3, 1, (0, 0, 0, 0, 0), []),
  (40, .iconst 1, 1, (0, 0, 0, 0, 0), []),
  (41, .isub, 1, (0, 0, 0, 0, 0), []),
  (42, .iload_n 3, 1, (0, 0, 0, 0, 0), []),
  (43, .invokevirtual 29, 3, (114, 4, 0, 0, 3217), []),
  (46, .iinc 3 (-1), 3, (0, 0, 0, 0, 0), []),
  (49, .goto (-35), 3, (9, 0, 0, 0, 0), []),
  (52, .aload_n 0, 1, (0, 0, 0, 0, 0), []),
  (53, .getfield 9, 3, (8, 0, 2, 0, 1072), []),
  (56, .iload_n 1, 1, (0, 0, 0, 0, 0), []),
  (57, .dup2, 1, (0, 0, 0, 0, 0), []),
  (58, .iaload, 1, (0, 0, 0, 0, 0), []),
  (59, .iconst 1, 1, (0, 0, 0, 0, 0), []),
  (60, .iadd, 1, (0, 0, 0, 0, 0), []),
  (61, .iastore, 1, (0, 0, 0, 0, 0), []),
  (62, .aload_n 0, 1, (0, 0, 0, 0, 0), []),
  (63, .iload_n 1, 1, (0, 0, 0, 0, 0), []),
  (64, .iload_n 3, 1, (0, 0, 0, 0, 0), []),
  (65, .aload_n 2, 1, (0, 0, 0, 0, 0), []),
  (66, .invokevirtual 33, 3, (111, 4, 0, 0, 4023), []),
  (69, .return_, 1, (0, 0, 0, 0, 0), [])]
noncomputable def ai_o111 : List ai_E := [
  (0, .iload_n 1, 1, (0, 0, 0, 0, 0), []),
  (1, .bipush 12, 2, (0, 0, 0, 0, 0), []),
  (3, .imul, 1, (0, 0, 0, 0, 0), []),
  (4, .iload_n 2, 1, (0, 0, 0, 0, 0), []),
  (5, .iadd, 1, (0, 0, 0, 0, 0), []),
  (6, .istore 4, 2, (0, 0, 0, 0, 0), []),
  (8, .aload_n 3, 1, (0, 0, 0, 0, 0), []),
  (9, .getfield 26, 3, (6, 0, 2, 0, 1114), []),
  (12, .iconst 0, 1, (0, 0, 0, 0, 0), []),
  (13, .aload_n 0, 1, (0, 0, 0, 0, 0), []),
  (14, .getfield 15, 3, (8, 1, 2, 0, 1073), []),
  (17, .iload 4, 2, (0, 0, 0, 0, 0), []),
  (19, .iconst 5, 1, (0, 0, 0, 0, 0), []),
  (20, .imul, 1, (0, 0, 0, 0, 0), []),
  (21, .iconst 5, 1, (0, 0, 0, 0, 0), []),
  (22, .invokestatic 37, 3, (1001, 0, 0, 1, 3121), []),
  (25, .aload_n 0, 1, (0, 0, 0, 0, 0), []),
  (26, .getfield 19, 3, (8, 2, 2, 0, 1074), []),
  (29, .iload 4, 2, (0, 0, 0, 0, 0), []),
  (31, .aload_n 3, 1, (0, 0, 0, 0, 0), []),
  (32, .getfield 43, 3, (6, 1, 0, 0, 1117), []),
  (35, .iastore, 1, (0, 0, 0, 0, 0), []),
  (36, .return_, 1, (0, 0, 0, 0, 0), [])]
noncomputable def ai_o112 : List ai_E := [
  (0, .iload_n 2, 1, (0, 0, 0, 0, 0), []),
  (1, .iconst 1, 1, (0, 0, 0, 0, 0), []),
  (2, .iadd, 1, (0, 0, 0, 0, 0), []),
  (3, .istore_n 3, 1, (0, 0, 0, 0, 0), []),
  (4, .iload_n 3, 1, (0, 0, 0, 0, 0), [true, true, false, true]),
  (5, .aload_n 0, 1, (0, 0, 0, 0, 0), []),
  (6, .getfield 9, 3, (8, 0, 2, 0, 1072), []),
  (9, .iload_n 1, 1, (0, 0, 0, 0, 0), []),
  (10, .iaload, 1, (0, 0, 0, 0, 0), []),
  (11, .if_icmp .ge 18, 3, (19, 0, 0, 0, 0), []),
  (14, .aload_n 0, 1, (0, 0, 0, 0, 0), []),
  (15, .iload_n 1, 1, (0, 0, 0, 0, 0), []),
  (16, .iload_n 3, 1, (0, 0, 0, 0, 0), []),
  (17, .iload_n 3, 1, (0, 0, 0, 0, 0), []),
  (18, .iconst 1, 1, (0, 0, 0, 0, 0), []),
  (19, .isub, 1, (0, 0, 0, 0, 0), []),
  (20, .invokevirtual 29, 3, (114, 4, 0, 0, 3217), []),
  (23, .iinc 3 1, 3, (0, 0, 0, 0, 0), []),
  (26, .goto (-22), 3, (4, 0, 0, 0, 0), []),
  (29, .aload_n 0, 1, (0, 0, 0, 0, 0), []),
  (30, .getfield 9, 3, (8, 0, 2, 0, 1072), []),
  (33, .iload_n 1, 1, (0, 0, 0, 0, 0), []),
  (34, .dup2, 1, (0, 0, 0, 0, 0), []),
  (35, .iaload, 1, (0, 0, 0, 0, 0), []),
  (36, .iconst 1, 1, (0, 0, 0, 0, 0), []),
  (37, .isub, 1, (0, 0, 0, 0, 0), []),
  (38, .iastore, 1, (0, 0, 0, 0, 0), []),
  (39, .return_, 1, (0, 0, 0, 0, 0), [])]
noncomputable def ai_o113 : List ai_E := [
  (0, .aload_n 0, 1, (0, 0, 0, 0, 0), []),
  (1, .getfield 9, 3, (8, 0, 2, 0, 1072), []),
  (4, .iload_n 1, 1, (0, 0, 0, 0, 0), []),
  (5, .iconst 0, 1, (0, 0, 0, 0, 0), []),
  (6, .iastore, 1, (0, 0, 0, 0, 0), []),
  (7, .return_, 1, (0, 0, 0, 0, 0), [])]
noncomputable def ai_o114 : List ai_E := [
  (0, .iload_n 1, 1, (0, 0, 0, 0, 0), []),
  (1, .bipush 12, 2, (0, 0, 0, 0, 0), []),
  (3, .imul, 1, (0, 0, 0, 0, 0), []),
  (4, .iload_n 2, 1, (0, 0, 0, 0, 0), []),
  (5, .iadd, 1, (0, 0, 0, 0, 0), []),
  (6, .istore 4, 2, (0, 0, 0, 0, 0), []),
  (8, .iload_n 1, 1, (0, 0, 0, 0, 0), []),
  (9, .bipush 12, 2, (0, 0, 0, 0, 0), []),
  (11, .imul, 1, (0, 0, 0, 0, 0), []),
  (12, .iload_n 3, 1, (0, 0, 0, 0, 0), []),
  (13, .iadd, 1, (0, 0, 0, 0, 0), []),
  (14, .istore 5, 2, (0, 0, 0, 0, 0), []),
  (16, .aload_n 0, 1, (0, 0, 0, 0, 0), []),
  (17, .getfield 15, 3, (8, 1, 2, 0, 1073), []),
  (20, .iload 4, 2, (0, 0, 0, 0, 0), []),
  (22, .iconst 5, 1, (0, 0, 0, 0, 0), []),
  (23, .imul, 1, (0, 0, 0, 0, 0), []),
  (24, .aload_n 0, 1, (0, 0, 0, 0, 0), []),
  (25, .getfield 15, 3, (8, 1, 2, 0, 1073), []),
  (28, .iload 5, 2, (0, 0, 0, 0, 0), []),
  (30, .iconst 5, 1, (0, 0, 0, 0, 0), []),
  (31, .imul, 1, (0, 0, 0, 0, 0), []),
  (32, .iconst 5, 1, (0, 0, 0, 0, 0), []),
  (33, .invokestatic 37, 3, (1001, 0, 0, 1, 3121), []),
  (36, .aload_n 0, 1, (0, 0, 0, 0, 0), []),
  (37, .getfield 19, 3, (8, 2, 2, 0, 1074), []),
  (40, .iload 5, 2, (0, 0, 0, 0, 0), []),
  (42, .aload_n 0, 1, (0, 0, 0, 0, 0), []),
  (43, .getfield 19, 3, (8, 2, 2, 0, 1074), []),
  (46, .iload 4, 2, (0, 0, 0, 0, 0), []),
  (48, .iaload, 1, (0, 0, 0, 0, 0), []),
  (49, .iastore, 1, (0, 0, 0, 0, 0), []),
  (50, .return_, 1, (0, 0, 0, 0, 0), [])]
noncomputable def ai_o115 : List ai_E := [
  (0, .aload_n 1, 1, (0, 0, 0, 0, 0), []),
  (1, .getfield 9, 3, (8, 0, 2, 0, 1072), []),
  (4, .iconst 0, 1, (0, 0, 0, 0, 0), []),
  (5, .aload_n 0, 1, (0, 0, 0, 0, 0), []),
  (6, .getfield 9, 3, (8, 0, 2, 0, 1072), []),
  (9, .iconst 0, 1, (0, 0, 0, 0, 0), []),
  (10, .aload_n 0, 1, (0, 0, 0, 0, 0), []),
  (11, .getfield 9, 3, (8, 0, 2, 0, 1072), []),
  (14, .arraylength, 1, (0, 0, 0, 0, 0), []),
  (15, .invokestatic 37, 3, (1001, 0, 0, 1, 3121), []),
  (18, .aload_n 1, 1, (0, 0, 0, 0, 0), []),
  (19, .getfield 15, 3, (8, 1, 2, 0, 1073), []),
  (22, .iconst 0, 1, (0, 0, 0, 0, 0), []),
  (23, .aload_n 0, 1, (0, 0, 0, 0, 0), []),
  (24, .getfield 15, 3, (8, 1, 2, 0, 1073), []),
  (27, .iconst 0, 1, (0, 0, 0, 0, 0), []),
  (28, .aload_n 0, 1, (0, 0, 0, 0, 0), []),
  (29, .getfield 15, 3, (8, 1, 2, 0, 1073), []),
  (32, .arraylength, 1, (0, 0, 0, 0, 0), []),
  (33, .invokestatic 37, 3, (1001, 0, 0, 1, 3121), []),
  (36, .aload_n 1, 1, (0, 0, 0, 0, 0), []),
  (37, .getfield 19, 3, (8, 2, 2, 0, 1074), []),
  (40, .iconst 0, 1, (0, 0, 0, 0, 0), []),
  (41, .aload_n 0, 1, (0, 0, 0, 0, 0), []),
  (42, .getfield 19, 3, (8, 2, 2, 0, 1074), []),
  (45, .iconst 0, 1, (0, 0, 0, 0, 0), []),
  (46, .aload_n 0, 1, (0, 0, 0, 0, 0), []),
  (47, .getfield 19, 3, (8, 2, 2, 0, 1074), []),
  (50, .arraylength, 1, (0, 0, 0, 0, 0), []),
  (51, .invokestatic 37, 3, (1001, 0, 0, 1, 3121), []),
  (54, .return_, 1, (0, 0, 0, 0, 0), [])]
noncomputable def ai_o116 : List ai_E := [
  (0, .aload_n 0, 1, (0, 0, 0, 0, 0), []),
  (1, .invokespecial 5, 3, (1000, 0, 0, 1, 1204), []),
  (4, .aload_n 0, 1, (0, 0, 0, 0, 0), []),
  (5, .iconst 0, 1, (0, 0, 0, 0, 0), []),
  (6, .putfield 11, 3, (9, 0, 0, 0, 1205), []),
  (9, .aload_n 0, 1, (0, 0, 0, 0, 0), []),
  (10, .sipush 1149, 3, (0, 0, 0, 0, 0), []),
  (13, .newarray .char, 2, (3, 0, 0, 0, 0), []),
  (15, .putfield 15, 3, (9, 1, 2, 0, 1207), []),
  (18, .return_, 1, (0, 0, 0, 0, 0), [])]
noncomputable def ai_o117 : List ai_E := [
  (0, .aload_n 0, 1, (0, 0, 0, 0, 0), []),
  (1, .iconst 0, 1, (0, 0, 0, 0, 0), []),
  (2, .putfield 11, 3, (9, 0, 0, 0, 1205), []),
  (5, .aload_n 0, 1, (0, 0, 0, 0, 0), []),
  (6, .bipush 48, 2, (0, 0, 0, 0, 0), []),
  (8, .iload_n 2, 1, (0, 0, 0, 0, 0), []),
  (9, .iadd, 1, (0, 0, 0, 0, 0), []),
  (10, .invokevirtual 19, 3, (125, 2, 0, 0, 4200), []),
  (13, .aload_n 0, 1, (0, 0, 0, 0, 0), []),
  (14, .bipush 40, 2, (0, 0, 0, 0, 0), []),
  (16, .invokevirtual 19, 3, (125, 2, 0, 0, 4200), []),
  (19, .iconst 0, 1, (0, 0, 0, 0, 0), []),
  (20, .istore_n 3, 1, (0, 0, 0, 0, 0), []),
  (21, .iload_n 3, 1, (0, 0, 0, 0, 0), [true, true, true, true]),
  (22, .aload_n 1, 1, (0, 0, 0, 0, 0), []),
  (23, .getfield 23, 3, (2, 0, 2, 0, 1125), []),
  (26, .iload_n 2, 1, (0, 0, 0, 0, 0), []),
  (27, .invokevirtual 29, 3, (94, 2, 0, 0, 4204), []),
  (30, .if_icmp .ge 17, 3, (26, 0, 0, 0, 0), []),
  (33, .aload_n 0, 1, (0, 0, 0, 0, 0), []),
  (34, .bipush 48, 2, (0, 0, 0, 0, 0), []),
  (36, .iload_n 3, 1, (0, 0, 0, 0, 0), []),
  (37, .iadd, 1, (0, 0, 0, 0, 0), []),
  (38, .invokevirtual 19, 3, (125, 2, 0, 0, 4200), []),
  (41, .iinc 3 1, 3, (0, 0, 0, 0, 0), []),
  (44, .goto (-23), 3, (13, 0, 0, 0, 0), []),
  (47, .aload_n 0, 1, (0, 0, 0, 0, 0), []),
  (48, .bipush 41, 2, (0, 0, 0, 0, 0), []),
  (50, .invokevirtual 19, 3, (125, 2, 0, 0, 4200), []),
  (53, .iconst 0, 1, (0, 0, 0, 0, 0), []),
  (54, .istore_n 3, 1, (0, 0, 0, 0, 0), []),
  (55, .iload_n 3, 1, (0, 0, 0, 0, 0), [true, true, true, true]),
  (56, .aload_n 1, 1, (0, 0, 0, 0, 0), []),
  (57, .getfield 35, 3, (2, 1, 2, 0, 1128), []),
  (60, .iload_n 2, 1, (0, 0, 0, 0, 0), []),
  (61, .invokevirtual 39, 3, (105, 2, 0, 0, 4205), []),
  (64, .if_icmp .ge 16, 3, (44, 0, 0, 0, 0), []),
  (67, .aload_n 0, 1, (0, 0, 0, 0, 0), []),
  (68, .aload_n 1, 1, (0, 0, 0, 0, 0), []),
  (69, .iload_n 2, 1, (0, 0, 0, 0, 0), []),
  (70, .iload_n 3, 1, (0, 0, 0, 0, 0), []),
  (71, .invokevirtual 44, 3, (118, 4, 0, 0, 4206), []),
  (74, .iinc 3 1, 3, (0, 0, 0, 0, 0), []),
  (77, .goto (-22), 3, (31, 0, 0, 0, 0), []),
  (80, .aload_n 0, 1, (0, 0, 0, 0, 0), []),
  (81, .bipush 59, 2, (0, 0, 0, 0, 0), []),
  (83, .invokevirtual 19, 3, (125, 2, 0, 0, 4200), []),
  (86, .return_, 1, (0, 0, 0, 0, 0), [])]
noncomputable def ai_o118 : List ai_E := [
  (0, .iconst 0, 1, (0, 0, 0, 0, 0), []),
  (1, .istore 4, 2, (0, 0, 0, 0, 0), []),
  (3, .iload 4, 2, (0, 0, 0, 0, 0), [true, true, true, true, true]),
  (5, .aload_n 1, 1, (0, 0, 0, 0, 0), []),
  (6, .getfield 23, 3, (2, 0, 2, 0, 1125), []),
  (9, .iload_n 2, 1, (0, 0, 0, 0, 0), []),
  (10, .invokevirtual 29, 3, (94, 2, 0, 0, 4204), []),
  (13, .if_icmp .ge 73, 3, (41, 0, 0, 0, 0), []),
  (16, .aload_n 0, 1, (0, 0, 0, 0, 0), []),
  (17, .iload 4, 2, (0, 0, 0, 0, 0), []),
  (19, .ifCond .ne 8, 3, (13, 0, 0, 0, 0), []),
  (22, .bipush 58, 2, (0, 0, 0, 0, 0), []),
  (24, .goto 5, 3, (14, 0, 0, 0, 0), []),
  (27, .bipush 44, 2, (0, 0, 0, 0, 0), []),
  (29, .invokevirtual 19, 3, (125, 2, 0, 0, 4200), []),
  (32, .aload_n 1, 1, (0, 0, 0, 0, 0), []),
  (33, .getfield 35, 3, (2, 1, 2, 0, 1128), []),
  (36, .iload_n 2, 1, (0, 0, 0, 0, 0), []),
  (37, .iload_n 3, 1, (0, 0, 0, 0, 0), []),
  (38, .iload 4, 2, (0, 0, 0, 0, 0), []),
  (40, .invokevirtual 48, 3, (107, 4, 0, 0, 4210), []),
  (43, .ifCond .eq 12, 3, (26, 0, 0, 0, 0), []),
  (46, .aload_n 0, 1, (0, 0, 0, 0, 0), []),
  (47, .bipush 126, 2, (0, 0, 0, 0, 0), []),
  (49, .invokevirtual 19, 3, (125, 2, 0, 0, 4200), []),
  (52, .goto 28, 3, (39, 0, 0, 0, 0), []),
  (55, .aload_n 0, 1, (0, 0, 0, 0, 0), []),
  (56, .aload_n 1, 1, (0, 0, 0, 0, 0), []),
  (57, .getfield 23, 3, (2, 0, 2, 0, 1125), []),
  (60, .iload_n 2, 1, (0, 0, 0, 0, 0), []),
  (61, .iload 4, 2, (0, 0, 0, 0, 0), []),
  (63, .invokevirtual 52, 3, (95, 3, 0, 0, 4211), []),
  (66, .aload_n 1, 1, (0, 0, 0, 0, 0), []),
  (67, .getfield 35, 3, (2, 1, 2, 0, 1128), []),
  (70, .iload_n 2, 1, (0, 0, 0, 0, 0), []),
  (71, .iload_n 3, 1, (0, 0, 0, 0, 0), []),
  (72, .iload 4, 2, (0, 0, 0, 0, 0), []),
  (74, .invokevirtual 56, 3, (106, 4, 0, 0, 4212), []),
  (77, .invokevirtual 60, 3, (119, 3, 0, 0, 4213), []),
  (80, .iinc 4 1, 3, (0, 0, 0, 0, 0), []),
  (83, .goto (-80), 3, (2, 0, 0, 0, 0), []),
  (86, .return_, 1, (0, 0, 0, 0, 0), [])]
noncomputable def ai_o119 : List ai_E := [
  (0, .iload_n 1, 1, (0, 0, 0, 0, 0), []),
  (1, .iconst 3, 1, (0, 0, 0, 0, 0), []),
  (2, .if_icmp .ne 23, 3, (13, 0, 0, 0, 0), []),
  (5, .aload_n 0, 1, (0, 0, 0, 0, 0), []),
  (6, .lload_n 2, 1, (0, 0, 0, 0, 0), []),
  (7, .lconst 1, 1, (0, 0, 0, 0, 0), []),
  (8, .lcmp, 1, (0, 0, 0, 0, 0), []),
  (9, .ifCond .ne 8, 3, (10, 0, 0, 0, 0), []),
  (12, .bipush 116, 2, (0, 0, 0, 0, 0), []),
  (14, .goto 5, 3, (11, 0, 0, 0, 0), []),
  (17, .bipush 102, 2, (0, 0, 0, 0, 0), []),
  (19, .invokevirtual 19, 3, (125, 2, 0, 0, 4200), []),
  (22, .goto 22, 3, (24, 0, 0, 0, 0), []),
  (25, .iload_n 1, 1, (0, 0, 0, 0, 0), []),
  (26, .iconst 2, 1, (0, 0, 0, 0, 0), []),
  (27, .if_icmp .ne 11, 3, (20, 0, 0, 0, 0), []),
  (30, .aload_n 0, 1, (0, 0, 0, 0, 0), []),
  (31, .lload_n 2, 1, (0, 0, 0, 0, 0), []),
  (32, .invokevirtual 64, 3, (122, 2, 0, 0, 4217), []),
  (35, .goto 9, 3, (24, 0, 0, 0, 0), []),
  (38, .aload_n 0, 1, (0, 0, 0, 0, 0), []),
  (39, .iload_n 1, 1, (0, 0, 0, 0, 0), []),
  (40, .lload_n 2, 1, (0, 0, 0, 0, 0), []),
  (41, .invokevirtual 68, 3, (120, 3, 0, 0, 4227), []),
  (44, .return_, 1, (0, 0, 0, 0, 0), [])]
noncomputable def ai_o120 : List ai_E := [
  (0, .lload_n 2, 1, (0, 0, 0, 0, 0), []),
  (1, .invokestatic 71, 3, (1002, 0, 0, 1, 4231), []),
  (4, .lstore 4, 2, (0, 0, 0, 0, 0), []),
  (6, .lload_n 2, 1, (0, 0, 0, 0, 0), []),
  (7, .lconst 0, 1, (0, 0, 0, 0, 0), []),
  (8, .lcmp, 1, (0, 0, 0, 0, 0), []),
  (9, .ifCond .ge 9, 3, (10, 0, 0, 0, 0), []),
  (12, .aload_n 0, 1, (0, 0, 0, 0, 0), []),
  (13, .bipush 45, 2, (0, 0, 0, 0, 0), []),
  (15, .invokevirtual 19, 3, (125, 2, 0, 0, 4200), []),
  (18, .iload_n 1, 1, (0, 0, 0, 0, 0), []),
  (19, .ifCond .ne 12, 3, (16, 0, 0, 0, 0), []),
  (22, .aload_n 0, 1, (0, 0, 0, 0, 0), []),
  (23, .lload 4, 2, (0, 0, 0, 0, 0), []),
  (25, .invokevirtual 77, 3, (121, 2, 0, 0, 4232), []),
  (28, .goto 53, 3, (42, 0, 0, 0, 0), []),
  (31, .aload_n 0, 1, (0, 0, 0, 0, 0), []),
  (32, .lload 4, 2, (0, 0, 0, 0, 0), []),
  (34, .ldc2_w 80, 3, (0, 100, 0, 0, 4238), []),
  (37, .ldiv, 1, (0, 0, 0, 0, 0), []),
  (38, .invokevirtual 77, 3, (121, 2, 0, 0, 4232), []),
  (41, .aload_n 0, 1, (0, 0, 0, 0, 0), []),
  (42, .bipush 46, 2, (0, 0, 0, 0, 0), []),
  (44, .invokevirtual 19, 3, (125, 2, 0, 0, 4200), []),
  (47, .aload_n 0, 1, (0, 0, 0, 0, 0), []),
  (48, .ldc2_w 82, 3, (0, 48, 0, 0, 4237), []),
  (51, .lload 4, 2, (0, 0, 0, 0, 0), []),
  (53, .ldc2_w 84, 3, (0, 10, 0, 0, 4236), []),
  (56, .ldiv, 1, (0, 0, 0, 0, 0), []),
  (57, .ldc2_w 84, 3, (0, 10, 0, 0, 4236), []),
  (60, .lrem, 1, (0, 0, 0, 0, 0), []),
  (61, .ladd, 1, (0, 0, 0, 0, 0), []),
  (62, .l2i, 1, (0, 0, 0, 0, 0), []),
  (63, .invokevirtual 19, 3, (125, 2, 0, 0, 4200), []),
  (66, .aload_n 0, 1, (0, 0, 0, 0, 0), []),
  (67, .ldc2_w 82, 3, (0, 48, 0, 0, 4237), []),
  (70, .lload 4, 2, (0, 0, 0, 0, 0), []),
  (72, .ldc2_w 84, 3, (0, 10, 0, 0, 4236), []),
  (75, .lrem, 1, (0, 0, 0, 0, 0), []),
  (76, .ladd, 1, (0, 0, 0, 0, 0), []),
  (77, .l2i, 1, (0, 0, 0, 0, 0), []),
  (78, .invokevirtual 19, 3, (125, 2, 0, 0, 4200), []),
  (81, .return_, 1, (0, 0, 0, 0, 0), [])]
noncomputable def ai_o121 : List ai_E := [
  (0, .lconst 1, 1, (0, 0, 0, 0, 0), []),
  (1, .lstore_n 3, 1, (0, 0, 0, 0, 0), []),
  (2, .iconst 1, 1, (0, 0, 0, 0, 0), []),
  (3, .istore 5, 2, (0, 0, 0, 0, 0), []),
  (5, .iload 5, 2, (0, 0, 0, 0, 0), [true, true, false, true, false, true]),
  (7, .bipush 9, 2, (0, 0, 0, 0, 0), []),
  (9, .if_icmp .ge 25, 3, (19, 0, 0, 0, 0), []),
  (12, .lload_n 1, 1, (0, 0, 0, 0, 0), []),
  (13, .lload_n 3, 1, (0, 0, 0, 0, 0), []),
  (14, .ldiv, 1, (0, 0, 0, 0, 0), []),
  (15, .ldc2_w 84, 3, (0, 10, 0, 0, 4236), []),
  (18, .lcmp, 1, (0, 0, 0, 0, 0), []),
  (19, .ifCond .lt 15, 3, (19, 0, 0, 0, 0), []),
  (22, .lload_n 3, 1, (0, 0, 0, 0, 0), []),
  (23, .ldc2_w 84, 3, (0, 10, 0, 0, 4236), []),
  (26, .lmul, 1, (0, 0, 0, 0, 0), []),
  (27, .lstore_n 3, 1, (0, 0, 0, 0, 0), []),
  (28, .iinc 5 1, 3, (0, 0, 0, 0, 0), []),
  (31, .goto (-26), 3, (4, 0, 0, 0, 0), []),
  (34, .lload_n 3, 1, (0, 0, 0, 0, 0), [true, true, false, true, false, false]),
  (35, .lconst 0, 1, (0, 0, 0, 0, 0), []),
  (36, .lcmp, 1, (0, 0, 0, 0, 0), []),
  (37, .ifCond .le 28, 3, (38, 0, 0, 0, 0), []),
  (40, .aload_n 0, 1, (0, 0, 0, 0, 0), []),
  (41, .ldc2_w 82, 3, (0, 48, 0, 0, 4237), []),
  (44, .lload_n 1, 1, (0, 0, 0, 0, 0), []),
  (45, .lload_n 3, 1, (0, 0, 0, 0, 0), []),
  (46, .ldiv, 1, (0, 0, 0, 0, 0), []),
  (47, .ldc2_w 84, 3, (0, 10, 0, 0, 4236), []),
  (50, .lrem, 1, (0, 0, 0, 0, 0), []),
  (51, .ladd, 1, (0, 0, 0, 0, 0), []),
  (52, .l2i, 1, (0, 0, 0, 0, 0), []),
  (53, .invokevirtual 19, 3, (125, 2, 0, 0, 4200), []),
  (56, .lload_n 3, 1, (0, 0, 0, 0, 0), []),
  (57, .ldc2_w 84, 3, (0, 10, 0, 0, 4236), []),
  (60, .ldiv, 1, (0, 0, 0, 0, 0), []),
  (61, .lstore_n 3, 1, (0, 0, 0, 0, 0), []),
  (62, .goto (-28), 3, (19, 0, 0, 0, 0), []),
  (65, .return_, 1, (0, 0, 0, 0, 0), [])]
noncomputable def ai_o122 : List ai_E := [
  (0, .lload_n 1, 1, (0, 0, 0, 0, 0), []),
  (1, .invokestatic 86, 3, (123, 1, 0, 0, 4221), []),
  (4, .istore_n 3, 1, (0, 0, 0, 0, 0), []),
  (5, .iload_n 3, 1, (0, 0, 0, 0, 0), []),
  (6, .ifCond .ne 9, 3, (8, 0, 0, 0, 0), []),
  (9, .aload_n 0, 1, (0, 0, 0, 0, 0), []),
  (10, .bipush 39, 2, (0, 0, 0, 0, 0), []),
  (12, .invokevirtual 19, 3, (125, 2, 0, 0, 4200), []),
  (15, .iconst 0, 1, (0, 0, 0, 0, 0), []),
  (16, .istore 4, 2, (0, 0, 0, 0, 0), []),
  (18, .iload 4, 2, (0, 0, 0, 0, 0), [true, true, false, true, true]),
  (20, .bipush 8, 2, (0, 0, 0, 0, 0), []),
  (22, .if_icmp .ge 45, 3, (32, 0, 0, 0, 0), []),
  (25, .lload_n 1, 1, (0, 0, 0, 0, 0), []),
  (26, .iload 4, 2, (0, 0, 0, 0, 0), []),
  (28, .invokestatic 90, 3, (124, 2, 0, 0, 4224), []),
  (31, .ifCond .eq 36, 3, (32, 0, 0, 0, 0), []),
  (34, .aload_n 0, 1, (0, 0, 0, 0, 0), []),
  (35, .lload_n 1, 1, (0, 0, 0, 0, 0), []),
  (36, .iload 4, 2, (0, 0, 0, 0, 0), []),
  (38, .invokestatic 90, 3, (124, 2, 0, 0, 4224), []),
  (41, .invokevirtual 19, 3, (125, 2, 0, 0, 4200), []),
  (44, .lload_n 1, 1, (0, 0, 0, 0, 0), []),
  (45, .iload 4, 2, (0, 0, 0, 0, 0), []),
  (47, .invokestatic 90, 3, (124, 2, 0, 0, 4224), []),
  (50, .bipush 39, 2, (0, 0, 0, 0, 0), []),
  (52, .if_icmp .ne 9, 3, (30, 0, 0, 0, 0), []),
  (55, .aload_n 0, 1, (0, 0, 0, 0, 0), []),
  (56, .bipush 39, 2, (0, 0, 0, 0, 0), []),
  (58, .invokevirtual 19, 3, (125, 2, 0, 0, 4200), []),
  (61, .iinc 4 1, 3, (0, 0, 0, 0, 0), []),
  (64, .goto (-46), 3, (10, 0, 0, 0, 0), []),
  (67, .iload_n 3, 1, (0, 0, 0, 0, 0), []),
  (68, .ifCond .ne 9, 3, (37, 0, 0, 0, 0), []),
  (71, .aload_n 0, 1, (0, 0, 0, 0, 0), []),
  (72, .bipush 39, 2, (0, 0, 0, 0, 0), []),
  (74, .invokevirtual 19, 3, (125, 2, 0, 0, 4200), []),
  (77, .return_, 1, (0, 0, 0, 0, 0), [])]
noncomputable def ai_o123 : List ai_E := [
  (0, .iconst 0, 1, (0, 0, 0, 0, 0), []),
  (1, .istore_n 2, 1, (0, 0, 0, 0, 0), []),
  (2, .iload_n 2, 1, (0, 0, 0, 0, 0), [true, false, true, false]),
  (3, .bipush 8, 2, (0, 0, 0, 0, 0), []),
  (5, .if_icmp .ge 43, 3, (27, 0, 0, 0, 0), []),
  (8, .lload_n 0, 1, (0, 0, 0, 0, 0), []),
  (9, .iload_n 2, 1, (0, 0, 0, 0, 0), []),
  (10, .invokestatic 90, 3, (124, 2, 0, 0, 4224), []),
  (13, .istore_n 3, 1, (0, 0, 0, 0, 0), []),
  (14, .iload_n 3, 1, (0, 0, 0, 0, 0), []),
  (15, .ifCond .ne 13, 3, (17, 0, 0, 0, 0), []),
  (18, .iload_n 2, 1, (0, 0, 0, 0, 0), []),
  (19, .ifCond .le 7, 3, (15, 0, 0, 0, 0), []),
  (22, .iconst 1, 1, (0, 0, 0, 0, 0), []),
  (23, .goto 4, 3, (16, 0, 0, 0, 0), []),
  (26, .iconst 0, 1, (0, 0, 0, 0, 0), []),
  (27, .ireturn, 1, (3, 0, 0, 0, 0), []),
  (28, .iload_n 3, 1, (0, 0, 0, 0, 0), []),
  (29, .bipush 97, 2, (0, 0, 0, 0, 0), []),
  (31, .if_icmp .lt 9, 3, (23, 0, 0, 0, 0), []),
  (34, .iload_n 3, 1, (0, 0, 0, 0, 0), []),
  (35, .bipush 122, 2, (0, 0, 0, 0, 0), []),
  (37, .if_icmp .le 5, 3, (25, 0, 0, 0, 0), []),
  (40, .iconst 0, 1, (0, 0, 0, 0, 0), []),
  (41, .ireturn, 1, (3, 0, 0, 0, 0), []),
  (42, .iinc 2 1, 3, (0, 0, 0, 0, 0), []),
  (45, .goto (-43), 3, (2, 0, 0, 0, 0), []),
  (48, .iconst 1, 1, (0, 0, 0, 0, 0), []),
  (49, .ireturn, 1, (3, 0, 0, 0, 0), [])]
noncomputable def ai_o124 : List ai_E := [
  (0, .lload_n 0, 1, (0, 0, 0, 0, 0), []),
  (1, .bipush 7, 2, (0, 0, 0, 0, 0), []),
  (3, .bipush 7, 2, (0, 0, 0, 0, 0), []),
  (5, .iload_n 2, 1, (0, 0, 0, 0, 0), []),
  (6, .isub, 1, (0, 0, 0, 0, 0), []),
  (7, .imul, 1, (0, 0, 0, 0, 0), []),
  (8, .lshr, 1, (0, 0, 0, 0, 0), []),
  (9, .l2i, 1, (0, 0, 0, 0, 0), []),
  (10, .bipush 127, 2, (0, 0, 0, 0, 0), []),
  (12, .iand, 1, (0, 0, 0, 0, 0), []),
  (13, .ireturn, 1, (0, 0, 0, 0, 0), [])]
noncomputable def ai_o125 : List ai_E := [
  (0, .aload_n 0, 1, (0, 0, 0, 0, 0), []),
  (1, .getfield 11, 3, (9, 0, 0, 0, 1205), []),
  (4, .aload_n 0, 1, (0, 0, 0, 0, 0), []),
  (5, .getfield 15, 3, (9, 1, 2, 0, 1207), []),
  (8, .arraylength, 1, (0, 0, 0, 0, 0), []),
  (9, .if_icmp .ge 24, 3, (19, 0, 0, 0, 0), []),
  (12, .aload_n 0, 1, (0, 0, 0, 0, 0), []),
  (13, .getfield 15, 3, (9, 1, 2, 0, 1207), []),
  (16, .aload_n 0, 1, (0, 0, 0, 0, 0), []),
  (17, .getfield 11, 3, (9, 0, 0, 0, 1205), []),
  (20, .iload_n 1, 1, (0, 0, 0, 0, 0), []),
  (21, .i2c, 1, (0, 0, 0, 0, 0), []),
  (22, .castore, 1, (0, 0, 0, 0, 0), []),
  (23, .aload_n 0, 1, (0, 0, 0, 0, 0), []),
  (24, .dup, 1, (0, 0, 0, 0, 0), []),
  (25, .getfield 11, 3, (9, 0, 0, 0, 1205), []),
  (28, .iconst 1, 1, (0, 0, 0, 0, 0), []),
  (29, .iadd, 1, (0, 0, 0, 0, 0), []),
  (30, .putfield 11, 3, (9, 0, 0, 0, 1205), []),
  (33, .return_, 1, (0, 0, 0, 0, 0), [])]
noncomputable def ai_o126 : List ai_E := [
  (0, .aload_n 0, 1, (0, 0, 0, 0, 0), []),
  (1, .invokespecial 1, 3, (1000, 0, 0, 1, 5012), []),
  (4, .aload_n 0, 1, (0, 0, 0, 0, 0), []),
  (5, .iconst 5, 1, (0, 0, 0, 0, 0), []),
  (6, .newarray .int, 2, (0, 0, 0, 0, 0), []),
  (8, .putfield 7, 3, (10, 2, 2, 0, 5015), []),
  (11, .aload_n 0, 1, (0, 0, 0, 0, 0), []),
  (12, .bipush 25, 2, (0, 0, 0, 0, 0), []),
  (14, .newarray .int, 2, (0, 0, 0, 0, 0), []),
  (16, .putfield 13, 3, (10, 3, 2, 0, 5016), []),
  (19, .aload_n 0, 1, (0, 0, 0, 0, 0), []),
  (20, .bipush 25, 2, (0, 0, 0, 0, 0), []),
  (22, .newarray .boolean, 2, (2, 0, 0, 0, 0), []),
  (24, .putfield 16, 3, (10, 4, 2, 0, 5017), []),
  (27, .aload_n 0, 1, (0, 0, 0, 0, 0), []),
  (28, .bipush 25, 2, (0, 0, 0, 0, 0), []),
  (30, .newarray .int, 2, (0, 0, 0, 0, 0), []),
  (32, .putfield 20, 3, (10, 5, 2, 0, 5018), []),
  (35, .aload_n 0, 1, (0, 0, 0, 0, 0), []),
  (36, .iconst 5, 1, (0, 0, 0, 0, 0), []),
  (37, .newarray .int, 2, (0, 0, 0, 0, 0), []),
  (39, .putfield 23, 3, (10, 6, 2, 0, 5019), []),
  (42, .aload_n 0, 1, (0, 0, 0, 0, 0), []),
  (43, .sipush 300, 3, (0, 0, 0, 0, 0), []),
  (46, .newarray .long, 2, (1, 0, 0, 0, 0), []),
  (48, .putfield 26, 3, (10, 7, 2, 0, 5020), []),
  (51, .aload_n 0, 1, (0, 0, 0, 0, 0), []),
  (52, .sipush 300, 3, (0, 0, 0, 0, 0), []),
  (55, .newarray .boolean, 2, (2, 0, 0, 0, 0), []),
  (57, .putfield 30, 3, (10, 8, 2, 0, 5021), []),
  (60, .aload_n 0, 1, (0, 0, 0, 0, 0), []),
  (61, .sipush 1200, 3, (0, 0, 0, 0, 0), []),
  (64, .newarray .long, 2, (1, 0, 0, 0, 0), []),
  (66, .putfield 33, 3, (10, 9, 2, 0, 5022), []),
  (69, .aload_n 0, 1, (0, 0, 0, 0, 0), []),
  (70, .sipush 1200, 3, (0, 0, 0, 0, 0), []),
  (73, .newarray .boolean, 2, (2, 0, 0, 0, 0), []),
  (75, .putfield 36, 3, (10, 10, 2, 0, 5023), []),
  (78, .aload_n 0, 1, (0, 0, 0, 0, 0), []),
  (79, .bipush 20, 2, (0, 0, 0, 0, 0), []),
  (81, .newarray .int, 2, (0, 0, 0, 0, 0), []),
  (83, .putfield 39, 3, (10, 11, 2, 0, 5024), []),
  (86, .aload_n 0, 1, (0, 0, 0, 0, 0), []),
  (87, .iconst 4, 1, (0, 0, 0, 0, 0), []),
  (88, .newarray .int, 2, (0, 0, 0, 0, 0), []),
  (90, .putfield 42, 3, (10, 12, 2, 0, 5025), []),
  (93, .aload_n 0, 1, (0, 0, 0, 0, 0), []),
  (94, .bipush 120, 2, (0, 0, 0, 0, 0), []),
  (96, .newarray .int, 2, (0, 0, 0, 0, 0), []),
  (98, .putfield 45, 3, (10, 16, 2, 0, 5029), []),
  (101, .aload_n 0, 1, (0, 0, 0, 0, 0), []),
  (102, .iconst (-1), 1, (0, 0, 0, 0, 0), []),
  (103, .putfield 48, 3, (10, 18, 0, 0, 5031), []),
  (106, .aload_n 0, 1, (0, 0, 0, 0, 0), []),
  (107, .bipush 6, 2, (0, 0, 0, 0, 0), []),
  (109, .newarray .int, 2, (0, 0, 0, 0, 0), []),
  (111, .putfield 52, 3, (10, 22, 2, 0, 5035), []),
  (114, .aload_n 0, 1, (0, 0, 0, 0, 0), []),
  (115, .bipush 6, 2, (0, 0, 0, 0, 0), []),
  (117, .newarray .int, 2, (0, 0, 0, 0, 0), []),
  (119, .putfield 55, 3, (10, 23, 2, 0, 5036), []),
  (122, .aload_n 0, 1, (0, 0, 0, 0, 0), []),
  (123, .bipush 7, 2, (0, 0, 0, 0, 0), []),
  (125, .newarray .int, 2, (0, 0, 0, 0, 0), []),
  (127, .putfield 58, 3, (10, 24, 2, 0, 5037), []),
  (130, .aload_n 0, 1, (0, 0, 0, 0, 0), []),
  (131, .bipush 30, 2, (0, 0, 0, 0, 0), []),
  (133, .newarray .int, 2, (0, 0, 0, 0, 0), []),
  (135, .putfield 61, 3, (10, 25, 2, 0, 5038), []),
  (138, .aload_n 0, 1, (0, 0, 0, 0, 0), []),
  (139, .bipush 120, 2, (0, 0, 0, 0, 0), []),
  (141, .newarray .long, 2, (1, 0, 0, 0, 0), []),
  (143, .putfield 64, 3, (10, 26, 2, 0, 5039), []),
  (146, .aload_n 0, 1, (0, 0, 0, 0, 0), []),
  (147, .bipush 120, 2, (0, 0, 0, 0, 0), []),
  (149, .newarray .boolean, 2, (2, 0, 0, 0, 0), []),
  (151, .putfield 67, 3, (10, 27, 2, 0, 5040), []),
  (154, .aload_n 0, 1, (0, 0, 0, 0, 0), []),
  (155, .bipush 6, 2, (0, 0, 0, 0, 0), []),
  (157, .newarray .int, 2, (0, 0, 0, 0, 0), []),
  (159, .putfield 70, 3, (10, 30, 2, 0, 5043), []),
  (162, .aload_n 0, 1, (0, 0, 0, 0, 0), []),
  (163, .bipush 6, 2, (0, 0, 0, 0, 0), []),
  (165, .newarray .int, 2, (0, 0, 0, 0, 0), []),
  (167, .putfield 73, 3, (10, 31, 2, 0, 5044), []),
  (170, .aload_n 0, 1, (0, 0, 0, 0, 0), []),
  (171, .bipush 7, 2, (0, 0, 0, 0, 0), []),
  (173, .newarray .int, 2, (0, 0, 0, 0, 0), []),
  (175, .putfield 76, 3, (10, 32, 2, 0, 5045), []),
  (178, .aload_n 0, 1, (0, 0, 0, 0, 0), []),
  (179, .bipush 30, 2, (0, 0, 0, 0, 0), []),
  (181, .newarray .int, 2, (0, 0, 0, 0, 0), []),
  (183, .putfield 79, 3, (10, 33, 2, 0, 5046), []),
  (186, .aload_n 0, 1, (0, 0, 0, 0, 0), []),
  (187, .bipush 120, 2, (0, 0, 0, 0, 0), []),
  (189, .newarray .long, 2, (1, 0, 0, 0, 0), []),
  (191, .putfield 82, 3, (10, 34, 2, 0, 5047), []),
  (194, .aload_n 0, 1, (0, 0, 0, 0, 0), []),
  (195, .bipush 120, 2, (0, 0, 0, 0, 0), []),
  (197, .newarray .boolean, 2, (2, 0, 0, 0, 0), []),
  (199, .putfield 85, 3, (10, 35, 2, 0, 5048), []),
  (202, .aload_n 0, 1, (0, 0, 0, 0, 0), []),
  (203, .iconst 5, 1, (0, 0, 0, 0, 0), []),
  (204, .newarray .int, 2, (0, 0, 0, 0, 0), []),
  (206, .putfield 88, 3, (10, 36, 2, 0, 5049), []),
  (209, .aload_n 0, 1, (0, 0, 0, 0, 0), []),
  (210, .iconst 4, 1, (0, 0, 0, 0, 0), []),
  (211, .newarray .int, 2, (0, 0, 0, 0, 0), []),
  (213, .dup, 1, (0, 0, 0, 0, 0), []),
  (214, .iconst 0, 1, (0, 0, 0, 0, 0), []),
  (215, .iconst 0, 1, (0, 0, 0, 0, 0), []),
  (216, .iastore, 1, (0, 0, 0, 0, 0), []),
  (217, .dup, 1, (0, 0, 0, 0, 0), []),
  (218, .iconst 1, 1, (0, 0, 0, 0, 0), []),
  (219, .iconst (-1), 1, (0, 0, 0, 0, 0), []),
  (220, .iastore, 1, (0, 0, 0, 0, 0), []),
  (221, .dup, 1, (0, 0, 0, 0, 0), []),
  (222, .iconst 2, 1, (0, 0, 0, 0, 0), []),
  (223, .iconst (-1), 1, (0, 0, 0, 0, 0), []),
  (224, .iastore, 1, (0, 0, 0, 0, 0), []),
  (225, .dup, 1, (0, 0, 0, 0, 0), []),
  (226, .iconst 3, 1, (0, 0, 0, 0, 0), []),
  (227, .iconst (-1), 1, (0, 0, 0, 0, 0), []),
  (228, .iastore, 1, (0, 0, 0, 0, 0), []),
  (229, .putfield 91, 3, (10, 38, 2, 0, 5051), []),
  (232, .aload_n 0, 1, (0, 0, 0, 0, 0), []),
  (233, .iconst 5, 1, (0, 0, 0, 0, 0), []),
  (234, .newarray .long, 2, (1, 0, 0, 0, 0), []),
  (236, .putfield 94, 3, (10, 39, 2, 0, 5052), []),
  (239, .aload_n 0, 1, (0, 0, 0, 0, 0), []),
  (240, .iconst 5, 1, (0, 0, 0, 0, 0), []),
  (241, .newarray .boolean, 2, (2, 0, 0, 0, 0), []),
  (243, .putfield 97, 3, (10, 40, 2, 0, 5053), []),
  (246, .aload_n 0, 1, (0, 0, 0, 0, 0), []),
  (247, .bipush 60, 2, (0, 0, 0, 0, 0), []),
  (249, .newarray .int, 2, (0, 0, 0, 0, 0), []),
  (251, .putfield 100, 3, (10, 43, 2, 0, 5056), []),
  (254, .aload_n 0, 1, (0, 0, 0, 0, 0), []),
  (255, .bipush 24, 2, (0, 0, 0, 0, 0), []),
  (257, .newarray .int, 2, (0, 0, 0, 0, 0), []),
  (259, .putfield 103, 3, (10, 44, 2, 0, 5057), []),
  (262, .aload_n 0, 1, (0, 0, 0, 0, 0), []),
  (263, .sipush 1300, 3, (0, 0, 0, 0, 0), []),
  (266, .newarray .int, 2, (0, 0, 0, 0, 0), []),
  (268, .putfield 106, 3, (10, 46, 2, 0, 5059), []),
  (271, .return_, 1, (0, 0, 0, 0, 0), [])]
noncomputable def ai_o127 : List ai_E := [
  (0, .aload_n 0, 1, (0, 0, 0, 0, 0), []),
  (1, .getfield 109, 3, (10, 0, 0, 0, 5013), []),
  (4, .ireturn, 1, (0, 0, 0, 0, 0), [])]
noncomputable def ai_o128 : List ai_E := [
  (0, .aload_n 0, 1, (0, 0, 0, 0, 0), []),
  (1, .iload_n 1, 1, (0, 0, 0, 0, 0), []),
  (2, .putfield 109, 3, (10, 0, 0, 0, 5013), []),
  (5, .iconst 0, 1, (0, 0, 0, 0, 0), []),
  (6, .ireturn, 1, (0, 0, 0, 0, 0), [])]
noncomputable def ai_o129 : List ai_E := [
  (0, .iload_n 1, 1, (0, 0, 0, 0, 0), []),
  (1, .ifCond .lt 15, 3, (8, 0, 0, 0, 0), []),
  (4, .iload_n 1, 1, (0, 0, 0, 0, 0), []),
  (5, .aload_n 0, 1, (0, 0, 0, 0, 0), []),
  (6, .getfield 112, 3, (10, 1, 0, 0, 5014), []),
  (9, .if_icmp .ge 7, 3, (8, 0, 0, 0, 0), []),
  (12, .iconst 1, 1, (0, 0, 0, 0, 0), []),
  (13, .goto 4, 3, (9, 0, 0, 0, 0), []),
  (16, .iconst 0, 1, (0, 0, 0, 0, 0), []),
  (17, .ireturn, 1, (3, 0, 0, 0, 0), [])]
noncomputable def ai_o130 : List ai_E := [
  (0, .aload_n 0, 1, (0, 0, 0, 0, 0), []),
  (1, .aload_n 0, 1, (0, 0, 0, 0, 0), []),
  (2, .getfield 112, 3, (10, 1, 0, 0, 5014), []),
  (5, .iconst 5, 1, (0, 0, 0, 0, 0), []),
  (6, .if_icmp .ne 7, 3, (7, 0, 0, 0, 0), []),
  (9, .iconst 1, 1, (0, 0, 0, 0, 0), []),
  (10, .goto 4, 3, (8, 0, 0, 0, 0), []),
  (13, .iconst 0, 1, (0, 0, 0, 0, 0), []),
  (14, .putfield 109, 3, (10, 0, 0, 0, 5013), []),
  (17, .aload_n 0, 1, (0, 0, 0, 0, 0), []),
  (18, .getfield 109, 3, (10, 0, 0, 0, 5013), []),
  (21, .ifCond .le 5, 3, (14, 0, 0, 0, 0), []),
  (24, .iconst 0, 1, (0, 0, 0, 0, 0), []),
  (25, .ireturn, 1, (0, 0, 0, 0, 0), []),
  (26, .aload_n 0, 1, (0, 0, 0, 0, 0), []),
  (27, .getfield 7, 3, (10, 2, 2, 0, 5015), []),
  (30, .aload_n 0, 1, (0, 0, 0, 0, 0), []),
  (31, .getfield 112, 3, (10, 1, 0, 0, 5014), []),
  (34, .iconst 0, 1, (0, 0, 0, 0, 0), []),
  (35, .iastore, 1, (0, 0, 0, 0, 0), []),
  (36, .aload_n 0, 1, (0, 0, 0, 0, 0), []),
  (37, .getfield 23, 3, (10, 6, 2, 0, 5019), []),
  (40, .aload_n 0, 1, (0, 0, 0, 0, 0), []),
  (41, .getfield 112, 3, (10, 1, 0, 0, 5014), []),
  (44, .iconst 0, 1, (0, 0, 0, 0, 0), []),
  (45, .iastore, 1, (0, 0, 0, 0, 0), []),
  (46, .aload_n 0, 1, (0, 0, 0, 0, 0), []),
  (47, .dup, 1, (0, 0, 0, 0, 0), []),
  (48, .getfield 112, 3, (10, 1, 0, 0, 5014), []),
  (51, .iconst 1, 1, (0, 0, 0, 0, 0), []),
  (52, .iadd, 1, (0, 0, 0, 0, 0), []),
  (53, .putfield 112, 3, (10, 1, 0, 0, 5014), []),
  (56, .aload_n 0, 1, (0, 0, 0, 0, 0), []),
  (57, .getfield 112, 3, (10, 1, 0, 0, 5014), []),
  (60, .iconst 1, 1, (0, 0, 0, 0, 0), []),
  (61, .isub, 1, (0, 0, 0, 0, 0), []),
  (62, .ireturn, 1, (0, 0, 0, 0, 0), [])]
noncomputable def ai_o131 : List ai_E := [
  (0, .iload_n 1, 1, (0, 0, 0, 0, 0), []),
  (1, .iconst (-1), 1, (0, 0, 0, 0, 0), []),
  (2, .if_icmp .ne 5, 3, (5, 0, 0, 0, 0), []),
  (5, .iconst 1, 1, (0, 0, 0, 0, 0), []),
  (6, .ireturn, 1, (3, 0, 0, 0, 0), []),
  (7, .aload_n 0, 1, (0, 0, 0, 0, 0), []),
  (8, .iload_n 1, 1, (0, 0, 0, 0, 0), []),
  (9, .invokevirtual 115, 3, (129, 2, 0, 0, 5167), []),
  (12, .ifCond .ne 5, 3, (11, 0, 0, 0, 0), []),
  (15, .iconst 0, 1, (0, 0, 0, 0, 0), []),
  (16, .ireturn, 1, (3, 0, 0, 0, 0), []),
  (17, .aload_n 0, 1, (0, 0, 0, 0, 0), []),
  (18, .getfield 7, 3, (10, 2, 2, 0, 5015), []),
  (21, .iload_n 1, 1, (0, 0, 0, 0, 0), []),
  (22, .iaload, 1, (0, 0, 0, 0, 0), []),
  (23, .ifCond .le 23, 3, (28, 0, 0, 0, 0), []),
  (26, .aload_n 0, 1, (0, 0, 0, 0, 0), []),
  (27, .getfield 13, 3, (10, 3, 2, 0, 5016), []),
  (30, .iconst 5, 1, (0, 0, 0, 0, 0), []),
  (31, .iload_n 1, 1, (0, 0, 0, 0, 0), []),
  (32, .imul, 1, (0, 0, 0, 0, 0), []),
  (33, .iaload, 1, (0, 0, 0, 0, 0), []),
  (34, .iload_n 3, 1, (0, 0, 0, 0, 0), []),
  (35, .if_icmp .ne 7, 3, (26, 0, 0, 0, 0), []),
  (38, .iconst 1, 1, (0, 0, 0, 0, 0), []),
  (39, .goto 17, 3, (34, 0, 0, 0, 0), []),
  (42, .iconst 0, 1, (0, 0, 0, 0, 0), []),
  (43, .goto 13, 3, (34, 0, 0, 0, 0), []),
  (46, .iload_n 1, 1, (0, 0, 0, 0, 0), []),
  (47, .iload_n 2, 1, (0, 0, 0, 0, 0), []),
  (48, .if_icmp .ne 7, 3, (33, 0, 0, 0, 0), []),
  (51, .iconst 1, 1, (0, 0, 0, 0, 0), []),
  (52, .goto 4, 3, (34, 0, 0, 0, 0), []),
  (55, .iconst 0, 1, (0, 0, 0, 0, 0), []),
  (56, .ireturn, 1, (3, 0, 0, 0, 0), [])]
noncomputable def ai_o132 : List ai_E := [
  (0, .aload_n 0, 1, (0, 0, 0, 0, 0), []),
  (1, .aload_n 0, 1, (0, 0, 0, 0, 0), []),
  (2, .iload_n 1, 1, (0, 0, 0, 0, 0), []),
  (3, .invokevirtual 115, 3, (129, 2, 0, 0, 5167), []),
  (6, .ifCond .eq 23, 3, (16, 0, 0, 0, 0), []),
  (9, .iload_n 2, 1, (0, 0, 0, 0, 0), []),
  (10, .ifCond .lt 19, 3, (16, 0, 0, 0, 0), []),
  (13, .iload_n 2, 1, (0, 0, 0, 0, 0), []),
  (14, .iconst 3, 1, (0, 0, 0, 0, 0), []),
  (15, .if_icmp .gt 14, 3, (16, 0, 0, 0, 0), []),
  (18, .aload_n 0, 1, (0, 0, 0, 0, 0), []),
  (19, .iload 4, 2, (0, 0, 0, 0, 0), []),
  (21, .iload_n 1, 1, (0, 0, 0, 0, 0), []),
  (22, .iload_n 2, 1, (0, 0, 0, 0, 0), []),
  (23, .invokevirtual 119, 3, (131, 4, 0, 0, 5171), []),
  (26, .ifCond .ne 7, 3, (18, 0, 0, 0, 0), []),
  (29, .iconst 1, 1, (0, 0, 0, 0, 0), []),
  (30, .goto 34, 3, (35, 0, 0, 0, 0), []),
  (33, .aload_n 0, 1, (0, 0, 0, 0, 0), []),
  (34, .getfield 7, 3, (10, 2, 2, 0, 5015), []),
  (37, .iload_n 1, 1, (0, 0, 0, 0, 0), []),
  (38, .iaload, 1, (0, 0, 0, 0, 0), []),
  (39, .iconst 5, 1, (0, 0, 0, 0, 0), []),
  (40, .if_icmp .eq 19, 3, (32, 0, 0, 0, 0), []),
  (43, .aload_n 0, 1, (0, 0, 0, 0, 0), []),
  (44, .getfield 23, 3, (10, 6, 2, 0, 5019), []),
  (47, .iload_n 1, 1, (0, 0, 0, 0, 0), []),
  (48, .iaload, 1, (0, 0, 0, 0, 0), []),
  (49, .ifCond .gt 10, 3, (32, 0, 0, 0, 0), []),
  (52, .aload_n 0, 1, (0, 0, 0, 0, 0), []),
  (53, .getfield 123, 3, (10, 13, 0, 0, 5026), []),
  (56, .ifCond .le 7, 3, (34, 0, 0, 0, 0), []),
  (59, .iconst 2, 1, (0, 0, 0, 0, 0), []),
  (60, .goto 4, 3, (35, 0, 0, 0, 0), []),
  (63, .iconst 0, 1, (0, 0, 0, 0, 0), []),
  (64, .putfield 109, 3, (10, 0, 0, 0, 5013), []),
  (67, .aload_n 0, 1, (0, 0, 0, 0, 0), []),
  (68, .getfield 109, 3, (10, 0, 0, 0, 5013), []),
  (71, .ifCond .le 5, 3, (41, 0, 0, 0, 0), []),
  (74, .iconst 0, 1, (0, 0, 0, 0, 0), []),
  (75, .ireturn, 1, (0, 0, 0, 0, 0), []),
  (76, .iconst 5, 1, (0, 0, 0, 0, 0), []),
  (77, .iload_n 1, 1, (0, 0, 0, 0, 0), []),
  (78, .imul, 1, (0, 0, 0, 0, 0), []),
  (79, .aload_n 0, 1, (0, 0, 0, 0, 0), []),
  (80, .getfield 7, 3, (10, 2, 2, 0, 5015), []),
  (83, .iload_n 1, 1, (0, 0, 0, 0, 0), []),
  (84, .iaload, 1, (0, 0, 0, 0, 0), []),
  (85, .iadd, 1, (0, 0, 0, 0, 0), []),
  (86, .istore 5, 2, (0, 0, 0, 0, 0), []),
  (88, .aload_n 0, 1, (0, 0, 0, 0, 0), []),
  (89, .getfield 13, 3, (10, 3, 2, 0, 5016), []),
  (92, .iload 5, 2, (0, 0, 0, 0, 0), []),
  (94, .iload_n 2, 1, (0, 0, 0, 0, 0), []),
  (95, .iastore, 1, (0, 0, 0, 0, 0), []),
  (96, .aload_n 0, 1, (0, 0, 0, 0, 0), []),
  (97, .getfield 16, 3, (10, 4, 2, 0, 5017), []),
  (100, .iload 5, 2, (0, 0, 0, 0, 0), []),
  (102, .iload_n 3, 1, (0, 0, 0, 0, 0), []),
  (103, .bastore, 1, (0, 0, 0, 0, 0), []),
  (104, .aload_n 0, 1, (0, 0, 0, 0, 0), []),
  (105, .getfield 20, 3, (10, 5, 2, 0, 5018), []),
  (108, .iload 5, 2, (0, 0, 0, 0, 0), []),
  (110, .iload 4, 2, (0, 0, 0, 0, 0), []),
  (112, .iastore, 1, (0, 0, 0, 0, 0), []),
  (113, .aload_n 0, 1, (0, 0, 0, 0, 0), []),
  (114, .getfield 7, 3, (10, 2, 2, 0, 5015), []),
  (117, .iload_n 1, 1, (0, 0, 0, 0, 0), []),
  (118, .dup2, 1, (0, 0, 0, 0, 0), []),
  (119, .iaload, 1, (0, 0, 0, 0, 0), []),
  (120, .iconst 1, 1, (0, 0, 0, 0, 0), []),
  (121, .iadd, 1, (0, 0, 0, 0, 0), []),
  (122, .iastore, 1, (0, 0, 0, 0, 0), []),
  (123, .aload_n 0, 1, (0, 0, 0, 0, 0), []),
  (124, .iconst 0, 1, (0, 0, 0, 0, 0), []),
  (125, .putfield 126, 3, (10, 19, 3, 0, 5032), []),
  (128, .aload_n 0, 1, (0, 0, 0, 0, 0), []),
  (129, .iconst 0, 1, (0, 0, 0, 0, 0), []),
  (130, .putfield 130, 3, (10, 42, 3, 0, 5055), []),
  (133, .aload_n 0, 1, (0, 0, 0, 0, 0), []),
  (134, .getfield 7, 3, (10, 2, 2, 0, 5015), []),
  (137, .iload_n 1, 1, (0, 0, 0, 0, 0), []),
  (138, .iaload, 1, (0, 0, 0, 0, 0), []),
  (139, .iconst 1, 1, (0, 0, 0, 0, 0), []),
  (140, .isub, 1, (0, 0, 0, 0, 0), []),
  (141, .ireturn, 1, (0, 0, 0, 0, 0), [])]
noncomputable def ai_o133 : List ai_E := [
  (0, .aload_n 0, 1, (0, 0, 0, 0, 0), []),
  (1, .iconst 0, 1, (0, 0, 0, 0, 0), []),
  (2, .putfield 109, 3, (10, 0, 0, 0, 5013), []),
  (5, .aload_n 0, 1, (0, 0, 0, 0, 0), []),
  (6, .getfield 133, 3, (10, 15, 0, 0, 5028), []),
  (9, .bipush 120, 2, (0, 0, 0, 0, 0), []),
  (11, .if_icmp .ne 5, 3, (9, 0, 0, 0, 0), []),
  (14, .iconst 0, 1, (0, 0, 0, 0, 0), []),
  (15, .ireturn, 1, (3, 0, 0, 0, 0), []),
  (16, .aload_n 0, 1, (0, 0, 0, 0, 0), []),
  (17, .getfield 45, 3, (10, 16, 2, 0, 5029), []),
  (20, .aload_n 0, 1, (0, 0, 0, 0, 0), []),
  (21, .getfield 133, 3, (10, 15, 0, 0, 5028), []),
  (24, .iload_n 1, 1, (0, 0, 0, 0, 0), []),
  (25, .iastore, 1, (0, 0, 0, 0, 0), []),
  (26, .aload_n 0, 1, (0, 0, 0, 0, 0), []),
  (27, .dup, 1, (0, 0, 0, 0, 0), []),
  (28, .getfield 133, 3, (10, 15, 0, 0, 5028), []),
  (31, .iconst 1, 1, (0, 0, 0, 0, 0), []),
  (32, .iadd, 1, (0, 0, 0, 0, 0), []),
  (33, .putfield 133, 3, (10, 15, 0, 0, 5028), []),
  (36, .iconst 1, 1, (0, 0, 0, 0, 0), []),
  (37, .ireturn, 1, (3, 0, 0, 0, 0), [])]
noncomputable def ai_o134 : List ai_E := [
  (0, .aload_n 0, 1, (0, 0, 0, 0, 0), []),
  (1, .iconst 0, 1, (0, 0, 0, 0, 0), []),
  (2, .putfield 109, 3, (10, 0, 0, 0, 5013), []),
  (5, .aload_n 0, 1, (0, 0, 0, 0, 0), []),
  (6, .iconst 0, 1, (0, 0, 0, 0, 0), []),
  (7, .putfield 133, 3, (10, 15, 0, 0, 5028), []),
  (10, .return_, 1, (0, 0, 0, 0, 0), [])]
noncomputable def ai_o135 : List ai_E := [
  (0, .aload_n 0, 1, (0, 0, 0, 0, 0), []),
  (1, .getfield 136, 3, (10, 17, 0, 0, 5030), []),
  (4, .aload_n 0, 1, (0, 0, 0, 0, 0), []),
  (5, .getfield 133, 3, (10, 15, 0, 0, 5028), []),
  (8, .if_icmp .ge 15, 3, (11, 0, 0, 0, 0), []),
  (11, .aload_n 0, 1, (0, 0, 0, 0, 0), []),
  (12, .getfield 45, 3, (10, 16, 2, 0, 5029), []),
  (15, .aload_n 0, 1, (0, 0, 0, 0, 0), []),
  (16, .getfield 136, 3, (10, 17, 0, 0, 5030), []),
  (19, .iaload, 1, (0, 0, 0, 0, 0), []),
  (20, .goto 4, 3, (12, 0, 0, 0, 0), []),
  (23, .iconst 0, 1, (0, 0, 0, 0, 0), []),
  (24, .ireturn, 1, (0, 0, 0, 0, 0), [])]
noncomputable def ai_o136 : List ai_E := [
  (0, .aload_n 0, 1, (0, 0, 0, 0, 0), []),
  (1, .invokevirtual 139, 3, (135, 1, 0, 0, 5191), []),
  (4, .iload_n 1, 1, (0, 0, 0, 0, 0), []),
  (5, .if_icmp .ne 14, 3, (9, 0, 0, 0, 0), []),
  (8, .aload_n 0, 1, (0, 0, 0, 0, 0), []),
  (9, .getfield 136, 3, (10, 17, 0, 0, 5030), []),
  (12, .aload_n 0, 1, (0, 0, 0, 0, 0), []),
  (13, .getfield 133, 3, (10, 15, 0, 0, 5028), []),
  (16, .if_icmp .ne 5, 3, (11, 0, 0, 0, 0), []),
  (19, .iconst 0, 1, (0, 0, 0, 0, 0), []),
  (20, .ireturn, 1, (3, 0, 0, 0, 0), []),
  (21, .aload_n 0, 1, (0, 0, 0, 0, 0), []),
  (22, .dup, 1, (0, 0, 0, 0, 0), []),
  (23, .getfield 136, 3, (10, 17, 0, 0, 5030), []),
  (26, .iconst 1, 1, (0, 0, 0, 0, 0), []),
  (27, .iadd, 1, (0, 0, 0, 0, 0), []),
  (28, .putfield 136, 3, (10, 17, 0, 0, 5030), []),
  (31, .iconst 1, 1, (0, 0, 0, 0, 0), []),
  (32, .ireturn, 1, (3, 0, 0, 0, 0), [])]
noncomputable def ai_o137 : List ai_E := [
  (0, .aload_n 0, 1, (0, 0, 0, 0, 0), []),
  (1, .invokevirtual 139, 3, (135, 1, 0, 0, 5191), []),
  (4, .bipush 48, 2, (0, 0, 0, 0, 0), []),
  (6, .if_icmp .lt 16, 3, (10, 0, 0, 0, 0), []),
  (9, .aload_n 0, 1, (0, 0, 0, 0, 0), []),
  (10, .invokevirtual 139, 3, (135, 1, 0, 0, 5191), []),
  (13, .bipush 57, 2, (0, 0, 0, 0, 0), []),
  (15, .if_icmp .gt 7, 3, (10, 0, 0, 0, 0), []),
  (18, .iconst 1, 1, (0, 0, 0, 0, 0), []),
  (19, .goto 4, 3, (11, 0, 0, 0, 0), []),
  (22, .iconst 0, 1, (0, 0, 0, 0, 0), []),
  (23, .ireturn, 1, (3, 0, 0, 0, 0), [])]
noncomputable def ai_o138 : List ai_E := [
  (0, .aload_n 0, 1, (0, 0, 0, 0, 0), []),
  (1, .invokevirtual 139, 3, (135, 1, 0, 0, 5191), []),
  (4, .bipush 97, 2, (0, 0, 0, 0, 0), []),
  (6, .if_icmp .lt 16, 3, (10, 0, 0, 0, 0), []),
  (9, .aload_n 0, 1, (0, 0, 0, 0, 0), []),
  (10, .invokevirtual 139, 3, (135, 1, 0, 0, 5191), []),
  (13, .bipush 122, 2, (0, 0, 0, 0, 0), []),
  (15, .if_icmp .gt 7, 3, (10, 0, 0, 0, 0), []),
  (18, .iconst 1, 1, (0, 0, 0, 0, 0), []),
  (19, .goto 4, 3, (11, 0, 0, 0, 0), []),
  (22, .iconst 0, 1, (0, 0, 0, 0, 0), []),
  (23, .ireturn, 1, (3, 0, 0, 0, 0), [])]
noncomputable def ai_o139 : List ai_E := [
  (0, .aload_n 0, 1, (0, 0, 0, 0, 0), []),
  (1, .getfield 82, 3, (10, 34, 2, 0, 5047), []),
  (4, .iload_n 1, 1, (0, 0, 0, 0, 0), []),
  (5, .lload_n 2, 1, (0, 0, 0, 0, 0), []),
  (6, .lastore, 1, (0, 0, 0, 0, 0), []),
  (7, .aload_n 0, 1, (0, 0, 0, 0, 0), []),
  (8, .getfield 85, 3, (10, 35, 2, 0, 5048), []),
  (11, .iload_n 1, 1, (0, 0, 0, 0, 0), []),
  (12, .iload 4, 2, (0, 0, 0, 0, 0), []),
  (14, .bastore, 1, (0, 0, 0, 0, 0), []),
  (15, .return_, 1, (0, 0, 0, 0, 0), [])]
noncomputable def ai_o140 : List ai_E := [
  (0, .ldc2_w 143, 3, (0, 1, 1, 0, 5227), []),
  (3, .lstore_n 2, 1, (0, 0, 0, 0, 0), []),
  (4, .iconst 0, 1, (0, 0, 0, 0, 0), []),
  (5, .istore 4, 2, (0, 0, 0, 0, 0), []),
  (7, .iload 4, 2, (0, 0, 0, 0, 0), [true, true, true, false, true]),
  (9, .iload_n 1, 1, (0, 0, 0, 0, 0), []),
  (10, .if_icmp .ge 51, 3, (32, 0, 0, 0, 0), []),
  (13, .aload_n 0, 1, (0, 0, 0, 0, 0), []),
  (14, .invokevirtual 145, 3, (137, 1, 0, 0, 5195), []),
  (17, .ifCond .eq 44, 3, (32, 0, 0, 0, 0), []),
  (20, .iload 4, 2, (0, 0, 0, 0, 0), []),
  (22, .ifCond .ne 7, 3, (14, 0, 0, 0, 0), []),
  (25, .lconst 0, 1, (0, 0, 0, 0, 0), []),
  (26, .goto 8, 3, (17, 0, 0, 0, 0), []),
  (29, .ldc2_w 149, 3, (0, 10, 0, 0, 5228), []),
  (32, .lload_n 2, 1, (0, 0, 0, 0, 0), []),
  (33, .lmul, 1, (0, 0, 0, 0, 0), []),
  (34, .aload_n 0, 1, (0, 0, 0, 0, 0), []),
  (35, .invokevirtual 139, 3, (135, 1, 0, 0, 5191), []),
  (38, .i2l, 1, (0, 0, 0, 0, 0), []),
  (39, .ladd, 1, (0, 0, 0, 0, 0), []),
  (40, .ldc2_w 151, 3, (0, 48, 0, 0, 5229), []),
  (43, .lsub, 1, (0, 0, 0, 0, 0), []),
  (44, .lstore_n 2, 1, (0, 0, 0, 0, 0), []),
  (45, .aload_n 0, 1, (0, 0, 0, 0, 0), []),
  (46, .dup, 1, (0, 0, 0, 0, 0), []),
  (47, .getfield 136, 3, (10, 17, 0, 0, 5030), []),
  (50, .iconst 1, 1, (0, 0, 0, 0, 0), []),
  (51, .iadd, 1, (0, 0, 0, 0, 0), []),
  (52, .putfield 136, 3, (10, 17, 0, 0, 5030), []),
  (55, .iinc 4 1, 3, (0, 0, 0, 0, 0), []),
  (58, .goto (-51), 3, (4, 0, 0, 0, 0), []),
  (61, .lload_n 2, 1, (0, 0, 0, 0, 0), []),
  (62, .lreturn, 1, (0, 0, 0, 0, 0), [])]
noncomputable def ai_o141 : List ai_E := [
  (0, .aload_n 0, 1, (0, 0, 0, 0, 0), []),
  (1, .bipush 45, 2, (0, 0, 0, 0, 0), []),
  (3, .invokevirtual 153, 3, (136, 2, 0, 0, 5199), []),
  (6, .istore_n 3, 1, (0, 0, 0, 0, 0), []),
  (7, .aload_n 0, 1, (0, 0, 0, 0, 0), []),
  (8, .iload_n 2, 1, (0, 0, 0, 0, 0), []),
  (9, .ifCond .eq 8, 3, (9, 0, 0, 0, 0), []),
  (12, .bipush 6, 2, (0, 0, 0, 0, 0), []),
  (14, .goto 5, 3, (10, 0, 0, 0, 0), []),
  (17, .bipush 9, 2, (0, 0, 0, 0, 0), []),
  (19, .invokevirtual 156, 3, (140, 2, 0, 0, 5223), []),
  (22, .lstore 4, 2, (0, 0, 0, 0, 0), []),
  (24, .lload 4, 2, (0, 0, 0, 0, 0), []),
  (26, .lconst 0, 1, (0, 0, 0, 0, 0), []),
  (27, .lcmp, 1, (0, 0, 0, 0, 0), []),
  (28, .ifCond .ge 5, 3, (18, 0, 0, 0, 0), []),
  (31, .iconst 0, 1, (0, 0, 0, 0, 0), []),
  (32, .ireturn, 1, (3, 0, 0, 0, 0), []),
  (33, .iload_n 2, 1, (0, 0, 0, 0, 0), []),
  (34, .ifCond .eq 69, 3, (55, 0, 0, 0, 0), []),
  (37, .lload 4, 2, (0, 0, 0, 0, 0), []),
  (39, .ldc2_w 160, 3, (0, 100, 0, 0, 5230), []),
  (42, .lmul, 1, (0, 0, 0, 0, 0), []),
  (43, .lstore 4, 2, (0, 0, 0, 0, 0), []),
  (45, .aload_n 0, 1, (0, 0, 0, 0, 0), []),
  (46, .bipush 46, 2, (0, 0, 0, 0, 0), []),
  (48, .invokevirtual 153, 3, (136, 2, 0, 0, 5199), []),
  (51, .ifCond .eq 52, 3, (55, 0, 0, 0, 0), []),
  (54, .aload_n 0, 1, (0, 0, 0, 0, 0), []),
  (55, .getfield 136, 3, (10, 17, 0, 0, 5030), []),
  (58, .istore 6, 2, (0, 0, 0, 0, 0), []),
  (60, .aload_n 0, 1, (0, 0, 0, 0, 0), []),
  (61, .iconst 2, 1, (0, 0, 0, 0, 0), []),
  (62, .invokevirtual 156, 3, (140, 2, 0, 0, 5223), []),
  (65, .lstore 7, 2, (0, 0, 0, 0, 0), []),
  (67, .lload 7, 2, (0, 0, 0, 0, 0), []),
  (69, .lconst 0, 1, (0, 0, 0, 0, 0), []),
  (70, .lcmp, 1, (0, 0, 0, 0, 0), []),
  (71, .ifCond .ge 5, 3, (41, 0, 0, 0, 0), []),
  (74, .iconst 0, 1, (0, 0, 0, 0, 0), []),
  (75, .ireturn, 1, (3, 0, 0, 0, 0), []),
  (76, .lload 4, 2, (0, 0, 0, 0, 0), []),
  (78, .aload_n 0, 1, (0, 0, 0, 0, 0), []),
  (79, .getfield 136, 3, (10, 17, 0, 0, 5030), []),
  (82, .iload 6, 2, (0, 0, 0, 0, 0), []),
  (84, .isub, 1, (0, 0, 0, 0, 0), []),
  (85, .iconst 1, 1, (0, 0, 0, 0, 0), []),
  (86, .if_icmp .ne 12, 3, (52, 0, 0, 0, 0), []),
  (89, .ldc2_w 149, 3, (0, 10, 0, 0, 5228), []),
  (92, .lload 7, 2, (0, 0, 0, 0, 0), []),
  (94, .lmul, 1, (0, 0, 0, 0, 0), []),
  (95, .goto 5, 3, (53, 0, 0, 0, 0), []),
  (98, .lload 7, 2, (0, 0, 0, 0, 0), []),
  (100, .ladd, 1, (0, 0, 0, 0, 0), []),
  (101, .lstore 4, 2, (0, 0, 0, 0, 0), []),
  (103, .aload_n 0, 1, (0, 0, 0, 0, 0), []),
  (104, .iload_n 1, 1, (0, 0, 0, 0, 0), []),
  (105, .iload_n 3, 1, (0, 0, 0, 0, 0), []),
  (106, .ifCond .eq 9, 3, (62, 0, 0, 0, 0), []),
  (109, .lload 4, 2, (0, 0, 0, 0, 0), []),
  (111, .lneg, 1, (0, 0, 0, 0, 0), []),
  (112, .goto 5, 3, (63, 0, 0, 0, 0), []),
  (115, .lload 4, 2, (0, 0, 0, 0, 0), []),
  (117, .iconst 0, 1, (0, 0, 0, 0, 0), []),
  (118, .invokevirtual 162, 3, (139, 4, 0, 0, 5215), []),
  (121, .iconst 1, 1, (0, 0, 0, 0, 0), []),
  (122, .ireturn, 1, (3, 0, 0, 0, 0), [])]
noncomputable def ai_o142 : List ai_E := [
  (0, .lconst 0, 1, (0, 0, 0, 0, 0), []),
  (1, .lstore_n 2, 1, (0, 0, 0, 0, 0), []),
  (2, .iconst 0, 1, (0, 0, 0, 0, 0), []),
  (3, .istore 4, 2, (0, 0, 0, 0, 0), []),
  (5, .iload 4, 2, (0, 0, 0, 0, 0), [true, true, true, false, true]),
  (7, .bipush 8, 2, (0, 0, 0, 0, 0), []),
  (9, .if_icmp .ge 43, 3, (30, 0, 0, 0, 0), []),
  (12, .aload_n 0, 1, (0, 0, 0, 0, 0), []),
  (13, .invokevirtual 166, 3, (138, 1, 0, 0, 5239), []),
  (16, .ifCond .eq 36, 3, (30, 0, 0, 0, 0), []),
  (19, .lload_n 2, 1, (0, 0, 0, 0, 0), []),
  (20, .aload_n 0, 1, (0, 0, 0, 0, 0), []),
  (21, .invokevirtual 139, 3, (135, 1, 0, 0, 5191), []),
  (24, .i2l, 1, (0, 0, 0, 0, 0), []),
  (25, .bipush 49, 2, (0, 0, 0, 0, 0), []),
  (27, .bipush 7, 2, (0, 0, 0, 0, 0), []),
  (29, .iload 4, 2, (0, 0, 0, 0, 0), []),
  (31, .imul, 1, (0, 0, 0, 0, 0), []),
  (32, .isub, 1, (0, 0, 0, 0, 0), []),
  (33, .lshl, 1, (0, 0, 0, 0, 0), []),
  (34, .lor, 1, (0, 0, 0, 0, 0), []),
  (35, .lstore_n 2, 1, (0, 0, 0, 0, 0), []),
  (36, .iinc 4 1, 3, (0, 0, 0, 0, 0), []),
  (39, .aload_n 0, 1, (0, 0, 0, 0, 0), []),
  (40, .dup, 1, (0, 0, 0, 0, 0), []),
  (41, .getfield 136, 3, (10, 17, 0, 0, 5030), []),
  (44, .iconst 1, 1, (0, 0, 0, 0, 0), []),
  (45, .iadd, 1, (0, 0, 0, 0, 0), []),
  (46, .putfield 136, 3, (10, 17, 0, 0, 5030), []),
  (49, .goto (-44), 3, (4, 0, 0, 0, 0), []),
  (52, .aload_n 0, 1, (0, 0, 0, 0, 0), []),
  (53, .iload_n 1, 1, (0, 0, 0, 0, 0), []),
  (54, .lload_n 2, 1, (0, 0, 0, 0, 0), []),
  (55, .iconst 0, 1, (0, 0, 0, 0, 0), []),
  (56, .invokevirtual 162, 3, (139, 4, 0, 0, 5215), []),
  (59, .iload 4, 2, (0, 0, 0, 0, 0), []),
  (61, .ifCond .le 7, 3, (39, 0, 0, 0, 0), []),
  (64, .iconst 1, 1, (0, 0, 0, 0, 0), []),
  (65, .goto 4, 3, (40, 0, 0, 0, 0), []),
  (68, .iconst 0, 1, (0, 0, 0, 0, 0), []),
  (69, .ireturn, 1, (3, 0, 0, 0, 0), [])]
noncomputable def ai_o143 : List ai_E := [
  (0, .aload_n 0, 1, (0, 0, 0, 0, 0), []),
  (1, .dup, 1, (0, 0, 0, 0, 0), []),
  (2, .getfield 136, 3, (10, 17, 0, 0, 5030), []),
  (5, .iconst 1, 1, (0, 0, 0, 0, 0), []),
  (6, .iadd, 1, (0, 0, 0, 0, 0), []),
  (7, .putfield 136, 3, (10, 17, 0, 0, 5030), []),
  (10, .lconst 0, 1, (0, 0, 0, 0, 0), []),
  (11, .lstore_n 2, 1, (0, 0, 0, 0, 0), []),
  (12, .iconst 0, 1, (0, 0, 0, 0, 0), []),
  (13, .istore 4, 2, (0, 0, 0, 0, 0), []),
  (15, .iconst 1, 1, (0, 0, 0, 0, 0), []),
  (16, .istore 5, 2, (0, 0, 0, 0, 0), []),
  (18, .iload 5, 2, (0, 0, 0, 0, 0), [true, true, true, false, true, true, false, false]),
  (20, .ifCond .eq 176, 3, (104, 0, 0, 0, 0), []),
  (23, .aload_n 0, 1, (0, 0, 0, 0, 0), []),
  (24, .invokevirtual 139, 3, (135, 1, 0, 0, 5191), []),
  (27, .istore 6, 2, (0, 0, 0, 0, 0), []),
  (29, .aload_n 0, 1, (0, 0, 0, 0, 0), []),
  (30, .getfield 136, 3, (10, 17, 0, 0, 5030), []),
  (33, .aload_n 0, 1, (0, 0, 0, 0, 0), []),
  (34, .getfield 133, 3, (10, 15, 0, 0, 5028), []),
  (37, .if_icmp .eq 17, 3, (28, 0, 0, 0, 0), []),
  (40, .iload 6, 2, (0, 0, 0, 0, 0), []),
  (42, .bipush 32, 2, (0, 0, 0, 0, 0), []),
  (44, .if_icmp .lt 10, 3, (28, 0, 0, 0, 0), []),
  (47, .iload 6, 2, (0, 0, 0, 0, 0), []),
  (49, .bipush 126, 2, (0, 0, 0, 0, 0), []),
  (51, .if_icmp .le 5, 3, (30, 0, 0, 0, 0), []),
  (54, .iconst 0, 1, (0, 0, 0, 0, 0), []),
  (55, .ireturn, 1, (3, 0, 0, 0, 0), []),
  (56, .iload 6, 2, (0, 0, 0, 0, 0), []),
  (58, .bipush 39, 2, (0, 0, 0, 0, 0), []),
  (60, .if_icmp .ne 36, 3, (51, 0, 0, 0, 0), []),
  (63, .aload_n 0, 1, (0, 0, 0, 0, 0), []),
  (64, .getfield 136, 3, (10, 17, 0, 0, 5030), []),
  (67, .iconst 1, 1, (0, 0, 0, 0, 0), []),
  (68, .iadd, 1, (0, 0, 0, 0, 0), []),
  (69, .aload_n 0, 1, (0, 0, 0, 0, 0), []),
  (70, .getfield 133, 3, (10, 15, 0, 0, 5028), []),
  (73, .if_icmp .ge 23, 3, (51, 0, 0, 0, 0), []),
  (76, .aload_n 0, 1, (0, 0, 0, 0, 0), []),
  (77, .getfield 45, 3, (10, 16, 2, 0, 5029), []),
  (80, .aload_n 0, 1, (0, 0, 0, 0, 0), []),
  (81, .getfield 136, 3, (10, 17, 0, 0, 5030), []),
  (84, .iconst 1, 1, (0, 0, 0, 0, 0), []),
  (85, .iadd, 1, (0, 0, 0, 0, 0), []),
  (86, .iaload, 1, (0, 0, 0, 0, 0), []),
  (87, .bipush 39, 2, (0, 0, 0, 0, 0), []),
  (89, .if_icmp .ne 7, 3, (51, 0, 0, 0, 0), []),
  (92, .iconst 1, 1, (0, 0, 0, 0, 0), []),
  (93, .goto 4, 3, (52, 0, 0, 0, 0), []),
  (96, .iconst 0, 1, (0, 0, 0, 0, 0), []),
  (97, .istore 7, 2, (0, 0, 0, 0, 0), []),
  (99, .iload 6, 2, (0, 0, 0, 0, 0), []),
  (101, .bipush 39, 2, (0, 0, 0, 0, 0), []),
  (103, .if_icmp .ne 8, 3, (58, 0, 0, 0, 0), []),
  (106, .iload 7, 2, (0, 0, 0, 0, 0), []),
  (108, .ifCond .eq 7, 3, (60, 0, 0, 0, 0), []),
  (111, .iconst 1, 1, (0, 0, 0, 0, 0), []),
  (112, .goto 4, 3, (61, 0, 0, 0, 0), []),
  (115, .iconst 0, 1, (0, 0, 0, 0, 0), []),
  (116, .istore 5, 2, (0, 0, 0, 0, 0), []),
  (118, .iload 5, 2, (0, 0, 0, 0, 0), []),
  (120, .ifCond .eq 31, 3, (79, 0, 0, 0, 0), []),
  (123, .iload 4, 2, (0, 0, 0, 0, 0), []),
  (125, .bipush 8, 2, (0, 0, 0, 0, 0), []),
  (127, .if_icmp .ne 24, 3, (79, 0, 0, 0, 0), []),
  (130, .aload_n 0, 1, (0, 0, 0, 0, 0), []),
  (131, .dup, 1, (0, 0, 0, 0, 0), []),
  (132, .getfield 136, 3, (10, 17, 0, 0, 5030), []),
  (135, .iload 7, 2, (0, 0, 0, 0, 0), []),
  (137, .ifCond .eq 7, 3, (74, 0, 0, 0, 0), []),
  (140, .iconst 1, 1, (0, 0, 0, 0, 0), []),
  (141, .goto 4, 3, (75, 0, 0, 0, 0), []),
  (144, .iconst 0, 1, (0, 0, 0, 0, 0), []),
  (145, .iadd, 1, (0, 0, 0, 0, 0), []),
  (146, .putfield 136, 3, (10, 17, 0, 0, 5030), []),
  (149, .iconst 0, 1, (0, 0, 0, 0, 0), []),
  (150, .ireturn, 1, (3, 0, 0, 0, 0), []),
  (151, .iload 5, 2, (0, 0, 0, 0, 0), []),
  (153, .ifCond .eq 21, 3, (93, 0, 0, 0, 0), []),
  (156, .lload_n 2, 1, (0, 0, 0, 0, 0), []),
  (157, .iload 6, 2, (0, 0, 0, 0, 0), []),
  (159, .i2l, 1, (0, 0, 0, 0, 0), []),
  (160, .bipush 49, 2, (0, 0, 0, 0, 0), []),
  (162, .bipush 7, 2, (0, 0, 0, 0, 0), []),
  (164, .iload 4, 2, (0, 0, 0, 0, 0), []),
  (166, .imul, 1, (0, 0, 0, 0, 0), []),
  (167, .isub, 1, (0, 0, 0, 0, 0), []),
  (168, .lshl, 1, (0, 0, 0, 0, 0), []),
  (169, .lor, 1, (0, 0, 0, 0, 0), []),
  (170, .lstore_n 2, 1, (0, 0, 0, 0, 0), []),
  (171, .iinc 4 1, 3, (0, 0, 0, 0, 0), []),
  (174, .aload_n 0, 1, (0, 0, 0, 0, 0), []),
  (175, .dup, 1, (0, 0, 0, 0, 0), []),
  (176, .getfield 136, 3, (10, 17, 0, 0, 5030), []),
  (179, .iload 7, 2, (0, 0, 0, 0, 0), []),
  (181, .ifCond .eq 7, 3, (100, 0, 0, 0, 0), []),
  (184, .iconst 2, 1, (0, 0, 0, 0, 0), []),
  (185, .goto 4, 3, (101, 0, 0, 0, 0), []),
  (188, .iconst 1, 1, (0, 0, 0, 0, 0), []),
  (189, .iadd, 1, (0, 0, 0, 0, 0), []),
  (190, .putfield 136, 3, (10, 17, 0, 0, 5030), []),
  (193, .goto (-175), 3, (12, 0, 0, 0, 0), []),
  (196, .aload_n 0, 1, (0, 0, 0, 0, 0), []),
  (197, .iload_n 1, 1, (0, 0, 0, 0, 0), []),
  (198, .lload_n 2, 1, (0, 0, 0, 0, 0), []),
  (199, .iconst 0, 1, (0, 0, 0, 0, 0), []),
  (200, .invokevirtual 162, 3, (139, 4, 0, 0, 5215), []),
  (203, .iconst 1, 1, (0, 0, 0, 0, 0), []),
  (204, .ireturn, 1, (3, 0, 0, 0, 0), [])]
noncomputable def ai_o144 : List ai_E := [
  (0, .aload_n 0, 1, (0, 0, 0, 0, 0), []),
  (1, .bipush 126, 2, (0, 0, 0, 0, 0), []),
  (3, .invokevirtual 153, 3, (136, 2, 0, 0, 5199), []),
  (6, .ifCond .eq 12, 3, (11, 0, 0, 0, 0), []),
  (9, .aload_n 0, 1, (0, 0, 0, 0, 0), []),
  (10, .iload_n 1, 1, (0, 0, 0, 0, 0), []),
  (11, .lconst 0, 1, (0, 0, 0, 0, 0), []),
  (12, .iconst 1, 1, (0, 0, 0, 0, 0), []),
  (13, .invokevirtual 162, 3, (139, 4, 0, 0, 5215), []),
  (16, .iconst 1, 1, (0, 0, 0, 0, 0), []),
  (17, .ireturn, 1, (3, 0, 0, 0, 0), []),
  (18, .iload_n 2, 1, (0, 0, 0, 0, 0), []),
  (19, .iconst 1, 1, (0, 0, 0, 0, 0), []),
  (20, .if_icmp .gt 19, 3, (24, 0, 0, 0, 0), []),
  (23, .aload_n 0, 1, (0, 0, 0, 0, 0), []),
  (24, .iload_n 1, 1, (0, 0, 0, 0, 0), []),
  (25, .iload_n 2, 1, (0, 0, 0, 0, 0), []),
  (26, .iconst 1, 1, (0, 0, 0, 0, 0), []),
  (27, .if_icmp .ne 7, 3, (21, 0, 0, 0, 0), []),
  (30, .iconst 1, 1, (0, 0, 0, 0, 0), []),
  (31, .goto 4, 3, (22, 0, 0, 0, 0), []),
  (34, .iconst 0, 1, (0, 0, 0, 0, 0), []),
  (35, .invokevirtual 169, 3, (141, 3, 0, 0, 5219), []),
  (38, .ireturn, 1, (3, 0, 0, 0, 0), []),
  (39, .iload_n 2, 1, (0, 0, 0, 0, 0), []),
  (40, .iconst 2, 1, (0, 0, 0, 0, 0), []),
  (41, .if_icmp .ne 26, 3, (39, 0, 0, 0, 0), []),
  (44, .aload_n 0, 1, (0, 0, 0, 0, 0), []),
  (45, .invokevirtual 139, 3, (135, 1, 0, 0, 5191), []),
  (48, .bipush 39, 2, (0, 0, 0, 0, 0), []),
  (50, .if_icmp .ne 11, 3, (35, 0, 0, 0, 0), []),
  (53, .aload_n 0, 1, (0, 0, 0, 0, 0), []),
  (54, .iload_n 1, 1, (0, 0, 0, 0, 0), []),
  (55, .invokevirtual 173, 3, (143, 2, 0, 0, 5231), []),
  (58, .goto 8, 3, (38, 0, 0, 0, 0), []),
  (61, .aload_n 0, 1, (0, 0, 0, 0, 0), []),
  (62, .iload_n 1, 1, (0, 0, 0, 0, 0), []),
  (63, .invokevirtual 176, 3, (142, 2, 0, 0, 5235), []),
  (66, .ireturn, 1, (3, 0, 0, 0, 0), []),
  (67, .aload_n 0, 1, (0, 0, 0, 0, 0), []),
  (68, .invokevirtual 139, 3, (135, 1, 0, 0, 5191), []),
  (71, .bipush 116, 2, (0, 0, 0, 0, 0), []),
  (73, .if_icmp .ne 7, 3, (45, 0, 0, 0, 0), []),
  (76, .iconst 1, 1, (0, 0, 0, 0, 0), []),
  (77, .goto 4, 3, (46, 0, 0, 0, 0), []),
  (80, .iconst 0, 1, (0, 0, 0, 0, 0), []),
  (81, .istore_n 3, 1, (0, 0, 0, 0, 0), []),
  (82, .aload_n 0, 1, (0, 0, 0, 0, 0), []),
  (83, .bipush 116, 2, (0, 0, 0, 0, 0), []),
  (85, .invokevirtual 153, 3, (136, 2, 0, 0, 5199), []),
  (88, .ifCond .ne 14, 3, (57, 0, 0, 0, 0), []),
  (91, .aload_n 0, 1, (0, 0, 0, 0, 0), []),
  (92, .bipush 102, 2, (0, 0, 0, 0, 0), []),
  (94, .invokevirtual 153, 3, (136, 2, 0, 0, 5199), []),
  (97, .ifCond .ne 5, 3, (57, 0, 0, 0, 0), []),
  (100, .iconst 0, 1, (0, 0, 0, 0, 0), []),
  (101, .ireturn, 1, (3, 0, 0, 0, 0), []),
  (102, .aload_n 0, 1, (0, 0, 0, 0, 0), []),
  (103, .iload_n 1, 1, (0, 0, 0, 0, 0), []),
  (104, .iload_n 3, 1, (0, 0, 0, 0, 0), []),
  (105, .ifCond .eq 7, 3, (63, 0, 0, 0, 0), []),
  (108, .lconst 1, 1, (0, 0, 0, 0, 0), []),
  (109, .goto 4, 3, (64, 0, 0, 0, 0), []),
  (112, .lconst 0, 1, (0, 0, 0, 0, 0), []),
  (113, .iconst 0, 1, (0, 0, 0, 0, 0), []),
  (114, .invokevirtual 162, 3, (139, 4, 0, 0, 5215), []),
  (117, .iconst 1, 1, (0, 0, 0, 0, 0), []),
  (118, .ireturn, 1, (3, 0, 0, 0, 0), [])]
noncomputable def ai_o145 : List ai_E := [
  (0, .aload_n 0, 1, (0, 0, 0, 0, 0), []),
  (1, .getfield 70, 3, (10, 30, 2, 0, 5043), []),
  (4, .iload_n 1, 1, (0, 0, 0, 0, 0), []),
  (5, .iaload, 1, (0, 0, 0, 0, 0), []),
  (6, .istore_n 2, 1, (0, 0, 0, 0, 0), []),
  (7, .iconst 0, 1, (0, 0, 0, 0, 0), []),
  (8, .istore_n 3, 1, (0, 0, 0, 0, 0), []),
  (9, .aload_n 0, 1, (0, 0, 0, 0, 0), []),
  (10, .getfield 73, 3, (10, 31, 2, 0, 5044), []),
  (13, .iload_n 1, 1, (0, 0, 0, 0, 0), []),
  (14, .iconst 0, 1, (0, 0, 0, 0, 0), []),
  (15, .iastore, 1, (0, 0, 0, 0, 0), []),
  (16, .aload_n 0, 1, (0, 0, 0, 0, 0), [true, true, true, true, false]),
  (17, .invokevirtual 145, 3, (137, 1, 0, 0, 5195), []),
  (20, .ifCond .eq 89, 3, (71, 0, 0, 0, 0), []),
  (23, .aload_n 0, 1, (0, 0, 0, 0, 0), []),
  (24, .invokevirtual 139, 3, (135, 1, 0, 0, 5191), []),
  (27, .bipush 48, 2, (0, 0, 0, 0, 0), []),
  (29, .isub, 1, (0, 0, 0, 0, 0), []),
  (30, .aload_n 0, 1, (0, 0, 0, 0, 0), []),
  (31, .getfield 7, 3, (10, 2, 2, 0, 5015), []),
  (34, .iload_n 2, 1, (0, 0, 0, 0, 0), []),
  (35, .iaload, 1, (0, 0, 0, 0, 0), []),
  (36, .if_icmp .ge 73, 3, (71, 0, 0, 0, 0), []),
  (39, .iload_n 3, 1, (0, 0, 0, 0, 0), []),
  (40, .aload_n 0, 1, (0, 0, 0, 0, 0), []),
  (41, .invokevirtual 139, 3, (135, 1, 0, 0, 5191), []),
  (44, .bipush 48, 2, (0, 0, 0, 0, 0), []),
  (46, .isub, 1, (0, 0, 0, 0, 0), []),
  (47, .ishr, 1, (0, 0, 0, 0, 0), []),
  (48, .iconst 1, 1, (0, 0, 0, 0, 0), []),
  (49, .iand, 1, (0, 0, 0, 0, 0), []),
  (50, .ifCond .ne 59, 3, (71, 0, 0, 0, 0), []),
  (53, .aload_n 0, 1, (0, 0, 0, 0, 0), []),
  (54, .invokevirtual 139, 3, (135, 1, 0, 0, 5191), []),
  (57, .bipush 48, 2, (0, 0, 0, 0, 0), []),
  (59, .isub, 1, (0, 0, 0, 0, 0), []),
  (60, .istore 4, 2, (0, 0, 0, 0, 0), []),
  (62, .iload_n 3, 1, (0, 0, 0, 0, 0), []),
  (63, .iconst 1, 1, (0, 0, 0, 0, 0), []),
  (64, .iload 4, 2, (0, 0, 0, 0, 0), []),
  (66, .ishl, 1, (0, 0, 0, 0, 0), []),
  (67, .ior, 1, (0, 0, 0, 0, 0), []),
  (68, .istore_n 3, 1, (0, 0, 0, 0, 0), []),
  (69, .aload_n 0, 1, (0, 0, 0, 0, 0), []),
  (70, .getfield 79, 3, (10, 33, 2, 0, 5046), []),
  (73, .iconst 5, 1, (0, 0, 0, 0, 0), []),
  (74, .iload_n 1, 1, (0, 0, 0, 0, 0), []),
  (75, .imul, 1, (0, 0, 0, 0, 0), []),
  (76, .aload_n 0, 1, (0, 0, 0, 0, 0), []),
  (77, .getfield 73, 3, (10, 31, 2, 0, 5044), []),
  (80, .iload_n 1, 1, (0, 0, 0, 0, 0), []),
  (81, .iaload, 1, (0, 0, 0, 0, 0), []),
  (82, .iadd, 1, (0, 0, 0, 0, 0), []),
  (83, .iload 4, 2, (0, 0, 0, 0, 0), []),
  (85, .iastore, 1, (0, 0, 0, 0, 0), []),
  (86, .aload_n 0, 1, (0, 0, 0, 0, 0), []),
  (87, .getfield 73, 3, (10, 31, 2, 0, 5044), []),
  (90, .iload_n 1, 1, (0, 0, 0, 0, 0), []),
  (91, .dup2, 1, (0, 0, 0, 0, 0), []),
  (92, .iaload, 1, (0, 0, 0, 0, 0), []),
  (93, .iconst 1, 1, (0, 0, 0, 0, 0), []),
  (94, .iadd, 1, (0, 0, 0, 0, 0), []),
  (95, .iastore, 1, (0, 0, 0, 0, 0), []),
  (96, .aload_n 0, 1, (0, 0, 0, 0, 0), []),
  (97, .dup, 1, (0, 0, 0, 0, 0), []),
  (98, .getfield 136, 3, (10, 17, 0, 0, 5030), []),
  (101, .iconst 1, 1, (0, 0, 0, 0, 0), []),
  (102, .iadd, 1, (0, 0, 0, 0, 0), []),
  (103, .putfield 136, 3, (10, 17, 0, 0, 5030), []),
  (106, .goto (-90), 3, (12, 0, 0, 0, 0), []),
  (109, .aload_n 0, 1, (0, 0, 0, 0, 0), []),
  (110, .getfield 73, 3, (10, 31, 2, 0, 5044), []),
  (113, .iload_n 1, 1, (0, 0, 0, 0, 0), []),
  (114, .iaload, 1, (0, 0, 0, 0, 0), []),
  (115, .ifCond .le 16, 3, (82, 0, 0, 0, 0), []),
  (118, .aload_n 0, 1, (0, 0, 0, 0, 0), []),
  (119, .bipush 41, 2, (0, 0, 0, 0, 0), []),
  (121, .invokevirtual 153, 3, (136, 2, 0, 0, 5199), []),
  (124, .ifCond .eq 7, 3, (82, 0, 0, 0, 0), []),
  (127, .iconst 1, 1, (0, 0, 0, 0, 0), []),
  (128, .goto 4, 3, (83, 0, 0, 0, 0), []),
  (131, .iconst 0, 1, (0, 0, 0, 0, 0), []),
  (132, .ireturn, 1, (3, 0, 0, 0, 0), [])]
noncomputable def ai_o146 : List ai_E := [
  (0, .aload_n 0, 1, (0, 0, 0, 0, 0), []),
  (1, .getfield 179, 3, (10, 29, 0, 0, 5042), []),
  (4, .bipush 24, 2, (0, 0, 0, 0, 0), []),
  (6, .if_icmp .eq 12, 3, (8, 0, 0, 0, 0), []),
  (9, .aload_n 0, 1, (0, 0, 0, 0, 0), []),
  (10, .bipush 58, 2, (0, 0, 0, 0, 0), []),
  (12, .invokevirtual 153, 3, (136, 2, 0, 0, 5199), []),
  (15, .ifCond .ne 5, 3, (10, 0, 0, 0, 0), []),
  (18, .iconst 0, 1, (0, 0, 0, 0, 0), []),
  (19, .ireturn, 1, (3, 0, 0, 0, 0), []),
  (20, .iconst 0, 1, (0, 0, 0, 0, 0), []),
  (21, .istore_n 2, 1, (0, 0, 0, 0, 0), []),
  (22, .iload_n 2, 1, (0, 0, 0, 0, 0), [true, true, true]),
  (23, .aload_n 0, 1, (0, 0, 0, 0, 0), []),
  (24, .getfield 73, 3, (10, 31, 2, 0, 5044), []),
  (27, .iload_n 1, 1, (0, 0, 0, 0, 0), []),
  (28, .iaload, 1, (0, 0, 0, 0, 0), []),
  (29, .if_icmp .ge 65, 3, (57, 0, 0, 0, 0), []),
  (32, .iload_n 2, 1, (0, 0, 0, 0, 0), []),
  (33, .ifCond .le 14, 3, (26, 0, 0, 0, 0), []),
  (36, .aload_n 0, 1, (0, 0, 0, 0, 0), []),
  (37, .bipush 44, 2, (0, 0, 0, 0, 0), []),
  (39, .invokevirtual 153, 3, (136, 2, 0, 0, 5199), []),
  (42, .ifCond .ne 5, 3, (26, 0, 0, 0, 0), []),
  (45, .iconst 0, 1, (0, 0, 0, 0, 0), []),
  (46, .ireturn, 1, (3, 0, 0, 0, 0), []),
  (47, .aload_n 0, 1, (0, 0, 0, 0, 0), []),
  (48, .iconst 5, 1, (0, 0, 0, 0, 0), []),
  (49, .aload_n 0, 1, (0, 0, 0, 0, 0), []),
  (50, .getfield 179, 3, (10, 29, 0, 0, 5042), []),
  (53, .imul, 1, (0, 0, 0, 0, 0), []),
  (54, .iload_n 2, 1, (0, 0, 0, 0, 0), []),
  (55, .iadd, 1, (0, 0, 0, 0, 0), []),
  (56, .aload_n 0, 1, (0, 0, 0, 0, 0), []),
  (57, .getfield 13, 3, (10, 3, 2, 0, 5016), []),
  (60, .iconst 5, 1, (0, 0, 0, 0, 0), []),
  (61, .aload_n 0, 1, (0, 0, 0, 0, 0), []),
  (62, .getfield 70, 3, (10, 30, 2, 0, 5043), []),
  (65, .iload_n 1, 1, (0, 0, 0, 0, 0), []),
  (66, .iaload, 1, (0, 0, 0, 0, 0), []),
  (67, .imul, 1, (0, 0, 0, 0, 0), []),
  (68, .aload_n 0, 1, (0, 0, 0, 0, 0), []),
  (69, .getfield 79, 3, (10, 33, 2, 0, 5046), []),
  (72, .iconst 5, 1, (0, 0, 0, 0, 0), []),
  (73, .iload_n 1, 1, (0, 0, 0, 0, 0), []),
  (74, .imul, 1, (0, 0, 0, 0, 0), []),
  (75, .iload_n 2, 1, (0, 0, 0, 0, 0), []),
  (76, .iadd, 1, (0, 0, 0, 0, 0), []),
  (77, .iaload, 1, (0, 0, 0, 0, 0), []),
  (78, .iadd, 1, (0, 0, 0, 0, 0), []),
  (79, .iaload, 1, (0, 0, 0, 0, 0), []),
  (80, .invokevirtual 182, 3, (144, 3, 0, 0, 5211), []),
  (83, .ifCond .ne 5, 3, (55, 0, 0, 0, 0), []),
  (86, .iconst 0, 1, (0, 0, 0, 0, 0), []),
  (87, .ireturn, 1, (3, 0, 0, 0, 0), []),
  (88, .iinc 2 1, 3, (0, 0, 0, 0, 0), []),
  (91, .goto (-69), 3, (12, 0, 0, 0, 0), []),
  (94, .aload_n 0, 1, (0, 0, 0, 0, 0), []),
  (95, .dup, 1, (0, 0, 0, 0, 0), []),
  (96, .getfield 179, 3, (10, 29, 0, 0, 5042), []),
  (99, .iconst 1, 1, (0, 0, 0, 0, 0), []),
  (100, .iadd, 1, (0, 0, 0, 0, 0), []),
  (101, .putfield 179, 3, (10, 29, 0, 0, 5042), []),
  (104, .iconst 1, 1, (0, 0, 0, 0, 0), []),
  (105, .ireturn, 1, (3, 0, 0, 0, 0), [])]
noncomputable def ai_o147 : List ai_E := [
  (0, .aload_n 0, 1, (0, 0, 0, 0, 0), []),
  (1, .invokevirtual 139, 3, (135, 1, 0, 0, 5191), []),
  (4, .bipush 48, 2, (0, 0, 0, 0, 0), []),
  (6, .isub, 1, (0, 0, 0, 0, 0), []),
  (7, .istore_n 1, 1, (0, 0, 0, 0, 0), []),
  (8, .aload_n 0, 1, (0, 0, 0, 0, 0), []),
  (9, .getfield 186, 3, (10, 28, 0, 0, 5041), []),
  (12, .bipush 6, 2, (0, 0, 0, 0, 0), []),
  (14, .if_icmp .eq 27, 3, (21, 0, 0, 0, 0), []),
  (17, .aload_n 0, 1, (0, 0, 0, 0, 0), []),
  (18, .invokevirtual 145, 3, (137, 1, 0, 0, 5195), []),
  (21, .ifCond .eq 20, 3, (21, 0, 0, 0, 0), []),
  (24, .aload_n 0, 1, (0, 0, 0, 0, 0), []),
  (25, .iload_n 1, 1, (0, 0, 0, 0, 0), []),
  (26, .invokevirtual 115, 3, (129, 2, 0, 0, 5167), []),
  (29, .ifCond .eq 12, 3, (21, 0, 0, 0, 0), []),
  (32, .aload_n 0, 1, (0, 0, 0, 0, 0), []),
  (33, .getfield 7, 3, (10, 2, 2, 0, 5015), []),
  (36, .iload_n 1, 1, (0, 0, 0, 0, 0), []),
  (37, .iaload, 1, (0, 0, 0, 0, 0), []),
  (38, .ifCond .ne 5, 3, (23, 0, 0, 0, 0), []),
  (41, .iconst 0, 1, (0, 0, 0, 0, 0), []),
  (42, .ireturn, 1, (3, 0, 0, 0, 0), []),
  (43, .aload_n 0, 1, (0, 0, 0, 0, 0), []),
  (44, .dup, 1, (0, 0, 0, 0, 0), []),
  (45, .getfield 136, 3, (10, 17, 0, 0, 5030), []),
  (48, .iconst 1, 1, (0, 0, 0, 0, 0), []),
  (49, .iadd, 1, (0, 0, 0, 0, 0), []),
  (50, .putfield 136, 3, (10, 17, 0, 0, 5030), []),
  (53, .aload_n 0, 1, (0, 0, 0, 0, 0), []),
  (54, .getfield 186, 3, (10, 28, 0, 0, 5041), []),
  (57, .istore_n 2, 1, (0, 0, 0, 0, 0), []),
  (58, .aload_n 0, 1, (0, 0, 0, 0, 0), []),
  (59, .getfield 70, 3, (10, 30, 2, 0, 5043), []),
  (62, .iload_n 2, 1, (0, 0, 0, 0, 0), []),
  (63, .iload_n 1, 1, (0, 0, 0, 0, 0), []),
  (64, .iastore, 1, (0, 0, 0, 0, 0), []),
  (65, .aload_n 0, 1, (0, 0, 0, 0, 0), []),
  (66, .getfield 76, 3, (10, 32, 2, 0, 5045), []),
  (69, .iload_n 2, 1, (0, 0, 0, 0, 0), []),
  (70, .aload_n 0, 1, (0, 0, 0, 0, 0), []),
  (71, .getfield 179, 3, (10, 29, 0, 0, 5042), []),
  (74, .iastore, 1, (0, 0, 0, 0, 0), []),
  (75, .aload_n 0, 1, (0, 0, 0, 0, 0), []),
  (76, .bipush 40, 2, (0, 0, 0, 0, 0), []),
  (78, .invokevirtual 153, 3, (136, 2, 0, 0, 5199), []),
  (81, .ifCond .eq 11, 3, (51, 0, 0, 0, 0), []),
  (84, .aload_n 0, 1, (0, 0, 0, 0, 0), []),
  (85, .iload_n 2, 1, (0, 0, 0, 0, 0), []),
  (86, .invokevirtual 189, 3, (145, 2, 0, 0, 5203), []),
  (89, .ifCond .ne 5, 3, (53, 0, 0, 0, 0), []),
  (92, .iconst 0, 1, (0, 0, 0, 0, 0), []),
  (93, .ireturn, 1, (3, 0, 0, 0, 0), []),
  (94, .iconst 1, 1, (0, 0, 0, 0, 0), []),
  (95, .istore_n 3, 1, (0, 0, 0, 0, 0), []),
  (96, .iload_n 3, 1, (0, 0, 0, 0, 0), [true, false, true, true]),
  (97, .ifCond .eq 21, 3, (66, 0, 0, 0, 0), []),
  (100, .aload_n 0, 1, (0, 0, 0, 0, 0), []),
  (101, .invokevirtual 139, 3, (135, 1, 0, 0, 5191), []),
  (104, .bipush 59, 2, (0, 0, 0, 0, 0), []),
  (106, .if_icmp .eq 12, 3, (66, 0, 0, 0, 0), []),
  (109, .aload_n 0, 1, (0, 0, 0, 0, 0), []),
  (110, .iload_n 2, 1, (0, 0, 0, 0, 0), []),
  (111, .invokevirtual 192, 3, (146, 2, 0, 0, 5207), []),
  (114, .istore_n 3, 1, (0, 0, 0, 0, 0), []),
  (115, .goto (-19), 3, (55, 0, 0, 0, 0), []),
  (118, .iload_n 3, 1, (0, 0, 0, 0, 0), []),
  (119, .ifCond .ne 5, 3, (70, 0, 0, 0, 0), []),
  (122, .iconst 0, 1, (0, 0, 0, 0, 0), []),
  (123, .ireturn, 1, (3, 0, 0, 0, 0), []),
  (124, .aload_n 0, 1, (0, 0, 0, 0, 0), []),
  (125, .dup, 1, (0, 0, 0, 0, 0), []),
  (126, .getfield 136, 3, (10, 17, 0, 0, 5030), []),
  (129, .iconst 1, 1, (0, 0, 0, 0, 0), []),
  (130, .iadd, 1, (0, 0, 0, 0, 0), []),
  (131, .putfield 136, 3, (10, 17, 0, 0, 5030), []),
  (134, .aload_n 0, 1, (0, 0, 0, 0, 0), []),
  (135, .dup, 1, (0, 0, 0, 0, 0), []),
  (136, .getfield 186, 3, (10, 28, 0, 0, 5041), []),
  (139, .iconst 1, 1, (0, 0, 0, 0, 0), []),
  (140, .iadd, 1, (0, 0, 0, 0, 0), []),
  (141, .putfield 186, 3, (10, 28, 0, 0, 5041), []),
  (144, .aload_n 0, 1, (0, 0, 0, 0, 0), []),
  (145, .getfield 76, 3, (10, 32, 2, 0, 5045), []),
  (148, .aload_n 0, 1, (0, 0, 0, 0, 0), []),
  (149, .getfield 186, 3, (10, 28, 0, 0, 5041), []),
  (152, .aload_n 0, 1, (0, 0, 0, 0, 0), []),
  (153, .getfield 179, 3, (10, 29, 0, 0, 5042), []),
  (156, .iastore, 1, (0, 0, 0, 0, 0), []),
  (157, .iconst 1, 1, (0, 0, 0, 0, 0), []),
  (158, .ireturn, 1, (3, 0, 0, 0, 0), [])]
noncomputable def ai_o148 : List ai_E := [
  (0, .aload_n 0, 1, (0, 0, 0, 0, 0), []),
  (1, .iconst 0, 1, (0, 0, 0, 0, 0), []),
  (2, .putfield 109, 3, (10, 0, 0, 0, 5013), []),
  (5, .aload_n 0, 1, (0, 0, 0, 0, 0), []),
  (6, .iconst 0, 1, (0, 0, 0, 0, 0), []),
  (7, .putfield 136, 3, (10, 17, 0, 0, 5030), []),
  (10, .aload_n 0, 1, (0, 0, 0, 0, 0), []),
  (11, .iconst 0, 1, (0, 0, 0, 0, 0), []),
  (12, .putfield 186, 3, (10, 28, 0, 0, 5041), []),
  (15, .aload_n 0, 1, (0, 0, 0, 0, 0), []),
  (16, .iconst 0, 1, (0, 0, 0, 0, 0), []),
  (17, .putfield 179, 3, (10, 29, 0, 0, 5042), []),
  (20, .aload_n 0, 1, (0, 0, 0, 0, 0), []),
  (21, .getfield 76, 3, (10, 32, 2, 0, 5045), []),
  (24, .iconst 0, 1, (0, 0, 0, 0, 0), []),
  (25, .iconst 0, 1, (0, 0, 0, 0, 0), []),
  (26, .iastore, 1, (0, 0, 0, 0, 0), []),
  (27, .aload_n 0, 1, (0, 0, 0, 0, 0), []),
  (28, .iconst (-1), 1, (0, 0, 0, 0, 0), []),
  (29, .putfield 48, 3, (10, 18, 0, 0, 5031), []),
  (32, .aload_n 0, 1, (0, 0, 0, 0, 0), [true, false]),
  (33, .getfield 136, 3, (10, 17, 0, 0, 5030), []),
  (36, .aload_n 0, 1, (0, 0, 0, 0, 0), []),
  (37, .getfield 133, 3, (10, 15, 0, 0, 5028), []),
  (40, .if_icmp .ge 29, 3, (37, 0, 0, 0, 0), []),
  (43, .aload_n 0, 1, (0, 0, 0, 0, 0), []),
  (44, .getfield 48, 3, (10, 18, 0, 0, 5031), []),
  (47, .iconst (-1), 1, (0, 0, 0, 0, 0), []),
  (48, .if_icmp .ne 21, 3, (37, 0, 0, 0, 0), []),
  (51, .aload_n 0, 1, (0, 0, 0, 0, 0), []),
  (52, .invokevirtual 195, 3, (147, 1, 0, 0, 5187), []),
  (55, .ifCond .ne (-23), 3, (20, 0, 0, 0, 0), []),
  (58, .aload_n 0, 1, (0, 0, 0, 0, 0), []),
  (59, .aload_n 0, 1, (0, 0, 0, 0, 0), []),
  (60, .getfield 136, 3, (10, 17, 0, 0, 5030), []),
  (63, .putfield 48, 3, (10, 18, 0, 0, 5031), []),
  (66, .goto (-34), 3, (20, 0, 0, 0, 0), []),
  (69, .aload_n 0, 1, (0, 0, 0, 0, 0), []),
  (70, .getfield 48, 3, (10, 18, 0, 0, 5031), []),
  (73, .iconst (-1), 1, (0, 0, 0, 0, 0), []),
  (74, .if_icmp .eq 9, 3, (45, 0, 0, 0, 0), []),
  (77, .aload_n 0, 1, (0, 0, 0, 0, 0), []),
  (78, .iconst 1, 1, (0, 0, 0, 0, 0), []),
  (79, .invokevirtual 198, 3, (128, 2, 0, 0, 6003), []),
  (82, .ireturn, 1, (0, 0, 0, 0, 0), []),
  (83, .aload_n 0, 1, (0, 0, 0, 0, 0), []),
  (84, .iconst 1, 1, (0, 0, 0, 0, 0), []),
  (85, .putfield 126, 3, (10, 19, 3, 0, 5032), []),
  (88, .aload_n 0, 1, (0, 0, 0, 0, 0), []),
  (89, .iconst 0, 1, (0, 0, 0, 0, 0), []),
  (90, .putfield 130, 3, (10, 42, 3, 0, 5055), []),
  (93, .aload_n 0, 1, (0, 0, 0, 0, 0), []),
  (94, .aload_n 0, 1, (0, 0, 0, 0, 0), []),
  (95, .getfield 186, 3, (10, 28, 0, 0, 5041), []),
  (98, .putfield 202, 3, (10, 20, 0, 0, 5033), []),
  (101, .aload_n 0, 1, (0, 0, 0, 0, 0), []),
  (102, .aload_n 0, 1, (0, 0, 0, 0, 0), []),
  (103, .getfield 179, 3, (10, 29, 0, 0, 5042), []),
  (106, .putfield 205, 3, (10, 21, 0, 0, 5034), []),
  (109, .iconst 0, 1, (0, 0, 0, 0, 0), []),
  (110, .istore_n 1, 1, (0, 0, 0, 0, 0), []),
  (111, .iload_n 1, 1, (0, 0, 0, 0, 0), [true, true]),
  (112, .bipush 6, 2, (0, 0, 0, 0, 0), []),
  (114, .if_icmp .ge 33, 3, (82, 0, 0, 0, 0), []),
  (117, .aload_n 0, 1, (0, 0, 0, 0, 0), []),
  (118, .getfield 52, 3, (10, 22, 2, 0, 5035), []),
  (121, .iload_n 1, 1, (0, 0, 0, 0, 0), []),
  (122, .aload_n 0, 1, (0, 0, 0, 0, 0), []),
  (123, .getfield 70, 3, (10, 30, 2, 0, 5043), []),
  (126, .iload_n 1, 1, (0, 0, 0, 0, 0), []),
  (127, .iaload, 1, (0, 0, 0, 0, 0), []),
  (128, .iastore, 1, (0, 0, 0, 0, 0), []),
  (129, .aload_n 0, 1, (0, 0, 0, 0, 0), []),
  (130, .getfield 55, 3, (10, 23, 2, 0, 5036), []),
  (133, .iload_n 1, 1, (0, 0, 0, 0, 0), []),
  (134, .aload_n 0, 1, (0, 0, 0, 0, 0), []),
  (135, .getfield 73, 3, (10, 31, 2, 0, 5044), []),
  (138, .iload_n 1, 1, (0, 0, 0, 0, 0), []),
  (139, .iaload, 1, (0, 0, 0, 0, 0), []),
  (140, .iastore, 1, (0, 0, 0, 0, 0), []),
  (141, .iinc 1 1, 3, (0, 0, 0, 0, 0), []),
  (144, .goto (-33), 3, (61, 0, 0, 0, 0), []),
  (147, .iconst 0, 1, (0, 0, 0, 0, 0), []),
  (148, .istore_n 1, 1, (0, 0, 0, 0, 0), []),
  (149, .iload_n 1, 1, (0, 0, 0, 0, 0), [true, true]),
  (150, .bipush 6, 2, (0, 0, 0, 0, 0), []),
  (152, .if_icmp .gt 21, 3, (97, 0, 0, 0, 0), []),
  (155, .aload_n 0, 1, (0, 0, 0, 0, 0), []),
  (156, .getfield 58, 3, (10, 24, 2, 0, 5037), []),
  (159, .iload_n 1, 1, (0, 0, 0, 0, 0), []),
  (160, .aload_n 0, 1, (0, 0, 0, 0, 0), []),
  (161, .getfield 76, 3, (10, 32, 2, 0, 5045), []),
  (164, .iload_n 1, 1, (0, 0, 0, 0, 0), []),
  (165, .iaload, 1, (0, 0, 0, 0, 0), []),
  (166, .iastore, 1, (0, 0, 0, 0, 0), []),
  (167, .iinc 1 1, 3, (0, 0, 0, 0, 0), []),
  (170, .goto (-21), 3, (84, 0, 0, 0, 0), []),
  (173, .iconst 0, 1, (0, 0, 0, 0, 0), []),
  (174, .istore_n 1, 1, (0, 0, 0, 0, 0), []),
  (175, .iload_n 1, 1, (0, 0, 0, 0, 0), [true, true]),
  (176, .bipush 30, 2, (0, 0, 0, 0, 0), []),
  (178, .if_icmp .ge 21, 3, (112, 0, 0, 0, 0), []),
  (181, .aload_n 0, 1, (0, 0, 0, 0, 0), []),
  (182, .getfield 61, 3, (10, 25, 2, 0, 5038), []),
  (185, .iload_n 1, 1, (0, 0, 0, 0, 0), []),
  (186, .aload_n 0, 1, (0, 0, 0, 0, 0), []),
  (187, .getfield 79, 3, (10, 33, 2, 0, 5046), []),
  (190, .iload_n 1, 1, (0, 0, 0, 0, 0), []),
  (191, .iaload, 1, (0, 0, 0, 0, 0), []),
  (192, .iastore, 1, (0, 0, 0, 0, 0), []),
  (193, .iinc 1 1, 3, (0, 0, 0, 0, 0), []),
  (196, .goto (-21), 3, (99, 0, 0, 0, 0), []),
  (199, .iconst 0, 1, (0, 0, 0, 0, 0), []),
  (200, .istore_n 1, 1, (0, 0, 0, 0, 0), []),
  (201, .iload_n 1, 1, (0, 0, 0, 0, 0), [true, true]),
  (202, .bipush 120, 2, (0, 0, 0, 0, 0), []),
  (204, .if_icmp .ge 33, 3, (135, 0, 0, 0, 0), []),
  (207, .aload_n 0, 1, (0, 0, 0, 0, 0), []),
  (208, .getfield 64, 3, (10, 26, 2, 0, 5039), []),
  (211, .iload_n 1, 1, (0, 0, 0, 0, 0), []),
  (212, .aload_n 0, 1, (0, 0, 0, 0, 0), []),
  (213, .getfield 82, 3, (10, 34, 2, 0, 5047), []),
  (216, .iload_n 1, 1, (0, 0, 0, 0, 0), []),
  (217, .laload, 1, (0, 0, 0, 0, 0), []),
  (218, .lastore, 1, (0, 0, 0, 0, 0), []),
  (219, .aload_n 0, 1, (0, 0, 0, 0, 0), []),
  (220, .getfield 67, 3, (10, 27, 2, 0, 5040), []),
  (223, .iload_n 1, 1, (0, 0, 0, 0, 0), []),
  (224, .aload_n 0, 1, (0, 0, 0, 0, 0), []),
  (225, .getfield 85, 3, (10, 35, 2, 0, 5048), []),
  (228, .iload_n 1, 1, (0, 0, 0, 0, 0), []),
  (229, .baload, 1, (0, 0, 0, 0, 0), []),
  (230, .bastore, 1, (0, 0, 0, 0, 0), []),
  (231, .iinc 1 1, 3, (0, 0, 0, 0, 0), []),
  (234, .goto (-33), 3, (114, 0, 0, 0, 0), []),
  (237, .aload_n 0, 1, (0, 0, 0, 0, 0), []),
  (238, .getfield 205, 3, (10, 21, 0, 0, 5034), []),
  (241, .ireturn, 1, (0, 0, 0, 0, 0), [])]
noncomputable def ai_o149 : List ai_E := [
  (0, .aload_n 0, 1, (0, 0, 0, 0, 0), []),
  (1, .iconst 0, 1, (0, 0, 0, 0, 0), []),
  (2, .putfield 109, 3, (10, 0, 0, 0, 5013), []),
  (5, .aload_n 0, 1, (0, 0, 0, 0, 0), []),
  (6, .getfield 48, 3, (10, 18, 0, 0, 5031), []),
  (9, .ireturn, 1, (0, 0, 0, 0, 0), [])]
noncomputable def ai_o150 : List ai_E := [
  (0, .iload_n 2, 1, (0, 0, 0, 0, 0), []),
  (1, .iload_n 1, 1, (0, 0, 0, 0, 0), []),
  (2, .ishr, 1, (0, 0, 0, 0, 0), []),
  (3, .iconst 1, 1, (0, 0, 0, 0, 0), []),
  (4, .iand, 1, (0, 0, 0, 0, 0), []),
  (5, .ifCond .ne 7, 3, (8, 0, 0, 0, 0), []),
  (8, .iconst 1, 1, (0, 0, 0, 0, 0), []),
  (9, .goto 4, 3, (9, 0, 0, 0, 0), []),
  (12, .iconst 0, 1, (0, 0, 0, 0, 0), []),
  (13, .istore_n 3, 1, (0, 0, 0, 0, 0), []),
  (14, .iconst 0, 1, (0, 0, 0, 0, 0), []),
  (15, .istore 4, 2, (0, 0, 0, 0, 0), []),
  (17, .iload 4, 2, (0, 0, 0, 0, 0), [true, true, true, true, true, false]),
  (19, .aload_n 0, 1, (0, 0, 0, 0, 0), []),
  (20, .getfield 7, 3, (10, 2, 2, 0, 5015), []),
  (23, .iload_n 1, 1, (0, 0, 0, 0, 0), []),
  (24, .iaload, 1, (0, 0, 0, 0, 0), []),
  (25, .if_icmp .ge 54, 3, (48, 0, 0, 0, 0), []),
  (28, .aload_n 0, 1, (0, 0, 0, 0, 0), []),
  (29, .getfield 20, 3, (10, 5, 2, 0, 5018), []),
  (32, .iconst 5, 1, (0, 0, 0, 0, 0), []),
  (33, .iload_n 1, 1, (0, 0, 0, 0, 0), []),
  (34, .imul, 1, (0, 0, 0, 0, 0), []),
  (35, .iload 4, 2, (0, 0, 0, 0, 0), []),
  (37, .iadd, 1, (0, 0, 0, 0, 0), []),
  (38, .iaload, 1, (0, 0, 0, 0, 0), []),
  (39, .istore 5, 2, (0, 0, 0, 0, 0), []),
  (41, .iload_n 3, 1, (0, 0, 0, 0, 0), []),
  (42, .ifCond .eq 29, 3, (44, 0, 0, 0, 0), []),
  (45, .iload 5, 2, (0, 0, 0, 0, 0), []),
  (47, .iconst (-1), 1, (0, 0, 0, 0, 0), []),
  (48, .if_icmp .eq 19, 3, (42, 0, 0, 0, 0), []),
  (51, .iload 5, 2, (0, 0, 0, 0, 0), []),
  (53, .iload_n 1, 1, (0, 0, 0, 0, 0), []),
  (54, .if_icmp .eq 13, 3, (42, 0, 0, 0, 0), []),
  (57, .iload_n 2, 1, (0, 0, 0, 0, 0), []),
  (58, .iload 5, 2, (0, 0, 0, 0, 0), []),
  (60, .ishr, 1, (0, 0, 0, 0, 0), []),
  (61, .iconst 1, 1, (0, 0, 0, 0, 0), []),
  (62, .iand, 1, (0, 0, 0, 0, 0), []),
  (63, .iconst 1, 1, (0, 0, 0, 0, 0), []),
  (64, .if_icmp .ne 7, 3, (44, 0, 0, 0, 0), []),
  (67, .iconst 1, 1, (0, 0, 0, 0, 0), []),
  (68, .goto 4, 3, (45, 0, 0, 0, 0), []),
  (71, .iconst 0, 1, (0, 0, 0, 0, 0), []),
  (72, .istore_n 3, 1, (0, 0, 0, 0, 0), []),
  (73, .iinc 4 1, 3, (0, 0, 0, 0, 0), []),
  (76, .goto (-59), 3, (12, 0, 0, 0, 0), []),
  (79, .iload_n 3, 1, (0, 0, 0, 0, 0), []),
  (80, .ireturn, 1, (3, 0, 0, 0, 0), [])]
noncomputable def ai_o151 : List ai_E := [
  (0, .iconst 0, 1, (0, 0, 0, 0, 0), []),
  (1, .istore_n 1, 1, (0, 0, 0, 0, 0), []),
  (2, .iconst 0, 1, (0, 0, 0, 0, 0), []),
  (3, .istore_n 2, 1, (0, 0, 0, 0, 0), []),
  (4, .iload_n 2, 1, (0, 0, 0, 0, 0), [true, true, true, false, false]),
  (5, .aload_n 0, 1, (0, 0, 0, 0, 0), []),
  (6, .getfield 112, 3, (10, 1, 0, 0, 5014), []),
  (9, .if_icmp .ge 67, 3, (46, 0, 0, 0, 0), []),
  (12, .iconst (-1), 1, (0, 0, 0, 0, 0), []),
  (13, .istore_n 3, 1, (0, 0, 0, 0, 0), []),
  (14, .aload_n 0, 1, (0, 0, 0, 0, 0), []),
  (15, .getfield 112, 3, (10, 1, 0, 0, 5014), []),
  (18, .iconst 1, 1, (0, 0, 0, 0, 0), []),
  (19, .isub, 1, (0, 0, 0, 0, 0), []),
  (20, .istore 4, 2, (0, 0, 0, 0, 0), []),
  (22, .iload 4, 2, (0, 0, 0, 0, 0), [true, true, true, true, true]),
  (24, .ifCond .lt 26, 3, (28, 0, 0, 0, 0), []),
  (27, .aload_n 0, 1, (0, 0, 0, 0, 0), []),
  (28, .iload 4, 2, (0, 0, 0, 0, 0), []),
  (30, .iload_n 1, 1, (0, 0, 0, 0, 0), []),
  (31, .invokevirtual 208, 3, (150, 3, 0, 0, 6019), []),
  (34, .ifCond .eq 8, 3, (24, 0, 0, 0, 0), []),
  (37, .iload 4, 2, (0, 0, 0, 0, 0), []),
  (39, .goto 4, 3, (25, 0, 0, 0, 0), []),
  (42, .iload_n 3, 1, (0, 0, 0, 0, 0), []),
  (43, .istore_n 3, 1, (0, 0, 0, 0, 0), []),
  (44, .iinc 4 (-1), 3, (0, 0, 0, 0, 0), []),
  (47, .goto (-25), 3, (15, 0, 0, 0, 0), []),
  (50, .iload_n 3, 1, (0, 0, 0, 0, 0), []),
  (51, .iconst (-1), 1, (0, 0, 0, 0, 0), []),
  (52, .if_icmp .ne 5, 3, (33, 0, 0, 0, 0), []),
  (55, .iconst 0, 1, (0, 0, 0, 0, 0), []),
  (56, .ireturn, 1, (3, 0, 0, 0, 0), []),
  (57, .aload_n 0, 1, (0, 0, 0, 0, 0), []),
  (58, .getfield 88, 3, (10, 36, 2, 0, 5049), []),
  (61, .iload_n 2, 1, (0, 0, 0, 0, 0), []),
  (62, .iload_n 3, 1, (0, 0, 0, 0, 0), []),
  (63, .iastore, 1, (0, 0, 0, 0, 0), []),
  (64, .iload_n 1, 1, (0, 0, 0, 0, 0), []),
  (65, .iconst 1, 1, (0, 0, 0, 0, 0), []),
  (66, .iload_n 3, 1, (0, 0, 0, 0, 0), []),
  (67, .ishl, 1, (0, 0, 0, 0, 0), []),
  (68, .ior, 1, (0, 0, 0, 0, 0), []),
  (69, .istore_n 1, 1, (0, 0, 0, 0, 0), []),
  (70, .iinc 2 1, 3, (0, 0, 0, 0, 0), []),
  (73, .goto (-69), 3, (4, 0, 0, 0, 0), []),
  (76, .iconst 1, 1, (0, 0, 0, 0, 0), []),
  (77, .ireturn, 1, (3, 0, 0, 0, 0), [])]
noncomputable def ai_o152 : List ai_E := [
  (0, .aload_n 0, 1, (0, 0, 0, 0, 0), []),
  (1, .iload_n 1, 1, (0, 0, 0, 0, 0), []),
  (2, .ifCond .lt 11, 3, (7, 0, 0, 0, 0), []),
  (5, .iload_n 1, 1, (0, 0, 0, 0, 0), []),
  (6, .aload_n 0, 1, (0, 0, 0, 0, 0), []),
  (7, .getfield 112, 3, (10, 1, 0, 0, 5014), []),
  (10, .if_icmp .lt 7, 3, (9, 0, 0, 0, 0), []),
  (13, .iconst 1, 1, (0, 0, 0, 0, 0), []),
  (14, .goto 15, 3, (15, 0, 0, 0, 0), []),
  (17, .aload_n 0, 1, (0, 0, 0, 0, 0), []),
  (18, .invokevirtual 211, 3, (151, 1, 0, 0, 6015), []),
  (21, .ifCond .eq 7, 3, (14, 0, 0, 0, 0), []),
  (24, .iconst 0, 1, (0, 0, 0, 0, 0), []),
  (25, .goto 4, 3, (15, 0, 0, 0, 0), []),
  (28, .iconst 2, 1, (0, 0, 0, 0, 0), []),
  (29, .putfield 109, 3, (10, 0, 0, 0, 5013), []),
  (32, .aload_n 0, 1, (0, 0, 0, 0, 0), []),
  (33, .getfield 109, 3, (10, 0, 0, 0, 5013), []),
  (36, .ifCond .le 7, 3, (21, 0, 0, 0, 0), []),
  (39, .iconst 0, 1, (0, 0, 0, 0, 0), []),
  (40, .goto 9, 3, (25, 0, 0, 0, 0), []),
  (43, .aload_n 0, 1, (0, 0, 0, 0, 0), []),
  (44, .getfield 88, 3, (10, 36, 2, 0, 5049), []),
  (47, .iload_n 1, 1, (0, 0, 0, 0, 0), []),
  (48, .iaload, 1, (0, 0, 0, 0, 0), []),
  (49, .ireturn, 1, (0, 0, 0, 0, 0), [])]
noncomputable def ai_o153 : List ai_E := [
  (0, .iconst 0, 1, (0, 0, 0, 0, 0), []),
  (1, .istore_n 2, 1, (0, 0, 0, 0, 0), []),
  (2, .iload_n 2, 1, (0, 0, 0, 0, 0), [true, true, true]),
  (3, .sipush 300, 3, (0, 0, 0, 0, 0), []),
  (6, .if_icmp .ge 45, 3, (31, 0, 0, 0, 0), []),
  (9, .aload_n 0, 1, (0, 0, 0, 0, 0), []),
  (10, .getfield 33, 3, (10, 9, 2, 0, 5022), []),
  (13, .sipush 300, 3, (0, 0, 0, 0, 0), []),
  (16, .iload_n 1, 1, (0, 0, 0, 0, 0), []),
  (17, .imul, 1, (0, 0, 0, 0, 0), []),
  (18, .iload_n 2, 1, (0, 0, 0, 0, 0), []),
  (19, .iadd, 1, (0, 0, 0, 0, 0), []),
  (20, .aload_n 0, 1, (0, 0, 0, 0, 0), []),
  (21, .getfield 26, 3, (10, 7, 2, 0, 5020), []),
  (24, .iload_n 2, 1, (0, 0, 0, 0, 0), []),
  (25, .laload, 1, (0, 0, 0, 0, 0), []),
  (26, .lastore, 1, (0, 0, 0, 0, 0), []),
  (27, .aload_n 0, 1, (0, 0, 0, 0, 0), []),
  (28, .getfield 36, 3, (10, 10, 2, 0, 5023), []),
  (31, .sipush 300, 3, (0, 0, 0, 0, 0), []),
  (34, .iload_n 1, 1, (0, 0, 0, 0, 0), []),
  (35, .imul, 1, (0, 0, 0, 0, 0), []),
  (36, .iload_n 2, 1, (0, 0, 0, 0, 0), []),
  (37, .iadd, 1, (0, 0, 0, 0, 0), []),
  (38, .aload_n 0, 1, (0, 0, 0, 0, 0), []),
  (39, .getfield 30, 3, (10, 8, 2, 0, 5021), []),
  (42, .iload_n 2, 1, (0, 0, 0, 0, 0), []),
  (43, .baload, 1, (0, 0, 0, 0, 0), []),
  (44, .bastore, 1, (0, 0, 0, 0, 0), []),
  (45, .iinc 2 1, 3, (0, 0, 0, 0, 0), []),
  (48, .goto (-46), 3, (2, 0, 0, 0, 0), []),
  (51, .iconst 0, 1, (0, 0, 0, 0, 0), []),
  (52, .istore_n 2, 1, (0, 0, 0, 0, 0), []),
  (53, .iload_n 2, 1, (0, 0, 0, 0, 0), [true, true, true]),
  (54, .iconst 5, 1, (0, 0, 0, 0, 0), []),
  (55, .if_icmp .ge 25, 3, (50, 0, 0, 0, 0), []),
  (58, .aload_n 0, 1, (0, 0, 0, 0, 0), []),
  (59, .getfield 39, 3, (10, 11, 2, 0, 5024), []),
  (62, .iconst 5, 1, (0, 0, 0, 0, 0), []),
  (63, .iload_n 1, 1, (0, 0, 0, 0, 0), []),
  (64, .imul, 1, (0, 0, 0, 0, 0), []),
  (65, .iload_n 2, 1, (0, 0, 0, 0, 0), []),
  (66, .iadd, 1, (0, 0, 0, 0, 0), []),
  (67, .aload_n 0, 1, (0, 0, 0, 0, 0), []),
  (68, .getfield 23, 3, (10, 6, 2, 0, 5019), []),
  (71, .iload_n 2, 1, (0, 0, 0, 0, 0), []),
  (72, .iaload, 1, (0, 0, 0, 0, 0), []),
  (73, .iastore, 1, (0, 0, 0, 0, 0), []),
  (74, .iinc 2 1, 3, (0, 0, 0, 0, 0), []),
  (77, .goto (-24), 3, (33, 0, 0, 0, 0), []),
  (80, .aload_n 0, 1, (0, 0, 0, 0, 0), []),
  (81, .getfield 42, 3, (10, 12, 2, 0, 5025), []),
  (84, .iload_n 1, 1, (0, 0, 0, 0, 0), []),
  (85, .aload_n 0, 1, (0, 0, 0, 0, 0), []),
  (86, .getfield 214, 3, (10, 14, 0, 0, 5027), []),
  (89, .iastore, 1, (0, 0, 0, 0, 0), []),
  (90, .return_, 1, (0, 0, 0, 0, 0), [])]
noncomputable def ai_o154 : List ai_E := [
  (0, .iconst 0, 1, (0, 0, 0, 0, 0), []),
  (1, .istore_n 2, 1, (0, 0, 0, 0, 0), []),
  (2, .iload_n 2, 1, (0, 0, 0, 0, 0), [true, true, true]),
  (3, .sipush 300, 3, (0, 0, 0, 0, 0), []),
  (6, .if_icmp .ge 45, 3, (31, 0, 0, 0, 0), []),
  (9, .aload_n 0, 1, (0, 0, 0, 0, 0), []),
  (10, .getfield 26, 3, (10, 7, 2, 0, 5020), []),
  (13, .iload_n 2, 1, (0, 0, 0, 0, 0), []),
  (14, .aload_n 0, 1, (0, 0, 0, 0, 0), []),
  (15, .getfield 33, 3, (10, 9, 2, 0, 5022), []),
  (18, .sipush 300, 3, (0, 0, 0, 0, 0), []),
  (21, .iload_n 1, 1, (0, 0, 0, 0, 0), []),
  (22, .imul, 1, (0, 0, 0, 0, 0), []),
  (23, .iload_n 2, 1, (0, 0, 0, 0, 0), []),
  (24, .iadd, 1, (0, 0, 0, 0, 0), []),
  (25, .laload, 1, (0, 0, 0, 0, 0), []),
  (26, .lastore, 1, (0, 0, 0, 0, 0), []),
  (27, .aload_n 0, 1, (0, 0, 0, 0, 0), []),
  (28, .getfield 30, 3, (10, 8, 2, 0, 5021), []),
  (31, .iload_n 2, 1, (0, 0, 0, 0, 0), []),
  (32, .aload_n 0, 1, (0, 0, 0, 0, 0), []),
  (33, .getfield 36, 3, (10, 10, 2, 0, 5023), []),
  (36, .sipush 300, 3, (0, 0, 0, 0, 0), []),
  (39, .iload_n 1, 1, (0, 0, 0, 0, 0), []),
  (40, .imul, 1, (0, 0, 0, 0, 0), []),
  (41, .iload_n 2, 1, (0, 0, 0, 0, 0), []),
  (42, .iadd, 1, (0, 0, 0, 0, 0), []),
  (43, .baload, 1, (0, 0, 0, 0, 0), []),
  (44, .bastore, 1, (0, 0, 0, 0, 0), []),
  (45, .iinc 2 1, 3, (0, 0, 0, 0, 0), []),
  (48, .goto (-46), 3, (2, 0, 0, 0, 0), []),
  (51, .iconst 0, 1, (0, 0, 0, 0, 0), []),
  (52, .istore_n 2, 1, (0, 0, 0, 0, 0), []),
  (53, .iload_n 2, 1, (0, 0, 0, 0, 0), [true, true, true]),
  (54, .aload_n 0, 1, (0, 0, 0, 0, 0), []),
  (55, .getfield 112, 3, (10, 1, 0, 0, 5014), []),
  (58, .if_icmp .ge 25, 3, (51, 0, 0, 0, 0), []),
  (61, .aload_n 0, 1, (0, 0, 0, 0, 0), []),
  (62, .getfield 23, 3, (10, 6, 2, 0, 5019), []),
  (65, .iload_n 2, 1, (0, 0, 0, 0, 0), []),
  (66, .aload_n 0, 1, (0, 0, 0, 0, 0), []),
  (67, .getfield 39, 3, (10, 11, 2, 0, 5024), []),
  (70, .iconst 5, 1, (0, 0, 0, 0, 0), []),
  (71, .iload_n 1, 1, (0, 0, 0, 0, 0), []),
  (72, .imul, 1, (0, 0, 0, 0, 0), []),
  (73, .iload_n 2, 1, (0, 0, 0, 0, 0), []),
  (74, .iadd, 1, (0, 0, 0, 0, 0), []),
  (75, .iaload, 1, (0, 0, 0, 0, 0), []),
  (76, .iastore, 1, (0, 0, 0, 0, 0), []),
  (77, .iinc 2 1, 3, (0, 0, 0, 0, 0), []),
  (80, .goto (-27), 3, (33, 0, 0, 0, 0), []),
  (83, .aload_n 0, 1, (0, 0, 0, 0, 0), []),
  (84, .aload_n 0, 1, (0, 0, 0, 0, 0), []),
  (85, .getfield 42, 3, (10, 12, 2, 0, 5025), []),
  (88, .iload_n 1, 1, (0, 0, 0, 0, 0), []),
  (89, .iaload, 1, (0, 0, 0, 0, 0), []),
  (90, .putfield 214, 3, (10, 14, 0, 0, 5027), []),
  (93, .return_, 1, (0, 0, 0, 0, 0), [])]
noncomputable def ai_o155 : List ai_E := [
  (0, .aload_n 0, 1, (0, 0, 0, 0, 0), []),
  (1, .aload_n 0, 1, (0, 0, 0, 0, 0), []),
  (2, .getfield 123, 3, (10, 13, 0, 0, 5026), []),
  (5, .iconst 3, 1, (0, 0, 0, 0, 0), []),
  (6, .if_icmp .ne 7, 3, (7, 0, 0, 0, 0), []),
  (9, .iconst 1, 1, (0, 0, 0, 0, 0), []),
  (10, .goto 4, 3, (8, 0, 0, 0, 0), []),
  (13, .iconst 0, 1, (0, 0, 0, 0, 0), []),
  (14, .putfield 109, 3, (10, 0, 0, 0, 5013), []),
  (17, .aload_n 0, 1, (0, 0, 0, 0, 0), []),
  (18, .getfield 109, 3, (10, 0, 0, 0, 5013), []),
  (21, .ifCond .le 5, 3, (14, 0, 0, 0, 0), []),
  (24, .iconst 0, 1, (0, 0, 0, 0, 0), []),
  (25, .ireturn, 1, (0, 0, 0, 0, 0), []),
  (26, .aload_n 0, 1, (0, 0, 0, 0, 0), []),
  (27, .getfield 123, 3, (10, 13, 0, 0, 5026), []),
  (30, .ifCond .ne 8, 3, (20, 0, 0, 0, 0), []),
  (33, .aload_n 0, 1, (0, 0, 0, 0, 0), []),
  (34, .iconst 0, 1, (0, 0, 0, 0, 0), []),
  (35, .putfield 214, 3, (10, 14, 0, 0, 5027), []),
  (38, .aload_n 0, 1, (0, 0, 0, 0, 0), []),
  (39, .aload_n 0, 1, (0, 0, 0, 0, 0), []),
  (40, .getfield 123, 3, (10, 13, 0, 0, 5026), []),
  (43, .invokevirtual 217, 3, (153, 2, 0, 0, 6027), []),
  (46, .aload_n 0, 1, (0, 0, 0, 0, 0), []),
  (47, .dup, 1, (0, 0, 0, 0, 0), []),
  (48, .getfield 123, 3, (10, 13, 0, 0, 5026), []),
  (51, .iconst 1, 1, (0, 0, 0, 0, 0), []),
  (52, .iadd, 1, (0, 0, 0, 0, 0), []),
  (53, .putfield 123, 3, (10, 13, 0, 0, 5026), []),
  (56, .aload_n 0, 1, (0, 0, 0, 0, 0), []),
  (57, .getfield 123, 3, (10, 13, 0, 0, 5026), []),
  (60, .ireturn, 1, (0, 0, 0, 0, 0), [])]
noncomputable def ai_o156 : List ai_E := [
  (0, .aload_n 0, 1, (0, 0, 0, 0, 0), []),
  (1, .aload_n 0, 1, (0, 0, 0, 0, 0), []),
  (2, .getfield 123, 3, (10, 13, 0, 0, 5026), []),
  (5, .ifCond .ne 7, 3, (6, 0, 0, 0, 0), []),
  (8, .iconst 1, 1, (0, 0, 0, 0, 0), []),
  (9, .goto 4, 3, (7, 0, 0, 0, 0), []),
  (12, .iconst 0, 1, (0, 0, 0, 0, 0), []),
  (13, .putfield 109, 3, (10, 0, 0, 0, 5013), []),
  (16, .aload_n 0, 1, (0, 0, 0, 0, 0), []),
  (17, .getfield 109, 3, (10, 0, 0, 0, 5013), []),
  (20, .ifCond .le 5, 3, (13, 0, 0, 0, 0), []),
  (23, .iconst 0, 1, (0, 0, 0, 0, 0), []),
  (24, .ireturn, 1, (0, 0, 0, 0, 0), []),
  (25, .aload_n 0, 1, (0, 0, 0, 0, 0), []),
  (26, .dup, 1, (0, 0, 0, 0, 0), []),
  (27, .getfield 123, 3, (10, 13, 0, 0, 5026), []),
  (30, .iconst 1, 1, (0, 0, 0, 0, 0), []),
  (31, .isub, 1, (0, 0, 0, 0, 0), []),
  (32, .putfield 123, 3, (10, 13, 0, 0, 5026), []),
  (35, .aload_n 0, 1, (0, 0, 0, 0, 0), []),
  (36, .getfield 123, 3, (10, 13, 0, 0, 5026), []),
  (39, .ireturn, 1, (0, 0, 0, 0, 0), [])]
noncomputable def ai_o157 : List ai_E := [
  (0, .aload_n 0, 1, (0, 0, 0, 0, 0), []),
  (1, .aload_n 0, 1, (0, 0, 0, 0, 0), []),
  (2, .getfield 123, 3, (10, 13, 0, 0, 5026), []),
  (5, .ifCond .ne 7, 3, (6, 0, 0, 0, 0), []),
  (8, .iconst 1, 1, (0, 0, 0, 0, 0), []),
  (9, .goto 4, 3, (7, 0, 0, 0, 0), []),
  (12, .iconst 0, 1, (0, 0, 0, 0, 0), []),
  (13, .putfield 109, 3, (10, 0, 0, 0, 5013), []),
  (16, .aload_n 0, 1, (0, 0, 0, 0, 0), []),
  (17, .getfield 109, 3, (10, 0, 0, 0, 5013), []),
  (20, .ifCond .le 5, 3, (13, 0, 0, 0, 0), []),
  (23, .iconst 0, 1, (0, 0, 0, 0, 0), []),
  (24, .ireturn, 1, (0, 0, 0, 0, 0), []),
  (25, .aload_n 0, 1, (0, 0, 0, 0, 0), []),
  (26, .dup, 1, (0, 0, 0, 0, 0), []),
  (27, .getfield 123, 3, (10, 13, 0, 0, 5026), []),
  (30, .iconst 1, 1, (0, 0, 0, 0, 0), []),
  (31, .isub, 1, (0, 0, 0, 0, 0), []),
  (32, .putfield 123, 3, (10, 13, 0, 0, 5026), []),
  (35, .aload_n 0, 1, (0, 0, 0, 0, 0), []),
  (36, .aload_n 0, 1, (0, 0, 0, 0, 0), []),
  (37, .getfield 123, 3, (10, 13, 0, 0, 5026), []),
  (40, .invokevirtual 221, 3, (154, 2, 0, 0, 6039), []),
  (43, .aload_n 0, 1, (0, 0, 0, 0, 0), []),
  (44, .getfield 123, 3, (10, 13, 0, 0, 5026), []),
  (47, .ireturn, 1, (0, 0, 0, 0, 0), [])]
noncomputable def ai_o158 : List ai_E := [
  (0, .aload_n 0, 1, (0, 0, 0, 0, 0), []),
  (1, .getfield 91, 3, (10, 38, 2, 0, 5051), []),
  (4, .iconst 0, 1, (0, 0, 0, 0, 0), []),
  (5, .iload_n 1, 1, (0, 0, 0, 0, 0), []),
  (6, .iastore, 1, (0, 0, 0, 0, 0), []),
  (7, .aload_n 0, 1, (0, 0, 0, 0, 0), []),
  (8, .getfield 91, 3, (10, 38, 2, 0, 5051), []),
  (11, .iconst 1, 1, (0, 0, 0, 0, 0), []),
  (12, .iload_n 2, 1, (0, 0, 0, 0, 0), []),
  (13, .iastore, 1, (0, 0, 0, 0, 0), []),
  (14, .aload_n 0, 1, (0, 0, 0, 0, 0), []),
  (15, .getfield 91, 3, (10, 38, 2, 0, 5051), []),
  (18, .iconst 2, 1, (0, 0, 0, 0, 0), []),
  (19, .iload_n 3, 1, (0, 0, 0, 0, 0), []),
  (20, .iastore, 1, (0, 0, 0, 0, 0), []),
  (21, .aload_n 0, 1, (0, 0, 0, 0, 0), []),
  (22, .getfield 91, 3, (10, 38, 2, 0, 5051), []),
  (25, .iconst 3, 1, (0, 0, 0, 0, 0), []),
  (26, .iload 4, 2, (0, 0, 0, 0, 0), []),
  (28, .iastore, 1, (0, 0, 0, 0, 0), []),
  (29, .iconst 0, 1, (0, 0, 0, 0, 0), []),
  (30, .ireturn, 1, (3, 0, 0, 0, 0), [])]
noncomputable def ai_o159 : List ai_E := [
  (0, .iconst (-1), 1, (0, 0, 0, 0, 0), []),
  (1, .istore 4, 2, (0, 0, 0, 0, 0), []),
  (3, .iconst 0, 1, (0, 0, 0, 0, 0), []),
  (4, .istore 5, 2, (0, 0, 0, 0, 0), []),
  (6, .iload 5, 2, (0, 0, 0, 0, 0), [true, true, true, false, true, true]),
  (8, .aload_n 0, 1, (0, 0, 0, 0, 0), []),
  (9, .getfield 23, 3, (10, 6, 2, 0, 5019), []),
  (12, .iload_n 1, 1, (0, 0, 0, 0, 0), []),
  (13, .iaload, 1, (0, 0, 0, 0, 0), []),
  (14, .if_icmp .ge 37, 3, (29, 0, 0, 0, 0), []),
  (17, .aload_n 0, 1, (0, 0, 0, 0, 0), []),
  (18, .getfield 26, 3, (10, 7, 2, 0, 5020), []),
  (21, .bipush 60, 2, (0, 0, 0, 0, 0), []),
  (23, .iload_n 1, 1, (0, 0, 0, 0, 0), []),
  (24, .imul, 1, (0, 0, 0, 0, 0), []),
  (25, .iconst 5, 1, (0, 0, 0, 0, 0), []),
  (26, .iload 5, 2, (0, 0, 0, 0, 0), []),
  (28, .imul, 1, (0, 0, 0, 0, 0), []),
  (29, .iadd, 1, (0, 0, 0, 0, 0), []),
  (30, .laload, 1, (0, 0, 0, 0, 0), []),
  (31, .lload_n 2, 1, (0, 0, 0, 0, 0), []),
  (32, .lcmp, 1, (0, 0, 0, 0, 0), []),
  (33, .ifCond .ne 8, 3, (25, 0, 0, 0, 0), []),
  (36, .iload 5, 2, (0, 0, 0, 0, 0), []),
  (38, .goto 5, 3, (26, 0, 0, 0, 0), []),
  (41, .iload 4, 2, (0, 0, 0, 0, 0), []),
  (43, .istore 4, 2, (0, 0, 0, 0, 0), []),
  (45, .iinc 5 1, 3, (0, 0, 0, 0, 0), []),
  (48, .goto (-42), 3, (4, 0, 0, 0, 0), []),
  (51, .iload 4, 2, (0, 0, 0, 0, 0), []),
  (53, .ireturn, 1, (0, 0, 0, 0, 0), [])]
noncomputable def ai_o160 : List ai_E := [
  (0, .aload_n 0, 1, (0, 0, 0, 0, 0), []),
  (1, .getfield 123, 3, (10, 13, 0, 0, 5026), []),
  (4, .ifCond .le 17, 3, (11, 0, 0, 0, 0), []),
  (7, .aload_n 0, 1, (0, 0, 0, 0, 0), []),
  (8, .getfield 214, 3, (10, 14, 0, 0, 5027), []),
  (11, .iload_n 1, 1, (0, 0, 0, 0, 0), []),
  (12, .iadd, 1, (0, 0, 0, 0, 0), []),
  (13, .sipush 200, 3, (0, 0, 0, 0, 0), []),
  (16, .if_icmp .le 5, 3, (11, 0, 0, 0, 0), []),
  (19, .iconst 0, 1, (0, 0, 0, 0, 0), []),
  (20, .ireturn, 1, (3, 0, 0, 0, 0), []),
  (21, .aload_n 0, 1, (0, 0, 0, 0, 0), []),
  (22, .dup, 1, (0, 0, 0, 0, 0), []),
  (23, .getfield 214, 3, (10, 14, 0, 0, 5027), []),
  (26, .iload_n 1, 1, (0, 0, 0, 0, 0), []),
  (27, .iadd, 1, (0, 0, 0, 0, 0), []),
  (28, .putfield 214, 3, (10, 14, 0, 0, 5027), []),
  (31, .aload_n 0, 1, (0, 0, 0, 0, 0), []),
  (32, .dup, 1, (0, 0, 0, 0, 0), []),
  (33, .getfield 224, 3, (10, 37, 0, 0, 5050), []),
  (36, .iload_n 1, 1, (0, 0, 0, 0, 0), []),
  (37, .iadd, 1, (0, 0, 0, 0, 0), []),
  (38, .putfield 224, 3, (10, 37, 0, 0, 5050), []),
  (41, .iconst 1, 1, (0, 0, 0, 0, 0), []),
  (42, .ireturn, 1, (3, 0, 0, 0, 0), [])]
noncomputable def ai_o161 : List ai_E := [
  (0, .aload_n 0, 1, (0, 0, 0, 0, 0), []),
  (1, .getfield 26, 3, (10, 7, 2, 0, 5020), []),
  (4, .bipush 60, 2, (0, 0, 0, 0, 0), []),
  (6, .iload_n 1, 1, (0, 0, 0, 0, 0), []),
  (7, .imul, 1, (0, 0, 0, 0, 0), []),
  (8, .iconst 5, 1, (0, 0, 0, 0, 0), []),
  (9, .iload_n 2, 1, (0, 0, 0, 0, 0), []),
  (10, .imul, 1, (0, 0, 0, 0, 0), []),
  (11, .iadd, 1, (0, 0, 0, 0, 0), []),
  (12, .laload, 1, (0, 0, 0, 0, 0), []),
  (13, .lstore_n 3, 1, (0, 0, 0, 0, 0), []),
  (14, .iconst 0, 1, (0, 0, 0, 0, 0), []),
  (15, .istore 5, 2, (0, 0, 0, 0, 0), []),
  (17, .iconst 0, 1, (0, 0, 0, 0, 0), []),
  (18, .istore 6, 2, (0, 0, 0, 0, 0), []),
  (20, .iload 6, 2, (0, 0, 0, 0, 0), [true, true, true, true, false, true, true, false, false, false]),
  (22, .aload_n 0, 1, (0, 0, 0, 0, 0), []),
  (23, .getfield 112, 3, (10, 1, 0, 0, 5014), []),
  (26, .if_icmp .ge 128, 3, (85, 0, 0, 0, 0), []),
  (29, .iconst 0, 1, (0, 0, 0, 0, 0), []),
  (30, .istore 7, 2, (0, 0, 0, 0, 0), []),
  (32, .iload 7, 2, (0, 0, 0, 0, 0), [true, true, true, true, false, true, true, true, false, false]),
  (34, .aload_n 0, 1, (0, 0, 0, 0, 0), []),
  (35, .getfield 23, 3, (10, 6, 2, 0, 5019), []),
  (38, .iload 6, 2, (0, 0, 0, 0, 0), []),
  (40, .iaload, 1, (0, 0, 0, 0, 0), []),
  (41, .if_icmp .ge 107, 3, (83, 0, 0, 0, 0), []),
  (44, .iconst 0, 1, (0, 0, 0, 0, 0), []),
  (45, .istore 8, 2, (0, 0, 0, 0, 0), []),
  (47, .iload 8, 2, (0, 0, 0, 0, 0), [true, true, true, true, false, true, true, true, true, false]),
  (49, .aload_n 0, 1, (0, 0, 0, 0, 0), []),
  (50, .getfield 7, 3, (10, 2, 2, 0, 5015), []),
  (53, .iload 6, 2, (0, 0, 0, 0, 0), []),
  (55, .iaload, 1, (0, 0, 0, 0, 0), []),
  (56, .if_icmp .ge 86, 3, (81, 0, 0, 0, 0), []),
  (59, .bipush 60, 2, (0, 0, 0, 0, 0), []),
  (61, .iload 6, 2, (0, 0, 0, 0, 0), []),
  (63, .imul, 1, (0, 0, 0, 0, 0), []),
  (64, .iconst 5, 1, (0, 0, 0, 0, 0), []),
  (65, .iload 7, 2, (0, 0, 0, 0, 0), []),
  (67, .imul, 1, (0, 0, 0, 0, 0), []),
  (68, .iadd, 1, (0, 0, 0, 0, 0), []),
  (69, .iload 8, 2, (0, 0, 0, 0, 0), []),
  (71, .iadd, 1, (0, 0, 0, 0, 0), []),
  (72, .istore 9, 2, (0, 0, 0, 0, 0), []),
  (74, .iload 5, 2, (0, 0, 0, 0, 0), []),
  (76, .ifCond .ne 53, 3, (75, 0, 0, 0, 0), []),
  (79, .aload_n 0, 1, (0, 0, 0, 0, 0), []),
  (80, .getfield 20, 3, (10, 5, 2, 0, 5018), []),
  (83, .iconst 5, 1, (0, 0, 0, 0, 0), []),
  (84, .iload 6, 2, (0, 0, 0, 0, 0), []),
  (86, .imul, 1, (0, 0, 0, 0, 0), []),
  (87, .iload 8, 2, (0, 0, 0, 0, 0), []),
  (89, .iadd, 1, (0, 0, 0, 0, 0), []),
  (90, .iaload, 1, (0, 0, 0, 0, 0), []),
  (91, .iload_n 1, 1, (0, 0, 0, 0, 0), []),
  (92, .if_icmp .ne 41, 3, (77, 0, 0, 0, 0), []),
  (95, .aload_n 0, 1, (0, 0, 0, 0, 0), []),
  (96, .getfield 30, 3, (10, 8, 2, 0, 5021), []),
  (99, .iload 9, 2, (0, 0, 0, 0, 0), []),
  (101, .baload, 1, (0, 0, 0, 0, 0), []),
  (102, .ifCond .ne 31, 3, (77, 0, 0, 0, 0), []),
  (105, .aload_n 0, 1, (0, 0, 0, 0, 0), []),
  (106, .getfield 26, 3, (10, 7, 2, 0, 5020), []),
  (109, .iload 9, 2, (0, 0, 0, 0, 0), []),
  (111, .laload, 1, (0, 0, 0, 0, 0), []),
  (112, .lload_n 3, 1, (0, 0, 0, 0, 0), []),
  (113, .lcmp, 1, (0, 0, 0, 0, 0), []),
  (114, .ifCond .ne 19, 3, (77, 0, 0, 0, 0), []),
  (117, .iload 6, 2, (0, 0, 0, 0, 0), []),
  (119, .iload_n 1, 1, (0, 0, 0, 0, 0), []),
  (120, .if_icmp .ne 9, 3, (75, 0, 0, 0, 0), []),
  (123, .iload 7, 2, (0, 0, 0, 0, 0), []),
  (125, .iload_n 2, 1, (0, 0, 0, 0, 0), []),
  (126, .if_icmp .eq 7, 3, (77, 0, 0, 0, 0), []),
  (129, .iconst 1, 1, (0, 0, 0, 0, 0), []),
  (130, .goto 4, 3, (78, 0, 0, 0, 0), []),
  (133, .iconst 0, 1, (0, 0, 0, 0, 0), []),
  (134, .istore 5, 2, (0, 0, 0, 0, 0), []),
  (136, .iinc 8 1, 3, (0, 0, 0, 0, 0), []),
  (139, .goto (-92), 3, (29, 0, 0, 0, 0), []),
  (142, .iinc 7 1, 3, (0, 0, 0, 0, 0), []),
  (145, .goto (-113), 3, (21, 0, 0, 0, 0), []),
  (148, .iinc 6 1, 3, (0, 0, 0, 0, 0), []),
  (151, .goto (-131), 3, (15, 0, 0, 0, 0), []),
  (154, .iload 5, 2, (0, 0, 0, 0, 0), []),
  (156, .ireturn, 1, (3, 0, 0, 0, 0), [])]
noncomputable def ai_o162 : List ai_E := [
  (0, .aload_n 0, 1, (0, 0, 0, 0, 0), []),
  (1, .getfield 23, 3, (10, 6, 2, 0, 5019), []),
  (4, .iload_n 1, 1, (0, 0, 0, 0, 0), []),
  (5, .dup2, 1, (0, 0, 0, 0, 0), []),
  (6, .iaload, 1, (0, 0, 0, 0, 0), []),
  (7, .iconst 1, 1, (0, 0, 0, 0, 0), []),
  (8, .isub, 1, (0, 0, 0, 0, 0), []),
  (9, .iastore, 1, (0, 0, 0, 0, 0), []),
  (10, .bipush 60, 2, (0, 0, 0, 0, 0), []),
  (12, .iload_n 1, 1, (0, 0, 0, 0, 0), []),
  (13, .imul, 1, (0, 0, 0, 0, 0), []),
  (14, .iconst 5, 1, (0, 0, 0, 0, 0), []),
  (15, .iload_n 2, 1, (0, 0, 0, 0, 0), []),
  (16, .imul, 1, (0, 0, 0, 0, 0), []),
  (17, .iadd, 1, (0, 0, 0, 0, 0), []),
  (18, .istore_n 3, 1, (0, 0, 0, 0, 0), []),
  (19, .iload_n 3, 1, (0, 0, 0, 0, 0), [true, true, false, true]),
  (20, .bipush 60, 2, (0, 0, 0, 0, 0), []),
  (22, .iload_n 1, 1, (0, 0, 0, 0, 0), []),
  (23, .imul, 1, (0, 0, 0, 0, 0), []),
  (24, .iconst 5, 1, (0, 0, 0, 0, 0), []),
  (25, .aload_n 0, 1, (0, 0, 0, 0, 0), []),
  (26, .getfield 23, 3, (10, 6, 2, 0, 5019), []),
  (29, .iload_n 1, 1, (0, 0, 0, 0, 0), []),
  (30, .iaload, 1, (0, 0, 0, 0, 0), []),
  (31, .imul, 1, (0, 0, 0, 0, 0), []),
  (32, .iadd, 1, (0, 0, 0, 0, 0), []),
  (33, .if_icmp .ge 37, 3, (50, 0, 0, 0, 0), []),
  (36, .aload_n 0, 1, (0, 0, 0, 0, 0), []),
  (37, .getfield 26, 3, (10, 7, 2, 0, 5020), []),
  (40, .iload_n 3, 1, (0, 0, 0, 0, 0), []),
  (41, .aload_n 0, 1, (0, 0, 0, 0, 0), []),
  (42, .getfield 26, 3, (10, 7, 2, 0, 5020), []),
  (45, .iload_n 3, 1, (0, 0, 0, 0, 0), []),
  (46, .iconst 5, 1, (0, 0, 0, 0, 0), []),
  (47, .iadd, 1, (0, 0, 0, 0, 0), []),
  (48, .laload, 1, (0, 0, 0, 0, 0), []),
  (49, .lastore, 1, (0, 0, 0, 0, 0), []),
  (50, .aload_n 0, 1, (0, 0, 0, 0, 0), []),
  (51, .getfield 30, 3, (10, 8, 2, 0, 5021), []),
  (54, .iload_n 3, 1, (0, 0, 0, 0, 0), []),
  (55, .aload_n 0, 1, (0, 0, 0, 0, 0), []),
  (56, .getfield 30, 3, (10, 8, 2, 0, 5021), []),
  (59, .iload_n 3, 1, (0, 0, 0, 0, 0), []),
  (60, .iconst 5, 1, (0, 0, 0, 0, 0), []),
  (61, .iadd, 1, (0, 0, 0, 0, 0), []),
  (62, .baload, 1, (0, 0, 0, 0, 0), []),
  (63, .bastore, 1, (0, 0, 0, 0, 0), []),
  (64, .iinc 3 1, 3, (0, 0, 0, 0, 0), []),
  (67, .goto (-48), 3, (16, 0, 0, 0, 0), []),
  (70, .return_, 1, (0, 0, 0, 0, 0), [])]
noncomputable def ai_o163 : List ai_E := [
  (0, .iload_n 2, 1, (0, 0, 0, 0, 0), []),
  (1, .istore_n 3, 1, (0, 0, 0, 0, 0), []),
  (2, .iload_n 3, 1, (0, 0, 0, 0, 0), []),
  (3, .iconst (-1), 1, (0, 0, 0, 0, 0), []),
  (4, .if_icmp .ne 125, 3, (86, 0, 0, 0, 0), []),
  (7, .aload_n 0, 1, (0, 0, 0, 0, 0), []),
  (8, .getfield 23, 3, (10, 6, 2, 0, 5019), []),
  (11, .iload_n 1, 1, (0, 0, 0, 0, 0), []),
  (12, .iaload, 1, (0, 0, 0, 0, 0), []),
  (13, .istore_n 3, 1, (0, 0, 0, 0, 0), []),
  (14, .iload_n 3, 1, (0, 0, 0, 0, 0), [true, true, false, true, false]),
  (15, .ifCond .le 34, 3, (32, 0, 0, 0, 0), []),
  (18, .aload_n 0, 1, (0, 0, 0, 0, 0), []),
  (19, .getfield 26, 3, (10, 7, 2, 0, 5020), []),
  (22, .bipush 60, 2, (0, 0, 0, 0, 0), []),
  (24, .iload_n 1, 1, (0, 0, 0, 0, 0), []),
  (25, .imul, 1, (0, 0, 0, 0, 0), []),
  (26, .iconst 5, 1, (0, 0, 0, 0, 0), []),
  (27, .iload_n 3, 1, (0, 0, 0, 0, 0), []),
  (28, .imul, 1, (0, 0, 0, 0, 0), []),
  (29, .iadd, 1, (0, 0, 0, 0, 0), []),
  (30, .iconst 5, 1, (0, 0, 0, 0, 0), []),
  (31, .isub, 1, (0, 0, 0, 0, 0), []),
  (32, .laload, 1, (0, 0, 0, 0, 0), []),
  (33, .aload_n 0, 1, (0, 0, 0, 0, 0), []),
  (34, .getfield 94, 3, (10, 39, 2, 0, 5052), []),
  (37, .iconst 0, 1, (0, 0, 0, 0, 0), []),
  (38, .laload, 1, (0, 0, 0, 0, 0), []),
  (39, .lcmp, 1, (0, 0, 0, 0, 0), []),
  (40, .ifCond .le 9, 3, (32, 0, 0, 0, 0), []),
  (43, .iinc 3 (-1), 3, (0, 0, 0, 0, 0), []),
  (46, .goto (-32), 3, (10, 0, 0, 0, 0), []),
  (49, .bipush 60, 2, (0, 0, 0, 0, 0), []),
  (51, .iload_n 1, 1, (0, 0, 0, 0, 0), []),
  (52, .imul, 1, (0, 0, 0, 0, 0), []),
  (53, .iconst 5, 1, (0, 0, 0, 0, 0), []),
  (54, .aload_n 0, 1, (0, 0, 0, 0, 0), []),
  (55, .getfield 23, 3, (10, 6, 2, 0, 5019), []),
  (58, .iload_n 1, 1, (0, 0, 0, 0, 0), []),
  (59, .iaload, 1, (0, 0, 0, 0, 0), []),
  (60, .imul, 1, (0, 0, 0, 0, 0), []),
  (61, .iadd, 1, (0, 0, 0, 0, 0), []),
  (62, .iconst 4, 1, (0, 0, 0, 0, 0), []),
  (63, .iadd, 1, (0, 0, 0, 0, 0), []),
  (64, .istore 4, 2, (0, 0, 0, 0, 0), []),
  (66, .iload 4, 2, (0, 0, 0, 0, 0), [true, true, false, true, true]),
  (68, .bipush 60, 2, (0, 0, 0, 0, 0), []),
  (70, .iload_n 1, 1, (0, 0, 0, 0, 0), []),
  (71, .imul, 1, (0, 0, 0, 0, 0), []),
  (72, .iconst 5, 1, (0, 0, 0, 0, 0), []),
  (73, .iload_n 3, 1, (0, 0, 0, 0, 0), []),
  (74, .imul, 1, (0, 0, 0, 0, 0), []),
  (75, .iadd, 1, (0, 0, 0, 0, 0), []),
  (76, .iconst 5, 1, (0, 0, 0, 0, 0), []),
  (77, .iadd, 1, (0, 0, 0, 0, 0), []),
  (78, .if_icmp .lt 41, 3, (78, 0, 0, 0, 0), []),
  (81, .aload_n 0, 1, (0, 0, 0, 0, 0), []),
  (82, .getfield 26, 3, (10, 7, 2, 0, 5020), []),
  (85, .iload 4, 2, (0, 0, 0, 0, 0), []),
  (87, .aload_n 0, 1, (0, 0, 0, 0, 0), []),
  (88, .getfield 26, 3, (10, 7, 2, 0, 5020), []),
  (91, .iload 4, 2, (0, 0, 0, 0, 0), []),
  (93, .iconst 5, 1, (0, 0, 0, 0, 0), []),
  (94, .isub, 1, (0, 0, 0, 0, 0), []),
  (95, .laload, 1, (0, 0, 0, 0, 0), []),
  (96, .lastore, 1, (0, 0, 0, 0, 0), []),
  (97, .aload_n 0, 1, (0, 0, 0, 0, 0), []),
  (98, .getfield 30, 3, (10, 8, 2, 0, 5021), []),
  (101, .iload 4, 2, (0, 0, 0, 0, 0), []),
  (103, .aload_n 0, 1, (0, 0, 0, 0, 0), []),
  (104, .getfield 30, 3, (10, 8, 2, 0, 5021), []),
  (107, .iload 4, 2, (0, 0, 0, 0, 0), []),
  (109, .iconst 5, 1, (0, 0, 0, 0, 0), []),
  (110, .isub, 1, (0, 0, 0, 0, 0), []),
  (111, .baload, 1, (0, 0, 0, 0, 0), []),
  (112, .bastore, 1, (0, 0, 0, 0, 0), []),
  (113, .iinc 4 (-1), 3, (0, 0, 0, 0, 0), []),
  (116, .goto (-50), 3, (45, 0, 0, 0, 0), []),
  (119, .aload_n 0, 1, (0, 0, 0, 0, 0), []),
  (120, .getfield 23, 3, (10, 6, 2, 0, 5019), []),
  (123, .iload_n 1, 1, (0, 0, 0, 0, 0), []),
  (124, .dup2, 1, (0, 0, 0, 0, 0), []),
  (125, .iaload, 1, (0, 0, 0, 0, 0), []),
  (126, .iconst 1, 1, (0, 0, 0, 0, 0), []),
  (127, .iadd, 1, (0, 0, 0, 0, 0), []),
  (128, .iastore, 1, (0, 0, 0, 0, 0), []),
  (129, .iconst 0, 1, (0, 0, 0, 0, 0), []),
  (130, .istore 4, 2, (0, 0, 0, 0, 0), []),
  (132, .iload 4, 2, (0, 0, 0, 0, 0), [true, true, false, true, true]),
  (134, .iconst 5, 1, (0, 0, 0, 0, 0), []),
  (135, .if_icmp .ge 55, 3, (125, 0, 0, 0, 0), []),
  (138, .aload_n 0, 1, (0, 0, 0, 0, 0), []),
  (139, .getfield 26, 3, (10, 7, 2, 0, 5020), []),
  (142, .bipush 60, 2, (0, 0, 0, 0, 0), []),
  (144, .iload_n 1, 1, (0, 0, 0, 0, 0), []),
  (145, .imul, 1, (0, 0, 0, 0, 0), []),
  (146, .iconst 5, 1, (0, 0, 0, 0, 0), []),
  (147, .iload_n 3, 1, (0, 0, 0, 0, 0), []),
  (148, .imul, 1, (0, 0, 0, 0, 0), []),
  (149, .iadd, 1, (0, 0, 0, 0, 0), []),
  (150, .iload 4, 2, (0, 0, 0, 0, 0), []),
  (152, .iadd, 1, (0, 0, 0, 0, 0), []),
  (153, .aload_n 0, 1, (0, 0, 0, 0, 0), []),
  (154, .getfield 94, 3, (10, 39, 2, 0, 5052), []),
  (157, .iload 4, 2, (0, 0, 0, 0, 0), []),
  (159, .laload, 1, (0, 0, 0, 0, 0), []),
  (160, .lastore, 1, (0, 0, 0, 0, 0), []),
  (161, .aload_n 0, 1, (0, 0, 0, 0, 0), []),
  (162, .getfield 30, 3, (10, 8, 2, 0, 5021), []),
  (165, .bipush 60, 2, (0, 0, 0, 0, 0), []),
  (167, .iload_n 1, 1, (0, 0, 0, 0, 0), []),
  (168, .imul, 1, (0, 0, 0, 0, 0), []),
  (169, .iconst 5, 1, (0, 0, 0, 0, 0), []),
  (170, .iload_n 3, 1, (0, 0, 0, 0, 0), []),
  (171, .imul, 1, (0, 0, 0, 0, 0), []),
  (172, .iadd, 1, (0, 0, 0, 0, 0), []),
  (173, .iload 4, 2, (0, 0, 0, 0, 0), []),
  (175, .iadd, 1, (0, 0, 0, 0, 0), []),
  (176, .aload_n 0, 1, (0, 0, 0, 0, 0), []),
  (177, .getfield 97, 3, (10, 40, 2, 0, 5053), []),
  (180, .iload 4, 2, (0, 0, 0, 0, 0), []),
  (182, .baload, 1, (0, 0, 0, 0, 0), []),
  (183, .bastore, 1, (0, 0, 0, 0, 0), []),
  (184, .iinc 4 1, 3, (0, 0, 0, 0, 0), []),
  (187, .goto (-55), 3, (88, 0, 0, 0, 0), []),
  (190, .return_, 1, (0, 0, 0, 0, 0), [])]
noncomputable def ai_o164 : List ai_E := [
  (0, .iconst 0, 1, (0, 0, 0, 0, 0), []),
  (1, .istore 5, 2, (0, 0, 0, 0, 0), []),
  (3, .iload 5, 2, (0, 0, 0, 0, 0), [true, true, true, true, true, true, false]),
  (5, .iconst 5, 1, (0, 0, 0, 0, 0), []),
  (6, .if_icmp .ge 81, 3, (51, 0, 0, 0, 0), []),
  (9, .aload_n 0, 1, (0, 0, 0, 0, 0), []),
  (10, .getfield 94, 3, (10, 39, 2, 0, 5052), []),
  (13, .iload 5, 2, (0, 0, 0, 0, 0), []),
  (15, .iload 4, 2, (0, 0, 0, 0, 0), []),
  (17, .iconst (-1), 1, (0, 0, 0, 0, 0), []),
  (18, .if_icmp .ne 7, 3, (13, 0, 0, 0, 0), []),
  (21, .lconst 0, 1, (0, 0, 0, 0, 0), []),
  (22, .goto 20, 3, (25, 0, 0, 0, 0), []),
  (25, .aload_n 0, 1, (0, 0, 0, 0, 0), []),
  (26, .getfield 26, 3, (10, 7, 2, 0, 5020), []),
  (29, .bipush 60, 2, (0, 0, 0, 0, 0), []),
  (31, .iload_n 1, 1, (0, 0, 0, 0, 0), []),
  (32, .imul, 1, (0, 0, 0, 0, 0), []),
  (33, .iconst 5, 1, (0, 0, 0, 0, 0), []),
  (34, .iload 4, 2, (0, 0, 0, 0, 0), []),
  (36, .imul, 1, (0, 0, 0, 0, 0), []),
  (37, .iadd, 1, (0, 0, 0, 0, 0), []),
  (38, .iload 5, 2, (0, 0, 0, 0, 0), []),
  (40, .iadd, 1, (0, 0, 0, 0, 0), []),
  (41, .laload, 1, (0, 0, 0, 0, 0), []),
  (42, .lastore, 1, (0, 0, 0, 0, 0), []),
  (43, .aload_n 0, 1, (0, 0, 0, 0, 0), []),
  (44, .getfield 97, 3, (10, 40, 2, 0, 5053), []),
  (47, .iload 5, 2, (0, 0, 0, 0, 0), []),
  (49, .iload 4, 2, (0, 0, 0, 0, 0), []),
  (51, .iconst (-1), 1, (0, 0, 0, 0, 0), []),
  (52, .if_icmp .eq 23, 3, (45, 0, 0, 0, 0), []),
  (55, .aload_n 0, 1, (0, 0, 0, 0, 0), []),
  (56, .getfield 30, 3, (10, 8, 2, 0, 5021), []),
  (59, .bipush 60, 2, (0, 0, 0, 0, 0), []),
  (61, .iload_n 1, 1, (0, 0, 0, 0, 0), []),
  (62, .imul, 1, (0, 0, 0, 0, 0), []),
  (63, .iconst 5, 1, (0, 0, 0, 0, 0), []),
  (64, .iload 4, 2, (0, 0, 0, 0, 0), []),
  (66, .imul, 1, (0, 0, 0, 0, 0), []),
  (67, .iadd, 1, (0, 0, 0, 0, 0), []),
  (68, .iload 5, 2, (0, 0, 0, 0, 0), []),
  (70, .iadd, 1, (0, 0, 0, 0, 0), []),
  (71, .baload, 1, (0, 0, 0, 0, 0), []),
  (72, .ifCond .eq 7, 3, (47, 0, 0, 0, 0), []),
  (75, .iconst 1, 1, (0, 0, 0, 0, 0), []),
  (76, .goto 4, 3, (48, 0, 0, 0, 0), []),
  (79, .iconst 0, 1, (0, 0, 0, 0, 0), []),
  (80, .bastore, 1, (0, 0, 0, 0, 0), []),
  (81, .iinc 5 1, 3, (0, 0, 0, 0, 0), []),
  (84, .goto (-81), 3, (2, 0, 0, 0, 0), []),
  (87, .iconst 0, 1, (0, 0, 0, 0, 0), []),
  (88, .istore 5, 2, (0, 0, 0, 0, 0), []),
  (90, .iload 5, 2, (0, 0, 0, 0, 0), [true, false, true, true, false, true, false]),
  (92, .aload_n 0, 1, (0, 0, 0, 0, 0), []),
  (93, .getfield 55, 3, (10, 23, 2, 0, 5036), []),
  (96, .iload_n 2, 1, (0, 0, 0, 0, 0), []),
  (97, .iaload, 1, (0, 0, 0, 0, 0), []),
  (98, .if_icmp .ge 58, 3, (94, 0, 0, 0, 0), []),
  (101, .aload_n 0, 1, (0, 0, 0, 0, 0), []),
  (102, .getfield 61, 3, (10, 25, 2, 0, 5038), []),
  (105, .iconst 5, 1, (0, 0, 0, 0, 0), []),
  (106, .iload_n 2, 1, (0, 0, 0, 0, 0), []),
  (107, .imul, 1, (0, 0, 0, 0, 0), []),
  (108, .iload 5, 2, (0, 0, 0, 0, 0), []),
  (110, .iadd, 1, (0, 0, 0, 0, 0), []),
  (111, .iaload, 1, (0, 0, 0, 0, 0), []),
  (112, .istore 6, 2, (0, 0, 0, 0, 0), []),
  (114, .aload_n 0, 1, (0, 0, 0, 0, 0), []),
  (115, .getfield 94, 3, (10, 39, 2, 0, 5052), []),
  (118, .iload 6, 2, (0, 0, 0, 0, 0), []),
  (120, .aload_n 0, 1, (0, 0, 0, 0, 0), []),
  (121, .getfield 64, 3, (10, 26, 2, 0, 5039), []),
  (124, .iconst 5, 1, (0, 0, 0, 0, 0), []),
  (125, .iload_n 3, 1, (0, 0, 0, 0, 0), []),
  (126, .imul, 1, (0, 0, 0, 0, 0), []),
  (127, .iload 5, 2, (0, 0, 0, 0, 0), []),
  (129, .iadd, 1, (0, 0, 0, 0, 0), []),
  (130, .laload, 1, (0, 0, 0, 0, 0), []),
  (131, .lastore, 1, (0, 0, 0, 0, 0), []),
  (132, .aload_n 0, 1, (0, 0, 0, 0, 0), []),
  (133, .getfield 97, 3, (10, 40, 2, 0, 5053), []),
  (136, .iload 6, 2, (0, 0, 0, 0, 0), []),
  (138, .aload_n 0, 1, (0, 0, 0, 0, 0), []),
  (139, .getfield 67, 3, (10, 27, 2, 0, 5040), []),
  (142, .iconst 5, 1, (0, 0, 0, 0, 0), []),
  (143, .iload_n 3, 1, (0, 0, 0, 0, 0), []),
  (144, .imul, 1, (0, 0, 0, 0, 0), []),
  (145, .iload 5, 2, (0, 0, 0, 0, 0), []),
  (147, .iadd, 1, (0, 0, 0, 0, 0), []),
  (148, .baload, 1, (0, 0, 0, 0, 0), []),
  (149, .bastore, 1, (0, 0, 0, 0, 0), []),
  (150, .iinc 5 1, 3, (0, 0, 0, 0, 0), []),
  (153, .goto (-63), 3, (53, 0, 0, 0, 0), []),
  (156, .return_, 1, (0, 0, 0, 0, 0), [])]
noncomputable def ai_o165 : List ai_E := [
  (0, .iconst 0, 1, (0, 0, 0, 0, 0), []),
  (1, .istore_n 3, 1, (0, 0, 0, 0, 0), []),
  (2, .iload_n 3, 1, (0, 0, 0, 0, 0), [true, true, true, true, false]),
  (3, .aload_n 0, 1, (0, 0, 0, 0, 0), []),
  (4, .getfield 7, 3, (10, 2, 2, 0, 5015), []),
  (7, .iload_n 1, 1, (0, 0, 0, 0, 0), []),
  (8, .iaload, 1, (0, 0, 0, 0, 0), []),
  (9, .if_icmp .ge 40, 3, (31, 0, 0, 0, 0), []),
  (12, .aload_n 0, 1, (0, 0, 0, 0, 0), []),
  (13, .getfield 16, 3, (10, 4, 2, 0, 5017), []),
  (16, .iconst 5, 1, (0, 0, 0, 0, 0), []),
  (17, .iload_n 1, 1, (0, 0, 0, 0, 0), []),
  (18, .imul, 1, (0, 0, 0, 0, 0), []),
  (19, .iload_n 3, 1, (0, 0, 0, 0, 0), []),
  (20, .iadd, 1, (0, 0, 0, 0, 0), []),
  (21, .baload, 1, (0, 0, 0, 0, 0), []),
  (22, .ifCond .eq 21, 3, (29, 0, 0, 0, 0), []),
  (25, .aload_n 0, 1, (0, 0, 0, 0, 0), []),
  (26, .getfield 97, 3, (10, 40, 2, 0, 5053), []),
  (29, .iload_n 3, 1, (0, 0, 0, 0, 0), []),
  (30, .baload, 1, (0, 0, 0, 0, 0), []),
  (31, .ifCond .eq 12, 3, (29, 0, 0, 0, 0), []),
  (34, .aload_n 0, 1, (0, 0, 0, 0, 0), []),
  (35, .iconst 1, 1, (0, 0, 0, 0, 0), []),
  (36, .iload_n 1, 1, (0, 0, 0, 0, 0), []),
  (37, .iload_n 2, 1, (0, 0, 0, 0, 0), []),
  (38, .iload_n 3, 1, (0, 0, 0, 0, 0), []),
  (39, .invokevirtual 227, 3, (158, 5, 0, 0, 6047), []),
  (42, .ireturn, 1, (3, 0, 0, 0, 0), []),
  (43, .iinc 3 1, 3, (0, 0, 0, 0, 0), []),
  (46, .goto (-44), 3, (2, 0, 0, 0, 0), []),
  (49, .iconst 0, 1, (0, 0, 0, 0, 0), []),
  (50, .istore_n 3, 1, (0, 0, 0, 0, 0), []),
  (51, .iload_n 3, 1, (0, 0, 0, 0, 0), [true, true, true, true, false]),
  (52, .aload_n 0, 1, (0, 0, 0, 0, 0), []),
  (53, .getfield 7, 3, (10, 2, 2, 0, 5015), []),
  (56, .iload_n 1, 1, (0, 0, 0, 0, 0), []),
  (57, .iaload, 1, (0, 0, 0, 0, 0), []),
  (58, .if_icmp .ge 86, 3, (88, 0, 0, 0, 0), []),
  (61, .aload_n 0, 1, (0, 0, 0, 0, 0), []),
  (62, .getfield 20, 3, (10, 5, 2, 0, 5018), []),
  (65, .iconst 5, 1, (0, 0, 0, 0, 0), []),
  (66, .iload_n 1, 1, (0, 0, 0, 0, 0), []),
  (67, .imul, 1, (0, 0, 0, 0, 0), []),
  (68, .iload_n 3, 1, (0, 0, 0, 0, 0), []),
  (69, .iadd, 1, (0, 0, 0, 0, 0), []),
  (70, .iaload, 1, (0, 0, 0, 0, 0), []),
  (71, .istore 4, 2, (0, 0, 0, 0, 0), []),
  (73, .iload 4, 2, (0, 0, 0, 0, 0), []),
  (75, .iconst (-1), 1, (0, 0, 0, 0, 0), []),
  (76, .if_icmp .eq 62, 3, (86, 0, 0, 0, 0), []),
  (79, .aload_n 0, 1, (0, 0, 0, 0, 0), []),
  (80, .getfield 97, 3, (10, 40, 2, 0, 5053), []),
  (83, .iload_n 3, 1, (0, 0, 0, 0, 0), []),
  (84, .baload, 1, (0, 0, 0, 0, 0), []),
  (85, .ifCond .ne 53, 3, (86, 0, 0, 0, 0), []),
  (88, .iload 4, 2, (0, 0, 0, 0, 0), []),
  (90, .iload_n 1, 1, (0, 0, 0, 0, 0), []),
  (91, .if_icmp .ne 22, 3, (70, 0, 0, 0, 0), []),
  (94, .aload_n 0, 1, (0, 0, 0, 0, 0), []),
  (95, .getfield 94, 3, (10, 39, 2, 0, 5052), []),
  (98, .iload_n 3, 1, (0, 0, 0, 0, 0), []),
  (99, .laload, 1, (0, 0, 0, 0, 0), []),
  (100, .aload_n 0, 1, (0, 0, 0, 0, 0), []),
  (101, .getfield 94, 3, (10, 39, 2, 0, 5052), []),
  (104, .iconst 0, 1, (0, 0, 0, 0, 0), []),
  (105, .laload, 1, (0, 0, 0, 0, 0), []),
  (106, .lcmp, 1, (0, 0, 0, 0, 0), []),
  (107, .ifCond .ne 6, 3, (70, 0, 0, 0, 0), []),
  (110, .goto 28, 3, (86, 0, 0, 0, 0), []),
  (113, .aload_n 0, 1, (0, 0, 0, 0, 0), []),
  (114, .iload 4, 2, (0, 0, 0, 0, 0), []),
  (116, .aload_n 0, 1, (0, 0, 0, 0, 0), []),
  (117, .getfield 94, 3, (10, 39, 2, 0, 5052), []),
  (120, .iload_n 3, 1, (0, 0, 0, 0, 0), []),
  (121, .laload, 1, (0, 0, 0, 0, 0), []),
  (122, .invokevirtual 231, 3, (159, 3, 0, 0, 6063), []),
  (125, .iconst (-1), 1, (0, 0, 0, 0, 0), []),
  (126, .if_icmp .ne 12, 3, (86, 0, 0, 0, 0), []),
  (129, .aload_n 0, 1, (0, 0, 0, 0, 0), []),
  (130, .iconst 3, 1, (0, 0, 0, 0, 0), []),
  (131, .iload_n 1, 1, (0, 0, 0, 0, 0), []),
  (132, .iload_n 2, 1, (0, 0, 0, 0, 0), []),
  (133, .iload_n 3, 1, (0, 0, 0, 0, 0), []),
  (134, .invokevirtual 227, 3, (158, 5, 0, 0, 6047), []),
  (137, .ireturn, 1, (3, 0, 0, 0, 0), []),
  (138, .iinc 3 1, 3, (0, 0, 0, 0, 0), []),
  (141, .goto (-90), 3, (33, 0, 0, 0, 0), []),
  (144, .iconst 1, 1, (0, 0, 0, 0, 0), []),
  (145, .ireturn, 1, (3, 0, 0, 0, 0), [])]
noncomputable def ai_o166 : List ai_E := [
  (0, .iconst (-1), 1, (0, 0, 0, 0, 0), []),
  (1, .istore_n 2, 1, (0, 0, 0, 0, 0), []),
  (2, .iconst 0, 1, (0, 0, 0, 0, 0), []),
  (3, .istore_n 3, 1, (0, 0, 0, 0, 0), []),
  (4, .iload_n 3, 1, (0, 0, 0, 0, 0), [true, true, true, true]),
  (5, .aload_n 0, 1, (0, 0, 0, 0, 0), []),
  (6, .getfield 55, 3, (10, 23, 2, 0, 5036), []),
  (9, .iload_n 1, 1, (0, 0, 0, 0, 0), []),
  (10, .iaload, 1, (0, 0, 0, 0, 0), []),
  (11, .if_icmp .ge 28, 3, (25, 0, 0, 0, 0), []),
  (14, .aload_n 0, 1, (0, 0, 0, 0, 0), []),
  (15, .getfield 61, 3, (10, 25, 2, 0, 5038), []),
  (18, .iconst 5, 1, (0, 0, 0, 0, 0), []),
  (19, .iload_n 1, 1, (0, 0, 0, 0, 0), []),
  (20, .imul, 1, (0, 0, 0, 0, 0), []),
  (21, .iload_n 3, 1, (0, 0, 0, 0, 0), []),
  (22, .iadd, 1, (0, 0, 0, 0, 0), []),
  (23, .iaload, 1, (0, 0, 0, 0, 0), []),
  (24, .ifCond .ne 7, 3, (21, 0, 0, 0, 0), []),
  (27, .iload_n 3, 1, (0, 0, 0, 0, 0), []),
  (28, .goto 4, 3, (22, 0, 0, 0, 0), []),
  (31, .iload_n 2, 1, (0, 0, 0, 0, 0), []),
  (32, .istore_n 2, 1, (0, 0, 0, 0, 0), []),
  (33, .iinc 3 1, 3, (0, 0, 0, 0, 0), []),
  (36, .goto (-32), 3, (4, 0, 0, 0, 0), []),
  (39, .iload_n 2, 1, (0, 0, 0, 0, 0), []),
  (40, .ireturn, 1, (0, 0, 0, 0, 0), [])]
noncomputable def ai_o167 : List ai_E := [
  (0, .aload_n 0, 1, (0, 0, 0, 0, 0), []),
  (1, .iload_n 3, 1, (0, 0, 0, 0, 0), []),
  (2, .invokevirtual 235, 3, (166, 2, 0, 0, 6059), []),
  (5, .istore 5, 2, (0, 0, 0, 0, 0), []),
  (7, .iload 5, 2, (0, 0, 0, 0, 0), []),
  (9, .iconst (-1), 1, (0, 0, 0, 0, 0), []),
  (10, .if_icmp .eq 18, 3, (16, 0, 0, 0, 0), []),
  (13, .aload_n 0, 1, (0, 0, 0, 0, 0), []),
  (14, .getfield 67, 3, (10, 27, 2, 0, 5040), []),
  (17, .iconst 5, 1, (0, 0, 0, 0, 0), []),
  (18, .iload 4, 2, (0, 0, 0, 0, 0), []),
  (20, .imul, 1, (0, 0, 0, 0, 0), []),
  (21, .iload 5, 2, (0, 0, 0, 0, 0), []),
  (23, .iadd, 1, (0, 0, 0, 0, 0), []),
  (24, .baload, 1, (0, 0, 0, 0, 0), []),
  (25, .ifCond .eq 13, 3, (23, 0, 0, 0, 0), []),
  (28, .aload_n 0, 1, (0, 0, 0, 0, 0), []),
  (29, .iconst 1, 1, (0, 0, 0, 0, 0), []),
  (30, .iload_n 2, 1, (0, 0, 0, 0, 0), []),
  (31, .iload 4, 2, (0, 0, 0, 0, 0), []),
  (33, .iconst 0, 1, (0, 0, 0, 0, 0), []),
  (34, .invokevirtual 227, 3, (158, 5, 0, 0, 6047), []),
  (37, .ireturn, 1, (3, 0, 0, 0, 0), []),
  (38, .aload_n 0, 1, (0, 0, 0, 0, 0), []),
  (39, .iload_n 2, 1, (0, 0, 0, 0, 0), []),
  (40, .aload_n 0, 1, (0, 0, 0, 0, 0), []),
  (41, .getfield 64, 3, (10, 26, 2, 0, 5039), []),
  (44, .iconst 5, 1, (0, 0, 0, 0, 0), []),
  (45, .iload 4, 2, (0, 0, 0, 0, 0), []),
  (47, .imul, 1, (0, 0, 0, 0, 0), []),
  (48, .iload 5, 2, (0, 0, 0, 0, 0), []),
  (50, .iadd, 1, (0, 0, 0, 0, 0), []),
  (51, .laload, 1, (0, 0, 0, 0, 0), []),
  (52, .invokevirtual 231, 3, (159, 3, 0, 0, 6063), []),
  (55, .istore 6, 2, (0, 0, 0, 0, 0), []),
  (57, .iload_n 1, 1, (0, 0, 0, 0, 0), []),
  (58, .ifCond .ne 19, 3, (47, 0, 0, 0, 0), []),
  (61, .iload 6, 2, (0, 0, 0, 0, 0), []),
  (63, .iconst (-1), 1, (0, 0, 0, 0, 0), []),
  (64, .if_icmp .eq 13, 3, (47, 0, 0, 0, 0), []),
  (67, .aload_n 0, 1, (0, 0, 0, 0, 0), []),
  (68, .iconst 2, 1, (0, 0, 0, 0, 0), []),
  (69, .iload_n 2, 1, (0, 0, 0, 0, 0), []),
  (70, .iload 4, 2, (0, 0, 0, 0, 0), []),
  (72, .iconst (-1), 1, (0, 0, 0, 0, 0), []),
  (73, .invokevirtual 227, 3, (158, 5, 0, 0, 6047), []),
  (76, .ireturn, 1, (3, 0, 0, 0, 0), []),
  (77, .iload_n 1, 1, (0, 0, 0, 0, 0), []),
  (78, .iconst 1, 1, (0, 0, 0, 0, 0), []),
  (79, .if_icmp .ne 19, 3, (60, 0, 0, 0, 0), []),
  (82, .iload 6, 2, (0, 0, 0, 0, 0), []),
  (84, .iconst (-1), 1, (0, 0, 0, 0, 0), []),
  (85, .if_icmp .ne 13, 3, (60, 0, 0, 0, 0), []),
  (88, .aload_n 0, 1, (0, 0, 0, 0, 0), []),
  (89, .iconst 5, 1, (0, 0, 0, 0, 0), []),
  (90, .iload_n 2, 1, (0, 0, 0, 0, 0), []),
  (91, .iload 4, 2, (0, 0, 0, 0, 0), []),
  (93, .iconst (-1), 1, (0, 0, 0, 0, 0), []),
  (94, .invokevirtual 227, 3, (158, 5, 0, 0, 6047), []),
  (97, .ireturn, 1, (3, 0, 0, 0, 0), []),
  (98, .iload_n 1, 1, (0, 0, 0, 0, 0), []),
  (99, .iconst 3, 1, (0, 0, 0, 0, 0), []),
  (100, .if_icmp .ne 59, 3, (97, 0, 0, 0, 0), []),
  (103, .iload 6, 2, (0, 0, 0, 0, 0), []),
  (105, .iconst (-1), 1, (0, 0, 0, 0, 0), []),
  (106, .if_icmp .ne 5, 3, (68, 0, 0, 0, 0), []),
  (109, .iconst 1, 1, (0, 0, 0, 0, 0), []),
  (110, .ireturn, 1, (3, 0, 0, 0, 0), []),
  (111, .aload_n 0, 1, (0, 0, 0, 0, 0), []),
  (112, .iload_n 2, 1, (0, 0, 0, 0, 0), []),
  (113, .iload 6, 2, (0, 0, 0, 0, 0), []),
  (115, .invokevirtual 238, 3, (161, 3, 0, 0, 6067), []),
  (118, .ifCond .eq 13, 3, (80, 0, 0, 0, 0), []),
  (121, .aload_n 0, 1, (0, 0, 0, 0, 0), []),
  (122, .iconst 4, 1, (0, 0, 0, 0, 0), []),
  (123, .iload_n 2, 1, (0, 0, 0, 0, 0), []),
  (124, .iload 4, 2, (0, 0, 0, 0, 0), []),
  (126, .iconst (-1), 1, (0, 0, 0, 0, 0), []),
  (127, .invokevirtual 227, 3, (158, 5, 0, 0, 6047), []),
  (130, .ireturn, 1, (3, 0, 0, 0, 0), []),
  (131, .aload_n 0, 1, (0, 0, 0, 0, 0), []),
  (132, .iconst 1, 1, (0, 0, 0, 0, 0), []),
  (133, .invokevirtual 241, 3, (160, 2, 0, 0, 6071), []),
  (136, .ifCond .ne 14, 3, (91, 0, 0, 0, 0), []),
  (139, .aload_n 0, 1, (0, 0, 0, 0, 0), []),
  (140, .bipush 7, 2, (0, 0, 0, 0, 0), []),
  (142, .iload_n 2, 1, (0, 0, 0, 0, 0), []),
  (143, .iload 4, 2, (0, 0, 0, 0, 0), []),
  (145, .iconst (-1), 1, (0, 0, 0, 0, 0), []),
  (146, .invokevirtual 227, 3, (158, 5, 0, 0, 6047), []),
  (149, .ireturn, 1, (3, 0, 0, 0, 0), []),
  (150, .aload_n 0, 1, (0, 0, 0, 0, 0), []),
  (151, .iload_n 2, 1, (0, 0, 0, 0, 0), []),
  (152, .iload 6, 2, (0, 0, 0, 0, 0), []),
  (154, .invokevirtual 244, 3, (162, 3, 0, 0, 6075), []),
  (157, .iconst 1, 1, (0, 0, 0, 0, 0), []),
  (158, .ireturn, 1, (3, 0, 0, 0, 0), []),
  (159, .aload_n 0, 1, (0, 0, 0, 0, 0), []),
  (160, .iload_n 2, 1, (0, 0, 0, 0, 0), []),
  (161, .iload_n 3, 1, (0, 0, 0, 0, 0), []),
  (162, .iload 4, 2, (0, 0, 0, 0, 0), []),
  (164, .iload 6, 2, (0, 0, 0, 0, 0), []),
  (166, .invokevirtual 248, 3, (164, 5, 0, 0, 6079), []),
  (169, .aload_n 0, 1, (0, 0, 0, 0, 0), []),
  (170, .iload_n 2, 1, (0, 0, 0, 0, 0), []),
  (171, .iload 4, 2, (0, 0, 0, 0, 0), []),
  (173, .invokevirtual 252, 3, (165, 3, 0, 0, 6083), []),
  (176, .ifCond .ne 5, 3, (110, 0, 0, 0, 0), []),
  (179, .iconst 0, 1, (0, 0, 0, 0, 0), []),
  (180, .ireturn, 1, (3, 0, 0, 0, 0), []),
  (181, .iload 6, 2, (0, 0, 0, 0, 0), []),
  (183, .iconst (-1), 1, (0, 0, 0, 0, 0), []),
  (184, .if_icmp .ne 25, 3, (126, 0, 0, 0, 0), []),
  (187, .aload_n 0, 1, (0, 0, 0, 0, 0), []),
  (188, .getfield 23, 3, (10, 6, 2, 0, 5019), []),
  (191, .iload_n 2, 1, (0, 0, 0, 0, 0), []),
  (192, .iaload, 1, (0, 0, 0, 0, 0), []),
  (193, .bipush 12, 2, (0, 0, 0, 0, 0), []),
  (195, .if_icmp .ne 14, 3, (126, 0, 0, 0, 0), []),
  (198, .aload_n 0, 1, (0, 0, 0, 0, 0), []),
  (199, .bipush 6, 2, (0, 0, 0, 0, 0), []),
  (201, .iload_n 2, 1, (0, 0, 0, 0, 0), []),
  (202, .iload 4, 2, (0, 0, 0, 0, 0), []),
  (204, .iconst (-1), 1, (0, 0, 0, 0, 0), []),
  (205, .invokevirtual 227, 3, (158, 5, 0, 0, 6047), []),
  (208, .ireturn, 1, (3, 0, 0, 0, 0), []),
  (209, .aload_n 0, 1, (0, 0, 0, 0, 0), []),
  (210, .iconst 1, 1, (0, 0, 0, 0, 0), []),
  (211, .invokevirtual 241, 3, (160, 2, 0, 0, 6071), []),
  (214, .ifCond .ne 14, 3, (137, 0, 0, 0, 0), []),
  (217, .aload_n 0, 1, (0, 0, 0, 0, 0), []),
  (218, .bipush 7, 2, (0, 0, 0, 0, 0), []),
  (220, .iload_n 2, 1, (0, 0, 0, 0, 0), []),
  (221, .iload 4, 2, (0, 0, 0, 0, 0), []),
  (223, .iconst (-1), 1, (0, 0, 0, 0, 0), []),
  (224, .invokevirtual 227, 3, (158, 5, 0, 0, 6047), []),
  (227, .ireturn, 1, (3, 0, 0, 0, 0), []),
  (228, .aload_n 0, 1, (0, 0, 0, 0, 0), []),
  (229, .iload_n 2, 1, (0, 0, 0, 0, 0), []),
  (230, .iload 6, 2, (0, 0, 0, 0, 0), []),
  (232, .invokevirtual 255, 3, (163, 3, 0, 0, 6087), []),
  (235, .iconst 1, 1, (0, 0, 0, 0, 0), []),
  (236, .ireturn, 1, (3, 0, 0, 0, 0), [])]
noncomputable def ai_o168 : List ai_E := [
  (0, .iconst 0, 1, (0, 0, 0, 0, 0), []),
  (1, .istore_n 2, 1, (0, 0, 0, 0, 0), []),
  (2, .iload_n 2, 1, (0, 0, 0, 0, 0), [true, true, true, false, false, false]),
  (3, .aload_n 0, 1, (0, 0, 0, 0, 0), []),
  (4, .getfield 112, 3, (10, 1, 0, 0, 5014), []),
  (7, .if_icmp .ge 105, 3, (61, 0, 0, 0, 0), []),
  (10, .aload_n 0, 1, (0, 0, 0, 0, 0), []),
  (11, .getfield 88, 3, (10, 36, 2, 0, 5049), []),
  (14, .iload_n 1, 1, (0, 0, 0, 0, 0), []),
  (15, .iconst 3, 1, (0, 0, 0, 0, 0), []),
  (16, .if_icmp .ne 14, 3, (18, 0, 0, 0, 0), []),
  (19, .aload_n 0, 1, (0, 0, 0, 0, 0), []),
  (20, .getfield 112, 3, (10, 1, 0, 0, 5014), []),
  (23, .iconst 1, 1, (0, 0, 0, 0, 0), []),
  (24, .isub, 1, (0, 0, 0, 0, 0), []),
  (25, .iload_n 2, 1, (0, 0, 0, 0, 0), []),
  (26, .isub, 1, (0, 0, 0, 0, 0), []),
  (27, .goto 4, 3, (19, 0, 0, 0, 0), []),
  (30, .iload_n 2, 1, (0, 0, 0, 0, 0), []),
  (31, .iaload, 1, (0, 0, 0, 0, 0), []),
  (32, .istore_n 3, 1, (0, 0, 0, 0, 0), []),
  (33, .iconst 0, 1, (0, 0, 0, 0, 0), []),
  (34, .istore 4, 2, (0, 0, 0, 0, 0), []),
  (36, .iload 4, 2, (0, 0, 0, 0, 0), [true, true, true, true, true, false]),
  (38, .aload_n 0, 1, (0, 0, 0, 0, 0), []),
  (39, .getfield 202, 3, (10, 20, 0, 0, 5033), []),
  (42, .if_icmp .ge 64, 3, (59, 0, 0, 0, 0), []),
  (45, .aload_n 0, 1, (0, 0, 0, 0, 0), []),
  (46, .getfield 58, 3, (10, 24, 2, 0, 5037), []),
  (49, .iload 4, 2, (0, 0, 0, 0, 0), []),
  (51, .iaload, 1, (0, 0, 0, 0, 0), []),
  (52, .istore 5, 2, (0, 0, 0, 0, 0), []),
  (54, .iload 5, 2, (0, 0, 0, 0, 0), [true, true, true, true, true, true]),
  (56, .aload_n 0, 1, (0, 0, 0, 0, 0), []),
  (57, .getfield 58, 3, (10, 24, 2, 0, 5037), []),
  (60, .iload 4, 2, (0, 0, 0, 0, 0), []),
  (62, .iconst 1, 1, (0, 0, 0, 0, 0), []),
  (63, .iadd, 1, (0, 0, 0, 0, 0), []),
  (64, .iaload, 1, (0, 0, 0, 0, 0), []),
  (65, .if_icmp .ge 35, 3, (57, 0, 0, 0, 0), []),
  (68, .aload_n 0, 1, (0, 0, 0, 0, 0), []),
  (69, .getfield 52, 3, (10, 22, 2, 0, 5035), []),
  (72, .iload 4, 2, (0, 0, 0, 0, 0), []),
  (74, .iaload, 1, (0, 0, 0, 0, 0), []),
  (75, .iload_n 3, 1, (0, 0, 0, 0, 0), []),
  (76, .if_icmp .ne 24, 3, (57, 0, 0, 0, 0), []),
  (79, .aload_n 0, 1, (0, 0, 0, 0, 0), []),
  (80, .iload_n 1, 1, (0, 0, 0, 0, 0), []),
  (81, .iload_n 3, 1, (0, 0, 0, 0, 0), []),
  (82, .iload 4, 2, (0, 0, 0, 0, 0), []),
  (84, .iload 5, 2, (0, 0, 0, 0, 0), []),
  (86, .invokevirtual 258, 3, (167, 5, 0, 0, 6055), []),
  (89, .ifCond .ne 5, 3, (55, 0, 0, 0, 0), []),
  (92, .iconst 0, 1, (0, 0, 0, 0, 0), []),
  (93, .ireturn, 1, (3, 0, 0, 0, 0), []),
  (94, .iinc 5 1, 3, (0, 0, 0, 0, 0), []),
  (97, .goto (-43), 3, (32, 0, 0, 0, 0), []),
  (100, .iinc 4 1, 3, (0, 0, 0, 0, 0), []),
  (103, .goto (-67), 3, (23, 0, 0, 0, 0), []),
  (106, .iinc 2 1, 3, (0, 0, 0, 0, 0), []),
  (109, .goto (-107), 3, (2, 0, 0, 0, 0), []),
  (112, .iconst 1, 1, (0, 0, 0, 0, 0), []),
  (113, .ireturn, 1, (3, 0, 0, 0, 0), [])]
noncomputable def ai_o169 : List ai_E := [
  (0, .iconst 0, 1, (0, 0, 0, 0, 0), []),
  (1, .istore_n 2, 1, (0, 0, 0, 0, 0), []),
  (2, .iconst 0, 1, (0, 0, 0, 0, 0), []),
  (3, .istore_n 3, 1, (0, 0, 0, 0, 0), []),
  (4, .iload_n 3, 1, (0, 0, 0, 0, 0), [true, true, true, true]),
  (5, .aload_n 0, 1, (0, 0, 0, 0, 0), []),
  (6, .getfield 202, 3, (10, 20, 0, 0, 5033), []),
  (9, .if_icmp .ge 29, 3, (22, 0, 0, 0, 0), []),
  (12, .iload_n 2, 1, (0, 0, 0, 0, 0), []),
  (13, .ifCond .ne 13, 3, (16, 0, 0, 0, 0), []),
  (16, .aload_n 0, 1, (0, 0, 0, 0, 0), []),
  (17, .getfield 52, 3, (10, 22, 2, 0, 5035), []),
  (20, .iload_n 3, 1, (0, 0, 0, 0, 0), []),
  (21, .iaload, 1, (0, 0, 0, 0, 0), []),
  (22, .iload_n 1, 1, (0, 0, 0, 0, 0), []),
  (23, .if_icmp .ne 7, 3, (18, 0, 0, 0, 0), []),
  (26, .iconst 1, 1, (0, 0, 0, 0, 0), []),
  (27, .goto 4, 3, (19, 0, 0, 0, 0), []),
  (30, .iconst 0, 1, (0, 0, 0, 0, 0), []),
  (31, .istore_n 2, 1, (0, 0, 0, 0, 0), []),
  (32, .iinc 3 1, 3, (0, 0, 0, 0, 0), []),
  (35, .goto (-31), 3, (4, 0, 0, 0, 0), []),
  (38, .iload_n 2, 1, (0, 0, 0, 0, 0), []),
  (39, .ireturn, 1, (3, 0, 0, 0, 0), [])]
noncomputable def ai_o170 : List ai_E := [
  (0, .iconst 0, 1, (0, 0, 0, 0, 0), []),
  (1, .istore_n 2, 1, (0, 0, 0, 0, 0), []),
  (2, .iconst 0, 1, (0, 0, 0, 0, 0), []),
  (3, .istore_n 3, 1, (0, 0, 0, 0, 0), []),
  (4, .iload_n 3, 1, (0, 0, 0, 0, 0), [true, true, true, true, false, false]),
  (5, .sipush 300, 3, (0, 0, 0, 0, 0), []),
  (8, .if_icmp .ge 98, 3, (61, 0, 0, 0, 0), []),
  (11, .iload_n 3, 1, (0, 0, 0, 0, 0), []),
  (12, .bipush 60, 2, (0, 0, 0, 0, 0), []),
  (14, .idiv, 1, (0, 0, 0, 0, 0), []),
  (15, .istore 4, 2, (0, 0, 0, 0, 0), []),
  (17, .iload_n 3, 1, (0, 0, 0, 0, 0), []),
  (18, .iconst 5, 1, (0, 0, 0, 0, 0), []),
  (19, .irem, 1, (0, 0, 0, 0, 0), []),
  (20, .istore 5, 2, (0, 0, 0, 0, 0), []),
  (22, .iload_n 2, 1, (0, 0, 0, 0, 0), []),
  (23, .ifCond .ne 71, 3, (55, 0, 0, 0, 0), []),
  (26, .iload 4, 2, (0, 0, 0, 0, 0), []),
  (28, .iload_n 1, 1, (0, 0, 0, 0, 0), []),
  (29, .if_icmp .eq 69, 3, (57, 0, 0, 0, 0), []),
  (32, .iload 4, 2, (0, 0, 0, 0, 0), []),
  (34, .aload_n 0, 1, (0, 0, 0, 0, 0), []),
  (35, .getfield 112, 3, (10, 1, 0, 0, 5014), []),
  (38, .if_icmp .ge 60, 3, (57, 0, 0, 0, 0), []),
  (41, .iload_n 3, 1, (0, 0, 0, 0, 0), []),
  (42, .bipush 60, 2, (0, 0, 0, 0, 0), []),
  (44, .irem, 1, (0, 0, 0, 0, 0), []),
  (45, .iconst 5, 1, (0, 0, 0, 0, 0), []),
  (46, .idiv, 1, (0, 0, 0, 0, 0), []),
  (47, .aload_n 0, 1, (0, 0, 0, 0, 0), []),
  (48, .getfield 23, 3, (10, 6, 2, 0, 5019), []),
  (51, .iload 4, 2, (0, 0, 0, 0, 0), []),
  (53, .iaload, 1, (0, 0, 0, 0, 0), []),
  (54, .if_icmp .ge 44, 3, (57, 0, 0, 0, 0), []),
  (57, .iload 5, 2, (0, 0, 0, 0, 0), []),
  (59, .aload_n 0, 1, (0, 0, 0, 0, 0), []),
  (60, .getfield 7, 3, (10, 2, 2, 0, 5015), []),
  (63, .iload 4, 2, (0, 0, 0, 0, 0), []),
  (65, .iaload, 1, (0, 0, 0, 0, 0), []),
  (66, .if_icmp .ge 32, 3, (57, 0, 0, 0, 0), []),
  (69, .aload_n 0, 1, (0, 0, 0, 0, 0), []),
  (70, .getfield 20, 3, (10, 5, 2, 0, 5018), []),
  (73, .iconst 5, 1, (0, 0, 0, 0, 0), []),
  (74, .iload 4, 2, (0, 0, 0, 0, 0), []),
  (76, .imul, 1, (0, 0, 0, 0, 0), []),
  (77, .iload 5, 2, (0, 0, 0, 0, 0), []),
  (79, .iadd, 1, (0, 0, 0, 0, 0), []),
  (80, .iaload, 1, (0, 0, 0, 0, 0), []),
  (81, .iload_n 1, 1, (0, 0, 0, 0, 0), []),
  (82, .if_icmp .ne 16, 3, (57, 0, 0, 0, 0), []),
  (85, .aload_n 0, 1, (0, 0, 0, 0, 0), []),
  (86, .getfield 30, 3, (10, 8, 2, 0, 5021), []),
  (89, .iload_n 3, 1, (0, 0, 0, 0, 0), []),
  (90, .baload, 1, (0, 0, 0, 0, 0), []),
  (91, .ifCond .ne 7, 3, (57, 0, 0, 0, 0), []),
  (94, .iconst 1, 1, (0, 0, 0, 0, 0), []),
  (95, .goto 4, 3, (58, 0, 0, 0, 0), []),
  (98, .iconst 0, 1, (0, 0, 0, 0, 0), []),
  (99, .istore_n 2, 1, (0, 0, 0, 0, 0), []),
  (100, .iinc 3 1, 3, (0, 0, 0, 0, 0), []),
  (103, .goto (-99), 3, (4, 0, 0, 0, 0), []),
  (106, .iload_n 2, 1, (0, 0, 0, 0, 0), []),
  (107, .ireturn, 1, (3, 0, 0, 0, 0), [])]
noncomputable def ai_o171 : List ai_E := [
  (0, .aload_n 0, 1, (0, 0, 0, 0, 0), []),
  (1, .getfield 112, 3, (10, 1, 0, 0, 5014), []),
  (4, .iconst 1, 1, (0, 0, 0, 0, 0), []),
  (5, .isub, 1, (0, 0, 0, 0, 0), []),
  (6, .istore_n 1, 1, (0, 0, 0, 0, 0), []),
  (7, .iload_n 1, 1, (0, 0, 0, 0, 0), [true, true, false]),
  (8, .ifCond .lt 83, 3, (54, 0, 0, 0, 0), []),
  (11, .aload_n 0, 1, (0, 0, 0, 0, 0), []),
  (12, .getfield 88, 3, (10, 36, 2, 0, 5049), []),
  (15, .iload_n 1, 1, (0, 0, 0, 0, 0), []),
  (16, .iaload, 1, (0, 0, 0, 0, 0), []),
  (17, .istore_n 2, 1, (0, 0, 0, 0, 0), []),
  (18, .aload_n 0, 1, (0, 0, 0, 0, 0), []),
  (19, .iload_n 2, 1, (0, 0, 0, 0, 0), []),
  (20, .invokevirtual 261, 3, (169, 2, 0, 0, 6095), []),
  (23, .ifCond .ne 6, 3, (17, 0, 0, 0, 0), []),
  (26, .goto 59, 3, (52, 0, 0, 0, 0), []),
  (29, .aload_n 0, 1, (0, 0, 0, 0, 0), []),
  (30, .getfield 23, 3, (10, 6, 2, 0, 5019), []),
  (33, .iload_n 2, 1, (0, 0, 0, 0, 0), []),
  (34, .iaload, 1, (0, 0, 0, 0, 0), []),
  (35, .ifCond .le 20, 3, (33, 0, 0, 0, 0), []),
  (38, .aload_n 0, 1, (0, 0, 0, 0, 0), []),
  (39, .iload_n 2, 1, (0, 0, 0, 0, 0), []),
  (40, .invokevirtual 264, 3, (170, 2, 0, 0, 6099), []),
  (43, .ifCond .eq 12, 3, (33, 0, 0, 0, 0), []),
  (46, .aload_n 0, 1, (0, 0, 0, 0, 0), []),
  (47, .iconst 4, 1, (0, 0, 0, 0, 0), []),
  (48, .iload_n 2, 1, (0, 0, 0, 0, 0), []),
  (49, .iconst (-1), 1, (0, 0, 0, 0, 0), []),
  (50, .iconst (-1), 1, (0, 0, 0, 0, 0), []),
  (51, .invokevirtual 227, 3, (158, 5, 0, 0, 6047), []),
  (54, .ireturn, 1, (3, 0, 0, 0, 0), []),
  (55, .aload_n 0, 1, (0, 0, 0, 0, 0), []),
  (56, .aload_n 0, 1, (0, 0, 0, 0, 0), []),
  (57, .getfield 23, 3, (10, 6, 2, 0, 5019), []),
  (60, .iload_n 2, 1, (0, 0, 0, 0, 0), []),
  (61, .iaload, 1, (0, 0, 0, 0, 0), []),
  (62, .invokevirtual 241, 3, (160, 2, 0, 0, 6071), []),
  (65, .ifCond .ne 13, 3, (47, 0, 0, 0, 0), []),
  (68, .aload_n 0, 1, (0, 0, 0, 0, 0), []),
  (69, .bipush 7, 2, (0, 0, 0, 0, 0), []),
  (71, .iload_n 2, 1, (0, 0, 0, 0, 0), []),
  (72, .iconst (-1), 1, (0, 0, 0, 0, 0), []),
  (73, .iconst (-1), 1, (0, 0, 0, 0, 0), []),
  (74, .invokevirtual 227, 3, (158, 5, 0, 0, 6047), []),
  (77, .ireturn, 1, (3, 0, 0, 0, 0), []),
  (78, .aload_n 0, 1, (0, 0, 0, 0, 0), []),
  (79, .getfield 23, 3, (10, 6, 2, 0, 5019), []),
  (82, .iload_n 2, 1, (0, 0, 0, 0, 0), []),
  (83, .iconst 0, 1, (0, 0, 0, 0, 0), []),
  (84, .iastore, 1, (0, 0, 0, 0, 0), []),
  (85, .iinc 1 (-1), 3, (0, 0, 0, 0, 0), []),
  (88, .goto (-81), 3, (5, 0, 0, 0, 0), []),
  (91, .iconst 1, 1, (0, 0, 0, 0, 0), []),
  (92, .ireturn, 1, (3, 0, 0, 0, 0), [])]
noncomputable def ai_o172 : List ai_E := [
  (0, .aload_n 0, 1, (0, 0, 0, 0, 0), []),
  (1, .iconst 0, 1, (0, 0, 0, 0, 0), []),
  (2, .iconst (-1), 1, (0, 0, 0, 0, 0), []),
  (3, .iconst (-1), 1, (0, 0, 0, 0, 0), []),
  (4, .iconst (-1), 1, (0, 0, 0, 0, 0), []),
  (5, .invokevirtual 227, 3, (158, 5, 0, 0, 6047), []),
  (8, .pop, 1, (0, 0, 0, 0, 0), []),
  (9, .aload_n 0, 1, (0, 0, 0, 0, 0), []),
  (10, .iload_n 1, 1, (0, 0, 0, 0, 0), []),
  (11, .ifCond .lt 8, 3, (13, 0, 0, 0, 0), []),
  (14, .iload_n 1, 1, (0, 0, 0, 0, 0), []),
  (15, .iconst 5, 1, (0, 0, 0, 0, 0), []),
  (16, .if_icmp .le 7, 3, (15, 0, 0, 0, 0), []),
  (19, .iconst 1, 1, (0, 0, 0, 0, 0), []),
  (20, .goto 26, 3, (26, 0, 0, 0, 0), []),
  (23, .aload_n 0, 1, (0, 0, 0, 0, 0), []),
  (24, .invokevirtual 211, 3, (151, 1, 0, 0, 6015), []),
  (27, .ifCond .ne 7, 3, (20, 0, 0, 0, 0), []),
  (30, .iconst 2, 1, (0, 0, 0, 0, 0), []),
  (31, .goto 15, 3, (26, 0, 0, 0, 0), []),
  (34, .aload_n 0, 1, (0, 0, 0, 0, 0), []),
  (35, .getfield 126, 3, (10, 19, 3, 0, 5032), []),
  (38, .ifCond .ne 7, 3, (25, 0, 0, 0, 0), []),
  (41, .iconst 3, 1, (0, 0, 0, 0, 0), []),
  (42, .goto 4, 3, (26, 0, 0, 0, 0), []),
  (45, .iconst 0, 1, (0, 0, 0, 0, 0), []),
  (46, .putfield 109, 3, (10, 0, 0, 0, 5013), []),
  (49, .aload_n 0, 1, (0, 0, 0, 0, 0), []),
  (50, .getfield 109, 3, (10, 0, 0, 0, 5013), []),
  (53, .ifCond .le 5, 3, (32, 0, 0, 0, 0), []),
  (56, .iconst 0, 1, (0, 0, 0, 0, 0), []),
  (57, .ireturn, 1, (0, 0, 0, 0, 0), []),
  (58, .aload_n 0, 1, (0, 0, 0, 0, 0), []),
  (59, .iconst 3, 1, (0, 0, 0, 0, 0), []),
  (60, .invokevirtual 217, 3, (153, 2, 0, 0, 6027), []),
  (63, .aload_n 0, 1, (0, 0, 0, 0, 0), []),
  (64, .iconst 0, 1, (0, 0, 0, 0, 0), []),
  (65, .putfield 224, 3, (10, 37, 0, 0, 5050), []),
  (68, .iload_n 1, 1, (0, 0, 0, 0, 0), []),
  (69, .iconst 4, 1, (0, 0, 0, 0, 0), []),
  (70, .if_icmp .ge 11, 3, (45, 0, 0, 0, 0), []),
  (73, .aload_n 0, 1, (0, 0, 0, 0, 0), []),
  (74, .iload_n 1, 1, (0, 0, 0, 0, 0), []),
  (75, .invokevirtual 267, 3, (168, 2, 0, 0, 6051), []),
  (78, .goto 28, 3, (58, 0, 0, 0, 0), []),
  (81, .aload_n 0, 1, (0, 0, 0, 0, 0), []),
  (82, .invokevirtual 270, 3, (171, 1, 0, 0, 6091), []),
  (85, .ifCond .eq 20, 3, (57, 0, 0, 0, 0), []),
  (88, .iload_n 1, 1, (0, 0, 0, 0, 0), []),
  (89, .iconst 4, 1, (0, 0, 0, 0, 0), []),
  (90, .if_icmp .eq 11, 3, (55, 0, 0, 0, 0), []),
  (93, .aload_n 0, 1, (0, 0, 0, 0, 0), []),
  (94, .iconst 0, 1, (0, 0, 0, 0, 0), []),
  (95, .invokevirtual 267, 3, (168, 2, 0, 0, 6051), []),
  (98, .ifCond .eq 7, 3, (57, 0, 0, 0, 0), []),
  (101, .iconst 1, 1, (0, 0, 0, 0, 0), []),
  (102, .goto 4, 3, (58, 0, 0, 0, 0), []),
  (105, .iconst 0, 1, (0, 0, 0, 0, 0), []),
  (106, .istore_n 2, 1, (0, 0, 0, 0, 0), []),
  (107, .iload_n 2, 1, (0, 0, 0, 0, 0), []),
  (108, .ifCond .eq 8, 3, (64, 0, 0, 0, 0), []),
  (111, .aload_n 0, 1, (0, 0, 0, 0, 0), []),
  (112, .getfield 224, 3, (10, 37, 0, 0, 5050), []),
  (115, .ireturn, 1, (0, 0, 0, 0, 0), []),
  (116, .aload_n 0, 1, (0, 0, 0, 0, 0), []),
  (117, .iconst 3, 1, (0, 0, 0, 0, 0), []),
  (118, .invokevirtual 221, 3, (154, 2, 0, 0, 6039), []),
  (121, .aload_n 0, 1, (0, 0, 0, 0, 0), []),
  (122, .iconst 3, 1, (0, 0, 0, 0, 0), []),
  (123, .invokevirtual 198, 3, (128, 2, 0, 0, 6003), []),
  (126, .ireturn, 1, (0, 0, 0, 0, 0), [])]
noncomputable def ai_o173 : List ai_E := [
  (0, .aload_n 0, 1, (0, 0, 0, 0, 0), []),
  (1, .iconst 0, 1, (0, 0, 0, 0, 0), []),
  (2, .putfield 109, 3, (10, 0, 0, 0, 5013), []),
  (5, .iload_n 1, 1, (0, 0, 0, 0, 0), []),
  (6, .ifCond .lt 8, 3, (8, 0, 0, 0, 0), []),
  (9, .iload_n 1, 1, (0, 0, 0, 0, 0), []),
  (10, .iconst 3, 1, (0, 0, 0, 0, 0), []),
  (11, .if_icmp .le 7, 3, (10, 0, 0, 0, 0), []),
  (14, .iconst (-1), 1, (0, 0, 0, 0, 0), []),
  (15, .goto 9, 3, (14, 0, 0, 0, 0), []),
  (18, .aload_n 0, 1, (0, 0, 0, 0, 0), []),
  (19, .getfield 91, 3, (10, 38, 2, 0, 5051), []),
  (22, .iload_n 1, 1, (0, 0, 0, 0, 0), []),
  (23, .iaload, 1, (0, 0, 0, 0, 0), []),
  (24, .ireturn, 1, (0, 0, 0, 0, 0), [])]
noncomputable def ai_o174 : List ai_E := [
  (0, .aload_n 0, 1, (0, 0, 0, 0, 0), []),
  (1, .aload_n 0, 1, (0, 0, 0, 0, 0), []),
  (2, .iload_n 1, 1, (0, 0, 0, 0, 0), []),
  (3, .invokevirtual 115, 3, (129, 2, 0, 0, 5167), []),
  (6, .ifCond .eq 7, 3, (7, 0, 0, 0, 0), []),
  (9, .iconst 0, 1, (0, 0, 0, 0, 0), []),
  (10, .goto 4, 3, (8, 0, 0, 0, 0), []),
  (13, .iconst 1, 1, (0, 0, 0, 0, 0), []),
  (14, .putfield 109, 3, (10, 0, 0, 0, 5013), []),
  (17, .aload_n 0, 1, (0, 0, 0, 0, 0), []),
  (18, .getfield 109, 3, (10, 0, 0, 0, 5013), []),
  (21, .ifCond .le 7, 3, (14, 0, 0, 0, 0), []),
  (24, .iconst 0, 1, (0, 0, 0, 0, 0), []),
  (25, .goto 9, 3, (18, 0, 0, 0, 0), []),
  (28, .aload_n 0, 1, (0, 0, 0, 0, 0), []),
  (29, .getfield 23, 3, (10, 6, 2, 0, 5019), []),
  (32, .iload_n 1, 1, (0, 0, 0, 0, 0), []),
  (33, .iaload, 1, (0, 0, 0, 0, 0), []),
  (34, .ireturn, 1, (0, 0, 0, 0, 0), [])]
noncomputable def ai_o175 : List ai_E := [
  (0, .aload_n 0, 1, (0, 0, 0, 0, 0), []),
  (1, .aload_n 0, 1, (0, 0, 0, 0, 0), []),
  (2, .iload_n 1, 1, (0, 0, 0, 0, 0), []),
  (3, .invokevirtual 115, 3, (129, 2, 0, 0, 5167), []),
  (6, .ifCond .eq 35, 3, (23, 0, 0, 0, 0), []),
  (9, .iload_n 2, 1, (0, 0, 0, 0, 0), []),
  (10, .ifCond .lt 31, 3, (23, 0, 0, 0, 0), []),
  (13, .iload_n 2, 1, (0, 0, 0, 0, 0), []),
  (14, .aload_n 0, 1, (0, 0, 0, 0, 0), []),
  (15, .getfield 23, 3, (10, 6, 2, 0, 5019), []),
  (18, .iload_n 1, 1, (0, 0, 0, 0, 0), []),
  (19, .iaload, 1, (0, 0, 0, 0, 0), []),
  (20, .if_icmp .ge 21, 3, (23, 0, 0, 0, 0), []),
  (23, .iload_n 3, 1, (0, 0, 0, 0, 0), []),
  (24, .ifCond .lt 17, 3, (23, 0, 0, 0, 0), []),
  (27, .iload_n 3, 1, (0, 0, 0, 0, 0), []),
  (28, .aload_n 0, 1, (0, 0, 0, 0, 0), []),
  (29, .getfield 7, 3, (10, 2, 2, 0, 5015), []),
  (32, .iload_n 1, 1, (0, 0, 0, 0, 0), []),
  (33, .iaload, 1, (0, 0, 0, 0, 0), []),
  (34, .if_icmp .ge 7, 3, (23, 0, 0, 0, 0), []),
  (37, .iconst 0, 1, (0, 0, 0, 0, 0), []),
  (38, .goto 4, 3, (24, 0, 0, 0, 0), []),
  (41, .iconst 1, 1, (0, 0, 0, 0, 0), []),
  (42, .putfield 109, 3, (10, 0, 0, 0, 5013), []),
  (45, .aload_n 0, 1, (0, 0, 0, 0, 0), []),
  (46, .getfield 109, 3, (10, 0, 0, 0, 5013), []),
  (49, .ifCond .le 7, 3, (30, 0, 0, 0, 0), []),
  (52, .iconst 0, 1, (0, 0, 0, 0, 0), []),
  (53, .goto 13, 3, (39, 0, 0, 0, 0), []),
  (56, .bipush 60, 2, (0, 0, 0, 0, 0), []),
  (58, .iload_n 1, 1, (0, 0, 0, 0, 0), []),
  (59, .imul, 1, (0, 0, 0, 0, 0), []),
  (60, .iconst 5, 1, (0, 0, 0, 0, 0), []),
  (61, .iload_n 2, 1, (0, 0, 0, 0, 0), []),
  (62, .imul, 1, (0, 0, 0, 0, 0), []),
  (63, .iadd, 1, (0, 0, 0, 0, 0), []),
  (64, .iload_n 3, 1, (0, 0, 0, 0, 0), []),
  (65, .iadd, 1, (0, 0, 0, 0, 0), []),
  (66, .ireturn, 1, (0, 0, 0, 0, 0), [])]
noncomputable def ai_o176 : List ai_E := [
  (0, .aload_n 0, 1, (0, 0, 0, 0, 0), []),
  (1, .iload_n 1, 1, (0, 0, 0, 0, 0), []),
  (2, .iload_n 2, 1, (0, 0, 0, 0, 0), []),
  (3, .iload_n 3, 1, (0, 0, 0, 0, 0), []),
  (4, .invokevirtual 273, 3, (175, 4, 0, 0, 6115), []),
  (7, .istore 4, 2, (0, 0, 0, 0, 0), []),
  (9, .aload_n 0, 1, (0, 0, 0, 0, 0), []),
  (10, .getfield 109, 3, (10, 0, 0, 0, 5013), []),
  (13, .ifCond .gt 13, 3, (14, 0, 0, 0, 0), []),
  (16, .aload_n 0, 1, (0, 0, 0, 0, 0), []),
  (17, .getfield 30, 3, (10, 8, 2, 0, 5021), []),
  (20, .iload 4, 2, (0, 0, 0, 0, 0), []),
  (22, .baload, 1, (0, 0, 0, 0, 0), []),
  (23, .ifCond .eq 7, 3, (16, 0, 0, 0, 0), []),
  (26, .lconst 0, 1, (0, 0, 0, 0, 0), []),
  (27, .goto 10, 3, (20, 0, 0, 0, 0), []),
  (30, .aload_n 0, 1, (0, 0, 0, 0, 0), []),
  (31, .getfield 26, 3, (10, 7, 2, 0, 5020), []),
  (34, .iload 4, 2, (0, 0, 0, 0, 0), []),
  (36, .laload, 1, (0, 0, 0, 0, 0), []),
  (37, .lreturn, 1, (0, 0, 0, 0, 0), [])]
noncomputable def ai_o177 : List ai_E := [
  (0, .aload_n 0, 1, (0, 0, 0, 0, 0), []),
  (1, .iload_n 1, 1, (0, 0, 0, 0, 0), []),
  (2, .iload_n 2, 1, (0, 0, 0, 0, 0), []),
  (3, .iload_n 3, 1, (0, 0, 0, 0, 0), []),
  (4, .invokevirtual 273, 3, (175, 4, 0, 0, 6115), []),
  (7, .istore 4, 2, (0, 0, 0, 0, 0), []),
  (9, .aload_n 0, 1, (0, 0, 0, 0, 0), []),
  (10, .getfield 109, 3, (10, 0, 0, 0, 5013), []),
  (13, .ifCond .ne 17, 3, (16, 0, 0, 0, 0), []),
  (16, .aload_n 0, 1, (0, 0, 0, 0, 0), []),
  (17, .getfield 30, 3, (10, 8, 2, 0, 5021), []),
  (20, .iload 4, 2, (0, 0, 0, 0, 0), []),
  (22, .baload, 1, (0, 0, 0, 0, 0), []),
  (23, .ifCond .eq 7, 3, (16, 0, 0, 0, 0), []),
  (26, .iconst 1, 1, (0, 0, 0, 0, 0), []),
  (27, .goto 4, 3, (17, 0, 0, 0, 0), []),
  (30, .iconst 0, 1, (0, 0, 0, 0, 0), []),
  (31, .ireturn, 1, (3, 0, 0, 0, 0), [])]
noncomputable def ai_o178 : List ai_E := [
  (0, .aload_n 0, 1, (0, 0, 0, 0, 0), []),
  (1, .iload_n 1, 1, (0, 0, 0, 0, 0), []),
  (2, .invokevirtual 235, 3, (166, 2, 0, 0, 6059), []),
  (5, .istore_n 2, 1, (0, 0, 0, 0, 0), []),
  (6, .aload_n 0, 1, (0, 0, 0, 0, 0), []),
  (7, .getfield 58, 3, (10, 24, 2, 0, 5037), []),
  (10, .iload_n 1, 1, (0, 0, 0, 0, 0), []),
  (11, .iconst 1, 1, (0, 0, 0, 0, 0), []),
  (12, .iadd, 1, (0, 0, 0, 0, 0), []),
  (13, .iaload, 1, (0, 0, 0, 0, 0), []),
  (14, .aload_n 0, 1, (0, 0, 0, 0, 0), []),
  (15, .getfield 58, 3, (10, 24, 2, 0, 5037), []),
  (18, .iload_n 1, 1, (0, 0, 0, 0, 0), []),
  (19, .iaload, 1, (0, 0, 0, 0, 0), []),
  (20, .isub, 1, (0, 0, 0, 0, 0), []),
  (21, .istore_n 3, 1, (0, 0, 0, 0, 0), []),
  (22, .iconst 0, 1, (0, 0, 0, 0, 0), []),
  (23, .istore 4, 2, (0, 0, 0, 0, 0), []),
  (25, .iload 4, 2, (0, 0, 0, 0, 0), [true, true, true, true, true, false, false]),
  (27, .iload_n 3, 1, (0, 0, 0, 0, 0), []),
  (28, .if_icmp .ge 91, 3, (72, 0, 0, 0, 0), []),
  (31, .aload_n 0, 1, (0, 0, 0, 0, 0), []),
  (32, .getfield 58, 3, (10, 24, 2, 0, 5037), []),
  (35, .iload_n 1, 1, (0, 0, 0, 0, 0), []),
  (36, .iaload, 1, (0, 0, 0, 0, 0), []),
  (37, .iload 4, 2, (0, 0, 0, 0, 0), []),
  (39, .iadd, 1, (0, 0, 0, 0, 0), []),
  (40, .istore 5, 2, (0, 0, 0, 0, 0), []),
  (42, .iload 4, 2, (0, 0, 0, 0, 0), []),
  (44, .istore 6, 2, (0, 0, 0, 0, 0), []),
  (46, .iload 6, 2, (0, 0, 0, 0, 0), [true, true, true, true, true, true, true]),
  (48, .ifCond .le 56, 3, (65, 0, 0, 0, 0), []),
  (51, .iload_n 2, 1, (0, 0, 0, 0, 0), []),
  (52, .iconst (-1), 1, (0, 0, 0, 0, 0), []),
  (53, .if_icmp .eq 51, 3, (65, 0, 0, 0, 0), []),
  (56, .aload_n 0, 1, (0, 0, 0, 0, 0), []),
  (57, .iconst 5, 1, (0, 0, 0, 0, 0), []),
  (58, .iload 5, 2, (0, 0, 0, 0, 0), []),
  (60, .imul, 1, (0, 0, 0, 0, 0), []),
  (61, .iload_n 2, 1, (0, 0, 0, 0, 0), []),
  (62, .iadd, 1, (0, 0, 0, 0, 0), []),
  (63, .iconst 5, 1, (0, 0, 0, 0, 0), []),
  (64, .aload_n 0, 1, (0, 0, 0, 0, 0), []),
  (65, .getfield 103, 3, (10, 44, 2, 0, 5057), []),
  (68, .iload 6, 2, (0, 0, 0, 0, 0), []),
  (70, .iconst 1, 1, (0, 0, 0, 0, 0), []),
  (71, .isub, 1, (0, 0, 0, 0, 0), []),
  (72, .iaload, 1, (0, 0, 0, 0, 0), []),
  (73, .imul, 1, (0, 0, 0, 0, 0), []),
  (74, .iload_n 2, 1, (0, 0, 0, 0, 0), []),
  (75, .iadd, 1, (0, 0, 0, 0, 0), []),
  (76, .invokevirtual 277, 3, (179, 3, 0, 0, 6135), []),
  (79, .ifCond .eq 25, 3, (65, 0, 0, 0, 0), []),
  (82, .aload_n 0, 1, (0, 0, 0, 0, 0), []),
  (83, .getfield 103, 3, (10, 44, 2, 0, 5057), []),
  (86, .iload 6, 2, (0, 0, 0, 0, 0), []),
  (88, .aload_n 0, 1, (0, 0, 0, 0, 0), []),
  (89, .getfield 103, 3, (10, 44, 2, 0, 5057), []),
  (92, .iload 6, 2, (0, 0, 0, 0, 0), []),
  (94, .iconst 1, 1, (0, 0, 0, 0, 0), []),
  (95, .isub, 1, (0, 0, 0, 0, 0), []),
  (96, .iaload, 1, (0, 0, 0, 0, 0), []),
  (97, .iastore, 1, (0, 0, 0, 0, 0), []),
  (98, .iinc 6 (-1), 3, (0, 0, 0, 0, 0), []),
  (101, .goto (-55), 3, (30, 0, 0, 0, 0), []),
  (104, .aload_n 0, 1, (0, 0, 0, 0, 0), []),
  (105, .getfield 103, 3, (10, 44, 2, 0, 5057), []),
  (108, .iload 6, 2, (0, 0, 0, 0, 0), []),
  (110, .iload 5, 2, (0, 0, 0, 0, 0), []),
  (112, .iastore, 1, (0, 0, 0, 0, 0), []),
  (113, .iinc 4 1, 3, (0, 0, 0, 0, 0), []),
  (116, .goto (-91), 3, (18, 0, 0, 0, 0), []),
  (119, .return_, 1, (0, 0, 0, 0, 0), [])]
noncomputable def ai_o179 : List ai_E := [
  (0, .aload_n 0, 1, (0, 0, 0, 0, 0), []),
  (1, .getfield 67, 3, (10, 27, 2, 0, 5040), []),
  (4, .iload_n 1, 1, (0, 0, 0, 0, 0), []),
  (5, .baload, 1, (0, 0, 0, 0, 0), []),
  (6, .ifCond .ne 12, 3, (10, 0, 0, 0, 0), []),
  (9, .aload_n 0, 1, (0, 0, 0, 0, 0), []),
  (10, .getfield 67, 3, (10, 27, 2, 0, 5040), []),
  (13, .iload_n 2, 1, (0, 0, 0, 0, 0), []),
  (14, .baload, 1, (0, 0, 0, 0, 0), []),
  (15, .ifCond .eq 27, 3, (24, 0, 0, 0, 0), []),
  (18, .aload_n 0, 1, (0, 0, 0, 0, 0), []),
  (19, .getfield 67, 3, (10, 27, 2, 0, 5040), []),
  (22, .iload_n 1, 1, (0, 0, 0, 0, 0), []),
  (23, .baload, 1, (0, 0, 0, 0, 0), []),
  (24, .ifCond .eq 16, 3, (22, 0, 0, 0, 0), []),
  (27, .aload_n 0, 1, (0, 0, 0, 0, 0), []),
  (28, .getfield 67, 3, (10, 27, 2, 0, 5040), []),
  (31, .iload_n 2, 1, (0, 0, 0, 0, 0), []),
  (32, .baload, 1, (0, 0, 0, 0, 0), []),
  (33, .ifCond .ne 7, 3, (22, 0, 0, 0, 0), []),
  (36, .iconst 1, 1, (0, 0, 0, 0, 0), []),
  (37, .goto 4, 3, (23, 0, 0, 0, 0), []),
  (40, .iconst 0, 1, (0, 0, 0, 0, 0), []),
  (41, .ireturn, 1, (3, 0, 0, 0, 0), []),
  (42, .aload_n 0, 1, (0, 0, 0, 0, 0), []),
  (43, .getfield 64, 3, (10, 26, 2, 0, 5039), []),
  (46, .iload_n 1, 1, (0, 0, 0, 0, 0), []),
  (47, .laload, 1, (0, 0, 0, 0, 0), []),
  (48, .aload_n 0, 1, (0, 0, 0, 0, 0), []),
  (49, .getfield 64, 3, (10, 26, 2, 0, 5039), []),
  (52, .iload_n 2, 1, (0, 0, 0, 0, 0), []),
  (53, .laload, 1, (0, 0, 0, 0, 0), []),
  (54, .lcmp, 1, (0, 0, 0, 0, 0), []),
  (55, .ifCond .ge 7, 3, (36, 0, 0, 0, 0), []),
  (58, .iconst 1, 1, (0, 0, 0, 0, 0), []),
  (59, .goto 4, 3, (37, 0, 0, 0, 0), []),
  (62, .iconst 0, 1, (0, 0, 0, 0, 0), []),
  (63, .ireturn, 1, (3, 0, 0, 0, 0), [])]
noncomputable def ai_o180 : List ai_E := [
  (0, .aload_n 0, 1, (0, 0, 0, 0, 0), []),
  (1, .getfield 280, 3, (10, 41, 0, 0, 5054), []),
  (4, .bipush 20, 2, (0, 0, 0, 0, 0), []),
  (6, .if_icmp .ge 43, 3, (32, 0, 0, 0, 0), []),
  (9, .aload_n 0, 1, (0, 0, 0, 0, 0), []),
  (10, .getfield 100, 3, (10, 43, 2, 0, 5056), []),
  (13, .iconst 3, 1, (0, 0, 0, 0, 0), []),
  (14, .aload_n 0, 1, (0, 0, 0, 0, 0), []),
  (15, .getfield 280, 3, (10, 41, 0, 0, 5054), []),
  (18, .imul, 1, (0, 0, 0, 0, 0), []),
  (19, .iload_n 1, 1, (0, 0, 0, 0, 0), []),
  (20, .iastore, 1, (0, 0, 0, 0, 0), []),
  (21, .aload_n 0, 1, (0, 0, 0, 0, 0), []),
  (22, .getfield 100, 3, (10, 43, 2, 0, 5056), []),
  (25, .iconst 3, 1, (0, 0, 0, 0, 0), []),
  (26, .aload_n 0, 1, (0, 0, 0, 0, 0), []),
  (27, .getfield 280, 3, (10, 41, 0, 0, 5054), []),
  (30, .imul, 1, (0, 0, 0, 0, 0), []),
  (31, .iconst 1, 1, (0, 0, 0, 0, 0), []),
  (32, .iadd, 1, (0, 0, 0, 0, 0), []),
  (33, .iload_n 2, 1, (0, 0, 0, 0, 0), []),
  (34, .iastore, 1, (0, 0, 0, 0, 0), []),
  (35, .aload_n 0, 1, (0, 0, 0, 0, 0), []),
  (36, .getfield 100, 3, (10, 43, 2, 0, 5056), []),
  (39, .iconst 3, 1, (0, 0, 0, 0, 0), []),
  (40, .aload_n 0, 1, (0, 0, 0, 0, 0), []),
  (41, .getfield 280, 3, (10, 41, 0, 0, 5054), []),
  (44, .imul, 1, (0, 0, 0, 0, 0), []),
  (45, .iconst 2, 1, (0, 0, 0, 0, 0), []),
  (46, .iadd, 1, (0, 0, 0, 0, 0), []),
  (47, .iload_n 3, 1, (0, 0, 0, 0, 0), []),
  (48, .iastore, 1, (0, 0, 0, 0, 0), []),
  (49, .aload_n 0, 1, (0, 0, 0, 0, 0), []),
  (50, .dup, 1, (0, 0, 0, 0, 0), []),
  (51, .getfield 280, 3, (10, 41, 0, 0, 5054), []),
  (54, .iconst 1, 1, (0, 0, 0, 0, 0), []),
  (55, .iadd, 1, (0, 0, 0, 0, 0), []),
  (56, .putfield 280, 3, (10, 41, 0, 0, 5054), []),
  (59, .return_, 1, (0, 0, 0, 0, 0), [])]
noncomputable def ai_o181 : List ai_E := [
  (0, .aload_n 0, 1, (0, 0, 0, 0, 0), []),
  (1, .getfield 67, 3, (10, 27, 2, 0, 5040), []),
  (4, .iload_n 1, 1, (0, 0, 0, 0, 0), []),
  (5, .baload, 1, (0, 0, 0, 0, 0), []),
  (6, .ifCond .ne 12, 3, (10, 0, 0, 0, 0), []),
  (9, .aload_n 0, 1, (0, 0, 0, 0, 0), []),
  (10, .getfield 30, 3, (10, 8, 2, 0, 5021), []),
  (13, .iload_n 2, 1, (0, 0, 0, 0, 0), []),
  (14, .baload, 1, (0, 0, 0, 0, 0), []),
  (15, .ifCond .eq 24, 3, (23, 0, 0, 0, 0), []),
  (18, .aload_n 0, 1, (0, 0, 0, 0, 0), []),
  (19, .getfield 67, 3, (10, 27, 2, 0, 5040), []),
  (22, .iload_n 1, 1, (0, 0, 0, 0, 0), []),
  (23, .baload, 1, (0, 0, 0, 0, 0), []),
  (24, .aload_n 0, 1, (0, 0, 0, 0, 0), []),
  (25, .getfield 30, 3, (10, 8, 2, 0, 5021), []),
  (28, .iload_n 2, 1, (0, 0, 0, 0, 0), []),
  (29, .baload, 1, (0, 0, 0, 0, 0), []),
  (30, .if_icmp .eq 7, 3, (21, 0, 0, 0, 0), []),
  (33, .iconst 1, 1, (0, 0, 0, 0, 0), []),
  (34, .goto 4, 3, (22, 0, 0, 0, 0), []),
  (37, .iconst 0, 1, (0, 0, 0, 0, 0), []),
  (38, .ireturn, 1, (3, 0, 0, 0, 0), []),
  (39, .aload_n 0, 1, (0, 0, 0, 0, 0), []),
  (40, .getfield 64, 3, (10, 26, 2, 0, 5039), []),
  (43, .iload_n 1, 1, (0, 0, 0, 0, 0), []),
  (44, .laload, 1, (0, 0, 0, 0, 0), []),
  (45, .aload_n 0, 1, (0, 0, 0, 0, 0), []),
  (46, .getfield 26, 3, (10, 7, 2, 0, 5020), []),
  (49, .iload_n 2, 1, (0, 0, 0, 0, 0), []),
  (50, .laload, 1, (0, 0, 0, 0, 0), []),
  (51, .lcmp, 1, (0, 0, 0, 0, 0), []),
  (52, .ifCond .le 19, 3, (43, 0, 0, 0, 0), []),
  (55, .aload_n 0, 1, (0, 0, 0, 0, 0), []),
  (56, .getfield 64, 3, (10, 26, 2, 0, 5039), []),
  (59, .iload_n 1, 1, (0, 0, 0, 0, 0), []),
  (60, .laload, 1, (0, 0, 0, 0, 0), []),
  (61, .aload_n 0, 1, (0, 0, 0, 0, 0), []),
  (62, .getfield 26, 3, (10, 7, 2, 0, 5020), []),
  (65, .iload_n 2, 1, (0, 0, 0, 0, 0), []),
  (66, .laload, 1, (0, 0, 0, 0, 0), []),
  (67, .lsub, 1, (0, 0, 0, 0, 0), []),
  (68, .goto 16, 3, (52, 0, 0, 0, 0), []),
  (71, .aload_n 0, 1, (0, 0, 0, 0, 0), []),
  (72, .getfield 26, 3, (10, 7, 2, 0, 5020), []),
  (75, .iload_n 2, 1, (0, 0, 0, 0, 0), []),
  (76, .laload, 1, (0, 0, 0, 0, 0), []),
  (77, .aload_n 0, 1, (0, 0, 0, 0, 0), []),
  (78, .getfield 64, 3, (10, 26, 2, 0, 5039), []),
  (81, .iload_n 1, 1, (0, 0, 0, 0, 0), []),
  (82, .laload, 1, (0, 0, 0, 0, 0), []),
  (83, .lsub, 1, (0, 0, 0, 0, 0), []),
  (84, .lstore 6, 2, (0, 0, 0, 0, 0), []),
  (86, .lload 6, 2, (0, 0, 0, 0, 0), []),
  (88, .iload_n 3, 1, (0, 0, 0, 0, 0), []),
  (89, .iconst 1, 1, (0, 0, 0, 0, 0), []),
  (90, .if_icmp .ne 8, 3, (59, 0, 0, 0, 0), []),
  (93, .lload 4, 2, (0, 0, 0, 0, 0), []),
  (95, .goto 4, 3, (60, 0, 0, 0, 0), []),
  (98, .lconst 0, 1, (0, 0, 0, 0, 0), []),
  (99, .lcmp, 1, (0, 0, 0, 0, 0), []),
  (100, .ifCond .le 7, 3, (64, 0, 0, 0, 0), []),
  (103, .iconst 1, 1, (0, 0, 0, 0, 0), []),
  (104, .goto 4, 3, (65, 0, 0, 0, 0), []),
  (107, .iconst 0, 1, (0, 0, 0, 0, 0), []),
  (108, .ireturn, 1, (3, 0, 0, 0, 0), [])]
noncomputable def ai_o182 : List ai_E := [
  (0, .aload_n 0, 1, (0, 0, 0, 0, 0), []),
  (1, .getfield 52, 3, (10, 22, 2, 0, 5035), []),
  (4, .iload_n 1, 1, (0, 0, 0, 0, 0), []),
  (5, .iaload, 1, (0, 0, 0, 0, 0), []),
  (6, .istore 5, 2, (0, 0, 0, 0, 0), []),
  (8, .aload_n 0, 1, (0, 0, 0, 0, 0), []),
  (9, .getfield 58, 3, (10, 24, 2, 0, 5037), []),
  (12, .iload_n 1, 1, (0, 0, 0, 0, 0), []),
  (13, .iconst 1, 1, (0, 0, 0, 0, 0), []),
  (14, .iadd, 1, (0, 0, 0, 0, 0), []),
  (15, .iaload, 1, (0, 0, 0, 0, 0), []),
  (16, .aload_n 0, 1, (0, 0, 0, 0, 0), []),
  (17, .getfield 58, 3, (10, 24, 2, 0, 5037), []),
  (20, .iload_n 1, 1, (0, 0, 0, 0, 0), []),
  (21, .iaload, 1, (0, 0, 0, 0, 0), []),
  (22, .isub, 1, (0, 0, 0, 0, 0), []),
  (23, .istore 6, 2, (0, 0, 0, 0, 0), []),
  (25, .aload_n 0, 1, (0, 0, 0, 0, 0), []),
  (26, .iload_n 1, 1, (0, 0, 0, 0, 0), []),
  (27, .invokevirtual 283, 3, (178, 2, 0, 0, 6131), []),
  (30, .iload 6, 2, (0, 0, 0, 0, 0), []),
  (32, .aload_n 0, 1, (0, 0, 0, 0, 0), []),
  (33, .getfield 23, 3, (10, 6, 2, 0, 5019), []),
  (36, .iload 5, 2, (0, 0, 0, 0, 0), []),
  (38, .iaload, 1, (0, 0, 0, 0, 0), []),
  (39, .if_icmp .eq 10, 3, (31, 0, 0, 0, 0), []),
  (42, .aload_n 0, 1, (0, 0, 0, 0, 0), []),
  (43, .iload_n 1, 1, (0, 0, 0, 0, 0), []),
  (44, .iconst (-1), 1, (0, 0, 0, 0, 0), []),
  (45, .iconst (-1), 1, (0, 0, 0, 0, 0), []),
  (46, .invokevirtual 286, 3, (180, 4, 0, 0, 6139), []),
  (49, .iconst 0, 1, (0, 0, 0, 0, 0), []),
  (50, .istore 7, 2, (0, 0, 0, 0, 0), []),
  (52, .iload 7, 2, (0, 0, 0, 0, 0), [true, true, true, false, true, true, true, true, false, false]),
  (54, .iload 6, 2, (0, 0, 0, 0, 0), []),
  (56, .if_icmp .ge 118, 3, (103, 0, 0, 0, 0), []),
  (59, .iload 7, 2, (0, 0, 0, 0, 0), []),
  (61, .aload_n 0, 1, (0, 0, 0, 0, 0), []),
  (62, .getfield 23, 3, (10, 6, 2, 0, 5019), []),
  (65, .iload 5, 2, (0, 0, 0, 0, 0), []),
  (67, .iaload, 1, (0, 0, 0, 0, 0), []),
  (68, .if_icmp .ge 106, 3, (103, 0, 0, 0, 0), []),
  (71, .iconst 0, 1, (0, 0, 0, 0, 0), []),
  (72, .istore 8, 2, (0, 0, 0, 0, 0), []),
  (74, .iload 8, 2, (0, 0, 0, 0, 0), [true, true, true, false, true, true, true, true, true, false]),
  (76, .aload_n 0, 1, (0, 0, 0, 0, 0), []),
  (77, .getfield 55, 3, (10, 23, 2, 0, 5036), []),
  (80, .iload_n 1, 1, (0, 0, 0, 0, 0), []),
  (81, .iaload, 1, (0, 0, 0, 0, 0), []),
  (82, .if_icmp .ge 86, 3, (101, 0, 0, 0, 0), []),
  (85, .aload_n 0, 1, (0, 0, 0, 0, 0), []),
  (86, .getfield 61, 3, (10, 25, 2, 0, 5038), []),
  (89, .iconst 5, 1, (0, 0, 0, 0, 0), []),
  (90, .iload_n 1, 1, (0, 0, 0, 0, 0), []),
  (91, .imul, 1, (0, 0, 0, 0, 0), []),
  (92, .iload 8, 2, (0, 0, 0, 0, 0), []),
  (94, .iadd, 1, (0, 0, 0, 0, 0), []),
  (95, .iaload, 1, (0, 0, 0, 0, 0), []),
  (96, .istore 9, 2, (0, 0, 0, 0, 0), []),
  (98, .iload 4, 2, (0, 0, 0, 0, 0), []),
  (100, .iload 9, 2, (0, 0, 0, 0, 0), []),
  (102, .ishr, 1, (0, 0, 0, 0, 0), []),
  (103, .iconst 1, 1, (0, 0, 0, 0, 0), []),
  (104, .iand, 1, (0, 0, 0, 0, 0), []),
  (105, .ifCond .ne 57, 3, (99, 0, 0, 0, 0), []),
  (108, .aload_n 0, 1, (0, 0, 0, 0, 0), []),
  (109, .iconst 5, 1, (0, 0, 0, 0, 0), []),
  (110, .aload_n 0, 1, (0, 0, 0, 0, 0), []),
  (111, .getfield 103, 3, (10, 44, 2, 0, 5057), []),
  (114, .iload 7, 2, (0, 0, 0, 0, 0), []),
  (116, .iaload, 1, (0, 0, 0, 0, 0), []),
  (117, .imul, 1, (0, 0, 0, 0, 0), []),
  (118, .iload 8, 2, (0, 0, 0, 0, 0), []),
  (120, .iadd, 1, (0, 0, 0, 0, 0), []),
  (121, .bipush 60, 2, (0, 0, 0, 0, 0), []),
  (123, .iload 5, 2, (0, 0, 0, 0, 0), []),
  (125, .imul, 1, (0, 0, 0, 0, 0), []),
  (126, .iconst 5, 1, (0, 0, 0, 0, 0), []),
  (127, .iload 7, 2, (0, 0, 0, 0, 0), []),
  (129, .imul, 1, (0, 0, 0, 0, 0), []),
  (130, .iadd, 1, (0, 0, 0, 0, 0), []),
  (131, .iload 9, 2, (0, 0, 0, 0, 0), []),
  (133, .iadd, 1, (0, 0, 0, 0, 0), []),
  (134, .aload_n 0, 1, (0, 0, 0, 0, 0), []),
  (135, .getfield 13, 3, (10, 3, 2, 0, 5016), []),
  (138, .iconst 5, 1, (0, 0, 0, 0, 0), []),
  (139, .iload 5, 2, (0, 0, 0, 0, 0), []),
  (141, .imul, 1, (0, 0, 0, 0, 0), []),
  (142, .iload 9, 2, (0, 0, 0, 0, 0), []),
  (144, .iadd, 1, (0, 0, 0, 0, 0), []),
  (145, .iaload, 1, (0, 0, 0, 0, 0), []),
  (146, .lload_n 2, 1, (0, 0, 0, 0, 0), []),
  (147, .invokevirtual 290, 3, (181, 5, 0, 0, 6143), []),
  (150, .ifCond .eq 12, 3, (99, 0, 0, 0, 0), []),
  (153, .aload_n 0, 1, (0, 0, 0, 0, 0), []),
  (154, .iload_n 1, 1, (0, 0, 0, 0, 0), []),
  (155, .iload 7, 2, (0, 0, 0, 0, 0), []),
  (157, .iload 9, 2, (0, 0, 0, 0, 0), []),
  (159, .invokevirtual 286, 3, (180, 4, 0, 0, 6139), []),
  (162, .iinc 8 1, 3, (0, 0, 0, 0, 0), []),
  (165, .goto (-91), 3, (44, 0, 0, 0, 0), []),
  (168, .iinc 7 1, 3, (0, 0, 0, 0, 0), []),
  (171, .goto (-119), 3, (33, 0, 0, 0, 0), []),
  (174, .return_, 1, (0, 0, 0, 0, 0), [])]
noncomputable def ai_o183 : List ai_E := [
  (0, .aload_n 0, 1, (0, 0, 0, 0, 0), []),
  (1, .lload_n 1, 1, (0, 0, 0, 0, 0), []),
  (2, .lconst 0, 1, (0, 0, 0, 0, 0), []),
  (3, .lcmp, 1, (0, 0, 0, 0, 0), []),
  (4, .ifCond .ge 7, 3, (7, 0, 0, 0, 0), []),
  (7, .iconst 1, 1, (0, 0, 0, 0, 0), []),
  (8, .goto 15, 3, (13, 0, 0, 0, 0), []),
  (11, .aload_n 0, 1, (0, 0, 0, 0, 0), []),
  (12, .getfield 126, 3, (10, 19, 3, 0, 5032), []),
  (15, .ifCond .eq 7, 3, (12, 0, 0, 0, 0), []),
  (18, .iconst 0, 1, (0, 0, 0, 0, 0), []),
  (19, .goto 4, 3, (13, 0, 0, 0, 0), []),
  (22, .iconst 2, 1, (0, 0, 0, 0, 0), []),
  (23, .putfield 109, 3, (10, 0, 0, 0, 5013), []),
  (26, .aload_n 0, 1, (0, 0, 0, 0, 0), []),
  (27, .getfield 109, 3, (10, 0, 0, 0, 5013), []),
  (30, .ifCond .le 5, 3, (19, 0, 0, 0, 0), []),
  (33, .iconst 0, 1, (0, 0, 0, 0, 0), []),
  (34, .ireturn, 1, (0, 0, 0, 0, 0), []),
  (35, .aload_n 0, 1, (0, 0, 0, 0, 0), []),
  (36, .iconst 0, 1, (0, 0, 0, 0, 0), []),
  (37, .putfield 280, 3, (10, 41, 0, 0, 5054), []),
  (40, .aload_n 0, 1, (0, 0, 0, 0, 0), []),
  (41, .iconst 1, 1, (0, 0, 0, 0, 0), []),
  (42, .putfield 130, 3, (10, 42, 3, 0, 5055), []),
  (45, .iconst 0, 1, (0, 0, 0, 0, 0), []),
  (46, .istore 4, 2, (0, 0, 0, 0, 0), []),
  (48, .iload 4, 2, (0, 0, 0, 0, 0), [true, true, false, true, true]),
  (50, .aload_n 0, 1, (0, 0, 0, 0, 0), []),
  (51, .getfield 202, 3, (10, 20, 0, 0, 5033), []),
  (54, .if_icmp .ge 17, 3, (38, 0, 0, 0, 0), []),
  (57, .aload_n 0, 1, (0, 0, 0, 0, 0), []),
  (58, .iload 4, 2, (0, 0, 0, 0, 0), []),
  (60, .lload_n 1, 1, (0, 0, 0, 0, 0), []),
  (61, .iload_n 3, 1, (0, 0, 0, 0, 0), []),
  (62, .invokevirtual 294, 3, (182, 4, 0, 0, 6127), []),
  (65, .iinc 4 1, 3, (0, 0, 0, 0, 0), []),
  (68, .goto (-20), 3, (27, 0, 0, 0, 0), []),
  (71, .aload_n 0, 1, (0, 0, 0, 0, 0), []),
  (72, .getfield 280, 3, (10, 41, 0, 0, 5054), []),
  (75, .ireturn, 1, (0, 0, 0, 0, 0), [])]
noncomputable def ai_o184 : List ai_E := [
  (0, .aload_n 0, 1, (0, 0, 0, 0, 0), []),
  (1, .aload_n 0, 1, (0, 0, 0, 0, 0), []),
  (2, .getfield 130, 3, (10, 42, 3, 0, 5055), []),
  (5, .ifCond .eq 21, 3, (13, 0, 0, 0, 0), []),
  (8, .iload_n 1, 1, (0, 0, 0, 0, 0), []),
  (9, .ifCond .lt 17, 3, (13, 0, 0, 0, 0), []),
  (12, .iload_n 1, 1, (0, 0, 0, 0, 0), []),
  (13, .aload_n 0, 1, (0, 0, 0, 0, 0), []),
  (14, .getfield 280, 3, (10, 41, 0, 0, 5054), []),
  (17, .if_icmp .ge 9, 3, (13, 0, 0, 0, 0), []),
  (20, .iload_n 1, 1, (0, 0, 0, 0, 0), []),
  (21, .bipush 20, 2, (0, 0, 0, 0, 0), []),
  (23, .if_icmp .lt 7, 3, (15, 0, 0, 0, 0), []),
  (26, .iconst 1, 1, (0, 0, 0, 0, 0), []),
  (27, .goto 17, 3, (23, 0, 0, 0, 0), []),
  (30, .iload_n 2, 1, (0, 0, 0, 0, 0), []),
  (31, .ifCond .lt 8, 3, (20, 0, 0, 0, 0), []),
  (34, .iload_n 2, 1, (0, 0, 0, 0, 0), []),
  (35, .iconst 2, 1, (0, 0, 0, 0, 0), []),
  (36, .if_icmp .le 7, 3, (22, 0, 0, 0, 0), []),
  (39, .iconst 2, 1, (0, 0, 0, 0, 0), []),
  (40, .goto 4, 3, (23, 0, 0, 0, 0), []),
  (43, .iconst 0, 1, (0, 0, 0, 0, 0), []),
  (44, .putfield 109, 3, (10, 0, 0, 0, 5013), []),
  (47, .aload_n 0, 1, (0, 0, 0, 0, 0), []),
  (48, .getfield 109, 3, (10, 0, 0, 0, 5013), []),
  (51, .ifCond .le 7, 3, (29, 0, 0, 0, 0), []),
  (54, .iconst 0, 1, (0, 0, 0, 0, 0), []),
  (55, .goto 13, 3, (37, 0, 0, 0, 0), []),
  (58, .aload_n 0, 1, (0, 0, 0, 0, 0), []),
  (59, .getfield 100, 3, (10, 43, 2, 0, 5056), []),
  (62, .iconst 3, 1, (0, 0, 0, 0, 0), []),
  (63, .iload_n 1, 1, (0, 0, 0, 0, 0), []),
  (64, .imul, 1, (0, 0, 0, 0, 0), []),
  (65, .iload_n 2, 1, (0, 0, 0, 0, 0), []),
  (66, .iadd, 1, (0, 0, 0, 0, 0), []),
  (67, .iaload, 1, (0, 0, 0, 0, 0), []),
  (68, .ireturn, 1, (0, 0, 0, 0, 0), [])]
noncomputable def ai_o185 : List ai_E := [
  (0, .aload_n 0, 1, (0, 0, 0, 0, 0), []),
  (1, .getfield 106, 3, (10, 46, 2, 0, 5059), []),
  (4, .aload_n 0, 1, (0, 0, 0, 0, 0), []),
  (5, .getfield 298, 3, (10, 45, 0, 0, 5058), []),
  (8, .iload_n 1, 1, (0, 0, 0, 0, 0), []),
  (9, .iastore, 1, (0, 0, 0, 0, 0), []),
  (10, .aload_n 0, 1, (0, 0, 0, 0, 0), []),
  (11, .dup, 1, (0, 0, 0, 0, 0), []),
  (12, .getfield 298, 3, (10, 45, 0, 0, 5058), []),
  (15, .iconst 1, 1, (0, 0, 0, 0, 0), []),
  (16, .iadd, 1, (0, 0, 0, 0, 0), []),
  (17, .putfield 298, 3, (10, 45, 0, 0, 5058), []),
  (20, .return_, 1, (0, 0, 0, 0, 0), [])]
noncomputable def ai_o186 : List ai_E := [
  (0, .lconst 1, 1, (0, 0, 0, 0, 0), []),
  (1, .lstore_n 3, 1, (0, 0, 0, 0, 0), []),
  (2, .lload_n 1, 1, (0, 0, 0, 0, 0), [true, true, false, true, false, false, false]),
  (3, .lload_n 3, 1, (0, 0, 0, 0, 0), []),
  (4, .ldiv, 1, (0, 0, 0, 0, 0), []),
  (5, .ldc2_w 301, 3, (0, 9, 0, 0, 6172), []),
  (8, .lcmp, 1, (0, 0, 0, 0, 0), []),
  (9, .ifCond .le 12, 3, (13, 0, 0, 0, 0), []),
  (12, .lload_n 3, 1, (0, 0, 0, 0, 0), []),
  (13, .ldc2_w 149, 3, (0, 10, 0, 0, 5228), []),
  (16, .lmul, 1, (0, 0, 0, 0, 0), []),
  (17, .lstore_n 3, 1, (0, 0, 0, 0, 0), []),
  (18, .goto (-16), 3, (2, 0, 0, 0, 0), []),
  (21, .lload_n 3, 1, (0, 0, 0, 0, 0), []),
  (22, .lstore 5, 2, (0, 0, 0, 0, 0), []),
  (24, .lload 5, 2, (0, 0, 0, 0, 0), [true, true, false, false, false, true, false]),
  (26, .lconst 0, 1, (0, 0, 0, 0, 0), []),
  (27, .lcmp, 1, (0, 0, 0, 0, 0), []),
  (28, .ifCond .le 31, 3, (34, 0, 0, 0, 0), []),
  (31, .aload_n 0, 1, (0, 0, 0, 0, 0), []),
  (32, .ldc2_w 151, 3, (0, 48, 0, 0, 5229), []),
  (35, .lload_n 1, 1, (0, 0, 0, 0, 0), []),
  (36, .lload 5, 2, (0, 0, 0, 0, 0), []),
  (38, .ldiv, 1, (0, 0, 0, 0, 0), []),
  (39, .ldc2_w 149, 3, (0, 10, 0, 0, 5228), []),
  (42, .lrem, 1, (0, 0, 0, 0, 0), []),
  (43, .ladd, 1, (0, 0, 0, 0, 0), []),
  (44, .l2i, 1, (0, 0, 0, 0, 0), []),
  (45, .invokevirtual 303, 3, (185, 2, 0, 0, 6155), []),
  (48, .lload 5, 2, (0, 0, 0, 0, 0), []),
  (50, .ldc2_w 149, 3, (0, 10, 0, 0, 5228), []),
  (53, .ldiv, 1, (0, 0, 0, 0, 0), []),
  (54, .lstore 5, 2, (0, 0, 0, 0, 0), []),
  (56, .goto (-32), 3, (15, 0, 0, 0, 0), []),
  (59, .return_, 1, (0, 0, 0, 0, 0), [])]
noncomputable def ai_o187 : List ai_E := [
  (0, .lload_n 1, 1, (0, 0, 0, 0, 0), []),
  (1, .lconst 0, 1, (0, 0, 0, 0, 0), []),
  (2, .lcmp, 1, (0, 0, 0, 0, 0), []),
  (3, .ifCond .eq 7, 3, (6, 0, 0, 0, 0), []),
  (6, .iconst 1, 1, (0, 0, 0, 0, 0), []),
  (7, .goto 4, 3, (7, 0, 0, 0, 0), []),
  (10, .iconst 0, 1, (0, 0, 0, 0, 0), []),
  (11, .istore_n 3, 1, (0, 0, 0, 0, 0), []),
  (12, .iconst 0, 1, (0, 0, 0, 0, 0), []),
  (13, .istore 4, 2, (0, 0, 0, 0, 0), []),
  (15, .iload 4, 2, (0, 0, 0, 0, 0), [true, true, false, true, true, false]),
  (17, .bipush 8, 2, (0, 0, 0, 0, 0), []),
  (19, .if_icmp .ge 55, 3, (40, 0, 0, 0, 0), []),
  (22, .lload_n 1, 1, (0, 0, 0, 0, 0), []),
  (23, .bipush 49, 2, (0, 0, 0, 0, 0), []),
  (25, .bipush 7, 2, (0, 0, 0, 0, 0), []),
  (27, .iload 4, 2, (0, 0, 0, 0, 0), []),
  (29, .imul, 1, (0, 0, 0, 0, 0), []),
  (30, .isub, 1, (0, 0, 0, 0, 0), []),
  (31, .lshr, 1, (0, 0, 0, 0, 0), []),
  (32, .ldc2_w 306, 3, (0, 127, 0, 0, 6167), []),
  (35, .land, 1, (0, 0, 0, 0, 0), []),
  (36, .l2i, 1, (0, 0, 0, 0, 0), []),
  (37, .istore 5, 2, (0, 0, 0, 0, 0), []),
  (39, .iload_n 3, 1, (0, 0, 0, 0, 0), []),
  (40, .ifCond .eq 26, 3, (36, 0, 0, 0, 0), []),
  (43, .iload 5, 2, (0, 0, 0, 0, 0), []),
  (45, .ifCond .eq 17, 3, (34, 0, 0, 0, 0), []),
  (48, .iload 5, 2, (0, 0, 0, 0, 0), []),
  (50, .bipush 97, 2, (0, 0, 0, 0, 0), []),
  (52, .if_icmp .lt 14, 3, (36, 0, 0, 0, 0), []),
  (55, .iload 5, 2, (0, 0, 0, 0, 0), []),
  (57, .bipush 122, 2, (0, 0, 0, 0, 0), []),
  (59, .if_icmp .gt 7, 3, (36, 0, 0, 0, 0), []),
  (62, .iconst 1, 1, (0, 0, 0, 0, 0), []),
  (63, .goto 4, 3, (37, 0, 0, 0, 0), []),
  (66, .iconst 0, 1, (0, 0, 0, 0, 0), []),
  (67, .istore_n 3, 1, (0, 0, 0, 0, 0), []),
  (68, .iinc 4 1, 3, (0, 0, 0, 0, 0), []),
  (71, .goto (-56), 3, (10, 0, 0, 0, 0), []),
  (74, .iload_n 3, 1, (0, 0, 0, 0, 0), []),
  (75, .ifCond .ne 9, 3, (45, 0, 0, 0, 0), []),
  (78, .aload_n 0, 1, (0, 0, 0, 0, 0), []),
  (79, .bipush 39, 2, (0, 0, 0, 0, 0), []),
  (81, .invokevirtual 303, 3, (185, 2, 0, 0, 6155), []),
  (84, .iconst 0, 1, (0, 0, 0, 0, 0), []),
  (85, .istore 4, 2, (0, 0, 0, 0, 0), []),
  (87, .iload 4, 2, (0, 0, 0, 0, 0), [true, true, false, true, true, false]),
  (89, .bipush 8, 2, (0, 0, 0, 0, 0), []),
  (91, .if_icmp .ge 50, 3, (74, 0, 0, 0, 0), []),
  (94, .lload_n 1, 1, (0, 0, 0, 0, 0), []),
  (95, .bipush 49, 2, (0, 0, 0, 0, 0), []),
  (97, .bipush 7, 2, (0, 0, 0, 0, 0), []),
  (99, .iload 4, 2, (0, 0, 0, 0, 0), []),
  (101, .imul, 1, (0, 0, 0, 0, 0), []),
  (102, .isub, 1, (0, 0, 0, 0, 0), []),
  (103, .lshr, 1, (0, 0, 0, 0, 0), []),
  (104, .ldc2_w 306, 3, (0, 127, 0, 0, 6167), []),
  (107, .land, 1, (0, 0, 0, 0, 0), []),
  (108, .l2i, 1, (0, 0, 0, 0, 0), []),
  (109, .istore 5, 2, (0, 0, 0, 0, 0), []),
  (111, .iload 5, 2, (0, 0, 0, 0, 0), []),
  (113, .ifCond .eq 9, 3, (66, 0, 0, 0, 0), []),
  (116, .aload_n 0, 1, (0, 0, 0, 0, 0), []),
  (117, .iload 5, 2, (0, 0, 0, 0, 0), []),
  (119, .invokevirtual 303, 3, (185, 2, 0, 0, 6155), []),
  (122, .iload 5, 2, (0, 0, 0, 0, 0), []),
  (124, .bipush 39, 2, (0, 0, 0, 0, 0), []),
  (126, .if_icmp .ne 9, 3, (72, 0, 0, 0, 0), []),
  (129, .aload_n 0, 1, (0, 0, 0, 0, 0), []),
  (130, .iload 5, 2, (0, 0, 0, 0, 0), []),
  (132, .invokevirtual 303, 3, (185, 2, 0, 0, 6155), []),
  (135, .iinc 4 1, 3, (0, 0, 0, 0, 0), []),
  (138, .goto (-51), 3, (47, 0, 0, 0, 0), []),
  (141, .iload_n 3, 1, (0, 0, 0, 0, 0), []),
  (142, .ifCond .ne 9, 3, (79, 0, 0, 0, 0), []),
  (145, .aload_n 0, 1, (0, 0, 0, 0, 0), []),
  (146, .bipush 39, 2, (0, 0, 0, 0, 0), []),
  (148, .invokevirtual 303, 3, (185, 2, 0, 0, 6155), []),
  (151, .return_, 1, (0, 0, 0, 0, 0), [])]
noncomputable def ai_o188 : List ai_E := [
  (0, .iload_n 1, 1, (0, 0, 0, 0, 0), []),
  (1, .iconst 2, 1, (0, 0, 0, 0, 0), []),
  (2, .if_icmp .ne 11, 3, (7, 0, 0, 0, 0), []),
  (5, .aload_n 0, 1, (0, 0, 0, 0, 0), []),
  (6, .lload_n 2, 1, (0, 0, 0, 0, 0), []),
  (7, .invokevirtual 308, 3, (187, 2, 0, 0, 6163), []),
  (10, .goto 118, 3, (69, 0, 0, 0, 0), []),
  (13, .iload_n 1, 1, (0, 0, 0, 0, 0), []),
  (14, .iconst 2, 1, (0, 0, 0, 0, 0), []),
  (15, .if_icmp .le 23, 3, (20, 0, 0, 0, 0), []),
  (18, .aload_n 0, 1, (0, 0, 0, 0, 0), []),
  (19, .lload_n 2, 1, (0, 0, 0, 0, 0), []),
  (20, .lconst 1, 1, (0, 0, 0, 0, 0), []),
  (21, .lcmp, 1, (0, 0, 0, 0, 0), []),
  (22, .ifCond .ne 8, 3, (17, 0, 0, 0, 0), []),
  (25, .bipush 116, 2, (0, 0, 0, 0, 0), []),
  (27, .goto 5, 3, (18, 0, 0, 0, 0), []),
  (30, .bipush 102, 2, (0, 0, 0, 0, 0), []),
  (32, .invokevirtual 303, 3, (185, 2, 0, 0, 6155), []),
  (35, .goto 93, 3, (69, 0, 0, 0, 0), []),
  (38, .lload_n 2, 1, (0, 0, 0, 0, 0), []),
  (39, .lconst 0, 1, (0, 0, 0, 0, 0), []),
  (40, .lcmp, 1, (0, 0, 0, 0, 0), []),
  (41, .ifCond .ge 9, 3, (27, 0, 0, 0, 0), []),
  (44, .aload_n 0, 1, (0, 0, 0, 0, 0), []),
  (45, .bipush 45, 2, (0, 0, 0, 0, 0), []),
  (47, .invokevirtual 303, 3, (185, 2, 0, 0, 6155), []),
  (50, .lload_n 2, 1, (0, 0, 0, 0, 0), []),
  (51, .lconst 0, 1, (0, 0, 0, 0, 0), []),
  (52, .lcmp, 1, (0, 0, 0, 0, 0), []),
  (53, .ifCond .ge 8, 3, (34, 0, 0, 0, 0), []),
  (56, .lload_n 2, 1, (0, 0, 0, 0, 0), []),
  (57, .lneg, 1, (0, 0, 0, 0, 0), []),
  (58, .goto 4, 3, (35, 0, 0, 0, 0), []),
  (61, .lload_n 2, 1, (0, 0, 0, 0, 0), []),
  (62, .lstore 4, 2, (0, 0, 0, 0, 0), []),
  (64, .aload_n 0, 1, (0, 0, 0, 0, 0), []),
  (65, .iload_n 1, 1, (0, 0, 0, 0, 0), []),
  (66, .ifCond .ne 8, 3, (41, 0, 0, 0, 0), []),
  (69, .lload 4, 2, (0, 0, 0, 0, 0), []),
  (71, .goto 9, 3, (44, 0, 0, 0, 0), []),
  (74, .lload 4, 2, (0, 0, 0, 0, 0), []),
  (76, .ldc2_w 160, 3, (0, 100, 0, 0, 5230), []),
  (79, .ldiv, 1, (0, 0, 0, 0, 0), []),
  (80, .invokevirtual 312, 3, (186, 2, 0, 0, 6168), []),
  (83, .iload_n 1, 1, (0, 0, 0, 0, 0), []),
  (84, .ifCond .ne 4, 3, (48, 0, 0, 0, 0), []),
  (87, .return_, 1, (0, 0, 0, 0, 0), []),
  (88, .aload_n 0, 1, (0, 0, 0, 0, 0), []),
  (89, .bipush 46, 2, (0, 0, 0, 0, 0), []),
  (91, .invokevirtual 303, 3, (185, 2, 0, 0, 6155), []),
  (94, .aload_n 0, 1, (0, 0, 0, 0, 0), []),
  (95, .ldc2_w 151, 3, (0, 48, 0, 0, 5229), []),
  (98, .lload 4, 2, (0, 0, 0, 0, 0), []),
  (100, .ldc2_w 149, 3, (0, 10, 0, 0, 5228), []),
  (103, .ldiv, 1, (0, 0, 0, 0, 0), []),
  (104, .ldc2_w 149, 3, (0, 10, 0, 0, 5228), []),
  (107, .lrem, 1, (0, 0, 0, 0, 0), []),
  (108, .ladd, 1, (0, 0, 0, 0, 0), []),
  (109, .l2i, 1, (0, 0, 0, 0, 0), []),
  (110, .invokevirtual 303, 3, (185, 2, 0, 0, 6155), []),
  (113, .aload_n 0, 1, (0, 0, 0, 0, 0), []),
  (114, .ldc2_w 151, 3, (0, 48, 0, 0, 5229), []),
  (117, .lload 4, 2, (0, 0, 0, 0, 0), []),
  (119, .ldc2_w 149, 3, (0, 10, 0, 0, 5228), []),
  (122, .lrem, 1, (0, 0, 0, 0, 0), []),
  (123, .ladd, 1, (0, 0, 0, 0, 0), []),
  (124, .l2i, 1, (0, 0, 0, 0, 0), []),
  (125, .invokevirtual 303, 3, (185, 2, 0, 0, 6155), []),
  (128, .return_, 1, (0, 0, 0, 0, 0), [])]
noncomputable def ai_o189 : List ai_E := [
  (0, .aload_n 0, 1, (0, 0, 0, 0, 0), []),
  (1, .aload_n 0, 1, (0, 0, 0, 0, 0), []),
  (2, .iload_n 1, 1, (0, 0, 0, 0, 0), []),
  (3, .invokevirtual 115, 3, (129, 2, 0, 0, 5167), []),
  (6, .ifCond .ne 7, 3, (7, 0, 0, 0, 0), []),
  (9, .iconst 1, 1, (0, 0, 0, 0, 0), []),
  (10, .goto 17, 3, (15, 0, 0, 0, 0), []),
  (13, .aload_n 0, 1, (0, 0, 0, 0, 0), []),
  (14, .getfield 7, 3, (10, 2, 2, 0, 5015), []),
  (17, .iload_n 1, 1, (0, 0, 0, 0, 0), []),
  (18, .iaload, 1, (0, 0, 0, 0, 0), []),
  (19, .ifCond .ne 7, 3, (14, 0, 0, 0, 0), []),
  (22, .iconst 2, 1, (0, 0, 0, 0, 0), []),
  (23, .goto 4, 3, (15, 0, 0, 0, 0), []),
  (26, .iconst 0, 1, (0, 0, 0, 0, 0), []),
  (27, .putfield 109, 3, (10, 0, 0, 0, 5013), []),
  (30, .aload_n 0, 1, (0, 0, 0, 0, 0), []),
  (31, .getfield 109, 3, (10, 0, 0, 0, 5013), []),
  (34, .ifCond .le 5, 3, (21, 0, 0, 0, 0), []),
  (37, .iconst 0, 1, (0, 0, 0, 0, 0), []),
  (38, .ireturn, 1, (0, 0, 0, 0, 0), []),
  (39, .aload_n 0, 1, (0, 0, 0, 0, 0), []),
  (40, .iconst 0, 1, (0, 0, 0, 0, 0), []),
  (41, .putfield 298, 3, (10, 45, 0, 0, 5058), []),
  (44, .aload_n 0, 1, (0, 0, 0, 0, 0), []),
  (45, .bipush 48, 2, (0, 0, 0, 0, 0), []),
  (47, .iload_n 1, 1, (0, 0, 0, 0, 0), []),
  (48, .iadd, 1, (0, 0, 0, 0, 0), []),
  (49, .invokevirtual 303, 3, (185, 2, 0, 0, 6155), []),
  (52, .aload_n 0, 1, (0, 0, 0, 0, 0), []),
  (53, .bipush 40, 2, (0, 0, 0, 0, 0), []),
  (55, .invokevirtual 303, 3, (185, 2, 0, 0, 6155), []),
  (58, .iconst 0, 1, (0, 0, 0, 0, 0), []),
  (59, .istore_n 2, 1, (0, 0, 0, 0, 0), []),
  (60, .iload_n 2, 1, (0, 0, 0, 0, 0), [true, true, true, false]),
  (61, .aload_n 0, 1, (0, 0, 0, 0, 0), []),
  (62, .getfield 7, 3, (10, 2, 2, 0, 5015), []),
  (65, .iload_n 1, 1, (0, 0, 0, 0, 0), []),
  (66, .iaload, 1, (0, 0, 0, 0, 0), []),
  (67, .if_icmp .ge 17, 3, (47, 0, 0, 0, 0), []),
  (70, .aload_n 0, 1, (0, 0, 0, 0, 0), []),
  (71, .bipush 48, 2, (0, 0, 0, 0, 0), []),
  (73, .iload_n 2, 1, (0, 0, 0, 0, 0), []),
  (74, .iadd, 1, (0, 0, 0, 0, 0), []),
  (75, .invokevirtual 303, 3, (185, 2, 0, 0, 6155), []),
  (78, .iinc 2 1, 3, (0, 0, 0, 0, 0), []),
  (81, .goto (-21), 3, (34, 0, 0, 0, 0), []),
  (84, .aload_n 0, 1, (0, 0, 0, 0, 0), []),
  (85, .bipush 41, 2, (0, 0, 0, 0, 0), []),
  (87, .invokevirtual 303, 3, (185, 2, 0, 0, 6155), []),
  (90, .iconst 0, 1, (0, 0, 0, 0, 0), []),
  (91, .istore_n 2, 1, (0, 0, 0, 0, 0), []),
  (92, .iload_n 2, 1, (0, 0, 0, 0, 0), [true, true, true, false]),
  (93, .aload_n 0, 1, (0, 0, 0, 0, 0), []),
  (94, .getfield 23, 3, (10, 6, 2, 0, 5019), []),
  (97, .iload_n 1, 1, (0, 0, 0, 0, 0), []),
  (98, .iaload, 1, (0, 0, 0, 0, 0), []),
  (99, .if_icmp .ge 98, 3, (116, 0, 0, 0, 0), []),
  (102, .iconst 0, 1, (0, 0, 0, 0, 0), []),
  (103, .istore_n 3, 1, (0, 0, 0, 0, 0), []),
  (104, .iload_n 3, 1, (0, 0, 0, 0, 0), [true, true, true, true]),
  (105, .aload_n 0, 1, (0, 0, 0, 0, 0), []),
  (106, .getfield 7, 3, (10, 2, 2, 0, 5015), []),
  (109, .iload_n 1, 1, (0, 0, 0, 0, 0), []),
  (110, .iaload, 1, (0, 0, 0, 0, 0), []),
  (111, .if_icmp .ge 80, 3, (114, 0, 0, 0, 0), []),
  (114, .aload_n 0, 1, (0, 0, 0, 0, 0), []),
  (115, .iload_n 3, 1, (0, 0, 0, 0, 0), []),
  (116, .ifCond .ne 8, 3, (71, 0, 0, 0, 0), []),
  (119, .bipush 58, 2, (0, 0, 0, 0, 0), []),
  (121, .goto 5, 3, (72, 0, 0, 0, 0), []),
  (124, .bipush 44, 2, (0, 0, 0, 0, 0), []),
  (126, .invokevirtual 303, 3, (185, 2, 0, 0, 6155), []),
  (129, .aload_n 0, 1, (0, 0, 0, 0, 0), []),
  (130, .getfield 30, 3, (10, 8, 2, 0, 5021), []),
  (133, .bipush 60, 2, (0, 0, 0, 0, 0), []),
  (135, .iload_n 1, 1, (0, 0, 0, 0, 0), []),
  (136, .imul, 1, (0, 0, 0, 0, 0), []),
  (137, .iconst 5, 1, (0, 0, 0, 0, 0), []),
  (138, .iload_n 2, 1, (0, 0, 0, 0, 0), []),
  (139, .imul, 1, (0, 0, 0, 0, 0), []),
  (140, .iadd, 1, (0, 0, 0, 0, 0), []),
  (141, .iload_n 3, 1, (0, 0, 0, 0, 0), []),
  (142, .iadd, 1, (0, 0, 0, 0, 0), []),
  (143, .baload, 1, (0, 0, 0, 0, 0), []),
  (144, .ifCond .eq 12, 3, (90, 0, 0, 0, 0), []),
  (147, .aload_n 0, 1, (0, 0, 0, 0, 0), []),
  (148, .bipush 126, 2, (0, 0, 0, 0, 0), []),
  (150, .invokevirtual 303, 3, (185, 2, 0, 0, 6155), []),
  (153, .goto 32, 3, (112, 0, 0, 0, 0), []),
  (156, .aload_n 0, 1, (0, 0, 0, 0, 0), []),
  (157, .aload_n 0, 1, (0, 0, 0, 0, 0), []),
  (158, .getfield 13, 3, (10, 3, 2, 0, 5016), []),
  (161, .iconst 5, 1, (0, 0, 0, 0, 0), []),
  (162, .iload_n 1, 1, (0, 0, 0, 0, 0), []),
  (163, .imul, 1, (0, 0, 0, 0, 0), []),
  (164, .iload_n 3, 1, (0, 0, 0, 0, 0), []),
  (165, .iadd, 1, (0, 0, 0, 0, 0), []),
  (166, .iaload, 1, (0, 0, 0, 0, 0), []),
  (167, .aload_n 0, 1, (0, 0, 0, 0, 0), []),
  (168, .getfield 26, 3, (10, 7, 2, 0, 5020), []),
  (171, .bipush 60, 2, (0, 0, 0, 0, 0), []),
  (173, .iload_n 1, 1, (0, 0, 0, 0, 0), []),
  (174, .imul, 1, (0, 0, 0, 0, 0), []),
  (175, .iconst 5, 1, (0, 0, 0, 0, 0), []),
  (176, .iload_n 2, 1, (0, 0, 0, 0, 0), []),
  (177, .imul, 1, (0, 0, 0, 0, 0), []),
  (178, .iadd, 1, (0, 0, 0, 0, 0), []),
  (179, .iload_n 3, 1, (0, 0, 0, 0, 0), []),
  (180, .iadd, 1, (0, 0, 0, 0, 0), []),
  (181, .laload, 1, (0, 0, 0, 0, 0), []),
  (182, .invokevirtual 315, 3, (188, 3, 0, 0, 6159), []),
  (185, .iinc 3 1, 3, (0, 0, 0, 0, 0), []),
  (188, .goto (-84), 3, (60, 0, 0, 0, 0), []),
  (191, .iinc 2 1, 3, (0, 0, 0, 0, 0), []),
  (194, .goto (-102), 3, (52, 0, 0, 0, 0), []),
  (197, .aload_n 0, 1, (0, 0, 0, 0, 0), []),
  (198, .bipush 59, 2, (0, 0, 0, 0, 0), []),
  (200, .invokevirtual 303, 3, (185, 2, 0, 0, 6155), []),
  (203, .aload_n 0, 1, (0, 0, 0, 0, 0), []),
  (204, .getfield 298, 3, (10, 45, 0, 0, 5058), []),
  (207, .ireturn, 1, (0, 0, 0, 0, 0), [])]
noncomputable def ai_o190 : List ai_E := [
  (0, .aload_n 0, 1, (0, 0, 0, 0, 0), []),
  (1, .iload_n 1, 1, (0, 0, 0, 0, 0), []),
  (2, .ifCond .lt 11, 3, (7, 0, 0, 0, 0), []),
  (5, .iload_n 1, 1, (0, 0, 0, 0, 0), []),
  (6, .aload_n 0, 1, (0, 0, 0, 0, 0), []),
  (7, .getfield 298, 3, (10, 45, 0, 0, 5058), []),
  (10, .if_icmp .lt 7, 3, (9, 0, 0, 0, 0), []),
  (13, .iconst 1, 1, (0, 0, 0, 0, 0), []),
  (14, .goto 4, 3, (10, 0, 0, 0, 0), []),
  (17, .iconst 0, 1, (0, 0, 0, 0, 0), []),
  (18, .putfield 109, 3, (10, 0, 0, 0, 5013), []),
  (21, .aload_n 0, 1, (0, 0, 0, 0, 0), []),
  (22, .getfield 109, 3, (10, 0, 0, 0, 5013), []),
  (25, .ifCond .le 7, 3, (16, 0, 0, 0, 0), []),
  (28, .iconst 0, 1, (0, 0, 0, 0, 0), []),
  (29, .goto 9, 3, (20, 0, 0, 0, 0), []),
  (32, .aload_n 0, 1, (0, 0, 0, 0, 0), []),
  (33, .getfield 106, 3, (10, 46, 2, 0, 5059), []),
  (36, .iload_n 1, 1, (0, 0, 0, 0, 0), []),
  (37, .iaload, 1, (0, 0, 0, 0, 0), []),
  (38, .i2c, 1, (0, 0, 0, 0, 0), []),
  (39, .ireturn, 1, (5, 0, 0, 0, 0), [])]
noncomputable def ai_o191 : List ai_E := [
  (0, .aload_n 1, 1, (0, 0, 0, 0, 0), []),
  (1, .iconst 0, 1, (0, 0, 0, 0, 0), []),
  (2, .aload_n 0, 1, (0, 0, 0, 0, 0), []),
  (3, .invokevirtual 7, 3, (1, 1, 1, 0, 2065), []),
  (6, .i2l, 1, (0, 0, 0, 0, 0), []),
  (7, .lastore, 1, (0, 0, 0, 0, 0), []),
  (8, .goto 6, 3, (10, 0, 0, 0, 0), []),
  (11, .astore_n 2, 1, (0, 0, 0, 0, 0), []),
  (12, .iconst 1, 1, (0, 0, 0, 0, 0), []),
  (13, .ireturn, 1, (0, 0, 0, 0, 0), []),
  (14, .iconst 0, 1, (0, 0, 0, 0, 0), []),
  (15, .ireturn, 1, (0, 0, 0, 0, 0), [])]
noncomputable def ai_o192 : List ai_E := [
  (0, .aload 5, 2, (0, 0, 0, 0, 0), []),
  (2, .iconst 0, 1, (0, 0, 0, 0, 0), []),
  (3, .aload_n 0, 1, (0, 0, 0, 0, 0), []),
  (4, .iload_n 1, 1, (0, 0, 0, 0, 0), []),
  (5, .iload_n 2, 1, (0, 0, 0, 0, 0), []),
  (6, .iload_n 3, 1, (0, 0, 0, 0, 0), []),
  (7, .iload 4, 2, (0, 0, 0, 0, 0), []),
  (9, .invokevirtual 15, 3, (2, 5, 1, 0, 2146), []),
  (12, .i2l, 1, (0, 0, 0, 0, 0), []),
  (13, .lastore, 1, (0, 0, 0, 0, 0), []),
  (14, .goto 11, 3, (17, 0, 0, 0, 0), []),
  (17, .astore 6, 2, (0, 0, 0, 0, 0), []),
  (19, .iconst 1, 1, (0, 0, 0, 0, 0), []),
  (20, .ireturn, 1, (0, 0, 0, 0, 0), []),
  (21, .astore 6, 2, (0, 0, 0, 0, 0), []),
  (23, .iconst 2, 1, (0, 0, 0, 0, 0), []),
  (24, .ireturn, 1, (0, 0, 0, 0, 0), []),
  (25, .iconst 0, 1, (0, 0, 0, 0, 0), []),
  (26, .ireturn, 1, (0, 0, 0, 0, 0), [])]
noncomputable def ai_o193 : List ai_E := [
  (0, .aload_n 1, 1, (0, 0, 0, 0, 0), []),
  (1, .iconst 0, 1, (0, 0, 0, 0, 0), []),
  (2, .aload_n 0, 1, (0, 0, 0, 0, 0), []),
  (3, .invokevirtual 21, 3, (5, 1, 1, 0, 2200), []),
  (6, .i2l, 1, (0, 0, 0, 0, 0), []),
  (7, .lastore, 1, (0, 0, 0, 0, 0), []),
  (8, .goto 6, 3, (10, 0, 0, 0, 0), []),
  (11, .astore_n 2, 1, (0, 0, 0, 0, 0), []),
  (12, .iconst 1, 1, (0, 0, 0, 0, 0), []),
  (13, .ireturn, 1, (0, 0, 0, 0, 0), []),
  (14, .iconst 0, 1, (0, 0, 0, 0, 0), []),
  (15, .ireturn, 1, (0, 0, 0, 0, 0), [])]
noncomputable def ai_o194 : List ai_E := [
  (0, .aload_n 2, 1, (0, 0, 0, 0, 0), []),
  (1, .iconst 0, 1, (0, 0, 0, 0, 0), []),
  (2, .aload_n 0, 1, (0, 0, 0, 0, 0), []),
  (3, .iload_n 1, 1, (0, 0, 0, 0, 0), []),
  (4, .invokevirtual 24, 3, (7, 2, 1, 0, 3069), []),
  (7, .i2l, 1, (0, 0, 0, 0, 0), []),
  (8, .lastore, 1, (0, 0, 0, 0, 0), []),
  (9, .goto 9, 3, (14, 0, 0, 0, 0), []),
  (12, .astore_n 3, 1, (0, 0, 0, 0, 0), []),
  (13, .iconst 1, 1, (0, 0, 0, 0, 0), []),
  (14, .ireturn, 1, (0, 0, 0, 0, 0), []),
  (15, .astore_n 3, 1, (0, 0, 0, 0, 0), []),
  (16, .iconst 2, 1, (0, 0, 0, 0, 0), []),
  (17, .ireturn, 1, (0, 0, 0, 0, 0), []),
  (18, .iconst 0, 1, (0, 0, 0, 0, 0), []),
  (19, .ireturn, 1, (0, 0, 0, 0, 0), [])]
noncomputable def ai_o195 : List ai_E := [
  (0, .aload_n 2, 1, (0, 0, 0, 0, 0), []),
  (1, .iconst 0, 1, (0, 0, 0, 0, 0), []),
  (2, .aload_n 0, 1, (0, 0, 0, 0, 0), []),
  (3, .iload_n 1, 1, (0, 0, 0, 0, 0), []),
  (4, .invokevirtual 30, 3, (8, 2, 1, 0, 3109), []),
  (7, .i2l, 1, (0, 0, 0, 0, 0), []),
  (8, .lastore, 1, (0, 0, 0, 0, 0), []),
  (9, .goto 12, 3, (17, 0, 0, 0, 0), []),
  (12, .astore_n 3, 1, (0, 0, 0, 0, 0), []),
  (13, .iconst 1, 1, (0, 0, 0, 0, 0), []),
  (14, .ireturn, 1, (0, 0, 0, 0, 0), []),
  (15, .astore_n 3, 1, (0, 0, 0, 0, 0), []),
  (16, .iconst 2, 1, (0, 0, 0, 0, 0), []),
  (17, .ireturn, 1, (0, 0, 0, 0, 0), []),
  (18, .astore_n 3, 1, (0, 0, 0, 0, 0), []),
  (19, .iconst 3, 1, (0, 0, 0, 0, 0), []),
  (20, .ireturn, 1, (0, 0, 0, 0, 0), []),
  (21, .iconst 0, 1, (0, 0, 0, 0, 0), []),
  (22, .ireturn, 1, (0, 0, 0, 0, 0), [])]
noncomputable def ai_o196 : List ai_E := [
  (0, .aload_n 2, 1, (0, 0, 0, 0, 0), []),
  (1, .iconst 0, 1, (0, 0, 0, 0, 0), []),
  (2, .aload_n 0, 1, (0, 0, 0, 0, 0), []),
  (3, .iload_n 1, 1, (0, 0, 0, 0, 0), []),
  (4, .invokevirtual 33, 3, (10, 2, 1, 0, 4037), []),
  (7, .i2l, 1, (0, 0, 0, 0, 0), []),
  (8, .lastore, 1, (0, 0, 0, 0, 0), []),
  (9, .goto 6, 3, (11, 0, 0, 0, 0), []),
  (12, .astore_n 3, 1, (0, 0, 0, 0, 0), []),
  (13, .iconst 1, 1, (0, 0, 0, 0, 0), []),
  (14, .ireturn, 1, (0, 0, 0, 0, 0), []),
  (15, .iconst 0, 1, (0, 0, 0, 0, 0), []),
  (16, .ireturn, 1, (0, 0, 0, 0, 0), [])]
noncomputable def ai_o197 : List ai_E := [
  (0, .aload 4, 2, (0, 0, 0, 0, 0), []),
  (2, .iconst 0, 1, (0, 0, 0, 0, 0), []),
  (3, .aload_n 0, 1, (0, 0, 0, 0, 0), []),
  (4, .iload_n 1, 1, (0, 0, 0, 0, 0), []),
  (5, .iload_n 2, 1, (0, 0, 0, 0, 0), []),
  (6, .iload_n 3, 1, (0, 0, 0, 0, 0), []),
  (7, .invokevirtual 38, 3, (11, 4, 1, 0, 4060), []),
  (10, .lastore, 1, (0, 0, 0, 0, 0), []),
  (11, .goto 7, 3, (12, 0, 0, 0, 0), []),
  (14, .astore 5, 2, (0, 0, 0, 0, 0), []),
  (16, .iconst 1, 1, (0, 0, 0, 0, 0), []),
  (17, .ireturn, 1, (0, 0, 0, 0, 0), []),
  (18, .iconst 0, 1, (0, 0, 0, 0, 0), []),
  (19, .ireturn, 1, (0, 0, 0, 0, 0), [])]
noncomputable def ai_o198 : List ai_E := [
  (0, .aload 4, 2, (0, 0, 0, 0, 0), []),
  (2, .iconst 0, 1, (0, 0, 0, 0, 0), []),
  (3, .aload_n 0, 1, (0, 0, 0, 0, 0), []),
  (4, .iload_n 1, 1, (0, 0, 0, 0, 0), []),
  (5, .iload_n 2, 1, (0, 0, 0, 0, 0), []),
  (6, .iload_n 3, 1, (0, 0, 0, 0, 0), []),
  (7, .invokevirtual 42, 3, (12, 4, 1, 0, 4074), []),
  (10, .ifCond .eq 7, 3, (10, 0, 0, 0, 0), []),
  (13, .lconst 1, 1, (0, 0, 0, 0, 0), []),
  (14, .goto 4, 3, (11, 0, 0, 0, 0), []),
  (17, .lconst 0, 1, (0, 0, 0, 0, 0), []),
  (18, .lastore, 1, (0, 0, 0, 0, 0), []),
  (19, .goto 7, 3, (16, 0, 0, 0, 0), []),
  (22, .astore 5, 2, (0, 0, 0, 0, 0), []),
  (24, .iconst 1, 1, (0, 0, 0, 0, 0), []),
  (25, .ireturn, 1, (0, 0, 0, 0, 0), []),
  (26, .iconst 0, 1, (0, 0, 0, 0, 0), []),
  (27, .ireturn, 1, (0, 0, 0, 0, 0), [])]
noncomputable def ai_o199 : List ai_E := [
  (0, .aload_n 1, 1, (0, 0, 0, 0, 0), []),
  (1, .iconst 0, 1, (0, 0, 0, 0, 0), []),
  (2, .aload_n 0, 1, (0, 0, 0, 0, 0), []),
  (3, .invokevirtual 46, 3, (13, 1, 1, 0, 4082), []),
  (6, .i2l, 1, (0, 0, 0, 0, 0), []),
  (7, .lastore, 1, (0, 0, 0, 0, 0), []),
  (8, .goto 6, 3, (10, 0, 0, 0, 0), []),
  (11, .astore_n 2, 1, (0, 0, 0, 0, 0), []),
  (12, .iconst 1, 1, (0, 0, 0, 0, 0), []),
  (13, .ireturn, 1, (0, 0, 0, 0, 0), []),
  (14, .iconst 0, 1, (0, 0, 0, 0, 0), []),
  (15, .ireturn, 1, (0, 0, 0, 0, 0), [])]
noncomputable def ai_o200 : List ai_E := [
  (0, .aload_n 1, 1, (0, 0, 0, 0, 0), []),
  (1, .iconst 0, 1, (0, 0, 0, 0, 0), []),
  (2, .aload_n 0, 1, (0, 0, 0, 0, 0), []),
  (3, .invokevirtual 49, 3, (14, 1, 1, 0, 4095), []),
  (6, .i2l, 1, (0, 0, 0, 0, 0), []),
  (7, .lastore, 1, (0, 0, 0, 0, 0), []),
  (8, .goto 6, 3, (10, 0, 0, 0, 0), []),
  (11, .astore_n 2, 1, (0, 0, 0, 0, 0), []),
  (12, .iconst 1, 1, (0, 0, 0, 0, 0), []),
  (13, .ireturn, 1, (0, 0, 0, 0, 0), []),
  (14, .iconst 0, 1, (0, 0, 0, 0, 0), []),
  (15, .ireturn, 1, (0, 0, 0, 0, 0), [])]
noncomputable def ai_o201 : List ai_E := [
  (0, .aload_n 1, 1, (0, 0, 0, 0, 0), []),
  (1, .iconst 0, 1, (0, 0, 0, 0, 0), []),
  (2, .aload_n 0, 1, (0, 0, 0, 0, 0), []),
  (3, .invokevirtual 52, 3, (15, 1, 1, 0, 4107), []),
  (6, .i2l, 1, (0, 0, 0, 0, 0), []),
  (7, .lastore, 1, (0, 0, 0, 0, 0), []),
  (8, .goto 6, 3, (10, 0, 0, 0, 0), []),
  (11, .astore_n 2, 1, (0, 0, 0, 0, 0), []),
  (12, .iconst 1, 1, (0, 0, 0, 0, 0), []),
  (13, .ireturn, 1, (0, 0, 0, 0, 0), []),
  (14, .iconst 0, 1, (0, 0, 0, 0, 0), []),
  (15, .ireturn, 1, (0, 0, 0, 0, 0), [])]
noncomputable def ai_o202 : List ai_E := [
  (0, .aload 4, 2, (0, 0, 0, 0, 0), []),
  (2, .iconst 0, 1, (0, 0, 0, 0, 0), []),
  (3, .aload_n 0, 1, (0, 0, 0, 0, 0), []),
  (4, .lload_n 1, 1, (0, 0, 0, 0, 0), []),
  (5, .iload_n 3, 1, (0, 0, 0, 0, 0), []),
  (6, .invokevirtual 55, 3, (16, 3, 1, 0, 4118), []),
  (9, .i2l, 1, (0, 0, 0, 0, 0), []),
  (10, .lastore, 1, (0, 0, 0, 0, 0), []),
  (11, .goto 11, 3, (15, 0, 0, 0, 0), []),
  (14, .astore 5, 2, (0, 0, 0, 0, 0), []),
  (16, .iconst 1, 1, (0, 0, 0, 0, 0), []),
  (17, .ireturn, 1, (0, 0, 0, 0, 0), []),
  (18, .astore 5, 2, (0, 0, 0, 0, 0), []),
  (20, .iconst 2, 1, (0, 0, 0, 0, 0), []),
  (21, .ireturn, 1, (0, 0, 0, 0, 0), []),
  (22, .iconst 0, 1, (0, 0, 0, 0, 0), []),
  (23, .ireturn, 1, (0, 0, 0, 0, 0), [])]
noncomputable def ai_o203 : List ai_E := [
  (0, .aload_n 3, 1, (0, 0, 0, 0, 0), []),
  (1, .iconst 0, 1, (0, 0, 0, 0, 0), []),
  (2, .aload_n 0, 1, (0, 0, 0, 0, 0), []),
  (3, .iload_n 1, 1, (0, 0, 0, 0, 0), []),
  (4, .iload_n 2, 1, (0, 0, 0, 0, 0), []),
  (5, .invokevirtual 59, 3, (17, 3, 1, 0, 4174), []),
  (8, .i2l, 1, (0, 0, 0, 0, 0), []),
  (9, .lastore, 1, (0, 0, 0, 0, 0), []),
  (10, .goto 11, 3, (15, 0, 0, 0, 0), []),
  (13, .astore 4, 2, (0, 0, 0, 0, 0), []),
  (15, .iconst 1, 1, (0, 0, 0, 0, 0), []),
  (16, .ireturn, 1, (0, 0, 0, 0, 0), []),
  (17, .astore 4, 2, (0, 0, 0, 0, 0), []),
  (19, .iconst 2, 1, (0, 0, 0, 0, 0), []),
  (20, .ireturn, 1, (0, 0, 0, 0, 0), []),
  (21, .iconst 0, 1, (0, 0, 0, 0, 0), []),
  (22, .ireturn, 1, (0, 0, 0, 0, 0), [])]
noncomputable def ai_o204 : List ai_E := [
  (0, .aload_n 2, 1, (0, 0, 0, 0, 0), []),
  (1, .iconst 0, 1, (0, 0, 0, 0, 0), []),
  (2, .aload_n 0, 1, (0, 0, 0, 0, 0), []),
  (3, .iload_n 1, 1, (0, 0, 0, 0, 0), []),
  (4, .invokevirtual 63, 3, (18, 2, 1, 0, 4191), []),
  (7, .i2l, 1, (0, 0, 0, 0, 0), []),
  (8, .lastore, 1, (0, 0, 0, 0, 0), []),
  (9, .goto 9, 3, (14, 0, 0, 0, 0), []),
  (12, .astore_n 3, 1, (0, 0, 0, 0, 0), []),
  (13, .iconst 1, 1, (0, 0, 0, 0, 0), []),
  (14, .ireturn, 1, (0, 0, 0, 0, 0), []),
  (15, .astore_n 3, 1, (0, 0, 0, 0, 0), []),
  (16, .iconst 2, 1, (0, 0, 0, 0, 0), []),
  (17, .ireturn, 1, (0, 0, 0, 0, 0), []),
  (18, .iconst 0, 1, (0, 0, 0, 0, 0), []),
  (19, .ireturn, 1, (0, 0, 0, 0, 0), [])]
noncomputable def ai_o205 : List ai_E := [
  (0, .aload_n 2, 1, (0, 0, 0, 0, 0), []),
  (1, .iconst 0, 1, (0, 0, 0, 0, 0), []),
  (2, .aload_n 0, 1, (0, 0, 0, 0, 0), []),
  (3, .iload_n 1, 1, (0, 0, 0, 0, 0), []),
  (4, .invokevirtual 66, 3, (19, 2, 1, 0, 5002), []),
  (7, .i2l, 1, (0, 0, 0, 0, 0), []),
  (8, .lastore, 1, (0, 0, 0, 0, 0), []),
  (9, .goto 6, 3, (11, 0, 0, 0, 0), []),
  (12, .astore_n 3, 1, (0, 0, 0, 0, 0), []),
  (13, .iconst 1, 1, (0, 0, 0, 0, 0), []),
  (14, .ireturn, 1, (0, 0, 0, 0, 0), []),
  (15, .iconst 0, 1, (0, 0, 0, 0, 0), []),
  (16, .ireturn, 1, (0, 0, 0, 0, 0), [])]
noncomputable def ai_o206 : List ai_E := [
  (0, .new 8, 3, (0, 8, 0, 0, 1021), []),
  (3, .dup, 1, (0, 0, 0, 0, 0), []),
  (4, .invokespecial 70, 3, (0, 1, 0, 0, 1023), []),
  (7, .astore_n 1, 1, (0, 0, 0, 0, 0), []),
  (8, .new 71, 3, (10, 47, 0, 0, 5007), []),
  (11, .dup, 1, (0, 0, 0, 0, 0), []),
  (12, .invokespecial 73, 3, (126, 1, 0, 0, 5009), []),
  (15, .astore_n 2, 1, (0, 0, 0, 0, 0), []),
  (16, .iconst 1, 1, (0, 0, 0, 0, 0), []),
  (17, .newarray .long, 2, (1, 0, 0, 0, 0), []),
  (19, .astore_n 3, 1, (0, 0, 0, 0, 0), []),
  (20, .iconst 0, 1, (0, 0, 0, 0, 0), []),
  (21, .istore 4, 2, (0, 0, 0, 0, 0), []),
  (23, .iload 4, 2, (0, 0, 0, 0, 0), [true, true, true, true, true, false, false, false]),
  (25, .aload_n 0, 1, (0, 0, 0, 0, 0), []),
  (26, .arraylength, 1, (0, 0, 0, 0, 0), []),
  (27, .iconst 5, 1, (0, 0, 0, 0, 0), []),
  (28, .isub, 1, (0, 0, 0, 0, 0), []),
  (29, .if_icmp .gt 1123, 3, (674, 0, 0, 0, 0), []),
  (32, .aload_n 0, 1, (0, 0, 0, 0, 0), []),
  (33, .iload 4, 2, (0, 0, 0, 0, 0), []),
  (35, .iaload, 1, (0, 0, 0, 0, 0), []),
  (36, .bipush 31, 2, (0, 0, 0, 0, 0), []),
  (38, .iand, 1, (0, 0, 0, 0, 0), []),
  (39, .tableswitch 1107 0 18 #[89, 133, 241, 268, 279, 323, 336, 392, 448, 473, 529, 608, 695, 739, 783, 827, 927, 995, 1051], 89, (672, 0, 0, 0, 0), []),
  (128, .aload_n 1, 1, (0, 0, 0, 0, 0), []),
  (129, .aload_n 3, 1, (0, 0, 0, 0, 0), []),
  (130, .invokestatic 74, 3, (191, 2, 0, 0, 2061), []),
  (133, .istore 5, 2, (0, 0, 0, 0, 0), []),
  (135, .aload_n 2, 1, (0, 0, 0, 0, 0), []),
  (136, .invokevirtual 79, 3, (130, 1, 0, 0, 5159), []),
  (139, .istore 6, 2, (0, 0, 0, 0, 0), []),
  (141, .aload_n 2, 1, (0, 0, 0, 0, 0), []),
  (142, .invokevirtual 80, 3, (127, 1, 0, 0, 5155), []),
  (145, .iload 5, 2, (0, 0, 0, 0, 0), []),
  (147, .if_icmp .eq 5, 3, (38, 0, 0, 0, 0), []),
  (150, .iconst 0, 1, (0, 0, 0, 0, 0), []),
  (151, .ireturn, 1, (3, 0, 0, 0, 0), []),
  (152, .iload 5, 2, (0, 0, 0, 0, 0), []),
  (154, .ifCond .ne 15, 3, (49, 0, 0, 0, 0), []),
  (157, .aload_n 3, 1, (0, 0, 0, 0, 0), []),
  (158, .iconst 0, 1, (0, 0, 0, 0, 0), []),
  (159, .laload, 1, (0, 0, 0, 0, 0), []),
  (160, .iload 6, 2, (0, 0, 0, 0, 0), []),
  (162, .i2l, 1, (0, 0, 0, 0, 0), []),
  (163, .lcmp, 1, (0, 0, 0, 0, 0), []),
  (164, .ifCond .eq 5, 3, (49, 0, 0, 0, 0), []),
  (167, .iconst 0, 1, (0, 0, 0, 0, 0), []),
  (168, .ireturn, 1, (3, 0, 0, 0, 0), []),
  (169, .goto 977, 3, (672, 0, 0, 0, 0), []),
  (172, .aload_n 1, 1, (0, 0, 0, 0, 0), []),
  (173, .aload_n 0, 1, (0, 0, 0, 0, 0), []),
  (174, .iload 4, 2, (0, 0, 0, 0, 0), []),
  (176, .iconst 1, 1, (0, 0, 0, 0, 0), []),
  (177, .iadd, 1, (0, 0, 0, 0, 0), []),
  (178, .iaload, 1, (0, 0, 0, 0, 0), []),
  (179, .aload_n 0, 1, (0, 0, 0, 0, 0), []),
  (180, .iload 4, 2, (0, 0, 0, 0, 0), []),
  (182, .iconst 2, 1, (0, 0, 0, 0, 0), []),
  (183, .iadd, 1, (0, 0, 0, 0, 0), []),
  (184, .iaload, 1, (0, 0, 0, 0, 0), []),
  (185, .aload_n 0, 1, (0, 0, 0, 0, 0), []),
  (186, .iload 4, 2, (0, 0, 0, 0, 0), []),
  (188, .iconst 3, 1, (0, 0, 0, 0, 0), []),
  (189, .iadd, 1, (0, 0, 0, 0, 0), []),
  (190, .iaload, 1, (0, 0, 0, 0, 0), []),
  (191, .ifCond .eq 7, 3, (69, 0, 0, 0, 0), []),
  (194, .iconst 1, 1, (0, 0, 0, 0, 0), []),
  (195, .goto 4, 3, (70, 0, 0, 0, 0), []),
  (198, .iconst 0, 1, (0, 0, 0, 0, 0), []),
  (199, .aload_n 0, 1, (0, 0, 0, 0, 0), []),
  (200, .iload 4, 2, (0, 0, 0, 0, 0), []),
  (202, .iconst 4, 1, (0, 0, 0, 0, 0), []),
  (203, .iadd, 1, (0, 0, 0, 0, 0), []),
  (204, .iaload, 1, (0, 0, 0, 0, 0), []),
  (205, .aload_n 3, 1, (0, 0, 0, 0, 0), []),
  (206, .invokestatic 83, 3, (192, 6, 0, 0, 2142), []),
  (209, .istore 5, 2, (0, 0, 0, 0, 0), []),
  (211, .aload_n 2, 1, (0, 0, 0, 0, 0), []),
  (212, .aload_n 0, 1, (0, 0, 0, 0, 0), []),
  (213, .iload 4, 2, (0, 0, 0, 0, 0), []),
  (215, .iconst 1, 1, (0, 0, 0, 0, 0), []),
  (216, .iadd, 1, (0, 0, 0, 0, 0), []),
  (217, .iaload, 1, (0, 0, 0, 0, 0), []),
  (218, .aload_n 0, 1, (0, 0, 0, 0, 0), []),
  (219, .iload 4, 2, (0, 0, 0, 0, 0), []),
  (221, .iconst 2, 1, (0, 0, 0, 0, 0), []),
  (222, .iadd, 1, (0, 0, 0, 0, 0), []),
  (223, .iaload, 1, (0, 0, 0, 0, 0), []),
  (224, .aload_n 0, 1, (0, 0, 0, 0, 0), []),
  (225, .iload 4, 2, (0, 0, 0, 0, 0), []),
  (227, .iconst 3, 1, (0, 0, 0, 0, 0), []),
  (228, .iadd, 1, (0, 0, 0, 0, 0), []),
  (229, .iaload, 1, (0, 0, 0, 0, 0), []),
  (230, .ifCond .eq 7, 3, (97, 0, 0, 0, 0), []),
  (233, .iconst 1, 1, (0, 0, 0, 0, 0), []),
  (234, .goto 4, 3, (98, 0, 0, 0, 0), []),
  (237, .iconst 0, 1, (0, 0, 0, 0, 0), []),
  (238, .aload_n 0, 1, (0, 0, 0, 0, 0), []),
  (239, .iload 4, 2, (0, 0, 0, 0, 0), []),
  (241, .iconst 4, 1, (0, 0, 0, 0, 0), []),
  (242, .iadd, 1, (0, 0, 0, 0, 0), []),
  (243, .iaload, 1, (0, 0, 0, 0, 0), []),
  (244, .invokevirtual 86, 3, (132, 5, 0, 0, 5163), []),
  (247, .istore 6, 2, (0, 0, 0, 0, 0), []),
  (249, .aload_n 2, 1, (0, 0, 0, 0, 0), []),
  (250, .invokevirtual 80, 3, (127, 1, 0, 0, 5155), []),
  (253, .iload 5, 2, (0, 0, 0, 0, 0), []),
  (255, .if_icmp .eq 5, 3, (111, 0, 0, 0, 0), []),
  (258, .iconst 0, 1, (0, 0, 0, 0, 0), []),
  (259, .ireturn, 1, (3, 0, 0, 0, 0), []),
  (260, .iload 5, 2, (0, 0, 0, 0, 0), []),
  (262, .ifCond .ne 15, 3, (122, 0, 0, 0, 0), []),
  (265, .aload_n 3, 1, (0, 0, 0, 0, 0), []),
  (266, .iconst 0, 1, (0, 0, 0, 0, 0), []),
  (267, .laload, 1, (0, 0, 0, 0, 0), []),
  (268, .iload 6, 2, (0, 0, 0, 0, 0), []),
  (270, .i2l, 1, (0, 0, 0, 0, 0), []),
  (271, .lcmp, 1, (0, 0, 0, 0, 0), []),
  (272, .ifCond .eq 5, 3, (122, 0, 0, 0, 0), []),
  (275, .iconst 0, 1, (0, 0, 0, 0, 0), []),
  (276, .ireturn, 1, (3, 0, 0, 0, 0), []),
  (277, .goto 869, 3, (672, 0, 0, 0, 0), []),
  (280, .aload_n 1, 1, (0, 0, 0, 0, 0), []),
  (281, .aload_n 0, 1, (0, 0, 0, 0, 0), []),
  (282, .iload 4, 2, (0, 0, 0, 0, 0), []),
  (284, .iconst 1, 1, (0, 0, 0, 0, 0), []),
  (285, .iadd, 1, (0, 0, 0, 0, 0), []),
  (286, .iaload, 1, (0, 0, 0, 0, 0), []),
  (287, .i2c, 1, (0, 0, 0, 0, 0), []),
  (288, .invokevirtual 87, 3, (3, 2, 0, 0, 2041), []),
  (291, .aload_n 2, 1, (0, 0, 0, 0, 0), []),
  (292, .aload_n 0, 1, (0, 0, 0, 0, 0), []),
  (293, .iload 4, 2, (0, 0, 0, 0, 0), []),
  (295, .iconst 1, 1, (0, 0, 0, 0, 0), []),
  (296, .iadd, 1, (0, 0, 0, 0, 0), []),
  (297, .iaload, 1, (0, 0, 0, 0, 0), []),
  (298, .i2c, 1, (0, 0, 0, 0, 0), []),
  (299, .invokevirtual 91, 3, (133, 2, 0, 0, 5175), []),
  (302, .if_icmp .eq 844, 3, (672, 0, 0, 0, 0), []),
  (305, .iconst 0, 1, (0, 0, 0, 0, 0), []),
  (306, .ireturn, 1, (3, 0, 0, 0, 0), []),
  (307, .aload_n 1, 1, (0, 0, 0, 0, 0), []),
  (308, .invokevirtual 92, 3, (4, 1, 0, 0, 2049), []),
  (311, .aload_n 2, 1, (0, 0, 0, 0, 0), []),
  (312, .invokevirtual 95, 3, (134, 1, 0, 0, 5179), []),
  (315, .goto 831, 3, (672, 0, 0, 0, 0), []),
  (318, .aload_n 1, 1, (0, 0, 0, 0, 0), []),
  (319, .aload_n 3, 1, (0, 0, 0, 0, 0), []),
  (320, .invokestatic 96, 3, (193, 2, 0, 0, 2197), []),
  (323, .istore 5, 2, (0, 0, 0, 0, 0), []),
  (325, .aload_n 2, 1, (0, 0, 0, 0, 0), []),
  (326, .invokevirtual 98, 3, (148, 1, 0, 0, 5183), []),
  (329, .istore 6, 2, (0, 0, 0, 0, 0), []),
  (331, .aload_n 2, 1, (0, 0, 0, 0, 0), []),
  (332, .invokevirtual 80, 3, (127, 1, 0, 0, 5155), []),
  (335, .iload 5, 2, (0, 0, 0, 0, 0), []),
  (337, .if_icmp .eq 5, 3, (160, 0, 0, 0, 0), []),
  (340, .iconst 0, 1, (0, 0, 0, 0, 0), []),
  (341, .ireturn, 1, (3, 0, 0, 0, 0), []),
  (342, .iload 5, 2, (0, 0, 0, 0, 0), []),
  (344, .ifCond .ne 15, 3, (171, 0, 0, 0, 0), []),
  (347, .aload_n 3, 1, (0, 0, 0, 0, 0), []),
  (348, .iconst 0, 1, (0, 0, 0, 0, 0), []),
  (349, .laload, 1, (0, 0, 0, 0, 0), []),
  (350, .iload 6, 2, (0, 0, 0, 0, 0), []),
  (352, .i2l, 1, (0, 0, 0, 0, 0), []),
  (353, .lcmp, 1, (0, 0, 0, 0, 0), []),
  (354, .ifCond .eq 5, 3, (171, 0, 0, 0, 0), []),
  (357, .iconst 0, 1, (0, 0, 0, 0, 0), []),
  (358, .ireturn, 1, (3, 0, 0, 0, 0), []),
  (359, .goto 787, 3, (672, 0, 0, 0, 0), []),
  (362, .aload_n 1, 1, (0, 0, 0, 0, 0), []),
  (363, .invokevirtual 99, 3, (6, 1, 0, 0, 2053), []),
  (366, .aload_n 2, 1, (0, 0, 0, 0, 0), []),
  (367, .invokevirtual 102, 3, (149, 1, 0, 0, 6007), []),
  (370, .if_icmp .eq 776, 3, (672, 0, 0, 0, 0), []),
  (373, .iconst 0, 1, (0, 0, 0, 0, 0), []),
  (374, .ireturn, 1, (3, 0, 0, 0, 0), []),
  (375, .aload_n 1, 1, (0, 0, 0, 0, 0), []),
  (376, .aload_n 0, 1, (0, 0, 0, 0, 0), []),
  (377, .iload 4, 2, (0, 0, 0, 0, 0), []),
  (379, .iconst 1, 1, (0, 0, 0, 0, 0), []),
  (380, .iadd, 1, (0, 0, 0, 0, 0), []),
  (381, .iaload, 1, (0, 0, 0, 0, 0), []),
  (382, .aload_n 3, 1, (0, 0, 0, 0, 0), []),
  (383, .invokestatic 103, 3, (194, 3, 0, 0, 3065), []),
  (386, .istore 5, 2, (0, 0, 0, 0, 0), []),
  (388, .aload_n 2, 1, (0, 0, 0, 0, 0), []),
  (389, .aload_n 0, 1, (0, 0, 0, 0, 0), []),
  (390, .iload 4, 2, (0, 0, 0, 0, 0), []),
  (392, .iconst 1, 1, (0, 0, 0, 0, 0), []),
  (393, .iadd, 1, (0, 0, 0, 0, 0), []),
  (394, .iaload, 1, (0, 0, 0, 0, 0), []),
  (395, .invokevirtual 106, 3, (152, 2, 0, 0, 6011), []),
  (398, .istore 6, 2, (0, 0, 0, 0, 0), []),
  (400, .aload_n 2, 1, (0, 0, 0, 0, 0), []),
  (401, .invokevirtual 80, 3, (127, 1, 0, 0, 5155), []),
  (404, .iload 5, 2, (0, 0, 0, 0, 0), []),
  (406, .if_icmp .eq 5, 3, (202, 0, 0, 0, 0), []),
  (409, .iconst 0, 1, (0, 0, 0, 0, 0), []),
  (410, .ireturn, 1, (3, 0, 0, 0, 0), []),
  (411, .iload 5, 2, (0, 0, 0, 0, 0), []),
  (413, .ifCond .ne 15, 3, (213, 0, 0, 0, 0), []),
  (416, .aload_n 3, 1, (0, 0, 0, 0, 0), []),
  (417, .iconst 0, 1, (0, 0, 0, 0, 0), []),
  (418, .laload, 1, (0, 0, 0, 0, 0), []),
  (419, .iload 6, 2, (0, 0, 0, 0, 0), []),
  (421, .i2l, 1, (0, 0, 0, 0, 0), []),
  (422, .lcmp, 1, (0, 0, 0, 0, 0), []),
  (423, .ifCond .eq 5, 3, (213, 0, 0, 0, 0), []),
  (426, .iconst 0, 1, (0, 0, 0, 0, 0), []),
  (427, .ireturn, 1, (3, 0, 0, 0, 0), []),
  (428, .goto 718, 3, (672, 0, 0, 0, 0), []),
  (431, .aload_n 1, 1, (0, 0, 0, 0, 0), []),
  (432, .aload_n 0, 1, (0, 0, 0, 0, 0), []),
  (433, .iload 4, 2, (0, 0, 0, 0, 0), []),
  (435, .iconst 1, 1, (0, 0, 0, 0, 0), []),
  (436, .iadd, 1, (0, 0, 0, 0, 0), []),
  (437, .iaload, 1, (0, 0, 0, 0, 0), []),
  (438, .aload_n 3, 1, (0, 0, 0, 0, 0), []),
  (439, .invokestatic 107, 3, (195, 3, 0, 0, 3106), []),
  (442, .istore 5, 2, (0, 0, 0, 0, 0), []),
  (444, .aload_n 2, 1, (0, 0, 0, 0, 0), []),
  (445, .aload_n 0, 1, (0, 0, 0, 0, 0), []),
  (446, .iload 4, 2, (0, 0, 0, 0, 0), []),
  (448, .iconst 1, 1, (0, 0, 0, 0, 0), []),
  (449, .iadd, 1, (0, 0, 0, 0, 0), []),
  (450, .iaload, 1, (0, 0, 0, 0, 0), []),
  (451, .invokevirtual 109, 3, (172, 2, 0, 0, 6043), []),
  (454, .istore 6, 2, (0, 0, 0, 0, 0), []),
  (456, .aload_n 2, 1, (0, 0, 0, 0, 0), []),
  (457, .invokevirtual 80, 3, (127, 1, 0, 0, 5155), []),
  (460, .iload 5, 2, (0, 0, 0, 0, 0), []),
  (462, .if_icmp .eq 5, 3, (237, 0, 0, 0, 0), []),
  (465, .iconst 0, 1, (0, 0, 0, 0, 0), []),
  (466, .ireturn, 1, (3, 0, 0, 0, 0), []),
  (467, .iload 5, 2, (0, 0, 0, 0, 0), []),
  (469, .ifCond .ne 15, 3, (248, 0, 0, 0, 0), []),
  (472, .aload_n 3, 1, (0, 0, 0, 0, 0), []),
  (473, .iconst 0, 1, (0, 0, 0, 0, 0), []),
  (474, .laload, 1, (0, 0, 0, 0, 0), []),
  (475, .iload 6, 2, (0, 0, 0, 0, 0), []),
  (477, .i2l, 1, (0, 0, 0, 0, 0), []),
  (478, .lcmp, 1, (0, 0, 0, 0, 0), []),
  (479, .ifCond .eq 5, 3, (248, 0, 0, 0, 0), []),
  (482, .iconst 0, 1, (0, 0, 0, 0, 0), []),
  (483, .ireturn, 1, (3, 0, 0, 0, 0), []),
  (484, .goto 662, 3, (672, 0, 0, 0, 0), []),
  (487, .aload_n 1, 1, (0, 0, 0, 0, 0), []),
  (488, .aload_n 0, 1, (0, 0, 0, 0, 0), []),
  (489, .iload 4, 2, (0, 0, 0, 0, 0), []),
  (491, .iconst 1, 1, (0, 0, 0, 0, 0), []),
  (492, .iadd, 1, (0, 0, 0, 0, 0), []),
  (493, .iaload, 1, (0, 0, 0, 0, 0), []),
  (494, .invokevirtual 110, 3, (9, 2, 0, 0, 2057), []),
  (497, .aload_n 2, 1, (0, 0, 0, 0, 0), []),
  (498, .aload_n 0, 1, (0, 0, 0, 0, 0), []),
  (499, .iload 4, 2, (0, 0, 0, 0, 0), []),
  (501, .iconst 1, 1, (0, 0, 0, 0, 0), []),
  (502, .iadd, 1, (0, 0, 0, 0, 0), []),
  (503, .iaload, 1, (0, 0, 0, 0, 0), []),
  (504, .invokevirtual 113, 3, (173, 2, 0, 0, 6103), []),
  (507, .if_icmp .eq 639, 3, (672, 0, 0, 0, 0), []),
  (510, .iconst 0, 1, (0, 0, 0, 0, 0), []),
  (511, .ireturn, 1, (3, 0, 0, 0, 0), []),
  (512, .aload_n 1, 1, (0, 0, 0, 0, 0), []),
  (513, .aload_n 0, 1, (0, 0, 0, 0, 0), []),
  (514, .iload 4, 2, (0, 0, 0, 0, 0), []),
  (516, .iconst 1, 1, (0, 0, 0, 0, 0), []),
  (517, .iadd, 1, (0, 0, 0, 0, 0), []),
  (518, .iaload, 1, (0, 0, 0, 0, 0), []),
  (519, .aload_n 3, 1, (0, 0, 0, 0, 0), []),
  (520, .invokestatic 114, 3, (196, 3, 0, 0, 4033), []),
  (523, .istore 5, 2, (0, 0, 0, 0, 0), []),
  (525, .aload_n 2, 1, (0, 0, 0, 0, 0), []),
  (526, .aload_n 0, 1, (0, 0, 0, 0, 0), []),
  (527, .iload 4, 2, (0, 0, 0, 0, 0), []),
  (529, .iconst 1, 1, (0, 0, 0, 0, 0), []),
  (530, .iadd, 1, (0, 0, 0, 0, 0), []),
  (531, .iaload, 1, (0, 0, 0, 0, 0), []),
  (532, .invokevirtual 116, 3, (174, 2, 0, 0, 6107), []),
  (535, .istore 6, 2, (0, 0, 0, 0, 0), []),
  (537, .aload_n 2, 1, (0, 0, 0, 0, 0), []),
  (538, .invokevirtual 80, 3, (127, 1, 0, 0, 5155), []),
  (541, .iload 5, 2, (0, 0, 0, 0, 0), []),
  (543, .if_icmp .eq 5, 3, (289, 0, 0, 0, 0), []),
  (546, .iconst 0, 1, (0, 0, 0, 0, 0), []),
  (547, .ireturn, 1, (3, 0, 0, 0, 0), []),
  (548, .iload 5, 2, (0, 0, 0, 0, 0), []),
  (550, .ifCond .ne 15, 3, (300, 0, 0, 0, 0), []),
  (553, .aload_n 3, 1, (0, 0, 0, 0, 0), []),
  (554, .iconst 0, 1, (0, 0, 0, 0, 0), []),
  (555, .laload, 1, (0, 0, 0, 0, 0), []),
  (556, .iload 6, 2, (0, 0, 0, 0, 0), []),
  (558, .i2l, 1, (0, 0, 0, 0, 0), []),
  (559, .lcmp, 1, (0, 0, 0, 0, 0), []),
  (560, .ifCond .eq 5, 3, (300, 0, 0, 0, 0), []),
  (563, .iconst 0, 1, (0, 0, 0, 0, 0), []),
  (564, .ireturn, 1, (3, 0, 0, 0, 0), []),
  (565, .goto 581, 3, (672, 0, 0, 0, 0), []),
  (568, .aload_n 1, 1, (0, 0, 0, 0, 0), []),
  (569, .aload_n 0, 1, (0, 0, 0, 0, 0), []),
  (570, .iload 4, 2, (0, 0, 0, 0, 0), []),
  (572, .iconst 1, 1, (0, 0, 0, 0, 0), []),
  (573, .iadd, 1, (0, 0, 0, 0, 0), []),
  (574, .iaload, 1, (0, 0, 0, 0, 0), []),
  (575, .aload_n 0, 1, (0, 0, 0, 0, 0), []),
  (576, .iload 4, 2, (0, 0, 0, 0, 0), []),
  (578, .iconst 2, 1, (0, 0, 0, 0, 0), []),
  (579, .iadd, 1, (0, 0, 0, 0, 0), []),
  (580, .iaload, 1, (0, 0, 0, 0, 0), []),
  (581, .aload_n 0, 1, (0, 0, 0, 0, 0), []),
  (582, .iload 4, 2, (0, 0, 0, 0, 0), []),
  (584, .iconst 3, 1, (0, 0, 0, 0, 0), []),
  (585, .iadd, 1, (0, 0, 0, 0, 0), []),
  (586, .iaload, 1, (0, 0, 0, 0, 0), []),
  (587, .aload_n 3, 1, (0, 0, 0, 0, 0), []),
  (588, .invokestatic 117, 3, (197, 5, 0, 0, 4057), []),
  (591, .istore 5, 2, (0, 0, 0, 0, 0), []),
  (593, .aload_n 2, 1, (0, 0, 0, 0, 0), []),
  (594, .aload_n 0, 1, (0, 0, 0, 0, 0), []),
  (595, .iload 4, 2, (0, 0, 0, 0, 0), []),
  (597, .iconst 1, 1, (0, 0, 0, 0, 0), []),
  (598, .iadd, 1, (0, 0, 0, 0, 0), []),
  (599, .iaload, 1, (0, 0, 0, 0, 0), []),
  (600, .aload_n 0, 1, (0, 0, 0, 0, 0), []),
  (601, .iload 4, 2, (0, 0, 0, 0, 0), []),
  (603, .iconst 2, 1, (0, 0, 0, 0, 0), []),
  (604, .iadd, 1, (0, 0, 0, 0, 0), []),
  (605, .iaload, 1, (0, 0, 0, 0, 0), []),
  (606, .aload_n 0, 1, (0, 0, 0, 0, 0), []),
  (607, .iload 4, 2, (0, 0, 0, 0, 0), []),
  (609, .iconst 3, 1, (0, 0, 0, 0, 0), []),
  (610, .iadd, 1, (0, 0, 0, 0, 0), []),
  (611, .iaload, 1, (0, 0, 0, 0, 0), []),
  (612, .invokevirtual 120, 3, (176, 4, 0, 0, 6111), []),
  (615, .lstore 6, 2, (0, 0, 0, 0, 0), []),
  (617, .aload_n 2, 1, (0, 0, 0, 0, 0), []),
  (618, .invokevirtual 80, 3, (127, 1, 0, 0, 5155), []),
  (621, .iload 5, 2, (0, 0, 0, 0, 0), []),
  (623, .if_icmp .eq 5, 3, (344, 0, 0, 0, 0), []),
  (626, .iconst 0, 1, (0, 0, 0, 0, 0), []),
  (627, .ireturn, 1, (3, 0, 0, 0, 0), []),
  (628, .iload 5, 2, (0, 0, 0, 0, 0), []),
  (630, .ifCond .ne 14, 3, (354, 0, 0, 0, 0), []),
  (633, .aload_n 3, 1, (0, 0, 0, 0, 0), []),
  (634, .iconst 0, 1, (0, 0, 0, 0, 0), []),
  (635, .laload, 1, (0, 0, 0, 0, 0), []),
  (636, .lload 6, 2, (0, 0, 0, 0, 0), []),
  (638, .lcmp, 1, (0, 0, 0, 0, 0), []),
  (639, .ifCond .eq 5, 3, (354, 0, 0, 0, 0), []),
  (642, .iconst 0, 1, (0, 0, 0, 0, 0), []),
  (643, .ireturn, 1, (3, 0, 0, 0, 0), []),
  (644, .goto 502, 3, (672, 0, 0, 0, 0), []),
  (647, .aload_n 1, 1, (0, 0, 0, 0, 0), []),
  (648, .aload_n 0, 1, (0, 0, 0, 0, 0), []),
  (649, .iload 4, 2, (0, 0, 0, 0, 0), []),
  (651, .iconst 1, 1, (0, 0, 0, 0, 0), []),
  (652, .iadd, 1, (0, 0, 0, 0, 0), []),
  (653, .iaload, 1, (0, 0, 0, 0, 0), []),
  (654, .aload_n 0, 1, (0, 0, 0, 0, 0), []),
  (655, .iload 4, 2, (0, 0, 0, 0, 0), []),
  (657, .iconst 2, 1, (0, 0, 0, 0, 0), []),
  (658, .iadd, 1, (0, 0, 0, 0, 0), []),
  (659, .iaload, 1, (0, 0, 0, 0, 0), []),
  (660, .aload_n 0, 1, (0, 0, 0, 0, 0), []),
  (661, .iload 4, 2, (0, 0, 0, 0, 0), []),
  (663, .iconst 3, 1, (0, 0, 0, 0, 0), []),
  (664, .iadd, 1, (0, 0, 0, 0, 0), []),
  (665, .iaload, 1, (0, 0, 0, 0, 0), []),
  (666, .aload_n 3, 1, (0, 0, 0, 0, 0), []),
  (667, .invokestatic 121, 3, (198, 5, 0, 0, 4071), []),
  (670, .istore 5, 2, (0, 0, 0, 0, 0), []),
  (672, .aload_n 2, 1, (0, 0, 0, 0, 0), []),
  (673, .aload_n 0, 1, (0, 0, 0, 0, 0), []),
  (674, .iload 4, 2, (0, 0, 0, 0, 0), []),
  (676, .iconst 1, 1, (0, 0, 0, 0, 0), []),
  (677, .iadd, 1, (0, 0, 0, 0, 0), []),
  (678, .iaload, 1, (0, 0, 0, 0, 0), []),
  (679, .aload_n 0, 1, (0, 0, 0, 0, 0), []),
  (680, .iload 4, 2, (0, 0, 0, 0, 0), []),
  (682, .iconst 2, 1, (0, 0, 0, 0, 0), []),
  (683, .iadd, 1, (0, 0, 0, 0, 0), []),
  (684, .iaload, 1, (0, 0, 0, 0, 0), []),
  (685, .aload_n 0, 1, (0, 0, 0, 0, 0), []),
  (686, .iload 4, 2, (0, 0, 0, 0, 0), []),
  (688, .iconst 3, 1, (0, 0, 0, 0, 0), []),
  (689, .iadd, 1, (0, 0, 0, 0, 0), []),
  (690, .iaload, 1, (0, 0, 0, 0, 0), []),
  (691, .invokevirtual 123, 3, (177, 4, 0, 0, 6119), []),
  (694, .istore 6, 2, (0, 0, 0, 0, 0), []),
  (696, .aload_n 2, 1, (0, 0, 0, 0, 0), []),
  (697, .invokevirtual 80, 3, (127, 1, 0, 0, 5155), []),
  (700, .iload 5, 2, (0, 0, 0, 0, 0), []),
  (702, .if_icmp .eq 5, 3, (398, 0, 0, 0, 0), []),
  (705, .iconst 0, 1, (0, 0, 0, 0, 0), []),
  (706, .ireturn, 1, (3, 0, 0, 0, 0), []),
  (707, .iload 5, 2, (0, 0, 0, 0, 0), []),
  (709, .ifCond .ne 22, 3, (412, 0, 0, 0, 0), []),
  (712, .aload_n 3, 1, (0, 0, 0, 0, 0), []),
  (713, .iconst 0, 1, (0, 0, 0, 0, 0), []),
  (714, .laload, 1, (0, 0, 0, 0, 0), []),
  (715, .iload 6, 2, (0, 0, 0, 0, 0), []),
  (717, .ifCond .eq 7, 3, (407, 0, 0, 0, 0), []),
  (720, .lconst 1, 1, (0, 0, 0, 0, 0), []),
  (721, .goto 4, 3, (408, 0, 0, 0, 0), []),
  (724, .lconst 0, 1, (0, 0, 0, 0, 0), []),
  (725, .lcmp, 1, (0, 0, 0, 0, 0), []),
  (726, .ifCond .eq 5, 3, (412, 0, 0, 0, 0), []),
  (729, .iconst 0, 1, (0, 0, 0, 0, 0), []),
  (730, .ireturn, 1, (3, 0, 0, 0, 0), []),
  (731, .goto 415, 3, (672, 0, 0, 0, 0), []),
  (734, .aload_n 1, 1, (0, 0, 0, 0, 0), []),
  (735, .aload_n 3, 1, (0, 0, 0, 0, 0), []),
  (736, .invokestatic 124, 3, (199, 2, 0, 0, 4079), []),
  (739, .istore 5, 2, (0, 0, 0, 0, 0), []),
  (741, .aload_n 2, 1, (0, 0, 0, 0, 0), []),
  (742, .invokevirtual 126, 3, (155, 1, 0, 0, 6023), []),
  (745, .istore 6, 2, (0, 0, 0, 0, 0), []),
  (747, .aload_n 2, 1, (0, 0, 0, 0, 0), []),
  (748, .invokevirtual 80, 3, (127, 1, 0, 0, 5155), []),
  (751, .iload 5, 2, (0, 0, 0, 0, 0), []),
  (753, .if_icmp .eq 5, 3, (426, 0, 0, 0, 0), []),
  (756, .iconst 0, 1, (0, 0, 0, 0, 0), []),
  (757, .ireturn, 1, (3, 0, 0, 0, 0), []),
  (758, .iload 5, 2, (0, 0, 0, 0, 0), []),
  (760, .ifCond .ne 15, 3, (437, 0, 0, 0, 0), []),
  (763, .aload_n 3, 1, (0, 0, 0, 0, 0), []),
  (764, .iconst 0, 1, (0, 0, 0, 0, 0), []),
  (765, .laload, 1, (0, 0, 0, 0, 0), []),
  (766, .iload 6, 2, (0, 0, 0, 0, 0), []),
  (768, .i2l, 1, (0, 0, 0, 0, 0), []),
  (769, .lcmp, 1, (0, 0, 0, 0, 0), []),
  (770, .ifCond .eq 5, 3, (437, 0, 0, 0, 0), []),
  (773, .iconst 0, 1, (0, 0, 0, 0, 0), []),
  (774, .ireturn, 1, (3, 0, 0, 0, 0), []),
  (775, .goto 371, 3, (672, 0, 0, 0, 0), []),
  (778, .aload_n 1, 1, (0, 0, 0, 0, 0), []),
  (779, .aload_n 3, 1, (0, 0, 0, 0, 0), []),
  (780, .invokestatic 127, 3, (200, 2, 0, 0, 4092), []),
  (783, .istore 5, 2, (0, 0, 0, 0, 0), []),
  (785, .aload_n 2, 1, (0, 0, 0, 0, 0), []),
  (786, .invokevirtual 129, 3, (156, 1, 0, 0, 6031), []),
  (789, .istore 6, 2, (0, 0, 0, 0, 0), []),
  (791, .aload_n 2, 1, (0, 0, 0, 0, 0), []),
  (792, .invokevirtual 80, 3, (127, 1, 0, 0, 5155), []),
  (795, .iload 5, 2, (0, 0, 0, 0, 0), []),
  (797, .if_icmp .eq 5, 3, (451, 0, 0, 0, 0), []),
  (800, .iconst 0, 1, (0, 0, 0, 0, 0), []),
  (801, .ireturn, 1, (3, 0, 0, 0, 0), []),
  (802, .iload 5, 2, (0, 0, 0, 0, 0), []),
  (804, .ifCond .ne 15, 3, (462, 0, 0, 0, 0), []),
  (807, .aload_n 3, 1, (0, 0, 0, 0, 0), []),
  (808, .iconst 0, 1, (0, 0, 0, 0, 0), []),
  (809, .laload, 1, (0, 0, 0, 0, 0), []),
  (810, .iload 6, 2, (0, 0, 0, 0, 0), []),
  (812, .i2l, 1, (0, 0, 0, 0, 0), []),
  (813, .lcmp, 1, (0, 0, 0, 0, 0), []),
  (814, .ifCond .eq 5, 3, (462, 0, 0, 0, 0), []),
  (817, .iconst 0, 1, (0, 0, 0, 0, 0), []),
  (818, .ireturn, 1, (3, 0, 0, 0, 0), []),
  (819, .goto 327, 3, (672, 0, 0, 0, 0), []),
  (822, .aload_n 1, 1, (0, 0, 0, 0, 0), []),
  (823, .aload_n 3, 1, (0, 0, 0, 0, 0), []),
  (824, .invokestatic 130, 3, (201, 2, 0, 0, 4104), []),
  (827, .istore 5, 2, (0, 0, 0, 0, 0), []),
  (829, .aload_n 2, 1, (0, 0, 0, 0, 0), []),
  (830, .invokevirtual 132, 3, (157, 1, 0, 0, 6035), []),
  (833, .istore 6, 2, (0, 0, 0, 0, 0), []),
  (835, .aload_n 2, 1, (0, 0, 0, 0, 0), []),
  (836, .invokevirtual 80, 3, (127, 1, 0, 0, 5155), []),
  (839, .iload 5, 2, (0, 0, 0, 0, 0), []),
  (841, .if_icmp .eq 5, 3, (476, 0, 0, 0, 0), []),
  (844, .iconst 0, 1, (0, 0, 0, 0, 0), []),
  (845, .ireturn, 1, (3, 0, 0, 0, 0), []),
  (846, .iload 5, 2, (0, 0, 0, 0, 0), []),
  (848, .ifCond .ne 15, 3, (487, 0, 0, 0, 0), []),
  (851, .aload_n 3, 1, (0, 0, 0, 0, 0), []),
  (852, .iconst 0, 1, (0, 0, 0, 0, 0), []),
  (853, .laload, 1, (0, 0, 0, 0, 0), []),
  (854, .iload 6, 2, (0, 0, 0, 0, 0), []),
  (856, .i2l, 1, (0, 0, 0, 0, 0), []),
  (857, .lcmp, 1, (0, 0, 0, 0, 0), []),
  (858, .ifCond .eq 5, 3, (487, 0, 0, 0, 0), []),
  (861, .iconst 0, 1, (0, 0, 0, 0, 0), []),
  (862, .ireturn, 1, (3, 0, 0, 0, 0), []),
  (863, .goto 283, 3, (672, 0, 0, 0, 0), []),
  (866, .aload_n 1, 1, (0, 0, 0, 0, 0), []),
  (867, .aload_n 0, 1, (0, 0, 0, 0, 0), []),
  (868, .iload 4, 2, (0, 0, 0, 0, 0), []),
  (870, .iconst 1, 1, (0, 0, 0, 0, 0), []),
  (871, .iadd, 1, (0, 0, 0, 0, 0), []),
  (872, .iaload, 1, (0, 0, 0, 0, 0), []),
  (873, .i2l, 1, (0, 0, 0, 0, 0), []),
  (874, .bipush 32, 2, (0, 0, 0, 0, 0), []),
  (876, .lshl, 1, (0, 0, 0, 0, 0), []),
  (877, .aload_n 0, 1, (0, 0, 0, 0, 0), []),
  (878, .iload 4, 2, (0, 0, 0, 0, 0), []),
  (880, .iconst 2, 1, (0, 0, 0, 0, 0), []),
  (881, .iadd, 1, (0, 0, 0, 0, 0), []),
  (882, .iaload, 1, (0, 0, 0, 0, 0), []),
  (883, .i2l, 1, (0, 0, 0, 0, 0), []),
  (884, .ldc2_w 133, 3, (0, 4294967295, 0, 0, 6177), []),
  (887, .land, 1, (0, 0, 0, 0, 0), []),
  (888, .lor, 1, (0, 0, 0, 0, 0), []),
  (889, .aload_n 0, 1, (0, 0, 0, 0, 0), []),
  (890, .iload 4, 2, (0, 0, 0, 0, 0), []),
  (892, .iconst 3, 1, (0, 0, 0, 0, 0), []),
  (893, .iadd, 1, (0, 0, 0, 0, 0), []),
  (894, .iaload, 1, (0, 0, 0, 0, 0), []),
  (895, .aload_n 3, 1, (0, 0, 0, 0, 0), []),
  (896, .invokestatic 135, 3, (202, 4, 0, 0, 4115), []),
  (899, .istore 5, 2, (0, 0, 0, 0, 0), []),
  (901, .aload_n 2, 1, (0, 0, 0, 0, 0), []),
  (902, .aload_n 0, 1, (0, 0, 0, 0, 0), []),
  (903, .iload 4, 2, (0, 0, 0, 0, 0), []),
  (905, .iconst 1, 1, (0, 0, 0, 0, 0), []),
  (906, .iadd, 1, (0, 0, 0, 0, 0), []),
  (907, .iaload, 1, (0, 0, 0, 0, 0), []),
  (908, .i2l, 1, (0, 0, 0, 0, 0), []),
  (909, .bipush 32, 2, (0, 0, 0, 0, 0), []),
  (911, .lshl, 1, (0, 0, 0, 0, 0), []),
  (912, .aload_n 0, 1, (0, 0, 0, 0, 0), []),
  (913, .iload 4, 2, (0, 0, 0, 0, 0), []),
  (915, .iconst 2, 1, (0, 0, 0, 0, 0), []),
  (916, .iadd, 1, (0, 0, 0, 0, 0), []),
  (917, .iaload, 1, (0, 0, 0, 0, 0), []),
  (918, .i2l, 1, (0, 0, 0, 0, 0), []),
  (919, .ldc2_w 133, 3, (0, 4294967295, 0, 0, 6177), []),
  (922, .land, 1, (0, 0, 0, 0, 0), []),
  (923, .lor, 1, (0, 0, 0, 0, 0), []),
  (924, .aload_n 0, 1, (0, 0, 0, 0, 0), []),
  (925, .iload 4, 2, (0, 0, 0, 0, 0), []),
  (927, .iconst 3, 1, (0, 0, 0, 0, 0), []),
  (928, .iadd, 1, (0, 0, 0, 0, 0), []),
  (929, .iaload, 1, (0, 0, 0, 0, 0), []),
  (930, .invokevirtual 138, 3, (183, 3, 0, 0, 6123), []),
  (933, .istore 6, 2, (0, 0, 0, 0, 0), []),
  (935, .aload_n 2, 1, (0, 0, 0, 0, 0), []),
  (936, .invokevirtual 80, 3, (127, 1, 0, 0, 5155), []),
  (939, .iload 5, 2, (0, 0, 0, 0, 0), []),
  (941, .if_icmp .eq 5, 3, (545, 0, 0, 0, 0), []),
  (944, .iconst 0, 1, (0, 0, 0, 0, 0), []),
  (945, .ireturn, 1, (3, 0, 0, 0, 0), []),
  (946, .iload 5, 2, (0, 0, 0, 0, 0), []),
  (948, .ifCond .ne 15, 3, (556, 0, 0, 0, 0), []),
  (951, .aload_n 3, 1, (0, 0, 0, 0, 0), []),
  (952, .iconst 0, 1, (0, 0, 0, 0, 0), []),
  (953, .laload, 1, (0, 0, 0, 0, 0), []),
  (954, .iload 6, 2, (0, 0, 0, 0, 0), []),
  (956, .i2l, 1, (0, 0, 0, 0, 0), []),
  (957, .lcmp, 1, (0, 0, 0, 0, 0), []),
  (958, .ifCond .eq 5, 3, (556, 0, 0, 0, 0), []),
  (961, .iconst 0, 1, (0, 0, 0, 0, 0), []),
  (962, .ireturn, 1, (3, 0, 0, 0, 0), []),
  (963, .goto 183, 3, (672, 0, 0, 0, 0), []),
  (966, .aload_n 1, 1, (0, 0, 0, 0, 0), []),
  (967, .aload_n 0, 1, (0, 0, 0, 0, 0), []),
  (968, .iload 4, 2, (0, 0, 0, 0, 0), []),
  (970, .iconst 1, 1, (0, 0, 0, 0, 0), []),
  (971, .iadd, 1, (0, 0, 0, 0, 0), []),
  (972, .iaload, 1, (0, 0, 0, 0, 0), []),
  (973, .aload_n 0, 1, (0, 0, 0, 0, 0), []),
  (974, .iload 4, 2, (0, 0, 0, 0, 0), []),
  (976, .iconst 2, 1, (0, 0, 0, 0, 0), []),
  (977, .iadd, 1, (0, 0, 0, 0, 0), []),
  (978, .iaload, 1, (0, 0, 0, 0, 0), []),
  (979, .aload_n 3, 1, (0, 0, 0, 0, 0), []),
  (980, .invokestatic 139, 3, (203, 4, 0, 0, 4171), []),
  (983, .istore 5, 2, (0, 0, 0, 0, 0), []),
  (985, .aload_n 2, 1, (0, 0, 0, 0, 0), []),
  (986, .aload_n 0, 1, (0, 0, 0, 0, 0), []),
  (987, .iload 4, 2, (0, 0, 0, 0, 0), []),
  (989, .iconst 1, 1, (0, 0, 0, 0, 0), []),
  (990, .iadd, 1, (0, 0, 0, 0, 0), []),
  (991, .iaload, 1, (0, 0, 0, 0, 0), []),
  (992, .aload_n 0, 1, (0, 0, 0, 0, 0), []),
  (993, .iload 4, 2, (0, 0, 0, 0, 0), []),
  (995, .iconst 2, 1, (0, 0, 0, 0, 0), []),
  (996, .iadd, 1, (0, 0, 0, 0, 0), []),
  (997, .iaload, 1, (0, 0, 0, 0, 0), []),
  (998, .invokevirtual 142, 3, (184, 3, 0, 0, 6147), []),
  (1001, .istore 6, 2, (0, 0, 0, 0, 0), []),
  (1003, .aload_n 2, 1, (0, 0, 0, 0, 0), []),
  (1004, .invokevirtual 80, 3, (127, 1, 0, 0, 5155), []),
  (1007, .iload 5, 2, (0, 0, 0, 0, 0), []),
  (1009, .if_icmp .eq 5, 3, (590, 0, 0, 0, 0), []),
  (1012, .iconst 0, 1, (0, 0, 0, 0, 0), []),
  (1013, .ireturn, 1, (3, 0, 0, 0, 0), []),
  (1014, .iload 5, 2, (0, 0, 0, 0, 0), []),
  (1016, .ifCond .ne 15, 3, (601, 0, 0, 0, 0), []),
  (1019, .aload_n 3, 1, (0, 0, 0, 0, 0), []),
  (1020, .iconst 0, 1, (0, 0, 0, 0, 0), []),
  (1021, .laload, 1, (0, 0, 0, 0, 0), []),
  (1022, .iload 6, 2, (0, 0, 0, 0, 0), []),
  (1024, .i2l, 1, (0, 0, 0, 0, 0), []),
  (1025, .lcmp, 1, (0, 0, 0, 0, 0), []),
  (1026, .ifCond .eq 5, 3, (601, 0, 0, 0, 0), []),
  (1029, .iconst 0, 1, (0, 0, 0, 0, 0), []),
  (1030, .ireturn, 1, (3, 0, 0, 0, 0), []),
  (1031, .goto 115, 3, (672, 0, 0, 0, 0), []),
  (1034, .aload_n 1, 1, (0, 0, 0, 0, 0), []),
  (1035, .aload_n 0, 1, (0, 0, 0, 0, 0), []),
  (1036, .iload 4, 2, (0, 0, 0, 0, 0), []),
  (1038, .iconst 1, 1, (0, 0, 0, 0, 0), []),
  (1039, .iadd, 1, (0, 0, 0, 0, 0), []),
  (1040, .iaload, 1, (0, 0, 0, 0, 0), []),
  (1041, .aload_n 3, 1, (0, 0, 0, 0, 0), []),
  (1042, .invokestatic 143, 3, (204, 3, 0, 0, 4188), []),
  (1045, .istore 5, 2, (0, 0, 0, 0, 0), []),
  (1047, .aload_n 2, 1, (0, 0, 0, 0, 0), []),
  (1048, .aload_n 0, 1, (0, 0, 0, 0, 0), []),
  (1049, .iload 4, 2, (0, 0, 0, 0, 0), []),
  (1051, .iconst 1, 1, (0, 0, 0, 0, 0), []),
  (1052, .iadd, 1, (0, 0, 0, 0, 0), []),
  (1053, .iaload, 1, (0, 0, 0, 0, 0), []),
  (1054, .invokevirtual 145, 3, (189, 2, 0, 0, 6151), []),
  (1057, .istore 6, 2, (0, 0, 0, 0, 0), []),
  (1059, .aload_n 2, 1, (0, 0, 0, 0, 0), []),
  (1060, .invokevirtual 80, 3, (127, 1, 0, 0, 5155), []),
  (1063, .iload 5, 2, (0, 0, 0, 0, 0), []),
  (1065, .if_icmp .eq 5, 3, (625, 0, 0, 0, 0), []),
  (1068, .iconst 0, 1, (0, 0, 0, 0, 0), []),
  (1069, .ireturn, 1, (3, 0, 0, 0, 0), []),
  (1070, .iload 5, 2, (0, 0, 0, 0, 0), []),
  (1072, .ifCond .ne 15, 3, (636, 0, 0, 0, 0), []),
  (1075, .aload_n 3, 1, (0, 0, 0, 0, 0), []),
  (1076, .iconst 0, 1, (0, 0, 0, 0, 0), []),
  (1077, .laload, 1, (0, 0, 0, 0, 0), []),
  (1078, .iload 6, 2, (0, 0, 0, 0, 0), []),
  (1080, .i2l, 1, (0, 0, 0, 0, 0), []),
  (1081, .lcmp, 1, (0, 0, 0, 0, 0), []),
  (1082, .ifCond .eq 5, 3, (636, 0, 0, 0, 0), []),
  (1085, .iconst 0, 1, (0, 0, 0, 0, 0), []),
  (1086, .ireturn, 1, (3, 0, 0, 0, 0), []),
  (1087, .goto 59, 3, (672, 0, 0, 0, 0), []),
  (1090, .aload_n 1, 1, (0, 0, 0, 0, 0), []),
  (1091, .aload_n 0, 1, (0, 0, 0, 0, 0), []),
  (1092, .iload 4, 2, (0, 0, 0, 0, 0), []),
  (1094, .iconst 1, 1, (0, 0, 0, 0, 0), []),
  (1095, .iadd, 1, (0, 0, 0, 0, 0), []),
  (1096, .iaload, 1, (0, 0, 0, 0, 0), []),
  (1097, .aload_n 3, 1, (0, 0, 0, 0, 0), []),
  (1098, .invokestatic 146, 3, (205, 3, 0, 0, 4239), []),
  (1101, .istore 5, 2, (0, 0, 0, 0, 0), []),
  (1103, .aload_n 2, 1, (0, 0, 0, 0, 0), []),
  (1104, .aload_n 0, 1, (0, 0, 0, 0, 0), []),
  (1105, .iload 4, 2, (0, 0, 0, 0, 0), []),
  (1107, .iconst 1, 1, (0, 0, 0, 0, 0), []),
  (1108, .iadd, 1, (0, 0, 0, 0, 0), []),
  (1109, .iaload, 1, (0, 0, 0, 0, 0), []),
  (1110, .invokevirtual 148, 3, (190, 2, 0, 0, 6173), []),
  (1113, .istore 6, 2, (0, 0, 0, 0, 0), []),
  (1115, .aload_n 2, 1, (0, 0, 0, 0, 0), []),
  (1116, .invokevirtual 80, 3, (127, 1, 0, 0, 5155), []),
  (1119, .iload 5, 2, (0, 0, 0, 0, 0), []),
  (1121, .if_icmp .eq 5, 3, (660, 0, 0, 0, 0), []),
  (1124, .iconst 0, 1, (0, 0, 0, 0, 0), []),
  (1125, .ireturn, 1, (3, 0, 0, 0, 0), []),
  (1126, .iload 5, 2, (0, 0, 0, 0, 0), []),
  (1128, .ifCond .ne 15, 3, (671, 0, 0, 0, 0), []),
  (1131, .aload_n 3, 1, (0, 0, 0, 0, 0), []),
  (1132, .iconst 0, 1, (0, 0, 0, 0, 0), []),
  (1133, .laload, 1, (0, 0, 0, 0, 0), []),
  (1134, .iload 6, 2, (0, 0, 0, 0, 0), []),
  (1136, .i2l, 1, (0, 0, 0, 0, 0), []),
  (1137, .lcmp, 1, (0, 0, 0, 0, 0), []),
  (1138, .ifCond .eq 5, 3, (671, 0, 0, 0, 0), []),
  (1141, .iconst 0, 1, (0, 0, 0, 0, 0), []),
  (1142, .ireturn, 1, (3, 0, 0, 0, 0), []),
  (1143, .goto 3, 3, (672, 0, 0, 0, 0), []),
  (1146, .iinc 4 5, 3, (0, 0, 0, 0, 0), []),
  (1149, .goto (-1126), 3, (13, 0, 0, 0, 0), []),
  (1152, .iconst 1, 1, (0, 0, 0, 0, 0), []),
  (1153, .ireturn, 1, (3, 0, 0, 0, 0), [])]
noncomputable def ai_swt : List Nat := [25, 50, 123, 142, 147, 172, 179, 214, 249, 266, 301, 355, 413, 438, 463, 488, 557, 602, 637]
noncomputable def ai_opsT : List (List ai_E) := [ai_o0, ai_o1, ai_o2, ai_o3, ai_o4, ai_o5, ai_o6, ai_o7, ai_o8, ai_o9, ai_o10, ai_o11, ai_o12, ai_o13, ai_o14, ai_o15, ai_o16, ai_o17, ai_o18, ai_o19, ai_o20, ai_o21, ai_o22, ai_o23, ai_o24, ai_o25, ai_o26, ai_o27, ai_o28, ai_o29, ai_o30, ai_o31, ai_o32, ai_o33, ai_o34, ai_o35, ai_o36, ai_o37, ai_o38, ai_o39, ai_o40, ai_o41, ai_o42, ai_o43, ai_o44, ai_o45, ai_o46, ai_o47, ai_o48, ai_o49, ai_o50, ai_o51, ai_o52, ai_o53, ai_o54, ai_o55, ai_o56, ai_o57, ai_o58, ai_o59, ai_o60, ai_o61, ai_o62, ai_o63, ai_o64, ai_o65, ai_o66, ai_o67, ai_o68, ai_o69, ai_o70, ai_o71, ai_o72, ai_o73, ai_o74, ai_o75, ai_o76, ai_o77, ai_o78, ai_o79, ai_o80, ai_o81, ai_o82, ai_o83, ai_o84, ai_o85, ai_o86, ai_o87, ai_o88, ai_o89, ai_o90, ai_o91, ai_o92, ai_o93, ai_o94, ai_o95, ai_o96, ai_o97, ai_o98, ai_o99, ai_o100, ai_o101, ai_o102, ai_o103, ai_o104, ai_o105, ai_o106, ai_o107, ai_o108, ai_o109, ai_o110, ai_o111, ai_o112, ai_o113, ai_o114, ai_o115, ai_o116, ai_o117, ai_o118, ai_o119, ai_o120, ai_o121, ai_o122, ai_o123, ai_o124, ai_o125, ai_o126, ai_o127, ai_o128, ai_o129, ai_o130, ai_o131, ai_o132, ai_o133, ai_o134, ai_o135, ai_o136, ai_o137, ai_o138, ai_o139, ai_o140, ai_o141, ai_o142, ai_o143, ai_o144, ai_o145, ai_o146, ai_o147, ai_o148, ai_o149, ai_o150, ai_o151, ai_o152, ai_o153, ai_o154, ai_o155, ai_o156, ai_o157, ai_o158, ai_o159, ai_o160, ai_o161, ai_o162, ai_o163, ai_o164, ai_o165, ai_o166, ai_o167, ai_o168, ai_o169, ai_o170, ai_o171, ai_o172, ai_o173, ai_o174, ai_o175, ai_o176, ai_o177, ai_o178, ai_o179, ai_o180, ai_o181, ai_o182, ai_o183, ai_o184, ai_o185, ai_o186, ai_o187, ai_o188, ai_o189, ai_o190, ai_o191, ai_o192, ai_o193, ai_o194, ai_o195, ai_o196, ai_o197, ai_o198, ai_o199, ai_o200, ai_o201, ai_o202, ai_o203, ai_o204, ai_o205, ai_o206]
noncomputable def ai_ops (m : Nat) : List ai_E := ai_gd [] ai_opsT m
noncomputable def ai_pc (m i : Nat) : Nat := match ai_nth (ai_ops m) i with
  | some e => e.1
  | none => 0
end
section
/-! THE CHECK: each row of the tables is what the bytes say, and its words are among the Statement's. -/
theorem ai_nth_eq {α : Type} : ∀ (l : List α) (n : Nat), ai_nth l n = l[n]?
  | [], _ => by simp [ai_nth]
  | _ :: _, 0 => by simp [ai_nth]
  | _ :: l, n + 1 => by simp [ai_nth, ai_nth_eq l n]
def ai_lv (x : ai_X) : Int := match x.2.2.1 with
  | 0 => Int.ofNat x.2.1
  | _ => -Int.ofNat x.2.1
def ai_TY (kd : Nat) : FieldType := match kd with
  | 0 => .int
  | 1 => .long
  | 2 => .boolean
  | 3 => .char
  | _ => .object ai_Store
def ai_cp (ty : FieldType) (kd : Nat) : Bool := match ty, kd with
  | .int, 0 => true
  | .long, 1 => true
  | .boolean, 3 => true
  | .object _, 2 => true
  | .object _, 4 => true
  | .array _, 2 => true
  | _, _ => false
noncomputable def ai_cw (m : Nat) : Cond := match ai_hh m with
  | [] => .code (ai_mY m) (ai_mB m) (ai_mL m) (ai_mR m)
  | hh => .codeWith (ai_mY m) (ai_mB m) (ai_mL m) (ai_mR m) hh
noncomputable def ai_wl (c : Nat) : List Cond := match c with
  | 0 => k2_sels lw_privs
  | 1 => tables_1_1
  | 2 => tables_1_2
  | 3 => tables_1_3
  | 4 => tables_1_4
  | 5 => tables_1_5
  | _ => tables_1_6
theorem ai_wl_in {c : Nat} {w : Cond} (h : w ∈ ai_wl c) : w ∈ lw_tbl := by
  unfold ai_wl at h
  unfold lw_tbl tables_1
  simp only [List.mem_append]
  split at h
  · exact Or.inl h
  · exact Or.inr (Or.inl h)
  · exact Or.inr (Or.inr (Or.inl h))
  · exact Or.inr (Or.inr (Or.inr (Or.inl h)))
  · exact Or.inr (Or.inr (Or.inr (Or.inr (Or.inl h))))
  · exact Or.inr (Or.inr (Or.inr (Or.inr (Or.inr (Or.inl h)))))
  · exact Or.inr (Or.inr (Or.inr (Or.inr (Or.inr (Or.inr h)))))
noncomputable def ai_wd (j : Nat) (w : Cond) : Bool := decide (ai_nth (ai_wl (j / 1000)) (j % 1000) = some w) && goodWord w
theorem ai_wd_in {j : Nat} {w : Cond} (h : ai_wd j w = true) : w ∈ ai_WS := by
  unfold ai_wd at h
  simp only [Bool.and_eq_true, decide_eq_true_eq, ai_nth_eq] at h
  exact List.mem_filter.mpr ⟨ai_wl_in (List.mem_of_getElem? h.1), h.2⟩
theorem ai_WS_good : ∀ w ∈ ai_WS, (w.onTables && w.keeps) = true ∨ ∃ ty, w = .arrayClass ty := fun w h => good_of_word (List.mem_filter.mp h).2
noncomputable def ai_nx (m i pc : Nat) : Bool := match ai_nth (ai_ops m) (i + 1) with
  | some e => Nat.beq e.1 pc
  | none => false
noncomputable def ai_tg (m t : Nat) (z : Int) : Bool := match ai_nth (ai_ops m) t with
  | some e => decide (Int.ofNat e.1 = z)
  | none => false
theorem ai_nx_pc {m i pc : Nat} (h : ai_nx m i pc = true) : ai_pc m (i + 1) = pc := by
  unfold ai_nx at h
  unfold ai_pc
  split at h
  · rename_i e he
    rw [he]
    exact Nat.eq_of_beq_eq_true h
  · cases h
theorem ai_tg_pc {m t : Nat} {z : Int} (h : ai_tg m t z = true) : z = (ai_pc m t : Int) := by
  unfold ai_tg at h
  unfold ai_pc
  split at h
  · rename_i e he
    rw [he]
    exact (of_decide_eq_true h).symm
  · cases h
/-- a class: its words, its fields -/
noncomputable def ai_okC (ci : Nat) : Bool := match vwCl[ci]? with
  | some (C, T, N) => Nat.beq (ai_nf ci) N && (List.range N).all (fun k => ai_wd (ai_gd 0 (ai_cx ci).2.2 k) (u_lay C T k)) && decide (∀ j, j < N → parseFieldDescriptor (T j).2.2.1 = some (ai_ft ci j)) && decide (∀ x, x < N → ∀ y, y < N → x ≠ y → (T x).2.1 ≠ (T y).2.1) && decide (∀ j, j < N → ai_cp (ai_ft ci j) (ai_kd ci j) = true) && ai_wd (ai_cx ci).1 (.instantiable C N) && ai_wd (ai_cx ci).2.1 (.initialized C) && decide (∀ j, j < N → (T j).1 = C)
  | none => true
set_option maxRecDepth 100000 in
theorem ai_okC_all : (List.range 11).all ai_okC = true := by decide +kernel
theorem ai_vw_lt {ci : Nat} {x : vw_C} (h : vwCl[ci]? = some x) : ci < 11 := (List.getElem?_eq_some_iff.mp h).1
theorem ai_cls {ci : Nat} {C : String} {T : u_T} {N : Nat} (h : vwCl[ci]? = some (C, T, N)) : ai_nf ci = N ∧ (∀ w ∈ u_ws C T N, w ∈ ai_WS) ∧ (∀ j, j < N → parseFieldDescriptor (T j).2.2.1 = some (ai_ft ci j)) ∧ (∀ x, x < N → ∀ y, y < N → x ≠ y → (T x).2.1 ≠ (T y).2.1) ∧ (∀ j, j < N → ai_cp (ai_ft ci j) (ai_kd ci j) = true) ∧ Cond.instantiable C N ∈ ai_WS ∧ Cond.initialized C ∈ ai_WS ∧ ∀ j, j < N → (T j).1 = C := by
  have h0 := List.all_eq_true.mp ai_okC_all ci (List.mem_range.mpr (ai_vw_lt h))
  unfold ai_okC at h0
  rw [h] at h0
  simp only [Bool.and_eq_true, decide_eq_true_eq] at h0
  obtain ⟨⟨⟨⟨⟨⟨⟨h1, h2⟩, h3⟩, h4⟩, h5⟩, h6⟩, h7⟩, h8⟩ := h0
  refine ⟨Nat.eq_of_beq_eq_true h1, fun w hw => ?_, h3, h4, h5, ai_wd_in h6, ai_wd_in h7, h8⟩
  obtain ⟨k, hk, rfl⟩ := List.mem_map.mp hw
  exact ai_wd_in (List.all_eq_true.mp h2 k hk)
noncomputable def ai_okf (m : Nat) (x : ai_X) (n : Nat) (put : Bool) : Bool := match vwCl[x.1]? with
  | some (C, T, N) => Nat.blt x.2.1 N && ai_wd x.2.2.2.2 (.fieldLink (ai_mY m).cls n C (T x.2.1).2.1 (T x.2.1).2.2.1) && Nat.beq (ai_kd x.1 x.2.1) x.2.2.1 && (!put || !(T x.2.1).2.2.2 || (decide ((ai_mY m).name = "<init>") && decide (C = (ai_mY m).cls)))
  | none => false
noncomputable def ai_rmk (m m' : Nat) : Bool := Nat.ble (ai_mf m' + 1) (ai_mf m) && Nat.ble (8 + (ai_mL m' + 11) + ai_mw m') (ai_mw m)
/-- a method: its words, its name -/
noncomputable def ai_okY (m : Nat) : Bool := ai_wd (ai_ww m).2.2.2 (.initialized (ai_mY m).cls) && decide ((ai_mY m).cls ≠ "java/lang/invoke/MethodHandle") && decide ((ai_mY m).cls ≠ "java/lang/invoke/VarHandle") && decide ((parseMethodDescriptor (ai_mY m).desc).map (fun d => d.parameters.length) = some (ai_mN m)) && plainName (ai_mY m).cls && Nat.beq (ai_pc m 0) 0 && (match ai_mK m with
  | 0 => ai_wd (ai_ww m).2.1 (.instanceMethod (ai_mY m)) && ai_wd (ai_ww m).2.2.1 (.selects (ai_mY m).cls (ai_mY m) (ai_mY m)) && decide ((vwCl[ai_mC m]?).map (fun q => q.1) = some (ai_mY m).cls)
  | 1 => ai_wd (ai_ww m).2.1 (.instanceMethod (ai_mY m)) && decide ((ai_mY m).name = "<init>") && decide (ai_mR m = none)
  | _ => ai_wd (ai_ww m).2.1 (.static (ai_mY m)))
noncomputable def ai_okv (m : Nat) (x : ai_X) (n kd : Nat) : Bool := ai_wd x.2.2.2.2 (.methodLink (ai_mY m).cls n (ai_mY x.1)) && Nat.beq (ai_mK x.1) kd && Nat.blt x.1 206 && Nat.beq x.2.1 (ai_mN x.1 + (if kd = 2 then 0 else 1)) && ai_rmk m x.1 && (match kd with
  | 2 => decide ((ai_mY x.1).cls = (ai_mY m).cls) && Nat.beq x.2.2.1 0
  | 1 => Nat.beq x.2.2.1 0 && (ai_hh x.1).isEmpty
  | _ => (ai_hh x.1).isEmpty)
noncomputable def ai_okl (m : Nat) (x : ai_X) (n : Nat) : Bool := Nat.ble 1 (ai_mf m) && match x.1 with
  | 1001 => ai_wd x.2.2.2.2 (.methodLink (ai_mY m).cls n arraycopyName) && ai_wd (ai_lw 1).1 (.native arraycopyName) && ai_wd (ai_lw 1).2.1 (.static arraycopyName) && ai_wd (ai_lw 1).2.2 (.initialized "java/lang/System") && Nat.ble (8 + (nativeFrameWords "java/lang/System" "arraycopy" 5 + 11)) (ai_mw m)
  | 1002 => ai_wd x.2.2.2.2 (.methodLink (ai_mY m).cls n Lib.MathLoose.abs_long.x) && ai_wd (ai_lw 2).1 (.static Lib.MathLoose.abs_long.x) && ai_wd (ai_lw 2).2.1 (.initialized "java/lang/Math") && ai_wd (ai_lw 2).2.2 (.code Lib.MathLoose.abs_long.x Lib.MathLoose.abs_long.code 2 (some .long)) && Nat.ble 21 (ai_mw m)
  | 1003 => ai_wd x.2.2.2.2 (.methodLink (ai_mY m).cls n Lib.Math.min.name) && ai_wd (ai_lw 3).1 (.static Lib.Math.min.name) && ai_wd (ai_lw 3).2.1 (.initialized "java/lang/Math") && ai_wd (ai_lw 3).2.2 (.code Lib.Math.min.name Lib.Math.min.code 2 (some .int)) && Nat.ble 21 (ai_mw m)
  | _ => false
noncomputable def ai_oko (m : Nat) (x : ai_X) (n : Nat) : Bool := Nat.beq x.1 1000 && Nat.ble 1 (ai_mf m) && ai_wd x.2.2.2.2 (.methodLink (ai_mY m).cls n Lib.objectInit) && ai_wd (ai_lw 0).1 (.instanceMethod Lib.objectInit) && ai_wd (ai_lw 0).2.1 (.code Lib.objectInit ⟨#[0xb1]⟩ 1 none) && Nat.ble 20 (ai_mw m)
noncomputable def ai_okn (m : Nat) (x : ai_X) (n : Nat) : Bool := match vwCl[x.1]? with
  | some (C, _, N) => Nat.beq x.2.1 N && ai_wd x.2.2.2.2 (.classLink (ai_mY m).cls n C)
  | none => false
/-- 'new E, dup, ldc, E(String), athrow' -/
noncomputable def ai_okx (m i pc : Nat) (x : ai_X) (n : Nat) : Bool := (ai_hh m).isEmpty && Nat.ble 6 (ai_mf m) && Nat.ble 82 (ai_mw m) && Nat.blt x.1 4 && ai_wd x.2.2.2.2 (.classLink (ai_mY m).cls n (ai_xn x.1)) && (match ai_nth (ai_ops m) (i + 3) with
  | some e3 => match decode (ai_mB m) (pc + 3), decode (ai_mB m) (pc + 4), decode (ai_mB m) (pc + 6), decode (ai_mB m) (pc + 9) with
    | .ok (.dup, 1), .ok (.ldc kx, 2), .ok (.invokespecial ic, 3), .ok (.athrow, 1) => ai_strs.any (fun q => decide (q.1 = (ai_mY m).cls) && Nat.beq q.2.1 kx) && ai_wd e3.2.2.2.1.2.2.2.2 (.methodLink (ai_mY m).cls ic ⟨ai_xn x.1, "<init>", "(Ljava/lang/String;)V"⟩)
    | _, _, _, _ => false
  | none => false)
noncomputable def ai_okI (m i pc : Nat) (x : ai_X) (ins : Instr) : Bool := match ins with
  | .iconst _ | .lconst _ | .iload_n _ | .lload_n _ | .aload_n _ | .iadd | .isub | .imul | .iand | .ior | .ixor | .ishl | .ishr | .idiv | .irem | .ladd | .lsub | .lmul | .land | .lor | .ldiv | .lrem | .lshl | .lshr | .lneg | .i2c | .i2l | .l2i | .lcmp | .dup | .dup2 | .pop | .iaload | .baload | .caload | .laload | .aaload | .iastore | .bastore | .castore | .lastore | .aastore | .arraylength => ai_nx m i (pc + 1)
  | .iload _ | .lload _ | .aload _ => ai_nx m i (pc + 2)
  | .bipush n => ai_nx m i (pc + 2) && decide ((Int8.ofInt n).toInt32 = Int32.ofInt n)
  | .sipush n => ai_nx m i (pc + 3) && decide ((Int16.ofInt n).toInt32 = Int32.ofInt n)
  | .ldc2_w n => ai_nx m i (pc + 3) && ai_wd x.2.2.2.2 (.constantLong (ai_mY m).cls n (Int64.ofInt (ai_lv x)))
  | .istore n | .astore n => ai_nx m i (pc + 2) && Nat.blt n (ai_mL m)
  | .istore_n n | .astore_n n => ai_nx m i (pc + 1) && Nat.blt n.val (ai_mL m)
  | .lstore n => ai_nx m i (pc + 2) && Nat.blt (n + 1) (ai_mL m)
  | .lstore_n n => ai_nx m i (pc + 1) && Nat.blt (n.val + 1) (ai_mL m)
  | .iinc n _ => ai_nx m i (pc + 3) && Nat.blt n (ai_mL m)
  | .ifCond _ off | .if_icmp _ off => ai_nx m i (pc + 3) && ai_tg m x.1 (Int.ofNat pc + off)
  | .goto off => ai_tg m x.1 (Int.ofNat pc + off)
  | .tableswitch d lo hi offs => decide (lo = 0) && decide (hi = 18) && Nat.beq ai_swt.length 19 && ai_tg m x.1 (Int.ofNat pc + d) && (List.range 19).all (fun j => match offs[j]?, ai_nth ai_swt j with
    | some o, some t => ai_tg m t (Int.ofNat pc + o)
    | _, _ => false)
  | .getfield n => ai_nx m i (pc + 3) && ai_okf m x n false
  | .putfield n => ai_nx m i (pc + 3) && ai_okf m x n true
  | .new n => match x.2.2.1 with
    | 0 => ai_nx m i (pc + 3) && ai_okn m x n
    | _ => ai_okx m i pc x n
  | .newarray t => ai_nx m i (pc + 2) && decide (newarray.typeOf t = ai_TY x.1) && Nat.blt x.1 4 && ai_wd (ai_aw x.1) (.arrayClass (ai_TY x.1))
  | .anewarray n => ai_nx m i (pc + 3) && ai_wd x.2.2.2.2 (.classLink (ai_mY m).cls n ai_Store)
  | .invokevirtual n => ai_nx m i (pc + 3) && ai_okv m x n 0
  | .invokestatic n => ai_nx m i (pc + 3) && (match x.2.2.2.1 with
    | 0 => ai_okv m x n 2
    | _ => ai_okl m x n)
  | .invokespecial n => ai_nx m i (pc + 3) && (match x.2.2.2.1 with
    | 0 => ai_okv m x n 1
    | 1 => ai_oko m x n
    | _ => true)
  | .return_ => decide (ai_mR m = none)
  | .ireturn => match x.1 with
    | 0 => decide (ai_mR m = some .int)
    | 3 => decide (ai_mR m = some .boolean)
    | _ => decide (ai_mR m = some .char)
  | .lreturn => decide (ai_mR m = some .long)
  | _ => true
noncomputable def ai_ok (m i : Nat) (e : ai_E) : Bool := decide (decode (ai_mB m) e.1 = .ok (e.2.1, e.2.2.1)) && ai_okI m i e.1 e.2.2.2.1 e.2.1
noncomputable def ai_okS (m a n : Nat) : Bool := (List.range' a n).all (fun i => match ai_nth (ai_ops m) i with
  | some e => ai_ok m i e
  | none => true)
theorem ai_okS_at {m a n i : Nat} {e : ai_E} (h : ai_okS m a n = true) (h1 : a ≤ i) (h2 : i < a + n) (he : ai_nth (ai_ops m) i = some e) : ai_ok m i e = true := by
  have h0 := List.all_eq_true.mp h i (List.mem_range'_1.mpr ⟨h1, h2⟩)
  rw [he] at h0
  exact h0
end
section
/-! the check -/
set_option maxRecDepth 1000000 in
theorem ai_okY_0 : (List.range' 0 52).all ai_okY = true := by decide +kernel
set_option maxRecDepth 1000000 in
theorem ai_okY_52 : (List.range' 52 52).all ai_okY = true := by decide +kernel
set_option maxRecDepth 1000000 in
theorem ai_okY_104 : (List.range' 104 52).all ai_okY = true := by decide +kernel
set_option maxRecDepth 1000000 in
theorem ai_okY_156 : (List.range' 156 50).all ai_okY = true := by decide +kernel
set_option maxRecDepth 1000000 in
set_option maxHeartbeats 4000000 in
theorem ai_okW_0 : (List.range' 0 103).map (fun m => ai_nth (ai_wl ((ai_ww m).1 / 1000)) ((ai_ww m).1 % 1000)) = (List.range' 0 103).map (fun m => some (ai_cw m)) := rfl
set_option maxRecDepth 1000000 in
set_option maxHeartbeats 4000000 in
theorem ai_okW_103 : (List.range' 103 103).map (fun m => ai_nth (ai_wl ((ai_ww m).1 / 1000)) ((ai_ww m).1 % 1000)) = (List.range' 103 103).map (fun m => some (ai_cw m)) := rfl
end
section
/-! the check of all rows, stretch by stretch -/
set_option maxRecDepth 1000000 in
theorem ai_okM_0 : [(0, 0, 39), (1, 0, 16)].all (fun q : Nat × Nat × Nat => ai_okS q.1 q.2.1 q.2.2) = true := by decide +kernel
set_option maxRecDepth 1000000 in
theorem ai_okM_1 : [(2, 0, 66), (3, 0, 5), (4, 0, 5), (5, 0, 42)].all (fun q : Nat × Nat × Nat => ai_okS q.1 q.2.1 q.2.2) = true := by decide +kernel
set_option maxRecDepth 1000000 in
theorem ai_okM_2 : [(6, 0, 3), (7, 0, 28), (8, 0, 50), (9, 0, 16), (10, 0, 17)].all (fun q : Nat × Nat × Nat => ai_okS q.1 q.2.1 q.2.2) = true := by decide +kernel
set_option maxRecDepth 1000000 in
theorem ai_okM_3 : [(11, 0, 20), (12, 0, 20), (13, 0, 23), (14, 0, 19), (15, 0, 22)].all (fun q : Nat × Nat × Nat => ai_okS q.1 q.2.1 q.2.2) = true := by decide +kernel
set_option maxRecDepth 1000000 in
theorem ai_okM_4 : [(16, 0, 30), (17, 0, 28), (18, 0, 32), (19, 0, 18)].all (fun q : Nat × Nat × Nat => ai_okS q.1 q.2.1 q.2.2) = true := by decide +kernel
set_option maxRecDepth 1000000 in
theorem ai_okM_5 : [(20, 0, 14), (21, 0, 4), (22, 0, 5), (23, 0, 9), (24, 0, 19), (25, 0, 67)].all (fun q : Nat × Nat × Nat => ai_okS q.1 q.2.1 q.2.2) = true := by decide +kernel
set_option maxRecDepth 1000000 in
theorem ai_okM_6 : [(26, 0, 57), (27, 0, 38)].all (fun q : Nat × Nat × Nat => ai_okS q.1 q.2.1 q.2.2) = true := by decide +kernel
set_option maxRecDepth 1000000 in
theorem ai_okM_7 : [(28, 0, 66), (29, 0, 39)].all (fun q : Nat × Nat × Nat => ai_okS q.1 q.2.1 q.2.2) = true := by decide +kernel
set_option maxRecDepth 1000000 in
theorem ai_okM_8 : [(30, 0, 54), (31, 0, 25), (32, 0, 20), (33, 0, 11)].all (fun q : Nat × Nat × Nat => ai_okS q.1 q.2.1 q.2.2) = true := by decide +kernel
set_option maxRecDepth 1000000 in
theorem ai_okM_9 : [(34, 0, 28), (35, 0, 28), (36, 0, 37)].all (fun q : Nat × Nat × Nat => ai_okS q.1 q.2.1 q.2.2) = true := by decide +kernel
set_option maxRecDepth 1000000 in
theorem ai_okM_10 : [(37, 0, 32), (38, 0, 43)].all (fun q : Nat × Nat × Nat => ai_okS q.1 q.2.1 q.2.2) = true := by decide +kernel
set_option maxRecDepth 1000000 in
theorem ai_okM_11 : [(39, 0, 49)].all (fun q : Nat × Nat × Nat => ai_okS q.1 q.2.1 q.2.2) = true := by decide +kernel
set_option maxRecDepth 1000000 in
theorem ai_okM_12 : [(40, 0, 77)].all (fun q : Nat × Nat × Nat => ai_okS q.1 q.2.1 q.2.2) = true := by decide +kernel
set_option maxRecDepth 1000000 in
theorem ai_okM_13 : [(41, 0, 44), (42, 0, 51)].all (fun q : Nat × Nat × Nat => ai_okS q.1 q.2.1 q.2.2) = true := by decide +kernel
set_option maxRecDepth 1000000 in
theorem ai_okM_14 : [(43, 0, 78), (44, 0, 25)].all (fun q : Nat × Nat × Nat => ai_okS q.1 q.2.1 q.2.2) = true := by decide +kernel
set_option maxRecDepth 1000000 in
theorem ai_okM_15 : [(45, 0, 58), (46, 0, 11), (47, 0, 8), (48, 0, 21)].all (fun q : Nat × Nat × Nat => ai_okS q.1 q.2.1 q.2.2) = true := by decide +kernel
set_option maxRecDepth 1000000 in
theorem ai_okM_16 : [(49, 0, 41), (50, 0, 7), (51, 0, 32), (52, 0, 31)].all (fun q : Nat × Nat × Nat => ai_okS q.1 q.2.1 q.2.2) = true := by decide +kernel
set_option maxRecDepth 1000000 in
theorem ai_okM_17 : [(53, 0, 39), (54, 0, 22), (55, 0, 5), (56, 0, 5), (57, 0, 9), (58, 0, 13), (59, 0, 5)].all (fun q : Nat × Nat × Nat => ai_okS q.1 q.2.1 q.2.2) = true := by decide +kernel
set_option maxRecDepth 1000000 in
theorem ai_okM_18 : [(60, 0, 23), (61, 0, 18), (62, 0, 5), (63, 0, 8), (64, 0, 9), (65, 0, 13), (66, 0, 31), (67, 0, 13)].all (fun q : Nat × Nat × Nat => ai_okS q.1 q.2.1 q.2.2) = true := by decide +kernel
set_option maxRecDepth 1000000 in
theorem ai_okM_19 : [(68, 0, 10), (69, 0, 27), (70, 0, 7), (71, 0, 21), (72, 0, 19), (73, 0, 20)].all (fun q : Nat × Nat × Nat => ai_okS q.1 q.2.1 q.2.2) = true := by decide +kernel
set_option maxRecDepth 1000000 in
theorem ai_okM_20 : [(74, 0, 33), (75, 0, 62)].all (fun q : Nat × Nat × Nat => ai_okS q.1 q.2.1 q.2.2) = true := by decide +kernel
set_option maxRecDepth 1000000 in
theorem ai_okM_21 : [(76, 0, 50), (77, 0, 54)].all (fun q : Nat × Nat × Nat => ai_okS q.1 q.2.1 q.2.2) = true := by decide +kernel
set_option maxRecDepth 1000000 in
theorem ai_okM_22 : [(78, 0, 40), (79, 0, 22), (80, 0, 49)].all (fun q : Nat × Nat × Nat => ai_okS q.1 q.2.1 q.2.2) = true := by decide +kernel
set_option maxRecDepth 1000000 in
theorem ai_okM_23 : [(81, 0, 51), (82, 0, 36)].all (fun q : Nat × Nat × Nat => ai_okS q.1 q.2.1 q.2.2) = true := by decide +kernel
set_option maxRecDepth 1000000 in
theorem ai_okM_24 : [(83, 0, 52), (84, 0, 23), (85, 0, 14), (86, 0, 22)].all (fun q : Nat × Nat × Nat => ai_okS q.1 q.2.1 q.2.2) = true := by decide +kernel
set_option maxRecDepth 1000000 in
theorem ai_okM_25 : [(87, 0, 17), (88, 0, 11), (89, 0, 10), (90, 0, 11), (91, 0, 25), (92, 0, 26), (93, 0, 10), (94, 0, 5)].all (fun q : Nat × Nat × Nat => ai_okS q.1 q.2.1 q.2.2) = true := by decide +kernel
set_option maxRecDepth 1000000 in
theorem ai_okM_26 : [(95, 0, 9), (96, 0, 9), (97, 0, 9), (98, 0, 28), (99, 0, 17), (100, 0, 35)].all (fun q : Nat × Nat × Nat => ai_okS q.1 q.2.1 q.2.2) = true := by decide +kernel
set_option maxRecDepth 1000000 in
theorem ai_okM_27 : [(101, 0, 32), (102, 0, 27), (103, 0, 28), (104, 0, 15), (105, 0, 5), (106, 0, 13)].all (fun q : Nat × Nat × Nat => ai_okS q.1 q.2.1 q.2.2) = true := by decide +kernel
set_option maxRecDepth 1000000 in
theorem ai_okM_28 : [(107, 0, 17), (108, 0, 29), (109, 0, 49)].all (fun q : Nat × Nat × Nat => ai_okS q.1 q.2.1 q.2.2) = true := by decide +kernel
set_option maxRecDepth 1000000 in
theorem ai_okM_29 : [(110, 0, 47), (111, 0, 23), (112, 0, 28), (113, 0, 6)].all (fun q : Nat × Nat × Nat => ai_okS q.1 q.2.1 q.2.2) = true := by decide +kernel
set_option maxRecDepth 1000000 in
theorem ai_okM_30 : [(114, 0, 33), (115, 0, 31), (116, 0, 10)].all (fun q : Nat × Nat × Nat => ai_okS q.1 q.2.1 q.2.2) = true := by decide +kernel
set_option maxRecDepth 1000000 in
theorem ai_okM_31 : [(117, 0, 48), (118, 0, 42), (119, 0, 25)].all (fun q : Nat × Nat × Nat => ai_okS q.1 q.2.1 q.2.2) = true := by decide +kernel
set_option maxRecDepth 1000000 in
theorem ai_okM_32 : [(120, 0, 43), (121, 0, 39), (122, 0, 38)].all (fun q : Nat × Nat × Nat => ai_okS q.1 q.2.1 q.2.2) = true := by decide +kernel
set_option maxRecDepth 1000000 in
theorem ai_okM_33 : [(123, 0, 29), (124, 0, 11), (125, 0, 20)].all (fun q : Nat × Nat × Nat => ai_okS q.1 q.2.1 q.2.2) = true := by decide +kernel
set_option maxRecDepth 1000000 in
theorem ai_okM_34 : [(126, 0, 146)].all (fun q : Nat × Nat × Nat => ai_okS q.1 q.2.1 q.2.2) = true := by decide +kernel
set_option maxRecDepth 1000000 in
theorem ai_okM_35 : [(127, 0, 3), (128, 0, 5), (129, 0, 10), (130, 0, 37), (131, 0, 35)].all (fun q : Nat × Nat × Nat => ai_okS q.1 q.2.1 q.2.2) = true := by decide +kernel
set_option maxRecDepth 1000000 in
theorem ai_okM_36 : [(132, 0, 86), (133, 0, 23), (134, 0, 7)].all (fun q : Nat × Nat × Nat => ai_okS q.1 q.2.1 q.2.2) = true := by decide +kernel
set_option maxRecDepth 1000000 in
theorem ai_okM_37 : [(135, 0, 13), (136, 0, 19), (137, 0, 12), (138, 0, 12), (139, 0, 11), (140, 0, 34)].all (fun q : Nat × Nat × Nat => ai_okS q.1 q.2.1 q.2.2) = true := by decide +kernel
set_option maxRecDepth 1000000 in
theorem ai_okM_38 : [(141, 0, 67), (142, 0, 41)].all (fun q : Nat × Nat × Nat => ai_okS q.1 q.2.1 q.2.2) = true := by decide +kernel
set_option maxRecDepth 1000000 in
theorem ai_okM_39 : [(143, 0, 111)].all (fun q : Nat × Nat × Nat => ai_okS q.1 q.2.1 q.2.2) = true := by decide +kernel
set_option maxRecDepth 1000000 in
theorem ai_okM_40 : [(144, 0, 68)].all (fun q : Nat × Nat × Nat => ai_okS q.1 q.2.1 q.2.2) = true := by decide +kernel
set_option maxRecDepth 1000000 in
theorem ai_okM_41 : [(145, 0, 84)].all (fun q : Nat × Nat × Nat => ai_okS q.1 q.2.1 q.2.2) = true := by decide +kernel
set_option maxRecDepth 1000000 in
theorem ai_okM_42 : [(146, 0, 65)].all (fun q : Nat × Nat × Nat => ai_okS q.1 q.2.1 q.2.2) = true := by decide +kernel
set_option maxRecDepth 1000000 in
theorem ai_okM_43 : [(147, 0, 91)].all (fun q : Nat × Nat × Nat => ai_okS q.1 q.2.1 q.2.2) = true := by decide +kernel
set_option maxRecDepth 1000000 in
theorem ai_okM_44 : [(148, 0, 138)].all (fun q : Nat × Nat × Nat => ai_okS q.1 q.2.1 q.2.2) = true := by decide +kernel
set_option maxRecDepth 1000000 in
theorem ai_okM_45 : [(149, 0, 6), (150, 0, 50), (151, 0, 48)].all (fun q : Nat × Nat × Nat => ai_okS q.1 q.2.1 q.2.2) = true := by decide +kernel
set_option maxRecDepth 1000000 in
theorem ai_okM_46 : [(152, 0, 26), (153, 0, 57)].all (fun q : Nat × Nat × Nat => ai_okS q.1 q.2.1 q.2.2) = true := by decide +kernel
set_option maxRecDepth 1000000 in
theorem ai_okM_47 : [(154, 0, 58), (155, 0, 33), (156, 0, 22)].all (fun q : Nat × Nat × Nat => ai_okS q.1 q.2.1 q.2.2) = true := by decide +kernel
set_option maxRecDepth 1000000 in
theorem ai_okM_48 : [(157, 0, 26), (158, 0, 22), (159, 0, 31), (160, 0, 25)].all (fun q : Nat × Nat × Nat => ai_okS q.1 q.2.1 q.2.2) = true := by decide +kernel
set_option maxRecDepth 1000000 in
theorem ai_okM_49 : [(161, 0, 87)].all (fun q : Nat × Nat × Nat => ai_okS q.1 q.2.1 q.2.2) = true := by decide +kernel
set_option maxRecDepth 1000000 in
theorem ai_okM_50 : [(162, 0, 51)].all (fun q : Nat × Nat × Nat => ai_okS q.1 q.2.1 q.2.2) = true := by decide +kernel
set_option maxRecDepth 1000000 in
theorem ai_okM_51 : [(163, 0, 126)].all (fun q : Nat × Nat × Nat => ai_okS q.1 q.2.1 q.2.2) = true := by decide +kernel
set_option maxRecDepth 1000000 in
theorem ai_okM_52 : [(164, 0, 95)].all (fun q : Nat × Nat × Nat => ai_okS q.1 q.2.1 q.2.2) = true := by decide +kernel
set_option maxRecDepth 1000000 in
theorem ai_okM_53 : [(165, 0, 90), (166, 0, 27)].all (fun q : Nat × Nat × Nat => ai_okS q.1 q.2.1 q.2.2) = true := by decide +kernel
set_option maxRecDepth 1000000 in
theorem ai_okM_54 : [(167, 0, 143)].all (fun q : Nat × Nat × Nat => ai_okS q.1 q.2.1 q.2.2) = true := by decide +kernel
set_option maxRecDepth 1000000 in
theorem ai_okM_55 : [(168, 0, 63), (169, 0, 24)].all (fun q : Nat × Nat × Nat => ai_okS q.1 q.2.1 q.2.2) = true := by decide +kernel
set_option maxRecDepth 1000000 in
theorem ai_okM_56 : [(170, 0, 63), (171, 0, 56)].all (fun q : Nat × Nat × Nat => ai_okS q.1 q.2.1 q.2.2) = true := by decide +kernel
set_option maxRecDepth 1000000 in
theorem ai_okM_57 : [(172, 0, 71), (173, 0, 15), (174, 0, 19)].all (fun q : Nat × Nat × Nat => ai_okS q.1 q.2.1 q.2.2) = true := by decide +kernel
set_option maxRecDepth 1000000 in
theorem ai_okM_58 : [(175, 0, 40), (176, 0, 21), (177, 0, 18)].all (fun q : Nat × Nat × Nat => ai_okS q.1 q.2.1 q.2.2) = true := by decide +kernel
set_option maxRecDepth 1000000 in
theorem ai_okM_59 : [(178, 0, 73), (179, 0, 38)].all (fun q : Nat × Nat × Nat => ai_okS q.1 q.2.1 q.2.2) = true := by decide +kernel
set_option maxRecDepth 1000000 in
theorem ai_okM_60 : [(180, 0, 39), (181, 0, 66)].all (fun q : Nat × Nat × Nat => ai_okS q.1 q.2.1 q.2.2) = true := by decide +kernel
set_option maxRecDepth 1000000 in
theorem ai_okM_61 : [(182, 0, 104)].all (fun q : Nat × Nat × Nat => ai_okS q.1 q.2.1 q.2.2) = true := by decide +kernel
set_option maxRecDepth 1000000 in
theorem ai_okM_62 : [(183, 0, 41), (184, 0, 38), (185, 0, 13)].all (fun q : Nat × Nat × Nat => ai_okS q.1 q.2.1 q.2.2) = true := by decide +kernel
set_option maxRecDepth 1000000 in
theorem ai_okM_63 : [(186, 0, 35), (187, 0, 80)].all (fun q : Nat × Nat × Nat => ai_okS q.1 q.2.1 q.2.2) = true := by decide +kernel
set_option maxRecDepth 1000000 in
theorem ai_okM_64 : [(188, 0, 70)].all (fun q : Nat × Nat × Nat => ai_okS q.1 q.2.1 q.2.2) = true := by decide +kernel
set_option maxRecDepth 1000000 in
theorem ai_okM_65 : [(189, 0, 122)].all (fun q : Nat × Nat × Nat => ai_okS q.1 q.2.1 q.2.2) = true := by decide +kernel
set_option maxRecDepth 1000000 in
theorem ai_okM_66 : [(190, 0, 22), (191, 0, 12), (192, 0, 19), (193, 0, 12), (194, 0, 16), (195, 0, 19), (196, 0, 13)].all (fun q : Nat × Nat × Nat => ai_okS q.1 q.2.1 q.2.2) = true := by decide +kernel
set_option maxRecDepth 1000000 in
theorem ai_okM_67 : [(197, 0, 14), (198, 0, 18), (199, 0, 12), (200, 0, 12), (201, 0, 12), (202, 0, 17), (203, 0, 17), (204, 0, 16)].all (fun q : Nat × Nat × Nat => ai_okS q.1 q.2.1 q.2.2) = true := by decide +kernel
set_option maxRecDepth 1000000 in
theorem ai_okM_68 : [(205, 0, 13)].all (fun q : Nat × Nat × Nat => ai_okS q.1 q.2.1 q.2.2) = true := by decide +kernel
set_option maxRecDepth 1000000 in
theorem ai_okM_69 : [(206, 0, 60)].all (fun q : Nat × Nat × Nat => ai_okS q.1 q.2.1 q.2.2) = true := by decide +kernel
set_option maxRecDepth 1000000 in
theorem ai_okM_70 : [(206, 60, 60)].all (fun q : Nat × Nat × Nat => ai_okS q.1 q.2.1 q.2.2) = true := by decide +kernel
set_option maxRecDepth 1000000 in
theorem ai_okM_71 : [(206, 120, 60)].all (fun q : Nat × Nat × Nat => ai_okS q.1 q.2.1 q.2.2) = true := by decide +kernel
set_option maxRecDepth 1000000 in
theorem ai_okM_72 : [(206, 180, 60)].all (fun q : Nat × Nat × Nat => ai_okS q.1 q.2.1 q.2.2) = true := by decide +kernel
set_option maxRecDepth 1000000 in
theorem ai_okM_73 : [(206, 240, 60)].all (fun q : Nat × Nat × Nat => ai_okS q.1 q.2.1 q.2.2) = true := by decide +kernel
set_option maxRecDepth 1000000 in
theorem ai_okM_74 : [(206, 300, 60)].all (fun q : Nat × Nat × Nat => ai_okS q.1 q.2.1 q.2.2) = true := by decide +kernel
set_option maxRecDepth 1000000 in
theorem ai_okM_75 : [(206, 360, 60)].all (fun q : Nat × Nat × Nat => ai_okS q.1 q.2.1 q.2.2) = true := by decide +kernel
set_option maxRecDepth 1000000 in
theorem ai_okM_76 : [(206, 420, 60)].all (fun q : Nat × Nat × Nat => ai_okS q.1 q.2.1 q.2.2) = true := by decide +kernel
set_option maxRecDepth 1000000 in
theorem ai_okM_77 : [(206, 480, 60)].all (fun q : Nat × Nat × Nat => ai_okS q.1 q.2.1 q.2.2) = true := by decide +kernel
set_option maxRecDepth 1000000 in
theorem ai_okM_78 : [(206, 540, 60)].all (fun q : Nat × Nat × Nat => ai_okS q.1 q.2.1 q.2.2) = true := by decide +kernel
set_option maxRecDepth 1000000 in
theorem ai_okM_79 : [(206, 600, 60)].all (fun q : Nat × Nat × Nat => ai_okS q.1 q.2.1 q.2.2) = true := by decide +kernel
set_option maxRecDepth 1000000 in
theorem ai_okM_80 : [(206, 660, 16)].all (fun q : Nat × Nat × Nat => ai_okS q.1 q.2.1 q.2.2) = true := by decide +kernel

theorem ai_okM_use {L : List (Nat × Nat × Nat)} (h : L.all (fun q => ai_okS q.1 q.2.1 q.2.2) = true) {m a n i : Nat} {e : ai_E} (hm : (m, a, n) ∈ L) (h1 : a ≤ i) (h2 : i < a + n) (he : ai_nth (ai_ops m) i = some e) : ai_ok m i e = true := ai_okS_at (List.all_eq_true.mp h (m, a, n) hm) h1 h2 he
theorem ai_len_lt {m i : Nat} {e : ai_E} (h : ai_nth (ai_ops m) i = some e) : i < (ai_ops m).length := by
  rw [ai_nth_eq] at h
  exact (List.getElem?_eq_some_iff.mp h).1
end
section
/-- every row of every method is right -/
noncomputable def ai_okA (m : Nat) : Prop := ∀ (i : Nat) (e : ai_E), ai_nth (ai_ops m) i = some e → ai_ok m i e = true
theorem ai_okA_0 : ai_okA 0 := fun i e he => ai_okM_use ai_okM_0 (m := 0) (a := 0) (n := 39) (by simp) (Nat.zero_le i) (by have := ai_len_lt he; exact Nat.lt_of_lt_of_le this (by decide +kernel)) he
theorem ai_okA_1 : ai_okA 1 := fun i e he => ai_okM_use ai_okM_0 (m := 1) (a := 0) (n := 16) (by simp) (Nat.zero_le i) (by have := ai_len_lt he; exact Nat.lt_of_lt_of_le this (by decide +kernel)) he
theorem ai_okA_2 : ai_okA 2 := fun i e he => ai_okM_use ai_okM_1 (m := 2) (a := 0) (n := 66) (by simp) (Nat.zero_le i) (by have := ai_len_lt he; exact Nat.lt_of_lt_of_le this (by decide +kernel)) he
theorem ai_okA_3 : ai_okA 3 := fun i e he => ai_okM_use ai_okM_1 (m := 3) (a := 0) (n := 5) (by simp) (Nat.zero_le i) (by have := ai_len_lt he; exact Nat.lt_of_lt_of_le this (by decide +kernel)) he
theorem ai_okA_4 : ai_okA 4 := fun i e he => ai_okM_use ai_okM_1 (m := 4) (a := 0) (n := 5) (by simp) (Nat.zero_le i) (by have := ai_len_lt he; exact Nat.lt_of_lt_of_le this (by decide +kernel)) he
theorem ai_okA_5 : ai_okA 5 := fun i e he => ai_okM_use ai_okM_1 (m := 5) (a := 0) (n := 42) (by simp) (Nat.zero_le i) (by have := ai_len_lt he; exact Nat.lt_of_lt_of_le this (by decide +kernel)) he
theorem ai_okA_6 : ai_okA 6 := fun i e he => ai_okM_use ai_okM_2 (m := 6) (a := 0) (n := 3) (by simp) (Nat.zero_le i) (by have := ai_len_lt he; exact Nat.lt_of_lt_of_le this (by decide +kernel)) he
theorem ai_okA_7 : ai_okA 7 := fun i e he => ai_okM_use ai_okM_2 (m := 7) (a := 0) (n := 28) (by simp) (Nat.zero_le i) (by have := ai_len_lt he; exact Nat.lt_of_lt_of_le this (by decide +kernel)) he
theorem ai_okA_8 : ai_okA 8 := fun i e he => ai_okM_use ai_okM_2 (m := 8) (a := 0) (n := 50) (by simp) (Nat.zero_le i) (by have := ai_len_lt he; exact Nat.lt_of_lt_of_le this (by decide +kernel)) he
theorem ai_okA_9 : ai_okA 9 := fun i e he => ai_okM_use ai_okM_2 (m := 9) (a := 0) (n := 16) (by simp) (Nat.zero_le i) (by have := ai_len_lt he; exact Nat.lt_of_lt_of_le this (by decide +kernel)) he
theorem ai_okA_10 : ai_okA 10 := fun i e he => ai_okM_use ai_okM_2 (m := 10) (a := 0) (n := 17) (by simp) (Nat.zero_le i) (by have := ai_len_lt he; exact Nat.lt_of_lt_of_le this (by decide +kernel)) he
theorem ai_okA_11 : ai_okA 11 := fun i e he => ai_okM_use ai_okM_3 (m := 11) (a := 0) (n := 20) (by simp) (Nat.zero_le i) (by have := ai_len_lt he; exact Nat.lt_of_lt_of_le this (by decide +kernel)) he
theorem ai_okA_12 : ai_okA 12 := fun i e he => ai_okM_use ai_okM_3 (m := 12) (a := 0) (n := 20) (by simp) (Nat.zero_le i) (by have := ai_len_lt he; exact Nat.lt_of_lt_of_le this (by decide +kernel)) he
theorem ai_okA_13 : ai_okA 13 := fun i e he => ai_okM_use ai_okM_3 (m := 13) (a := 0) (n := 23) (by simp) (Nat.zero_le i) (by have := ai_len_lt he; exact Nat.lt_of_lt_of_le this (by decide +kernel)) he
theorem ai_okA_14 : ai_okA 14 := fun i e he => ai_okM_use ai_okM_3 (m := 14) (a := 0) (n := 19) (by simp) (Nat.zero_le i) (by have := ai_len_lt he; exact Nat.lt_of_lt_of_le this (by decide +kernel)) he
theorem ai_okA_15 : ai_okA 15 := fun i e he => ai_okM_use ai_okM_3 (m := 15) (a := 0) (n := 22) (by simp) (Nat.zero_le i) (by have := ai_len_lt he; exact Nat.lt_of_lt_of_le this (by decide +kernel)) he
theorem ai_okA_16 : ai_okA 16 := fun i e he => ai_okM_use ai_okM_4 (m := 16) (a := 0) (n := 30) (by simp) (Nat.zero_le i) (by have := ai_len_lt he; exact Nat.lt_of_lt_of_le this (by decide +kernel)) he
theorem ai_okA_17 : ai_okA 17 := fun i e he => ai_okM_use ai_okM_4 (m := 17) (a := 0) (n := 28) (by simp) (Nat.zero_le i) (by have := ai_len_lt he; exact Nat.lt_of_lt_of_le this (by decide +kernel)) he
theorem ai_okA_18 : ai_okA 18 := fun i e he => ai_okM_use ai_okM_4 (m := 18) (a := 0) (n := 32) (by simp) (Nat.zero_le i) (by have := ai_len_lt he; exact Nat.lt_of_lt_of_le this (by decide +kernel)) he
theorem ai_okA_19 : ai_okA 19 := fun i e he => ai_okM_use ai_okM_4 (m := 19) (a := 0) (n := 18) (by simp) (Nat.zero_le i) (by have := ai_len_lt he; exact Nat.lt_of_lt_of_le this (by decide +kernel)) he
theorem ai_okA_20 : ai_okA 20 := fun i e he => ai_okM_use ai_okM_5 (m := 20) (a := 0) (n := 14) (by simp) (Nat.zero_le i) (by have := ai_len_lt he; exact Nat.lt_of_lt_of_le this (by decide +kernel)) he
theorem ai_okA_21 : ai_okA 21 := fun i e he => ai_okM_use ai_okM_5 (m := 21) (a := 0) (n := 4) (by simp) (Nat.zero_le i) (by have := ai_len_lt he; exact Nat.lt_of_lt_of_le this (by decide +kernel)) he
theorem ai_okA_22 : ai_okA 22 := fun i e he => ai_okM_use ai_okM_5 (m := 22) (a := 0) (n := 5) (by simp) (Nat.zero_le i) (by have := ai_len_lt he; exact Nat.lt_of_lt_of_le this (by decide +kernel)) he
theorem ai_okA_23 : ai_okA 23 := fun i e he => ai_okM_use ai_okM_5 (m := 23) (a := 0) (n := 9) (by simp) (Nat.zero_le i) (by have := ai_len_lt he; exact Nat.lt_of_lt_of_le this (by decide +kernel)) he
theorem ai_okA_24 : ai_okA 24 := fun i e he => ai_okM_use ai_okM_5 (m := 24) (a := 0) (n := 19) (by simp) (Nat.zero_le i) (by have := ai_len_lt he; exact Nat.lt_of_lt_of_le this (by decide +kernel)) he
theorem ai_okA_25 : ai_okA 25 := fun i e he => ai_okM_use ai_okM_5 (m := 25) (a := 0) (n := 67) (by simp) (Nat.zero_le i) (by have := ai_len_lt he; exact Nat.lt_of_lt_of_le this (by decide +kernel)) he
theorem ai_okA_26 : ai_okA 26 := fun i e he => ai_okM_use ai_okM_6 (m := 26) (a := 0) (n := 57) (by simp) (Nat.zero_le i) (by have := ai_len_lt he; exact Nat.lt_of_lt_of_le this (by decide +kernel)) he
theorem ai_okA_27 : ai_okA 27 := fun i e he => ai_okM_use ai_okM_6 (m := 27) (a := 0) (n := 38) (by simp) (Nat.zero_le i) (by have := ai_len_lt he; exact Nat.lt_of_lt_of_le this (by decide +kernel)) he
theorem ai_okA_28 : ai_okA 28 := fun i e he => ai_okM_use ai_okM_7 (m := 28) (a := 0) (n := 66) (by simp) (Nat.zero_le i) (by have := ai_len_lt he; exact Nat.lt_of_lt_of_le this (by decide +kernel)) he
theorem ai_okA_29 : ai_okA 29 := fun i e he => ai_okM_use ai_okM_7 (m := 29) (a := 0) (n := 39) (by simp) (Nat.zero_le i) (by have := ai_len_lt he; exact Nat.lt_of_lt_of_le this (by decide +kernel)) he
theorem ai_okA_30 : ai_okA 30 := fun i e he => ai_okM_use ai_okM_8 (m := 30) (a := 0) (n := 54) (by simp) (Nat.zero_le i) (by have := ai_len_lt he; exact Nat.lt_of_lt_of_le this (by decide +kernel)) he
theorem ai_okA_31 : ai_okA 31 := fun i e he => ai_okM_use ai_okM_8 (m := 31) (a := 0) (n := 25) (by simp) (Nat.zero_le i) (by have := ai_len_lt he; exact Nat.lt_of_lt_of_le this (by decide +kernel)) he
theorem ai_okA_32 : ai_okA 32 := fun i e he => ai_okM_use ai_okM_8 (m := 32) (a := 0) (n := 20) (by simp) (Nat.zero_le i) (by have := ai_len_lt he; exact Nat.lt_of_lt_of_le this (by decide +kernel)) he
theorem ai_okA_33 : ai_okA 33 := fun i e he => ai_okM_use ai_okM_8 (m := 33) (a := 0) (n := 11) (by simp) (Nat.zero_le i) (by have := ai_len_lt he; exact Nat.lt_of_lt_of_le this (by decide +kernel)) he
theorem ai_okA_34 : ai_okA 34 := fun i e he => ai_okM_use ai_okM_9 (m := 34) (a := 0) (n := 28) (by simp) (Nat.zero_le i) (by have := ai_len_lt he; exact Nat.lt_of_lt_of_le this (by decide +kernel)) he
theorem ai_okA_35 : ai_okA 35 := fun i e he => ai_okM_use ai_okM_9 (m := 35) (a := 0) (n := 28) (by simp) (Nat.zero_le i) (by have := ai_len_lt he; exact Nat.lt_of_lt_of_le this (by decide +kernel)) he
theorem ai_okA_36 : ai_okA 36 := fun i e he => ai_okM_use ai_okM_9 (m := 36) (a := 0) (n := 37) (by simp) (Nat.zero_le i) (by have := ai_len_lt he; exact Nat.lt_of_lt_of_le this (by decide +kernel)) he
theorem ai_okA_37 : ai_okA 37 := fun i e he => ai_okM_use ai_okM_10 (m := 37) (a := 0) (n := 32) (by simp) (Nat.zero_le i) (by have := ai_len_lt he; exact Nat.lt_of_lt_of_le this (by decide +kernel)) he
theorem ai_okA_38 : ai_okA 38 := fun i e he => ai_okM_use ai_okM_10 (m := 38) (a := 0) (n := 43) (by simp) (Nat.zero_le i) (by have := ai_len_lt he; exact Nat.lt_of_lt_of_le this (by decide +kernel)) he
theorem ai_okA_39 : ai_okA 39 := fun i e he => ai_okM_use ai_okM_11 (m := 39) (a := 0) (n := 49) (by simp) (Nat.zero_le i) (by have := ai_len_lt he; exact Nat.lt_of_lt_of_le this (by decide +kernel)) he
theorem ai_okA_40 : ai_okA 40 := fun i e he => ai_okM_use ai_okM_12 (m := 40) (a := 0) (n := 77) (by simp) (Nat.zero_le i) (by have := ai_len_lt he; exact Nat.lt_of_lt_of_le this (by decide +kernel)) he
theorem ai_okA_41 : ai_okA 41 := fun i e he => ai_okM_use ai_okM_13 (m := 41) (a := 0) (n := 44) (by simp) (Nat.zero_le i) (by have := ai_len_lt he; exact Nat.lt_of_lt_of_le this (by decide +kernel)) he
theorem ai_okA_42 : ai_okA 42 := fun i e he => ai_okM_use ai_okM_13 (m := 42) (a := 0) (n := 51) (by simp) (Nat.zero_le i) (by have := ai_len_lt he; exact Nat.lt_of_lt_of_le this (by decide +kernel)) he
theorem ai_okA_43 : ai_okA 43 := fun i e he => ai_okM_use ai_okM_14 (m := 43) (a := 0) (n := 78) (by simp) (Nat.zero_le i) (by have := ai_len_lt he; exact Nat.lt_of_lt_of_le this (by decide +kernel)) he
theorem ai_okA_44 : ai_okA 44 := fun i e he => ai_okM_use ai_okM_14 (m := 44) (a := 0) (n := 25) (by simp) (Nat.zero_le i) (by have := ai_len_lt he; exact Nat.lt_of_lt_of_le this (by decide +kernel)) he
theorem ai_okA_45 : ai_okA 45 := fun i e he => ai_okM_use ai_okM_15 (m := 45) (a := 0) (n := 58) (by simp) (Nat.zero_le i) (by have := ai_len_lt he; exact Nat.lt_of_lt_of_le this (by decide +kernel)) he
theorem ai_okA_46 : ai_okA 46 := fun i e he => ai_okM_use ai_okM_15 (m := 46) (a := 0) (n := 11) (by simp) (Nat.zero_le i) (by have := ai_len_lt he; exact Nat.lt_of_lt_of_le this (by decide +kernel)) he
theorem ai_okA_47 : ai_okA 47 := fun i e he => ai_okM_use ai_okM_15 (m := 47) (a := 0) (n := 8) (by simp) (Nat.zero_le i) (by have := ai_len_lt he; exact Nat.lt_of_lt_of_le this (by decide +kernel)) he
theorem ai_okA_48 : ai_okA 48 := fun i e he => ai_okM_use ai_okM_15 (m := 48) (a := 0) (n := 21) (by simp) (Nat.zero_le i) (by have := ai_len_lt he; exact Nat.lt_of_lt_of_le this (by decide +kernel)) he
theorem ai_okA_49 : ai_okA 49 := fun i e he => ai_okM_use ai_okM_16 (m := 49) (a := 0) (n := 41) (by simp) (Nat.zero_le i) (by have := ai_len_lt he; exact Nat.lt_of_lt_of_le this (by decide +kernel)) he
theorem ai_okA_50 : ai_okA 50 := fun i e he => ai_okM_use ai_okM_16 (m := 50) (a := 0) (n := 7) (by simp) (Nat.zero_le i) (by have := ai_len_lt he; exact Nat.lt_of_lt_of_le this (by decide +kernel)) he
theorem ai_okA_51 : ai_okA 51 := fun i e he => ai_okM_use ai_okM_16 (m := 51) (a := 0) (n := 32) (by simp) (Nat.zero_le i) (by have := ai_len_lt he; exact Nat.lt_of_lt_of_le this (by decide +kernel)) he
theorem ai_okA_52 : ai_okA 52 := fun i e he => ai_okM_use ai_okM_16 (m := 52) (a := 0) (n := 31) (by simp) (Nat.zero_le i) (by have := ai_len_lt he; exact Nat.lt_of_lt_of_le this (by decide +kernel)) he
theorem ai_okA_53 : ai_okA 53 := fun i e he => ai_okM_use ai_okM_17 (m := 53) (a := 0) (n := 39) (by simp) (Nat.zero_le i) (by have := ai_len_lt he; exact Nat.lt_of_lt_of_le this (by decide +kernel)) he
theorem ai_okA_54 : ai_okA 54 := fun i e he => ai_okM_use ai_okM_17 (m := 54) (a := 0) (n := 22) (by simp) (Nat.zero_le i) (by have := ai_len_lt he; exact Nat.lt_of_lt_of_le this (by decide +kernel)) he
theorem ai_okA_55 : ai_okA 55 := fun i e he => ai_okM_use ai_okM_17 (m := 55) (a := 0) (n := 5) (by simp) (Nat.zero_le i) (by have := ai_len_lt he; exact Nat.lt_of_lt_of_le this (by decide +kernel)) he
theorem ai_okA_56 : ai_okA 56 := fun i e he => ai_okM_use ai_okM_17 (m := 56) (a := 0) (n := 5) (by simp) (Nat.zero_le i) (by have := ai_len_lt he; exact Nat.lt_of_lt_of_le this (by decide +kernel)) he
theorem ai_okA_57 : ai_okA 57 := fun i e he => ai_okM_use ai_okM_17 (m := 57) (a := 0) (n := 9) (by simp) (Nat.zero_le i) (by have := ai_len_lt he; exact Nat.lt_of_lt_of_le this (by decide +kernel)) he
theorem ai_okA_58 : ai_okA 58 := fun i e he => ai_okM_use ai_okM_17 (m := 58) (a := 0) (n := 13) (by simp) (Nat.zero_le i) (by have := ai_len_lt he; exact Nat.lt_of_lt_of_le this (by decide +kernel)) he
theorem ai_okA_59 : ai_okA 59 := fun i e he => ai_okM_use ai_okM_17 (m := 59) (a := 0) (n := 5) (by simp) (Nat.zero_le i) (by have := ai_len_lt he; exact Nat.lt_of_lt_of_le this (by decide +kernel)) he
theorem ai_okA_60 : ai_okA 60 := fun i e he => ai_okM_use ai_okM_18 (m := 60) (a := 0) (n := 23) (by simp) (Nat.zero_le i) (by have := ai_len_lt he; exact Nat.lt_of_lt_of_le this (by decide +kernel)) he
theorem ai_okA_61 : ai_okA 61 := fun i e he => ai_okM_use ai_okM_18 (m := 61) (a := 0) (n := 18) (by simp) (Nat.zero_le i) (by have := ai_len_lt he; exact Nat.lt_of_lt_of_le this (by decide +kernel)) he
theorem ai_okA_62 : ai_okA 62 := fun i e he => ai_okM_use ai_okM_18 (m := 62) (a := 0) (n := 5) (by simp) (Nat.zero_le i) (by have := ai_len_lt he; exact Nat.lt_of_lt_of_le this (by decide +kernel)) he
theorem ai_okA_63 : ai_okA 63 := fun i e he => ai_okM_use ai_okM_18 (m := 63) (a := 0) (n := 8) (by simp) (Nat.zero_le i) (by have := ai_len_lt he; exact Nat.lt_of_lt_of_le this (by decide +kernel)) he
theorem ai_okA_64 : ai_okA 64 := fun i e he => ai_okM_use ai_okM_18 (m := 64) (a := 0) (n := 9) (by simp) (Nat.zero_le i) (by have := ai_len_lt he; exact Nat.lt_of_lt_of_le this (by decide +kernel)) he
theorem ai_okA_65 : ai_okA 65 := fun i e he => ai_okM_use ai_okM_18 (m := 65) (a := 0) (n := 13) (by simp) (Nat.zero_le i) (by have := ai_len_lt he; exact Nat.lt_of_lt_of_le this (by decide +kernel)) he
theorem ai_okA_66 : ai_okA 66 := fun i e he => ai_okM_use ai_okM_18 (m := 66) (a := 0) (n := 31) (by simp) (Nat.zero_le i) (by have := ai_len_lt he; exact Nat.lt_of_lt_of_le this (by decide +kernel)) he
theorem ai_okA_67 : ai_okA 67 := fun i e he => ai_okM_use ai_okM_18 (m := 67) (a := 0) (n := 13) (by simp) (Nat.zero_le i) (by have := ai_len_lt he; exact Nat.lt_of_lt_of_le this (by decide +kernel)) he
theorem ai_okA_68 : ai_okA 68 := fun i e he => ai_okM_use ai_okM_19 (m := 68) (a := 0) (n := 10) (by simp) (Nat.zero_le i) (by have := ai_len_lt he; exact Nat.lt_of_lt_of_le this (by decide +kernel)) he
theorem ai_okA_69 : ai_okA 69 := fun i e he => ai_okM_use ai_okM_19 (m := 69) (a := 0) (n := 27) (by simp) (Nat.zero_le i) (by have := ai_len_lt he; exact Nat.lt_of_lt_of_le this (by decide +kernel)) he
theorem ai_okA_70 : ai_okA 70 := fun i e he => ai_okM_use ai_okM_19 (m := 70) (a := 0) (n := 7) (by simp) (Nat.zero_le i) (by have := ai_len_lt he; exact Nat.lt_of_lt_of_le this (by decide +kernel)) he
theorem ai_okA_71 : ai_okA 71 := fun i e he => ai_okM_use ai_okM_19 (m := 71) (a := 0) (n := 21) (by simp) (Nat.zero_le i) (by have := ai_len_lt he; exact Nat.lt_of_lt_of_le this (by decide +kernel)) he
theorem ai_okA_72 : ai_okA 72 := fun i e he => ai_okM_use ai_okM_19 (m := 72) (a := 0) (n := 19) (by simp) (Nat.zero_le i) (by have := ai_len_lt he; exact Nat.lt_of_lt_of_le this (by decide +kernel)) he
theorem ai_okA_73 : ai_okA 73 := fun i e he => ai_okM_use ai_okM_19 (m := 73) (a := 0) (n := 20) (by simp) (Nat.zero_le i) (by have := ai_len_lt he; exact Nat.lt_of_lt_of_le this (by decide +kernel)) he
theorem ai_okA_74 : ai_okA 74 := fun i e he => ai_okM_use ai_okM_20 (m := 74) (a := 0) (n := 33) (by simp) (Nat.zero_le i) (by have := ai_len_lt he; exact Nat.lt_of_lt_of_le this (by decide +kernel)) he
theorem ai_okA_75 : ai_okA 75 := fun i e he => ai_okM_use ai_okM_20 (m := 75) (a := 0) (n := 62) (by simp) (Nat.zero_le i) (by have := ai_len_lt he; exact Nat.lt_of_lt_of_le this (by decide +kernel)) he
theorem ai_okA_76 : ai_okA 76 := fun i e he => ai_okM_use ai_okM_21 (m := 76) (a := 0) (n := 50) (by simp) (Nat.zero_le i) (by have := ai_len_lt he; exact Nat.lt_of_lt_of_le this (by decide +kernel)) he
theorem ai_okA_77 : ai_okA 77 := fun i e he => ai_okM_use ai_okM_21 (m := 77) (a := 0) (n := 54) (by simp) (Nat.zero_le i) (by have := ai_len_lt he; exact Nat.lt_of_lt_of_le this (by decide +kernel)) he
theorem ai_okA_78 : ai_okA 78 := fun i e he => ai_okM_use ai_okM_22 (m := 78) (a := 0) (n := 40) (by simp) (Nat.zero_le i) (by have := ai_len_lt he; exact Nat.lt_of_lt_of_le this (by decide +kernel)) he
theorem ai_okA_79 : ai_okA 79 := fun i e he => ai_okM_use ai_okM_22 (m := 79) (a := 0) (n := 22) (by simp) (Nat.zero_le i) (by have := ai_len_lt he; exact Nat.lt_of_lt_of_le this (by decide +kernel)) he
theorem ai_okA_80 : ai_okA 80 := fun i e he => ai_okM_use ai_okM_22 (m := 80) (a := 0) (n := 49) (by simp) (Nat.zero_le i) (by have := ai_len_lt he; exact Nat.lt_of_lt_of_le this (by decide +kernel)) he
theorem ai_okA_81 : ai_okA 81 := fun i e he => ai_okM_use ai_okM_23 (m := 81) (a := 0) (n := 51) (by simp) (Nat.zero_le i) (by have := ai_len_lt he; exact Nat.lt_of_lt_of_le this (by decide +kernel)) he
theorem ai_okA_82 : ai_okA 82 := fun i e he => ai_okM_use ai_okM_23 (m := 82) (a := 0) (n := 36) (by simp) (Nat.zero_le i) (by have := ai_len_lt he; exact Nat.lt_of_lt_of_le this (by decide +kernel)) he
theorem ai_okA_83 : ai_okA 83 := fun i e he => ai_okM_use ai_okM_24 (m := 83) (a := 0) (n := 52) (by simp) (Nat.zero_le i) (by have := ai_len_lt he; exact Nat.lt_of_lt_of_le this (by decide +kernel)) he
theorem ai_okA_84 : ai_okA 84 := fun i e he => ai_okM_use ai_okM_24 (m := 84) (a := 0) (n := 23) (by simp) (Nat.zero_le i) (by have := ai_len_lt he; exact Nat.lt_of_lt_of_le this (by decide +kernel)) he
theorem ai_okA_85 : ai_okA 85 := fun i e he => ai_okM_use ai_okM_24 (m := 85) (a := 0) (n := 14) (by simp) (Nat.zero_le i) (by have := ai_len_lt he; exact Nat.lt_of_lt_of_le this (by decide +kernel)) he
theorem ai_okA_86 : ai_okA 86 := fun i e he => ai_okM_use ai_okM_24 (m := 86) (a := 0) (n := 22) (by simp) (Nat.zero_le i) (by have := ai_len_lt he; exact Nat.lt_of_lt_of_le this (by decide +kernel)) he
theorem ai_okA_87 : ai_okA 87 := fun i e he => ai_okM_use ai_okM_25 (m := 87) (a := 0) (n := 17) (by simp) (Nat.zero_le i) (by have := ai_len_lt he; exact Nat.lt_of_lt_of_le this (by decide +kernel)) he
theorem ai_okA_88 : ai_okA 88 := fun i e he => ai_okM_use ai_okM_25 (m := 88) (a := 0) (n := 11) (by simp) (Nat.zero_le i) (by have := ai_len_lt he; exact Nat.lt_of_lt_of_le this (by decide +kernel)) he
theorem ai_okA_89 : ai_okA 89 := fun i e he => ai_okM_use ai_okM_25 (m := 89) (a := 0) (n := 10) (by simp) (Nat.zero_le i) (by have := ai_len_lt he; exact Nat.lt_of_lt_of_le this (by decide +kernel)) he
theorem ai_okA_90 : ai_okA 90 := fun i e he => ai_okM_use ai_okM_25 (m := 90) (a := 0) (n := 11) (by simp) (Nat.zero_le i) (by have := ai_len_lt he; exact Nat.lt_of_lt_of_le this (by decide +kernel)) he
theorem ai_okA_91 : ai_okA 91 := fun i e he => ai_okM_use ai_okM_25 (m := 91) (a := 0) (n := 25) (by simp) (Nat.zero_le i) (by have := ai_len_lt he; exact Nat.lt_of_lt_of_le this (by decide +kernel)) he
theorem ai_okA_92 : ai_okA 92 := fun i e he => ai_okM_use ai_okM_25 (m := 92) (a := 0) (n := 26) (by simp) (Nat.zero_le i) (by have := ai_len_lt he; exact Nat.lt_of_lt_of_le this (by decide +kernel)) he
theorem ai_okA_93 : ai_okA 93 := fun i e he => ai_okM_use ai_okM_25 (m := 93) (a := 0) (n := 10) (by simp) (Nat.zero_le i) (by have := ai_len_lt he; exact Nat.lt_of_lt_of_le this (by decide +kernel)) he
theorem ai_okA_94 : ai_okA 94 := fun i e he => ai_okM_use ai_okM_25 (m := 94) (a := 0) (n := 5) (by simp) (Nat.zero_le i) (by have := ai_len_lt he; exact Nat.lt_of_lt_of_le this (by decide +kernel)) he
theorem ai_okA_95 : ai_okA 95 := fun i e he => ai_okM_use ai_okM_26 (m := 95) (a := 0) (n := 9) (by simp) (Nat.zero_le i) (by have := ai_len_lt he; exact Nat.lt_of_lt_of_le this (by decide +kernel)) he
theorem ai_okA_96 : ai_okA 96 := fun i e he => ai_okM_use ai_okM_26 (m := 96) (a := 0) (n := 9) (by simp) (Nat.zero_le i) (by have := ai_len_lt he; exact Nat.lt_of_lt_of_le this (by decide +kernel)) he
theorem ai_okA_97 : ai_okA 97 := fun i e he => ai_okM_use ai_okM_26 (m := 97) (a := 0) (n := 9) (by simp) (Nat.zero_le i) (by have := ai_len_lt he; exact Nat.lt_of_lt_of_le this (by decide +kernel)) he
theorem ai_okA_98 : ai_okA 98 := fun i e he => ai_okM_use ai_okM_26 (m := 98) (a := 0) (n := 28) (by simp) (Nat.zero_le i) (by have := ai_len_lt he; exact Nat.lt_of_lt_of_le this (by decide +kernel)) he
theorem ai_okA_99 : ai_okA 99 := fun i e he => ai_okM_use ai_okM_26 (m := 99) (a := 0) (n := 17) (by simp) (Nat.zero_le i) (by have := ai_len_lt he; exact Nat.lt_of_lt_of_le this (by decide +kernel)) he
theorem ai_okA_100 : ai_okA 100 := fun i e he => ai_okM_use ai_okM_26 (m := 100) (a := 0) (n := 35) (by simp) (Nat.zero_le i) (by have := ai_len_lt he; exact Nat.lt_of_lt_of_le this (by decide +kernel)) he
theorem ai_okA_101 : ai_okA 101 := fun i e he => ai_okM_use ai_okM_27 (m := 101) (a := 0) (n := 32) (by simp) (Nat.zero_le i) (by have := ai_len_lt he; exact Nat.lt_of_lt_of_le this (by decide +kernel)) he
theorem ai_okA_102 : ai_okA 102 := fun i e he => ai_okM_use ai_okM_27 (m := 102) (a := 0) (n := 27) (by simp) (Nat.zero_le i) (by have := ai_len_lt he; exact Nat.lt_of_lt_of_le this (by decide +kernel)) he
theorem ai_okA_103 : ai_okA 103 := fun i e he => ai_okM_use ai_okM_27 (m := 103) (a := 0) (n := 28) (by simp) (Nat.zero_le i) (by have := ai_len_lt he; exact Nat.lt_of_lt_of_le this (by decide +kernel)) he
theorem ai_okA_104 : ai_okA 104 := fun i e he => ai_okM_use ai_okM_27 (m := 104) (a := 0) (n := 15) (by simp) (Nat.zero_le i) (by have := ai_len_lt he; exact Nat.lt_of_lt_of_le this (by decide +kernel)) he
theorem ai_okA_105 : ai_okA 105 := fun i e he => ai_okM_use ai_okM_27 (m := 105) (a := 0) (n := 5) (by simp) (Nat.zero_le i) (by have := ai_len_lt he; exact Nat.lt_of_lt_of_le this (by decide +kernel)) he
theorem ai_okA_106 : ai_okA 106 := fun i e he => ai_okM_use ai_okM_27 (m := 106) (a := 0) (n := 13) (by simp) (Nat.zero_le i) (by have := ai_len_lt he; exact Nat.lt_of_lt_of_le this (by decide +kernel)) he
theorem ai_okA_107 : ai_okA 107 := fun i e he => ai_okM_use ai_okM_28 (m := 107) (a := 0) (n := 17) (by simp) (Nat.zero_le i) (by have := ai_len_lt he; exact Nat.lt_of_lt_of_le this (by decide +kernel)) he
theorem ai_okA_108 : ai_okA 108 := fun i e he => ai_okM_use ai_okM_28 (m := 108) (a := 0) (n := 29) (by simp) (Nat.zero_le i) (by have := ai_len_lt he; exact Nat.lt_of_lt_of_le this (by decide +kernel)) he
theorem ai_okA_109 : ai_okA 109 := fun i e he => ai_okM_use ai_okM_28 (m := 109) (a := 0) (n := 49) (by simp) (Nat.zero_le i) (by have := ai_len_lt he; exact Nat.lt_of_lt_of_le this (by decide +kernel)) he
theorem ai_okA_110 : ai_okA 110 := fun i e he => ai_okM_use ai_okM_29 (m := 110) (a := 0) (n := 47) (by simp) (Nat.zero_le i) (by have := ai_len_lt he; exact Nat.lt_of_lt_of_le this (by decide +kernel)) he
theorem ai_okA_111 : ai_okA 111 := fun i e he => ai_okM_use ai_okM_29 (m := 111) (a := 0) (n := 23) (by simp) (Nat.zero_le i) (by have := ai_len_lt he; exact Nat.lt_of_lt_of_le this (by decide +kernel)) he
theorem ai_okA_112 : ai_okA 112 := fun i e he => ai_okM_use ai_okM_29 (m := 112) (a := 0) (n := 28) (by simp) (Nat.zero_le i) (by have := ai_len_lt he; exact Nat.lt_of_lt_of_le this (by decide +kernel)) he
theorem ai_okA_113 : ai_okA 113 := fun i e he => ai_okM_use ai_okM_29 (m := 113) (a := 0) (n := 6) (by simp) (Nat.zero_le i) (by have := ai_len_lt he; exact Nat.lt_of_lt_of_le this (by decide +kernel)) he
theorem ai_okA_114 : ai_okA 114 := fun i e he => ai_okM_use ai_okM_30 (m := 114) (a := 0) (n := 33) (by simp) (Nat.zero_le i) (by have := ai_len_lt he; exact Nat.lt_of_lt_of_le this (by decide +kernel)) he
theorem ai_okA_115 : ai_okA 115 := fun i e he => ai_okM_use ai_okM_30 (m := 115) (a := 0) (n := 31) (by simp) (Nat.zero_le i) (by have := ai_len_lt he; exact Nat.lt_of_lt_of_le this (by decide +kernel)) he
theorem ai_okA_116 : ai_okA 116 := fun i e he => ai_okM_use ai_okM_30 (m := 116) (a := 0) (n := 10) (by simp) (Nat.zero_le i) (by have := ai_len_lt he; exact Nat.lt_of_lt_of_le this (by decide +kernel)) he
theorem ai_okA_117 : ai_okA 117 := fun i e he => ai_okM_use ai_okM_31 (m := 117) (a := 0) (n := 48) (by simp) (Nat.zero_le i) (by have := ai_len_lt he; exact Nat.lt_of_lt_of_le this (by decide +kernel)) he
theorem ai_okA_118 : ai_okA 118 := fun i e he => ai_okM_use ai_okM_31 (m := 118) (a := 0) (n := 42) (by simp) (Nat.zero_le i) (by have := ai_len_lt he; exact Nat.lt_of_lt_of_le this (by decide +kernel)) he
theorem ai_okA_119 : ai_okA 119 := fun i e he => ai_okM_use ai_okM_31 (m := 119) (a := 0) (n := 25) (by simp) (Nat.zero_le i) (by have := ai_len_lt he; exact Nat.lt_of_lt_of_le this (by decide +kernel)) he
theorem ai_okA_120 : ai_okA 120 := fun i e he => ai_okM_use ai_okM_32 (m := 120) (a := 0) (n := 43) (by simp) (Nat.zero_le i) (by have := ai_len_lt he; exact Nat.lt_of_lt_of_le this (by decide +kernel)) he
theorem ai_okA_121 : ai_okA 121 := fun i e he => ai_okM_use ai_okM_32 (m := 121) (a := 0) (n := 39) (by simp) (Nat.zero_le i) (by have := ai_len_lt he; exact Nat.lt_of_lt_of_le this (by decide +kernel)) he
theorem ai_okA_122 : ai_okA 122 := fun i e he => ai_okM_use ai_okM_32 (m := 122) (a := 0) (n := 38) (by simp) (Nat.zero_le i) (by have := ai_len_lt he; exact Nat.lt_of_lt_of_le this (by decide +kernel)) he
theorem ai_okA_123 : ai_okA 123 := fun i e he => ai_okM_use ai_okM_33 (m := 123) (a := 0) (n := 29) (by simp) (Nat.zero_le i) (by have := ai_len_lt he; exact Nat.lt_of_lt_of_le this (by decide +kernel)) he
theorem ai_okA_124 : ai_okA 124 := fun i e he => ai_okM_use ai_okM_33 (m := 124) (a := 0) (n := 11) (by simp) (Nat.zero_le i) (by have := ai_len_lt he; exact Nat.lt_of_lt_of_le this (by decide +kernel)) he
theorem ai_okA_125 : ai_okA 125 := fun i e he => ai_okM_use ai_okM_33 (m := 125) (a := 0) (n := 20) (by simp) (Nat.zero_le i) (by have := ai_len_lt he; exact Nat.lt_of_lt_of_le this (by decide +kernel)) he
theorem ai_okA_126 : ai_okA 126 := fun i e he => ai_okM_use ai_okM_34 (m := 126) (a := 0) (n := 146) (by simp) (Nat.zero_le i) (by have := ai_len_lt he; exact Nat.lt_of_lt_of_le this (by decide +kernel)) he
theorem ai_okA_127 : ai_okA 127 := fun i e he => ai_okM_use ai_okM_35 (m := 127) (a := 0) (n := 3) (by simp) (Nat.zero_le i) (by have := ai_len_lt he; exact Nat.lt_of_lt_of_le this (by decide +kernel)) he
theorem ai_okA_128 : ai_okA 128 := fun i e he => ai_okM_use ai_okM_35 (m := 128) (a := 0) (n := 5) (by simp) (Nat.zero_le i) (by have := ai_len_lt he; exact Nat.lt_of_lt_of_le this (by decide +kernel)) he
theorem ai_okA_129 : ai_okA 129 := fun i e he => ai_okM_use ai_okM_35 (m := 129) (a := 0) (n := 10) (by simp) (Nat.zero_le i) (by have := ai_len_lt he; exact Nat.lt_of_lt_of_le this (by decide +kernel)) he
theorem ai_okA_130 : ai_okA 130 := fun i e he => ai_okM_use ai_okM_35 (m := 130) (a := 0) (n := 37) (by simp) (Nat.zero_le i) (by have := ai_len_lt he; exact Nat.lt_of_lt_of_le this (by decide +kernel)) he
theorem ai_okA_131 : ai_okA 131 := fun i e he => ai_okM_use ai_okM_35 (m := 131) (a := 0) (n := 35) (by simp) (Nat.zero_le i) (by have := ai_len_lt he; exact Nat.lt_of_lt_of_le this (by decide +kernel)) he
theorem ai_okA_132 : ai_okA 132 := fun i e he => ai_okM_use ai_okM_36 (m := 132) (a := 0) (n := 86) (by simp) (Nat.zero_le i) (by have := ai_len_lt he; exact Nat.lt_of_lt_of_le this (by decide +kernel)) he
theorem ai_okA_133 : ai_okA 133 := fun i e he => ai_okM_use ai_okM_36 (m := 133) (a := 0) (n := 23) (by simp) (Nat.zero_le i) (by have := ai_len_lt he; exact Nat.lt_of_lt_of_le this (by decide +kernel)) he
theorem ai_okA_134 : ai_okA 134 := fun i e he => ai_okM_use ai_okM_36 (m := 134) (a := 0) (n := 7) (by simp) (Nat.zero_le i) (by have := ai_len_lt he; exact Nat.lt_of_lt_of_le this (by decide +kernel)) he
theorem ai_okA_135 : ai_okA 135 := fun i e he => ai_okM_use ai_okM_37 (m := 135) (a := 0) (n := 13) (by simp) (Nat.zero_le i) (by have := ai_len_lt he; exact Nat.lt_of_lt_of_le this (by decide +kernel)) he
theorem ai_okA_136 : ai_okA 136 := fun i e he => ai_okM_use ai_okM_37 (m := 136) (a := 0) (n := 19) (by simp) (Nat.zero_le i) (by have := ai_len_lt he; exact Nat.lt_of_lt_of_le this (by decide +kernel)) he
theorem ai_okA_137 : ai_okA 137 := fun i e he => ai_okM_use ai_okM_37 (m := 137) (a := 0) (n := 12) (by simp) (Nat.zero_le i) (by have := ai_len_lt he; exact Nat.lt_of_lt_of_le this (by decide +kernel)) he
theorem ai_okA_138 : ai_okA 138 := fun i e he => ai_okM_use ai_okM_37 (m := 138) (a := 0) (n := 12) (by simp) (Nat.zero_le i) (by have := ai_len_lt he; exact Nat.lt_of_lt_of_le this (by decide +kernel)) he
theorem ai_okA_139 : ai_okA 139 := fun i e he => ai_okM_use ai_okM_37 (m := 139) (a := 0) (n := 11) (by simp) (Nat.zero_le i) (by have := ai_len_lt he; exact Nat.lt_of_lt_of_le this (by decide +kernel)) he
theorem ai_okA_140 : ai_okA 140 := fun i e he => ai_okM_use ai_okM_37 (m := 140) (a := 0) (n := 34) (by simp) (Nat.zero_le i) (by have := ai_len_lt he; exact Nat.lt_of_lt_of_le this (by decide +kernel)) he
theorem ai_okA_141 : ai_okA 141 := fun i e he => ai_okM_use ai_okM_38 (m := 141) (a := 0) (n := 67) (by simp) (Nat.zero_le i) (by have := ai_len_lt he; exact Nat.lt_of_lt_of_le this (by decide +kernel)) he
theorem ai_okA_142 : ai_okA 142 := fun i e he => ai_okM_use ai_okM_38 (m := 142) (a := 0) (n := 41) (by simp) (Nat.zero_le i) (by have := ai_len_lt he; exact Nat.lt_of_lt_of_le this (by decide +kernel)) he
theorem ai_okA_143 : ai_okA 143 := fun i e he => ai_okM_use ai_okM_39 (m := 143) (a := 0) (n := 111) (by simp) (Nat.zero_le i) (by have := ai_len_lt he; exact Nat.lt_of_lt_of_le this (by decide +kernel)) he
theorem ai_okA_144 : ai_okA 144 := fun i e he => ai_okM_use ai_okM_40 (m := 144) (a := 0) (n := 68) (by simp) (Nat.zero_le i) (by have := ai_len_lt he; exact Nat.lt_of_lt_of_le this (by decide +kernel)) he
theorem ai_okA_145 : ai_okA 145 := fun i e he => ai_okM_use ai_okM_41 (m := 145) (a := 0) (n := 84) (by simp) (Nat.zero_le i) (by have := ai_len_lt he; exact Nat.lt_of_lt_of_le this (by decide +kernel)) he
theorem ai_okA_146 : ai_okA 146 := fun i e he => ai_okM_use ai_okM_42 (m := 146) (a := 0) (n := 65) (by simp) (Nat.zero_le i) (by have := ai_len_lt he; exact Nat.lt_of_lt_of_le this (by decide +kernel)) he
theorem ai_okA_147 : ai_okA 147 := fun i e he => ai_okM_use ai_okM_43 (m := 147) (a := 0) (n := 91) (by simp) (Nat.zero_le i) (by have := ai_len_lt he; exact Nat.lt_of_lt_of_le this (by decide +kernel)) he
theorem ai_okA_148 : ai_okA 148 := fun i e he => ai_okM_use ai_okM_44 (m := 148) (a := 0) (n := 138) (by simp) (Nat.zero_le i) (by have := ai_len_lt he; exact Nat.lt_of_lt_of_le this (by decide +kernel)) he
theorem ai_okA_149 : ai_okA 149 := fun i e he => ai_okM_use ai_okM_45 (m := 149) (a := 0) (n := 6) (by simp) (Nat.zero_le i) (by have := ai_len_lt he; exact Nat.lt_of_lt_of_le this (by decide +kernel)) he
theorem ai_okA_150 : ai_okA 150 := fun i e he => ai_okM_use ai_okM_45 (m := 150) (a := 0) (n := 50) (by simp) (Nat.zero_le i) (by have := ai_len_lt he; exact Nat.lt_of_lt_of_le this (by decide +kernel)) he
theorem ai_okA_151 : ai_okA 151 := fun i e he => ai_okM_use ai_okM_45 (m := 151) (a := 0) (n := 48) (by simp) (Nat.zero_le i) (by have := ai_len_lt he; exact Nat.lt_of_lt_of_le this (by decide +kernel)) he
theorem ai_okA_152 : ai_okA 152 := fun i e he => ai_okM_use ai_okM_46 (m := 152) (a := 0) (n := 26) (by simp) (Nat.zero_le i) (by have := ai_len_lt he; exact Nat.lt_of_lt_of_le this (by decide +kernel)) he
theorem ai_okA_153 : ai_okA 153 := fun i e he => ai_okM_use ai_okM_46 (m := 153) (a := 0) (n := 57) (by simp) (Nat.zero_le i) (by have := ai_len_lt he; exact Nat.lt_of_lt_of_le this (by decide +kernel)) he
theorem ai_okA_154 : ai_okA 154 := fun i e he => ai_okM_use ai_okM_47 (m := 154) (a := 0) (n := 58) (by simp) (Nat.zero_le i) (by have := ai_len_lt he; exact Nat.lt_of_lt_of_le this (by decide +kernel)) he
theorem ai_okA_155 : ai_okA 155 := fun i e he => ai_okM_use ai_okM_47 (m := 155) (a := 0) (n := 33) (by simp) (Nat.zero_le i) (by have := ai_len_lt he; exact Nat.lt_of_lt_of_le this (by decide +kernel)) he
theorem ai_okA_156 : ai_okA 156 := fun i e he => ai_okM_use ai_okM_47 (m := 156) (a := 0) (n := 22) (by simp) (Nat.zero_le i) (by have := ai_len_lt he; exact Nat.lt_of_lt_of_le this (by decide +kernel)) he
theorem ai_okA_157 : ai_okA 157 := fun i e he => ai_okM_use ai_okM_48 (m := 157) (a := 0) (n := 26) (by simp) (Nat.zero_le i) (by have := ai_len_lt he; exact Nat.lt_of_lt_of_le this (by decide +kernel)) he
theorem ai_okA_158 : ai_okA 158 := fun i e he => ai_okM_use ai_okM_48 (m := 158) (a := 0) (n := 22) (by simp) (Nat.zero_le i) (by have := ai_len_lt he; exact Nat.lt_of_lt_of_le this (by decide +kernel)) he
theorem ai_okA_159 : ai_okA 159 := fun i e he => ai_okM_use ai_okM_48 (m := 159) (a := 0) (n := 31) (by simp) (Nat.zero_le i) (by have := ai_len_lt he; exact Nat.lt_of_lt_of_le this (by decide +kernel)) he
theorem ai_okA_160 : ai_okA 160 := fun i e he => ai_okM_use ai_okM_48 (m := 160) (a := 0) (n := 25) (by simp) (Nat.zero_le i) (by have := ai_len_lt he; exact Nat.lt_of_lt_of_le this (by decide +kernel)) he
theorem ai_okA_161 : ai_okA 161 := fun i e he => ai_okM_use ai_okM_49 (m := 161) (a := 0) (n := 87) (by simp) (Nat.zero_le i) (by have := ai_len_lt he; exact Nat.lt_of_lt_of_le this (by decide +kernel)) he
theorem ai_okA_162 : ai_okA 162 := fun i e he => ai_okM_use ai_okM_50 (m := 162) (a := 0) (n := 51) (by simp) (Nat.zero_le i) (by have := ai_len_lt he; exact Nat.lt_of_lt_of_le this (by decide +kernel)) he
theorem ai_okA_163 : ai_okA 163 := fun i e he => ai_okM_use ai_okM_51 (m := 163) (a := 0) (n := 126) (by simp) (Nat.zero_le i) (by have := ai_len_lt he; exact Nat.lt_of_lt_of_le this (by decide +kernel)) he
theorem ai_okA_164 : ai_okA 164 := fun i e he => ai_okM_use ai_okM_52 (m := 164) (a := 0) (n := 95) (by simp) (Nat.zero_le i) (by have := ai_len_lt he; exact Nat.lt_of_lt_of_le this (by decide +kernel)) he
theorem ai_okA_165 : ai_okA 165 := fun i e he => ai_okM_use ai_okM_53 (m := 165) (a := 0) (n := 90) (by simp) (Nat.zero_le i) (by have := ai_len_lt he; exact Nat.lt_of_lt_of_le this (by decide +kernel)) he
theorem ai_okA_166 : ai_okA 166 := fun i e he => ai_okM_use ai_okM_53 (m := 166) (a := 0) (n := 27) (by simp) (Nat.zero_le i) (by have := ai_len_lt he; exact Nat.lt_of_lt_of_le this (by decide +kernel)) he
theorem ai_okA_167 : ai_okA 167 := fun i e he => ai_okM_use ai_okM_54 (m := 167) (a := 0) (n := 143) (by simp) (Nat.zero_le i) (by have := ai_len_lt he; exact Nat.lt_of_lt_of_le this (by decide +kernel)) he
theorem ai_okA_168 : ai_okA 168 := fun i e he => ai_okM_use ai_okM_55 (m := 168) (a := 0) (n := 63) (by simp) (Nat.zero_le i) (by have := ai_len_lt he; exact Nat.lt_of_lt_of_le this (by decide +kernel)) he
theorem ai_okA_169 : ai_okA 169 := fun i e he => ai_okM_use ai_okM_55 (m := 169) (a := 0) (n := 24) (by simp) (Nat.zero_le i) (by have := ai_len_lt he; exact Nat.lt_of_lt_of_le this (by decide +kernel)) he
theorem ai_okA_170 : ai_okA 170 := fun i e he => ai_okM_use ai_okM_56 (m := 170) (a := 0) (n := 63) (by simp) (Nat.zero_le i) (by have := ai_len_lt he; exact Nat.lt_of_lt_of_le this (by decide +kernel)) he
theorem ai_okA_171 : ai_okA 171 := fun i e he => ai_okM_use ai_okM_56 (m := 171) (a := 0) (n := 56) (by simp) (Nat.zero_le i) (by have := ai_len_lt he; exact Nat.lt_of_lt_of_le this (by decide +kernel)) he
theorem ai_okA_172 : ai_okA 172 := fun i e he => ai_okM_use ai_okM_57 (m := 172) (a := 0) (n := 71) (by simp) (Nat.zero_le i) (by have := ai_len_lt he; exact Nat.lt_of_lt_of_le this (by decide +kernel)) he
theorem ai_okA_173 : ai_okA 173 := fun i e he => ai_okM_use ai_okM_57 (m := 173) (a := 0) (n := 15) (by simp) (Nat.zero_le i) (by have := ai_len_lt he; exact Nat.lt_of_lt_of_le this (by decide +kernel)) he
theorem ai_okA_174 : ai_okA 174 := fun i e he => ai_okM_use ai_okM_57 (m := 174) (a := 0) (n := 19) (by simp) (Nat.zero_le i) (by have := ai_len_lt he; exact Nat.lt_of_lt_of_le this (by decide +kernel)) he
theorem ai_okA_175 : ai_okA 175 := fun i e he => ai_okM_use ai_okM_58 (m := 175) (a := 0) (n := 40) (by simp) (Nat.zero_le i) (by have := ai_len_lt he; exact Nat.lt_of_lt_of_le this (by decide +kernel)) he
theorem ai_okA_176 : ai_okA 176 := fun i e he => ai_okM_use ai_okM_58 (m := 176) (a := 0) (n := 21) (by simp) (Nat.zero_le i) (by have := ai_len_lt he; exact Nat.lt_of_lt_of_le this (by decide +kernel)) he
theorem ai_okA_177 : ai_okA 177 := fun i e he => ai_okM_use ai_okM_58 (m := 177) (a := 0) (n := 18) (by simp) (Nat.zero_le i) (by have := ai_len_lt he; exact Nat.lt_of_lt_of_le this (by decide +kernel)) he
theorem ai_okA_178 : ai_okA 178 := fun i e he => ai_okM_use ai_okM_59 (m := 178) (a := 0) (n := 73) (by simp) (Nat.zero_le i) (by have := ai_len_lt he; exact Nat.lt_of_lt_of_le this (by decide +kernel)) he
theorem ai_okA_179 : ai_okA 179 := fun i e he => ai_okM_use ai_okM_59 (m := 179) (a := 0) (n := 38) (by simp) (Nat.zero_le i) (by have := ai_len_lt he; exact Nat.lt_of_lt_of_le this (by decide +kernel)) he
theorem ai_okA_180 : ai_okA 180 := fun i e he => ai_okM_use ai_okM_60 (m := 180) (a := 0) (n := 39) (by simp) (Nat.zero_le i) (by have := ai_len_lt he; exact Nat.lt_of_lt_of_le this (by decide +kernel)) he
theorem ai_okA_181 : ai_okA 181 := fun i e he => ai_okM_use ai_okM_60 (m := 181) (a := 0) (n := 66) (by simp) (Nat.zero_le i) (by have := ai_len_lt he; exact Nat.lt_of_lt_of_le this (by decide +kernel)) he
theorem ai_okA_182 : ai_okA 182 := fun i e he => ai_okM_use ai_okM_61 (m := 182) (a := 0) (n := 104) (by simp) (Nat.zero_le i) (by have := ai_len_lt he; exact Nat.lt_of_lt_of_le this (by decide +kernel)) he
theorem ai_okA_183 : ai_okA 183 := fun i e he => ai_okM_use ai_okM_62 (m := 183) (a := 0) (n := 41) (by simp) (Nat.zero_le i) (by have := ai_len_lt he; exact Nat.lt_of_lt_of_le this (by decide +kernel)) he
theorem ai_okA_184 : ai_okA 184 := fun i e he => ai_okM_use ai_okM_62 (m := 184) (a := 0) (n := 38) (by simp) (Nat.zero_le i) (by have := ai_len_lt he; exact Nat.lt_of_lt_of_le this (by decide +kernel)) he
theorem ai_okA_185 : ai_okA 185 := fun i e he => ai_okM_use ai_okM_62 (m := 185) (a := 0) (n := 13) (by simp) (Nat.zero_le i) (by have := ai_len_lt he; exact Nat.lt_of_lt_of_le this (by decide +kernel)) he
theorem ai_okA_186 : ai_okA 186 := fun i e he => ai_okM_use ai_okM_63 (m := 186) (a := 0) (n := 35) (by simp) (Nat.zero_le i) (by have := ai_len_lt he; exact Nat.lt_of_lt_of_le this (by decide +kernel)) he
theorem ai_okA_187 : ai_okA 187 := fun i e he => ai_okM_use ai_okM_63 (m := 187) (a := 0) (n := 80) (by simp) (Nat.zero_le i) (by have := ai_len_lt he; exact Nat.lt_of_lt_of_le this (by decide +kernel)) he
theorem ai_okA_188 : ai_okA 188 := fun i e he => ai_okM_use ai_okM_64 (m := 188) (a := 0) (n := 70) (by simp) (Nat.zero_le i) (by have := ai_len_lt he; exact Nat.lt_of_lt_of_le this (by decide +kernel)) he
theorem ai_okA_189 : ai_okA 189 := fun i e he => ai_okM_use ai_okM_65 (m := 189) (a := 0) (n := 122) (by simp) (Nat.zero_le i) (by have := ai_len_lt he; exact Nat.lt_of_lt_of_le this (by decide +kernel)) he
theorem ai_okA_190 : ai_okA 190 := fun i e he => ai_okM_use ai_okM_66 (m := 190) (a := 0) (n := 22) (by simp) (Nat.zero_le i) (by have := ai_len_lt he; exact Nat.lt_of_lt_of_le this (by decide +kernel)) he
theorem ai_okA_191 : ai_okA 191 := fun i e he => ai_okM_use ai_okM_66 (m := 191) (a := 0) (n := 12) (by simp) (Nat.zero_le i) (by have := ai_len_lt he; exact Nat.lt_of_lt_of_le this (by decide +kernel)) he
theorem ai_okA_192 : ai_okA 192 := fun i e he => ai_okM_use ai_okM_66 (m := 192) (a := 0) (n := 19) (by simp) (Nat.zero_le i) (by have := ai_len_lt he; exact Nat.lt_of_lt_of_le this (by decide +kernel)) he
theorem ai_okA_193 : ai_okA 193 := fun i e he => ai_okM_use ai_okM_66 (m := 193) (a := 0) (n := 12) (by simp) (Nat.zero_le i) (by have := ai_len_lt he; exact Nat.lt_of_lt_of_le this (by decide +kernel)) he
theorem ai_okA_194 : ai_okA 194 := fun i e he => ai_okM_use ai_okM_66 (m := 194) (a := 0) (n := 16) (by simp) (Nat.zero_le i) (by have := ai_len_lt he; exact Nat.lt_of_lt_of_le this (by decide +kernel)) he
theorem ai_okA_195 : ai_okA 195 := fun i e he => ai_okM_use ai_okM_66 (m := 195) (a := 0) (n := 19) (by simp) (Nat.zero_le i) (by have := ai_len_lt he; exact Nat.lt_of_lt_of_le this (by decide +kernel)) he
theorem ai_okA_196 : ai_okA 196 := fun i e he => ai_okM_use ai_okM_66 (m := 196) (a := 0) (n := 13) (by simp) (Nat.zero_le i) (by have := ai_len_lt he; exact Nat.lt_of_lt_of_le this (by decide +kernel)) he
theorem ai_okA_197 : ai_okA 197 := fun i e he => ai_okM_use ai_okM_67 (m := 197) (a := 0) (n := 14) (by simp) (Nat.zero_le i) (by have := ai_len_lt he; exact Nat.lt_of_lt_of_le this (by decide +kernel)) he
theorem ai_okA_198 : ai_okA 198 := fun i e he => ai_okM_use ai_okM_67 (m := 198) (a := 0) (n := 18) (by simp) (Nat.zero_le i) (by have := ai_len_lt he; exact Nat.lt_of_lt_of_le this (by decide +kernel)) he
theorem ai_okA_199 : ai_okA 199 := fun i e he => ai_okM_use ai_okM_67 (m := 199) (a := 0) (n := 12) (by simp) (Nat.zero_le i) (by have := ai_len_lt he; exact Nat.lt_of_lt_of_le this (by decide +kernel)) he
theorem ai_okA_200 : ai_okA 200 := fun i e he => ai_okM_use ai_okM_67 (m := 200) (a := 0) (n := 12) (by simp) (Nat.zero_le i) (by have := ai_len_lt he; exact Nat.lt_of_lt_of_le this (by decide +kernel)) he
theorem ai_okA_201 : ai_okA 201 := fun i e he => ai_okM_use ai_okM_67 (m := 201) (a := 0) (n := 12) (by simp) (Nat.zero_le i) (by have := ai_len_lt he; exact Nat.lt_of_lt_of_le this (by decide +kernel)) he
theorem ai_okA_202 : ai_okA 202 := fun i e he => ai_okM_use ai_okM_67 (m := 202) (a := 0) (n := 17) (by simp) (Nat.zero_le i) (by have := ai_len_lt he; exact Nat.lt_of_lt_of_le this (by decide +kernel)) he
theorem ai_okA_203 : ai_okA 203 := fun i e he => ai_okM_use ai_okM_67 (m := 203) (a := 0) (n := 17) (by simp) (Nat.zero_le i) (by have := ai_len_lt he; exact Nat.lt_of_lt_of_le this (by decide +kernel)) he
theorem ai_okA_204 : ai_okA 204 := fun i e he => ai_okM_use ai_okM_67 (m := 204) (a := 0) (n := 16) (by simp) (Nat.zero_le i) (by have := ai_len_lt he; exact Nat.lt_of_lt_of_le this (by decide +kernel)) he
theorem ai_okA_205 : ai_okA 205 := fun i e he => ai_okM_use ai_okM_68 (m := 205) (a := 0) (n := 13) (by simp) (Nat.zero_le i) (by have := ai_len_lt he; exact Nat.lt_of_lt_of_le this (by decide +kernel)) he
theorem ai_okA_206 : ai_okA 206 := by
  intro i e he
  have hl : i < 676 := Nat.lt_of_lt_of_le (ai_len_lt he) (by decide +kernel)
  by_cases h69 : i < 60
  · exact ai_okM_use ai_okM_69 (m := 206) (a := 0) (n := 60) (by simp) (by omega) (by omega) he
  by_cases h70 : i < 120
  · exact ai_okM_use ai_okM_70 (m := 206) (a := 60) (n := 60) (by simp) (by omega) (by omega) he
  by_cases h71 : i < 180
  · exact ai_okM_use ai_okM_71 (m := 206) (a := 120) (n := 60) (by simp) (by omega) (by omega) he
  by_cases h72 : i < 240
  · exact ai_okM_use ai_okM_72 (m := 206) (a := 180) (n := 60) (by simp) (by omega) (by omega) he
  by_cases h73 : i < 300
  · exact ai_okM_use ai_okM_73 (m := 206) (a := 240) (n := 60) (by simp) (by omega) (by omega) he
  by_cases h74 : i < 360
  · exact ai_okM_use ai_okM_74 (m := 206) (a := 300) (n := 60) (by simp) (by omega) (by omega) he
  by_cases h75 : i < 420
  · exact ai_okM_use ai_okM_75 (m := 206) (a := 360) (n := 60) (by simp) (by omega) (by omega) he
  by_cases h76 : i < 480
  · exact ai_okM_use ai_okM_76 (m := 206) (a := 420) (n := 60) (by simp) (by omega) (by omega) he
  by_cases h77 : i < 540
  · exact ai_okM_use ai_okM_77 (m := 206) (a := 480) (n := 60) (by simp) (by omega) (by omega) he
  by_cases h78 : i < 600
  · exact ai_okM_use ai_okM_78 (m := 206) (a := 540) (n := 60) (by simp) (by omega) (by omega) he
  by_cases h79 : i < 660
  · exact ai_okM_use ai_okM_79 (m := 206) (a := 600) (n := 60) (by simp) (by omega) (by omega) he
  by_cases h80 : i < 676
  · exact ai_okM_use ai_okM_80 (m := 206) (a := 660) (n := 16) (by simp) (by omega) (by omega) he
  omega
theorem ai_ops_lt {m i : Nat} {e : ai_E} (h : ai_nth (ai_ops m) i = some e) : m < 207 := by
  by_cases hm : m < 207
  · exact hm
  · exfalso
    have h1 : ai_ops m = [] := by
      unfold ai_ops ai_gd
      rw [ai_nth_eq, List.getElem?_eq_none_iff.mpr (by show 207 ≤ m; omega)]
    rw [h1] at h
    simp [ai_nth] at h
theorem ai_okA_all {m : Nat} (h : m < 207) : ai_okA m := by
  by_cases c0_207 : m < 103
  · by_cases c0_103 : m < 51
    · by_cases c0_51 : m < 25
      · by_cases c0_25 : m < 12
        · by_cases c0_12 : m < 6
          · by_cases c0_6 : m < 3
            · by_cases c0_3 : m < 1
              · have e : m = 0 := by omega
                subst e
                exact ai_okA_0
              · by_cases c1_3 : m < 2
                · have e : m = 1 := by omega
                  subst e
                  exact ai_okA_1
                · have e : m = 2 := by omega
                  subst e
                  exact ai_okA_2
            · by_cases c3_6 : m < 4
              · have e : m = 3 := by omega
                subst e
                exact ai_okA_3
              · by_cases c4_6 : m < 5
                · have e : m = 4 := by omega
                  subst e
                  exact ai_okA_4
                · have e : m = 5 := by omega
                  subst e
                  exact ai_okA_5
          · by_cases c6_12 : m < 9
            · by_cases c6_9 : m < 7
              · have e : m = 6 := by omega
                subst e
                exact ai_okA_6
              · by_cases c7_9 : m < 8
                · have e : m = 7 := by omega
                  subst e
                  exact ai_okA_7
                · have e : m = 8 := by omega
                  subst e
                  exact ai_okA_8
            · by_cases c9_12 : m < 10
              · have e : m = 9 := by omega
                subst e
                exact ai_okA_9
              · by_cases c10_12 : m < 11
                · have e : m = 10 := by omega
                  subst e
                  exact ai_okA_10
                · have e : m = 11 := by omega
                  subst e
                  exact ai_okA_11
        · by_cases c12_25 : m < 18
          · by_cases c12_18 : m < 15
            · by_cases c12_15 : m < 13
              · have e : m = 12 := by omega
                subst e
                exact ai_okA_12
              · by_cases c13_15 : m < 14
                · have e : m = 13 := by omega
                  subst e
                  exact ai_okA_13
                · have e : m = 14 := by omega
                  subst e
                  exact ai_okA_14
            · by_cases c15_18 : m < 16
              · have e : m = 15 := by omega
                subst e
                exact ai_okA_15
              · by_cases c16_18 : m < 17
                · have e : m = 16 := by omega
                  subst e
                  exact ai_okA_16
                · have e : m = 17 := by omega
                  subst e
                  exact ai_okA_17
          · by_cases c18_25 : m < 21
            · by_cases c18_21 : m < 19
              · have e : m = 18 := by omega
                subst e
                exact ai_okA_18
              · by_cases c19_21 : m < 20
                · have e : m = 19 := by omega
                  subst e
                  exact ai_okA_19
                · have e : m = 20 := by omega
                  subst e
                  exact ai_okA_20
            · by_cases c21_25 : m < 23
              · by_cases c21_23 : m < 22
                · have e : m = 21 := by omega
                  subst e
                  exact ai_okA_21
                · have e : m = 22 := by omega
                  subst e
                  exact ai_okA_22
              · by_cases c23_25 : m < 24
                · have e : m = 23 := by omega
                  subst e
                  exact ai_okA_23
                · have e : m = 24 := by omega
                  subst e
                  exact ai_okA_24
      · by_cases c25_51 : m < 38
        · by_cases c25_38 : m < 31
          · by_cases c25_31 : m < 28
            · by_cases c25_28 : m < 26
              · have e : m = 25 := by omega
                subst e
                exact ai_okA_25
              · by_cases c26_28 : m < 27
                · have e : m = 26 := by omega
                  subst e
                  exact ai_okA_26
                · have e : m = 27 := by omega
                  subst e
                  exact ai_okA_27
            · by_cases c28_31 : m < 29
              · have e : m = 28 := by omega
                subst e
                exact ai_okA_28
              · by_cases c29_31 : m < 30
                · have e : m = 29 := by omega
                  subst e
                  exact ai_okA_29
                · have e : m = 30 := by omega
                  subst e
                  exact ai_okA_30
          · by_cases c31_38 : m < 34
            · by_cases c31_34 : m < 32
              · have e : m = 31 := by omega
                subst e
                exact ai_okA_31
              · by_cases c32_34 : m < 33
                · have e : m = 32 := by omega
                  subst e
                  exact ai_okA_32
                · have e : m = 33 := by omega
                  subst e
                  exact ai_okA_33
            · by_cases c34_38 : m < 36
              · by_cases c34_36 : m < 35
                · have e : m = 34 := by omega
                  subst e
                  exact ai_okA_34
                · have e : m = 35 := by omega
                  subst e
                  exact ai_okA_35
              · by_cases c36_38 : m < 37
                · have e : m = 36 := by omega
                  subst e
                  exact ai_okA_36
                · have e : m = 37 := by omega
                  subst e
                  exact ai_okA_37
        · by_cases c38_51 : m < 44
          · by_cases c38_44 : m < 41
            · by_cases c38_41 : m < 39
              · have e : m = 38 := by omega
                subst e
                exact ai_okA_38
              · by_cases c39_41 : m < 40
                · have e : m = 39 := by omega
                  subst e
                  exact ai_okA_39
                · have e : m = 40 := by omega
                  subst e
                  exact ai_okA_40
            · by_cases c41_44 : m < 42
              · have e : m = 41 := by omega
                subst e
                exact ai_okA_41
              · by_cases c42_44 : m < 43
                · have e : m = 42 := by omega
                  subst e
                  exact ai_okA_42
                · have e : m = 43 := by omega
                  subst e
                  exact ai_okA_43
          · by_cases c44_51 : m < 47
            · by_cases c44_47 : m < 45
              · have e : m = 44 := by omega
                subst e
                exact ai_okA_44
              · by_cases c45_47 : m < 46
                · have e : m = 45 := by omega
                  subst e
                  exact ai_okA_45
                · have e : m = 46 := by omega
                  subst e
                  exact ai_okA_46
            · by_cases c47_51 : m < 49
              · by_cases c47_49 : m < 48
                · have e : m = 47 := by omega
                  subst e
                  exact ai_okA_47
                · have e : m = 48 := by omega
                  subst e
                  exact ai_okA_48
              · by_cases c49_51 : m < 50
                · have e : m = 49 := by omega
                  subst e
                  exact ai_okA_49
                · have e : m = 50 := by omega
                  subst e
                  exact ai_okA_50
    · by_cases c51_103 : m < 77
      · by_cases c51_77 : m < 64
        · by_cases c51_64 : m < 57
          · by_cases c51_57 : m < 54
            · by_cases c51_54 : m < 52
              · have e : m = 51 := by omega
                subst e
                exact ai_okA_51
              · by_cases c52_54 : m < 53
                · have e : m = 52 := by omega
                  subst e
                  exact ai_okA_52
                · have e : m = 53 := by omega
                  subst e
                  exact ai_okA_53
            · by_cases c54_57 : m < 55
              · have e : m = 54 := by omega
                subst e
                exact ai_okA_54
              · by_cases c55_57 : m < 56
                · have e : m = 55 := by omega
                  subst e
                  exact ai_okA_55
                · have e : m = 56 := by omega
                  subst e
                  exact ai_okA_56
          · by_cases c57_64 : m < 60
            · by_cases c57_60 : m < 58
              · have e : m = 57 := by omega
                subst e
                exact ai_okA_57
              · by_cases c58_60 : m < 59
                · have e : m = 58 := by omega
                  subst e
                  exact ai_okA_58
                · have e : m = 59 := by omega
                  subst e
                  exact ai_okA_59
            · by_cases c60_64 : m < 62
              · by_cases c60_62 : m < 61
                · have e : m = 60 := by omega
                  subst e
                  exact ai_okA_60
                · have e : m = 61 := by omega
                  subst e
                  exact ai_okA_61
              · by_cases c62_64 : m < 63
                · have e : m = 62 := by omega
                  subst e
                  exact ai_okA_62
                · have e : m = 63 := by omega
                  subst e
                  exact ai_okA_63
        · by_cases c64_77 : m < 70
          · by_cases c64_70 : m < 67
            · by_cases c64_67 : m < 65
              · have e : m = 64 := by omega
                subst e
                exact ai_okA_64
              · by_cases c65_67 : m < 66
                · have e : m = 65 := by omega
                  subst e
                  exact ai_okA_65
                · have e : m = 66 := by omega
                  subst e
                  exact ai_okA_66
            · by_cases c67_70 : m < 68
              · have e : m = 67 := by omega
                subst e
                exact ai_okA_67
              · by_cases c68_70 : m < 69
                · have e : m = 68 := by omega
                  subst e
                  exact ai_okA_68
                · have e : m = 69 := by omega
                  subst e
                  exact ai_okA_69
          · by_cases c70_77 : m < 73
            · by_cases c70_73 : m < 71
              · have e : m = 70 := by omega
                subst e
                exact ai_okA_70
              · by_cases c71_73 : m < 72
                · have e : m = 71 := by omega
                  subst e
                  exact ai_okA_71
                · have e : m = 72 := by omega
                  subst e
                  exact ai_okA_72
            · by_cases c73_77 : m < 75
              · by_cases c73_75 : m < 74
                · have e : m = 73 := by omega
                  subst e
                  exact ai_okA_73
                · have e : m = 74 := by omega
                  subst e
                  exact ai_okA_74
              · by_cases c75_77 : m < 76
                · have e : m = 75 := by omega
                  subst e
                  exact ai_okA_75
                · have e : m = 76 := by omega
                  subst e
                  exact ai_okA_76
      · by_cases c77_103 : m < 90
        · by_cases c77_90 : m < 83
          · by_cases c77_83 : m < 80
            · by_cases c77_80 : m < 78
              · have e : m = 77 := by omega
                subst e
                exact ai_okA_77
              · by_cases c78_80 : m < 79
                · have e : m = 78 := by omega
                  subst e
                  exact ai_okA_78
                · have e : m = 79 := by omega
                  subst e
                  exact ai_okA_79
            · by_cases c80_83 : m < 81
              · have e : m = 80 := by omega
                subst e
                exact ai_okA_80
              · by_cases c81_83 : m < 82
                · have e : m = 81 := by omega
                  subst e
                  exact ai_okA_81
                · have e : m = 82 := by omega
                  subst e
                  exact ai_okA_82
          · by_cases c83_90 : m < 86
            · by_cases c83_86 : m < 84
              · have e : m = 83 := by omega
                subst e
                exact ai_okA_83
              · by_cases c84_86 : m < 85
                · have e : m = 84 := by omega
                  subst e
                  exact ai_okA_84
                · have e : m = 85 := by omega
                  subst e
                  exact ai_okA_85
            · by_cases c86_90 : m < 88
              · by_cases c86_88 : m < 87
                · have e : m = 86 := by omega
                  subst e
                  exact ai_okA_86
                · have e : m = 87 := by omega
                  subst e
                  exact ai_okA_87
              · by_cases c88_90 : m < 89
                · have e : m = 88 := by omega
                  subst e
                  exact ai_okA_88
                · have e : m = 89 := by omega
                  subst e
                  exact ai_okA_89
        · by_cases c90_103 : m < 96
          · by_cases c90_96 : m < 93
            · by_cases c90_93 : m < 91
              · have e : m = 90 := by omega
                subst e
                exact ai_okA_90
              · by_cases c91_93 : m < 92
                · have e : m = 91 := by omega
                  subst e
                  exact ai_okA_91
                · have e : m = 92 := by omega
                  subst e
                  exact ai_okA_92
            · by_cases c93_96 : m < 94
              · have e : m = 93 := by omega
                subst e
                exact ai_okA_93
              · by_cases c94_96 : m < 95
                · have e : m = 94 := by omega
                  subst e
                  exact ai_okA_94
                · have e : m = 95 := by omega
                  subst e
                  exact ai_okA_95
          · by_cases c96_103 : m < 99
            · by_cases c96_99 : m < 97
              · have e : m = 96 := by omega
                subst e
                exact ai_okA_96
              · by_cases c97_99 : m < 98
                · have e : m = 97 := by omega
                  subst e
                  exact ai_okA_97
                · have e : m = 98 := by omega
                  subst e
                  exact ai_okA_98
            · by_cases c99_103 : m < 101
              · by_cases c99_101 : m < 100
                · have e : m = 99 := by omega
                  subst e
                  exact ai_okA_99
                · have e : m = 100 := by omega
                  subst e
                  exact ai_okA_100
              · by_cases c101_103 : m < 102
                · have e : m = 101 := by omega
                  subst e
                  exact ai_okA_101
                · have e : m = 102 := by omega
                  subst e
                  exact ai_okA_102
  · by_cases c103_207 : m < 155
    · by_cases c103_155 : m < 129
      · by_cases c103_129 : m < 116
        · by_cases c103_116 : m < 109
          · by_cases c103_109 : m < 106
            · by_cases c103_106 : m < 104
              · have e : m = 103 := by omega
                subst e
                exact ai_okA_103
              · by_cases c104_106 : m < 105
                · have e : m = 104 := by omega
                  subst e
                  exact ai_okA_104
                · have e : m = 105 := by omega
                  subst e
                  exact ai_okA_105
            · by_cases c106_109 : m < 107
              · have e : m = 106 := by omega
                subst e
                exact ai_okA_106
              · by_cases c107_109 : m < 108
                · have e : m = 107 := by omega
                  subst e
                  exact ai_okA_107
                · have e : m = 108 := by omega
                  subst e
                  exact ai_okA_108
          · by_cases c109_116 : m < 112
            · by_cases c109_112 : m < 110
              · have e : m = 109 := by omega
                subst e
                exact ai_okA_109
              · by_cases c110_112 : m < 111
                · have e : m = 110 := by omega
                  subst e
                  exact ai_okA_110
                · have e : m = 111 := by omega
                  subst e
                  exact ai_okA_111
            · by_cases c112_116 : m < 114
              · by_cases c112_114 : m < 113
                · have e : m = 112 := by omega
                  subst e
                  exact ai_okA_112
                · have e : m = 113 := by omega
                  subst e
                  exact ai_okA_113
              · by_cases c114_116 : m < 115
                · have e : m = 114 := by omega
                  subst e
                  exact ai_okA_114
                · have e : m = 115 := by omega
                  subst e
                  exact ai_okA_115
        · by_cases c116_129 : m < 122
          · by_cases c116_122 : m < 119
            · by_cases c116_119 : m < 117
              · have e : m = 116 := by omega
                subst e
                exact ai_okA_116
              · by_cases c117_119 : m < 118
                · have e : m = 117 := by omega
                  subst e
                  exact ai_okA_117
                · have e : m = 118 := by omega
                  subst e
                  exact ai_okA_118
            · by_cases c119_122 : m < 120
              · have e : m = 119 := by omega
                subst e
                exact ai_okA_119
              · by_cases c120_122 : m < 121
                · have e : m = 120 := by omega
                  subst e
                  exact ai_okA_120
                · have e : m = 121 := by omega
                  subst e
                  exact ai_okA_121
          · by_cases c122_129 : m < 125
            · by_cases c122_125 : m < 123
              · have e : m = 122 := by omega
                subst e
                exact ai_okA_122
              · by_cases c123_125 : m < 124
                · have e : m = 123 := by omega
                  subst e
                  exact ai_okA_123
                · have e : m = 124 := by omega
                  subst e
                  exact ai_okA_124
            · by_cases c125_129 : m < 127
              · by_cases c125_127 : m < 126
                · have e : m = 125 := by omega
                  subst e
                  exact ai_okA_125
                · have e : m = 126 := by omega
                  subst e
                  exact ai_okA_126
              · by_cases c127_129 : m < 128
                · have e : m = 127 := by omega
                  subst e
                  exact ai_okA_127
                · have e : m = 128 := by omega
                  subst e
                  exact ai_okA_128
      · by_cases c129_155 : m < 142
        · by_cases c129_142 : m < 135
          · by_cases c129_135 : m < 132
            · by_cases c129_132 : m < 130
              · have e : m = 129 := by omega
                subst e
                exact ai_okA_129
              · by_cases c130_132 : m < 131
                · have e : m = 130 := by omega
                  subst e
                  exact ai_okA_130
                · have e : m = 131 := by omega
                  subst e
                  exact ai_okA_131
            · by_cases c132_135 : m < 133
              · have e : m = 132 := by omega
                subst e
                exact ai_okA_132
              · by_cases c133_135 : m < 134
                · have e : m = 133 := by omega
                  subst e
                  exact ai_okA_133
                · have e : m = 134 := by omega
                  subst e
                  exact ai_okA_134
          · by_cases c135_142 : m < 138
            · by_cases c135_138 : m < 136
              · have e : m = 135 := by omega
                subst e
                exact ai_okA_135
              · by_cases c136_138 : m < 137
                · have e : m = 136 := by omega
                  subst e
                  exact ai_okA_136
                · have e : m = 137 := by omega
                  subst e
                  exact ai_okA_137
            · by_cases c138_142 : m < 140
              · by_cases c138_140 : m < 139
                · have e : m = 138 := by omega
                  subst e
                  exact ai_okA_138
                · have e : m = 139 := by omega
                  subst e
                  exact ai_okA_139
              · by_cases c140_142 : m < 141
                · have e : m = 140 := by omega
                  subst e
                  exact ai_okA_140
                · have e : m = 141 := by omega
                  subst e
                  exact ai_okA_141
        · by_cases c142_155 : m < 148
          · by_cases c142_148 : m < 145
            · by_cases c142_145 : m < 143
              · have e : m = 142 := by omega
                subst e
                exact ai_okA_142
              · by_cases c143_145 : m < 144
                · have e : m = 143 := by omega
                  subst e
                  exact ai_okA_143
                · have e : m = 144 := by omega
                  subst e
                  exact ai_okA_144
            · by_cases c145_148 : m < 146
              · have e : m = 145 := by omega
                subst e
                exact ai_okA_145
              · by_cases c146_148 : m < 147
                · have e : m = 146 := by omega
                  subst e
                  exact ai_okA_146
                · have e : m = 147 := by omega
                  subst e
                  exact ai_okA_147
          · by_cases c148_155 : m < 151
            · by_cases c148_151 : m < 149
              · have e : m = 148 := by omega
                subst e
                exact ai_okA_148
              · by_cases c149_151 : m < 150
                · have e : m = 149 := by omega
                  subst e
                  exact ai_okA_149
                · have e : m = 150 := by omega
                  subst e
                  exact ai_okA_150
            · by_cases c151_155 : m < 153
              · by_cases c151_153 : m < 152
                · have e : m = 151 := by omega
                  subst e
                  exact ai_okA_151
                · have e : m = 152 := by omega
                  subst e
                  exact ai_okA_152
              · by_cases c153_155 : m < 154
                · have e : m = 153 := by omega
                  subst e
                  exact ai_okA_153
                · have e : m = 154 := by omega
                  subst e
                  exact ai_okA_154
    · by_cases c155_207 : m < 181
      · by_cases c155_181 : m < 168
        · by_cases c155_168 : m < 161
          · by_cases c155_161 : m < 158
            · by_cases c155_158 : m < 156
              · have e : m = 155 := by omega
                subst e
                exact ai_okA_155
              · by_cases c156_158 : m < 157
                · have e : m = 156 := by omega
                  subst e
                  exact ai_okA_156
                · have e : m = 157 := by omega
                  subst e
                  exact ai_okA_157
            · by_cases c158_161 : m < 159
              · have e : m = 158 := by omega
                subst e
                exact ai_okA_158
              · by_cases c159_161 : m < 160
                · have e : m = 159 := by omega
                  subst e
                  exact ai_okA_159
                · have e : m = 160 := by omega
                  subst e
                  exact ai_okA_160
          · by_cases c161_168 : m < 164
            · by_cases c161_164 : m < 162
              · have e : m = 161 := by omega
                subst e
                exact ai_okA_161
              · by_cases c162_164 : m < 163
                · have e : m = 162 := by omega
                  subst e
                  exact ai_okA_162
                · have e : m = 163 := by omega
                  subst e
                  exact ai_okA_163
            · by_cases c164_168 : m < 166
              · by_cases c164_166 : m < 165
                · have e : m = 164 := by omega
                  subst e
                  exact ai_okA_164
                · have e : m = 165 := by omega
                  subst e
                  exact ai_okA_165
              · by_cases c166_168 : m < 167
                · have e : m = 166 := by omega
                  subst e
                  exact ai_okA_166
                · have e : m = 167 := by omega
                  subst e
                  exact ai_okA_167
        · by_cases c168_181 : m < 174
          · by_cases c168_174 : m < 171
            · by_cases c168_171 : m < 169
              · have e : m = 168 := by omega
                subst e
                exact ai_okA_168
              · by_cases c169_171 : m < 170
                · have e : m = 169 := by omega
                  subst e
                  exact ai_okA_169
                · have e : m = 170 := by omega
                  subst e
                  exact ai_okA_170
            · by_cases c171_174 : m < 172
              · have e : m = 171 := by omega
                subst e
                exact ai_okA_171
              · by_cases c172_174 : m < 173
                · have e : m = 172 := by omega
                  subst e
                  exact ai_okA_172
                · have e : m = 173 := by omega
                  subst e
                  exact ai_okA_173
          · by_cases c174_181 : m < 177
            · by_cases c174_177 : m < 175
              · have e : m = 174 := by omega
                subst e
                exact ai_okA_174
              · by_cases c175_177 : m < 176
                · have e : m = 175 := by omega
                  subst e
                  exact ai_okA_175
                · have e : m = 176 := by omega
                  subst e
                  exact ai_okA_176
            · by_cases c177_181 : m < 179
              · by_cases c177_179 : m < 178
                · have e : m = 177 := by omega
                  subst e
                  exact ai_okA_177
                · have e : m = 178 := by omega
                  subst e
                  exact ai_okA_178
              · by_cases c179_181 : m < 180
                · have e : m = 179 := by omega
                  subst e
                  exact ai_okA_179
                · have e : m = 180 := by omega
                  subst e
                  exact ai_okA_180
      · by_cases c181_207 : m < 194
        · by_cases c181_194 : m < 187
          · by_cases c181_187 : m < 184
            · by_cases c181_184 : m < 182
              · have e : m = 181 := by omega
                subst e
                exact ai_okA_181
              · by_cases c182_184 : m < 183
                · have e : m = 182 := by omega
                  subst e
                  exact ai_okA_182
                · have e : m = 183 := by omega
                  subst e
                  exact ai_okA_183
            · by_cases c184_187 : m < 185
              · have e : m = 184 := by omega
                subst e
                exact ai_okA_184
              · by_cases c185_187 : m < 186
                · have e : m = 185 := by omega
                  subst e
                  exact ai_okA_185
                · have e : m = 186 := by omega
                  subst e
                  exact ai_okA_186
          · by_cases c187_194 : m < 190
            · by_cases c187_190 : m < 188
              · have e : m = 187 := by omega
                subst e
                exact ai_okA_187
              · by_cases c188_190 : m < 189
                · have e : m = 188 := by omega
                  subst e
                  exact ai_okA_188
                · have e : m = 189 := by omega
                  subst e
                  exact ai_okA_189
            · by_cases c190_194 : m < 192
              · by_cases c190_192 : m < 191
                · have e : m = 190 := by omega
                  subst e
                  exact ai_okA_190
                · have e : m = 191 := by omega
                  subst e
                  exact ai_okA_191
              · by_cases c192_194 : m < 193
                · have e : m = 192 := by omega
                  subst e
                  exact ai_okA_192
                · have e : m = 193 := by omega
                  subst e
                  exact ai_okA_193
        · by_cases c194_207 : m < 200
          · by_cases c194_200 : m < 197
            · by_cases c194_197 : m < 195
              · have e : m = 194 := by omega
                subst e
                exact ai_okA_194
              · by_cases c195_197 : m < 196
                · have e : m = 195 := by omega
                  subst e
                  exact ai_okA_195
                · have e : m = 196 := by omega
                  subst e
                  exact ai_okA_196
            · by_cases c197_200 : m < 198
              · have e : m = 197 := by omega
                subst e
                exact ai_okA_197
              · by_cases c198_200 : m < 199
                · have e : m = 198 := by omega
                  subst e
                  exact ai_okA_198
                · have e : m = 199 := by omega
                  subst e
                  exact ai_okA_199
          · by_cases c200_207 : m < 203
            · by_cases c200_203 : m < 201
              · have e : m = 200 := by omega
                subst e
                exact ai_okA_200
              · by_cases c201_203 : m < 202
                · have e : m = 201 := by omega
                  subst e
                  exact ai_okA_201
                · have e : m = 202 := by omega
                  subst e
                  exact ai_okA_202
            · by_cases c203_207 : m < 205
              · by_cases c203_205 : m < 204
                · have e : m = 203 := by omega
                  subst e
                  exact ai_okA_203
                · have e : m = 204 := by omega
                  subst e
                  exact ai_okA_204
              · by_cases c205_207 : m < 206
                · have e : m = 205 := by omega
                  subst e
                  exact ai_okA_205
                · have e : m = 206 := by omega
                  subst e
                  exact ai_okA_206
theorem ai_row {m i : Nat} {e : ai_E} (h : ai_nth (ai_ops m) i = some e) : decode (ai_mB m) (ai_pc m i) = .ok (e.2.1, e.2.2.1) ∧ ai_okI m i (ai_pc m i) e.2.2.2.1 e.2.1 = true := by
  have h0 := ai_okA_all (ai_ops_lt h) i e h
  unfold ai_ok at h0
  simp only [Bool.and_eq_true, decide_eq_true_eq] at h0
  have hp : ai_pc m i = e.1 := by unfold ai_pc; rw [h]
  rw [hp]
  exact h0
/-! lengths of instructions, and the words of methods -/
noncomputable def ai_lk (e : ai_E) : Bool := match e.2.1 with
  | .tableswitch _ _ _ _ => true
  | .iconst _ | .lconst _ | .iload_n _ | .lload_n _ | .aload_n _ | .istore_n _ | .lstore_n _ | .astore_n _ | .iadd | .isub | .imul | .iand | .ior | .ixor | .ishl | .ishr | .idiv | .irem | .ladd | .lsub | .lmul | .land | .lor | .ldiv | .lrem | .lshl | .lshr | .lneg | .i2c | .i2l | .l2i | .lcmp | .dup | .dup2 | .pop | .iaload | .baload | .caload | .laload | .aaload | .iastore | .bastore | .castore | .lastore | .aastore | .arraylength | .return_ | .ireturn | .lreturn | .athrow => Nat.beq e.2.2.1 1
  | .iload _ | .lload _ | .aload _ | .istore _ | .lstore _ | .astore _ | .bipush _ | .newarray _ | .ldc _ => Nat.beq e.2.2.1 2
  | .sipush _ | .ldc2_w _ | .iinc _ _ | .ifCond _ _ | .if_icmp _ _ | .goto _ | .getfield _ | .putfield _ | .new _ | .anewarray _ | .invokevirtual _ | .invokestatic _ | .invokespecial _ => Nat.beq e.2.2.1 3
  | _ => false
set_option maxRecDepth 1000000 in
theorem ai_lk_all : (List.range 207).all (fun m => (ai_ops m).all ai_lk) = true := by decide +kernel
theorem ai_lk_of {m i : Nat} {e : ai_E} (h : ai_nth (ai_ops m) i = some e) : ai_lk e = true := by
  have h1 := List.all_eq_true.mp ai_lk_all m (List.mem_range.mpr (ai_ops_lt h))
  rw [ai_nth_eq] at h
  exact List.all_eq_true.mp h1 e (List.mem_of_getElem? h)
theorem ai_kd_le : ∀ c j, ai_kd c j ≤ 4 := by
  have h : ai_kdT.all (fun l => l.all (fun x => decide (x ≤ 4))) = true := by decide +kernel
  intro c j
  unfold ai_kd ai_gd
  split
  · rename_i x hx
    split at hx
    · rename_i l hl
      rw [ai_nth_eq] at hl hx
      have h1 := List.all_eq_true.mp h l (List.mem_of_getElem? hl)
      exact of_decide_eq_true (List.all_eq_true.mp h1 x (List.mem_of_getElem? hx))
    · simp [ai_nth] at hx
  · exact Nat.zero_le _
theorem ai_cw_in {m : Nat} (h : m < 206) : ai_cw m ∈ ai_WS := by
  have key : ∀ a n, (List.range' a n).map (fun m => ai_nth (ai_wl ((ai_ww m).1 / 1000)) ((ai_ww m).1 % 1000)) = (List.range' a n).map (fun m => some (ai_cw m)) → a ≤ m → m < a + n → ai_cw m ∈ ai_WS := by
    intro a n h0 h1 h2
    have h3 := List.map_inj_left.mp h0 m (List.mem_range'_1.mpr ⟨h1, h2⟩)
    rw [ai_nth_eq] at h3
    refine List.mem_filter.mpr ⟨ai_wl_in (List.mem_of_getElem? h3), ?_⟩
    unfold ai_cw
    split <;> rfl
  by_cases h1 : m < 103
  · exact key 0 103 ai_okW_0 (Nat.zero_le _) (by omega)
  · exact key 103 103 ai_okW_103 (by omega) (by omega)
theorem ai_meth {m : Nat} (h : m < 206) : ai_okY m = true := by
  have key : ∀ a n, (List.range' a n).all ai_okY = true → a ≤ m → m < a + n → ai_okY m = true := fun a n h0 h1 h2 => List.all_eq_true.mp h0 m (List.mem_range'_1.mpr ⟨h1, h2⟩)
  by_cases h1 : m < 52
  · exact key 0 52 ai_okY_0 (Nat.zero_le _) (by omega)
  · by_cases h2 : m < 104
    · exact key 52 52 ai_okY_52 (by omega) (by omega)
    · by_cases h3 : m < 156
      · exact key 104 52 ai_okY_104 (by omega) (by omega)
      · exact key 156 50 ai_okY_156 (by omega) (by omega)
end
section
/-! THE MACHINE OF PLACES: the same instructions over a heap of places (numbers) and whole numbers; its steps are stated goal first. ai_V: an int, a long, a reference to a place. ai_H: how many places are made, which reference slots are not set yet, the contents. -/
def ai_lg (ls : ai_L) (n : Nat) : Option ai_V := match ai_nth ls n with
  | some (some v) => some v
  | _ => none
def ai_put : ai_L → Nat → Option ai_V → ai_L
  | [], _, _ => []
  | _ :: l, 0, v => v :: l
  | a :: l, n + 1, v => a :: ai_put l n v
def ai_kill (ls : ai_L) (n : Nat) : ai_L := match n with
  | 0 => ls
  | k + 1 => match ai_lg ls k with
    | some (.inr (.inl _)) => ai_put ls k none
    | _ => ls
def ai_s1 (ls : ai_L) (n : Nat) (v : ai_V) : ai_L := ai_put (ai_kill ls n) n (some v)
def ai_s2 (ls : ai_L) (n : Nat) (v : ai_V) : ai_L := ai_put (ai_put (ai_kill ls n) (n + 1) none) n (some v)
def ai_msk : List Bool → ai_L → ai_L
  | [], ls => ls
  | _ :: _, [] => []
  | true :: b, a :: l => a :: ai_msk b l
  | false :: b, _ :: l => none :: ai_msk b l
def ai_set (σ : ai_S) (p : Nat) (i v : Int) : ai_S := fun q j => if q = p then (if j = i then v else σ q j) else σ q j
def ai_zero (σ : ai_S) (p : Nat) : ai_S := fun q j => if q = p then 0 else σ q j
def ai_cpy (σ : ai_S) (p q : Nat) (sp dp n : Int) : ai_S := fun r j => if r = q then (if dp ≤ j ∧ j < dp + n then σ p (sp + (j - dp)) else σ r j) else σ r j
def ai_ck (b : Bool) (P : Prop) : Prop := match b with
  | true => P
  | false => False
def ai_r (x : Int) : Prop := -2147483648 ≤ x ∧ x ≤ 2147483647
def ai_r8 (x : Int) : Prop := -9223372036854775808 ≤ x ∧ x ≤ 9223372036854775807
def ai_cat (v : ai_V) : Nat := match v with
  | .inr (.inl _) => 2
  | _ => 1
def ai_cats : List ai_V → Nat
  | [] => 0
  | v :: l => ai_cat v + ai_cats l
def ai_tk : Nat → List ai_V → List ai_V → Option (List ai_V × List ai_V)
  | 0, acc, st => some (acc, st)
  | _ + 1, _, [] => none
  | n + 1, acc, v :: st => ai_tk n (v :: acc) st
def ai_fl : List ai_V → ai_L
  | [] => []
  | .inr (.inl x) :: r => some (.inr (.inl x)) :: none :: ai_fl r
  | .inr (.inr x) :: r => some (.inr (.inr x)) :: ai_fl r
  | .inl x :: r => some (.inl x) :: ai_fl r
def ai_pd : Nat → ai_L → ai_L
  | 0, _ => []
  | n + 1, [] => none :: ai_pd n []
  | n + 1, a :: l => a :: ai_pd n l
def ai_en (n : Nat) (args : List ai_V) : ai_L := ai_pd n (ai_fl args)
def ai_and (a b : Int) : Int := (Int32.ofInt a &&& Int32.ofInt b).toInt
def ai_or (a b : Int) : Int := (Int32.ofInt a ||| Int32.ofInt b).toInt
def ai_xor (a b : Int) : Int := (Int32.ofInt a ^^^ Int32.ofInt b).toInt
def ai_shl (a b : Int) : Int := (Int32.ofInt a <<< (Int32.ofInt b &&& 31)).toInt
def ai_shr (a b : Int) : Int := (Int32.ofInt a >>> (Int32.ofInt b &&& 31)).toInt
def ai_div (a b : Int) : Int := (Int32.ofInt a / Int32.ofInt b).toInt
def ai_rem (a b : Int) : Int := (Int32.ofInt a - Int32.ofInt a / Int32.ofInt b * Int32.ofInt b).toInt
def ai_land (a b : Int) : Int := (Int64.ofInt a &&& Int64.ofInt b).toInt
def ai_lor (a b : Int) : Int := (Int64.ofInt a ||| Int64.ofInt b).toInt
def ai_lshl (a b : Int) : Int := (Int64.ofInt a <<< ((Int32.ofInt b).toInt64 &&& 63)).toInt
def ai_lshr (a b : Int) : Int := (Int64.ofInt a >>> ((Int32.ofInt b).toInt64 &&& 63)).toInt
def ai_ldiv (a b : Int) : Int := (Int64.ofInt a / Int64.ofInt b).toInt
def ai_lrem (a b : Int) : Int := (Int64.ofInt a - Int64.ofInt a / Int64.ofInt b * Int64.ofInt b).toInt
def ai_i2c (a : Int) : Int := ((Int32.ofInt a).toUInt32 % 65536).toInt32.toInt
def ai_cmp (a b : Int) : Int := if a < b then -1 else if a = b then 0 else 1
def ai_cd (c : ClassFile.Cond) (a b : Int) : Prop := match c with
  | .eq => a = b
  | .ne => ¬ a = b
  | .lt => a < b
  | .ge => b ≤ a
  | .gt => b < a
  | .le => a ≤ b
def ai_nn (b : Bool) (u : List (Nat × Nat)) (p : Nat × Nat) : Bool := match u with
  | [] => b
  | q :: u => if q = p then !b else ai_nn b u p
def ai_zz (z z' n : Nat) : Bool := match Nat.ble 92 z with
  | true => Nat.ble 92 z'
  | false => Nat.beq z' (z + n)
/-- what a call's outcome must be, and what goes on behind it -/
def ai_ret (X : ai_J) (m' : Nat) (args : ai_L) (h : ai_H) (K : Option ai_V → ai_H → Prop) : Prop :=
  ∃ P : ai_O → Prop, X m' 0 args [] (0, 0) h P ∧ ∀ o, P o → ∃ v h', o = (.inl v, h') ∧ K v h'
def ai_thr (X : ai_J) (m' : Nat) (args : ai_L) (h : ai_H) (K : Nat → ai_H → Prop) : Prop :=
  ∃ P : ai_O → Prop, X m' 0 args [] (0, 0) h P ∧ ∀ o, P o → ∃ v h', o = (.inr v, h') ∧ K v h'
section AIX
variable (sc : Int × (Int → Int)) (X : ai_J) (m i : Nat) (ls : ai_L) (st : List ai_V) (k : Nat × Nat) (h : ai_H) (Q : ai_O → Prop)
def ai_pu (v : ai_V) : Prop := X m (i + 1) ls (v :: st) k h Q
def ai_li (n : Nat) : Prop := match ai_lg ls n with
  | some (.inl v) => X m (i + 1) ls (.inl v :: st) k h Q
  | _ => False
def ai_ll (n : Nat) : Prop := match ai_lg ls n with
  | some (.inr (.inl v)) => X m (i + 1) ls (.inr (.inl v) :: st) k h Q
  | _ => False
def ai_la (n : Nat) : Prop := match ai_lg ls n with
  | some (.inr (.inr v)) => X m (i + 1) ls (.inr (.inr v) :: st) k h Q
  | _ => False
def ai_si (n : Nat) : Prop := match st with
  | .inl v :: r => X m (i + 1) (ai_s1 ls n (.inl v)) r k h Q
  | _ => False
def ai_sl (n : Nat) : Prop := match st with
  | .inr (.inl v) :: r => X m (i + 1) (ai_s2 ls n (.inr (.inl v))) r k h Q
  | _ => False
def ai_sa (n : Nat) : Prop := match st with
  | .inr (.inr v) :: r => X m (i + 1) (ai_s1 ls n (.inr (.inr v))) r k h Q
  | _ => False
def ai_inc (n : Nat) (d : Int) : Prop := match ai_lg ls n with
  | some (.inl v) => X m (i + 1) (ai_s1 ls n (.inl (v + d))) st k h Q
  | _ => False
def ai_i2 (f : Int → Int → Int) : Prop := match st with
  | .inl b :: .inl a :: r => X m (i + 1) ls (.inl (f a b) :: r) k h Q
  | _ => False
def ai_i2z (f : Int → Int → Int) : Prop := match st with
  | .inl b :: .inl a :: r => (ai_r b ∧ ¬ b = 0) ∧ X m (i + 1) ls (.inl (f a b) :: r) k h Q
  | _ => False
def ai_l2 (f : Int → Int → Int) : Prop := match st with
  | .inr (.inl b) :: .inr (.inl a) :: r => X m (i + 1) ls (.inr (.inl (f a b)) :: r) k h Q
  | _ => False
def ai_l2z (f : Int → Int → Int) : Prop := match st with
  | .inr (.inl b) :: .inr (.inl a) :: r => (ai_r8 b ∧ ¬ b = 0) ∧ X m (i + 1) ls (.inr (.inl (f a b)) :: r) k h Q
  | _ => False
def ai_lsh (f : Int → Int → Int) : Prop := match st with
  | .inl b :: .inr (.inl a) :: r => X m (i + 1) ls (.inr (.inl (f a b)) :: r) k h Q
  | _ => False
def ai_i1 (f : Int → Int) : Prop := match st with
  | .inl a :: r => X m (i + 1) ls (.inl (f a) :: r) k h Q
  | _ => False
def ai_l1 (f : Int → Int) : Prop := match st with
  | .inr (.inl a) :: r => X m (i + 1) ls (.inr (.inl (f a)) :: r) k h Q
  | _ => False
def ai_i2l : Prop := match st with
  | .inl a :: r => ai_r a ∧ X m (i + 1) ls (.inr (.inl a) :: r) k h Q
  | _ => False
def ai_l2i : Prop := match st with
  | .inr (.inl a) :: r => X m (i + 1) ls (.inl a :: r) k h Q
  | _ => False
def ai_lcmp : Prop := match st with
  | .inr (.inl b) :: .inr (.inl a) :: r => (ai_r8 a ∧ ai_r8 b) ∧ X m (i + 1) ls (.inl (ai_cmp a b) :: r) k h Q
  | _ => False
def ai_if0 (c : ClassFile.Cond) (t : Nat) : Prop := match st with
  | .inl a :: r => ai_r a ∧ (ai_cd c a 0 → X m t ls r k h Q) ∧ (¬ ai_cd c a 0 → X m (i + 1) ls r k h Q)
  | _ => False
def ai_if2 (c : ClassFile.Cond) (t : Nat) : Prop := match st with
  | .inl b :: .inl a :: r => (ai_r a ∧ ai_r b) ∧ (ai_cd c a b → X m t ls r k h Q) ∧ (¬ ai_cd c a b → X m (i + 1) ls r k h Q)
  | _ => False
def ai_sw (ts : List Nat) (t : Nat) : Prop := match st with
  | .inl a :: r => ai_r a ∧ (∀ (j s : Nat), ai_nth ts j = some s → a = Int.ofNat j → X m s ls r k h Q) ∧ ((a < 0 ∨ Int.ofNat ts.length ≤ a) → X m t ls r k h Q)
  | _ => False
def ai_dup : Prop := match st with
  | .inl v :: r => X m (i + 1) ls (.inl v :: .inl v :: r) k h Q
  | .inr (.inr v) :: r => X m (i + 1) ls (.inr (.inr v) :: .inr (.inr v) :: r) k h Q
  | _ => False
def ai_dup2 : Prop := match st with
  | .inl v :: .inr (.inr w) :: r => X m (i + 1) ls (.inl v :: .inr (.inr w) :: .inl v :: .inr (.inr w) :: r) k h Q
  | _ => False
def ai_pop : Prop := match st with
  | .inl _ :: r => X m (i + 1) ls r k h Q
  | _ => False
def ai_get (x : ai_X) : Prop := match st with
  | .inr (.inr p) :: r => match ai_sh p with
    | some (.inl c) => ai_ck (Nat.beq c x.1 && Nat.blt p h.1) (match x.2.2.1 with
      | 0 => X m (i + 1) ls (.inl (h.2.2 p (Int.ofNat x.2.1)) :: r) k h Q
      | 1 => X m (i + 1) ls (.inr (.inl (h.2.2 p (Int.ofNat x.2.1))) :: r) k h Q
      | 2 => ai_ck (ai_nn true h.2.1 (p, x.2.1)) (X m (i + 1) ls (.inr (.inr (ai_rf p x.2.1)) :: r) k h Q)
      | 3 => X m (i + 1) ls (.inl (h.2.2 p (Int.ofNat x.2.1)) :: r) k h Q
      | _ => ai_ck (ai_nn true h.2.1 (p, x.2.1)) (X m (i + 1) ls (.inr (.inr (h.2.2 p (Int.ofNat x.2.1)).toNat) :: r) k h Q))
    | _ => False
  | _ => False
def ai_pf (x : ai_X) : Prop := match st with
  | v :: .inr (.inr p) :: r => match ai_sh p with
    | some (.inl c) => ai_ck (Nat.beq c x.1 && Nat.blt p h.1) (match x.2.2.1, v with
      | 0, .inl v => X m (i + 1) ls r k (h.1, h.2.1, ai_set h.2.2 p (Int.ofNat x.2.1) v) Q
      | 1, .inr (.inl v) => X m (i + 1) ls r k (h.1, h.2.1, ai_set h.2.2 p (Int.ofNat x.2.1) v) Q
      | 2, .inr (.inr v) => ai_ck (Nat.beq v (ai_rf p x.2.1)) (X m (i + 1) ls r k (h.1, h.2.1.filter (fun q => !decide (q = (p, x.2.1))), h.2.2) Q)
      | 3, .inl v => (0 ≤ v ∧ v ≤ 1) ∧ X m (i + 1) ls r k (h.1, h.2.1, ai_set h.2.2 p (Int.ofNat x.2.1) v) Q
      | 4, .inr (.inr v) => X m (i + 1) ls r k (h.1, h.2.1.filter (fun q => !decide (q = (p, x.2.1))), ai_set h.2.2 p (Int.ofNat x.2.1) (Int.ofNat v)) Q
      | _, _ => False)
    | _ => False
  | _ => False
def ai_ald (kd : Nat) : Prop := match st with
  | .inl j :: .inr (.inr p) :: r => match ai_sh p with
    | some (.inr (kk, n)) => ai_ck (Nat.beq kk kd && Nat.blt p h.1) ((0 ≤ j ∧ j < Int.ofNat n) ∧ X m (i + 1) ls (.inl (h.2.2 p j) :: r) k h Q)
    | none => ai_ck (Nat.beq p 100 && Nat.beq kd 0 && Nat.beq m ai_law) ((0 ≤ j ∧ j < sc.1) ∧ X m (i + 1) ls (.inl (sc.2 j) :: r) k h Q)
    | _ => False
  | _ => False
def ai_lald : Prop := match st with
  | .inl j :: .inr (.inr p) :: r => match ai_sh p with
    | some (.inr (kk, n)) => ai_ck (Nat.beq kk 1 && Nat.blt p h.1) ((0 ≤ j ∧ j < Int.ofNat n) ∧ X m (i + 1) ls (.inr (.inl (h.2.2 p j)) :: r) k h Q)
    | _ => False
  | _ => False
def ai_aald : Prop := match st with
  | .inl j :: .inr (.inr p) :: r => match ai_sh p with
    | some (.inr (kk, n)) => ai_ck (Nat.beq kk 4 && Nat.blt p h.1 && h.2.1.isEmpty) ((0 ≤ j ∧ j < Int.ofNat n) ∧ X m (i + 1) ls (.inr (.inr (ai_rf p j.toNat)) :: r) k h Q)
    | _ => False
  | _ => False
def ai_ast (kd : Nat) (lo hi : Int) : Prop := match st with
  | .inl v :: .inl j :: .inr (.inr p) :: r => match ai_sh p with
    | some (.inr (kk, n)) => ai_ck (Nat.beq kk kd && Nat.blt p h.1) (match kd with
      | 0 => (0 ≤ j ∧ j < Int.ofNat n) ∧ X m (i + 1) ls r k (h.1, h.2.1, ai_set h.2.2 p j v) Q
      | _ => (0 ≤ j ∧ j < Int.ofNat n) ∧ (lo ≤ v ∧ v ≤ hi) ∧ X m (i + 1) ls r k (h.1, h.2.1, ai_set h.2.2 p j v) Q)
    | _ => False
  | _ => False
def ai_last : Prop := match st with
  | .inr (.inl v) :: .inl j :: .inr (.inr p) :: r => match ai_sh p with
    | some (.inr (kk, n)) => ai_ck (Nat.beq kk 1 && Nat.blt p h.1) ((0 ≤ j ∧ j < Int.ofNat n) ∧ X m (i + 1) ls r k (h.1, h.2.1, ai_set h.2.2 p j v) Q)
    | _ => False
  | _ => False
def ai_aast : Prop := match st with
  | .inr (.inr v) :: .inl j :: .inr (.inr p) :: r => match ai_sh p with
    | some (.inr (kk, n)) => ai_ck (Nat.beq kk 4 && Nat.blt p h.1 && Nat.blt v h.1 && Nat.beq v (ai_rf p j.toNat)) ((0 ≤ j ∧ j < Int.ofNat n) ∧ X m (i + 1) ls r k (h.1, h.2.1.filter (fun q => !decide (q = (p, j.toNat))), h.2.2) Q)
    | _ => False
  | _ => False
def ai_len : Prop := match st with
  | .inr (.inr p) :: r => match ai_sh p with
    | some (.inr (_, n)) => ai_ck (Nat.blt p h.1) (X m (i + 1) ls (.inl (Int.ofNat n) :: r) k h Q)
    | none => ai_ck (Nat.beq p 100 && Nat.beq m ai_law) (X m (i + 1) ls (.inl sc.1 :: r) k h Q)
    | _ => False
  | _ => False
def ai_new (x : ai_X) : Prop := match x.2.2.1 with
  | 0 => match ai_sh h.1 with
    | some (.inl c) => ai_ck (Nat.beq c x.1 && Nat.blt h.1 92 && Nat.ble (k.1 + 1) (ai_mc m) && Nat.ble (k.2 + x.2.1) (ai_ms m)) (X m (i + 1) ls (.inr (.inr h.1) :: st) (k.1 + 1, k.2 + x.2.1) (h.1 + 1, h.2.1 ++ ai_us h.1 c, ai_zero h.2.2 h.1) Q)
    | _ => False
  | _ => match st with
    | [] => ai_ck (Nat.ble 92 h.1 && Nat.ble (k.1 + 1) (ai_mc m) && Nat.ble (k.2 + 6) (ai_ms m)) (Q (.inr x.1, h))
    | _ => False
def ai_nar (kd : Nat) : Prop := match st with
  | .inl n :: r => match ai_sh h.1 with
    | some (.inr (kk, n')) => ai_ck (Nat.beq kk kd && Nat.blt h.1 92 && Nat.ble (k.1 + 1) (ai_mc m) && Nat.ble (k.2 + n') (ai_ms m)) (n = Int.ofNat n' ∧ X m (i + 1) ls (.inr (.inr h.1) :: r) (k.1 + 1, k.2 + n') (h.1 + 1, h.2.1 ++ (if kd = 4 then (List.range n').map (fun j => (h.1, j)) else []), ai_zero h.2.2 h.1) Q)
    | _ => False
  | _ => False
def ai_call (x : ai_X) : Prop := match ai_tk x.2.1 [] st with
  | some (args, r) => ai_ck (Nat.ble (ai_cats r) 8 && Nat.ble (ai_cats args) (ai_mL x.1)) (ai_ck (Nat.ble (k.1 + ai_mc x.1) (ai_mc m) && Nat.ble (k.2 + ai_ms x.1) (ai_ms m)) (match x.2.2.1 with
    | 0 => ai_ret X x.1 (ai_en (ai_mL x.1) args) h (fun v h' => ai_ck (ai_zz h.1 h'.1 (ai_mc x.1)) (X m (i + 1) ls (v.toList ++ r) (k.1 + ai_mc x.1, k.2 + ai_ms x.1) h' Q))
    | _ => ai_ret X x.1 (ai_en (ai_mL x.1) args) h (fun v h' => ai_ck (ai_zz h.1 h'.1 (ai_mc x.1)) (X m (i + 1) ls (v.toList ++ r) (k.1 + ai_mc x.1, k.2 + ai_ms x.1) h' Q)) ∨
        ai_thr X x.1 (ai_en (ai_mL x.1) args) h (fun c h' => ai_ck (Nat.ble 92 h'.1) (match ai_ct m c with
          | some (t, sl) => X m t (ai_put (ai_kill ls sl) sl none) [] (k.1 + ai_mc x.1, k.2 + ai_ms x.1) h' Q
          | none => False))))
  | none => False
def ai_vcall (x : ai_X) : Prop := match ai_tk x.2.1 [] st with
  | some (.inr (.inr q) :: _, _) => match ai_sh q with
    | some (.inl c) => ai_ck (Nat.beq c (ai_mC x.1) && Nat.blt q h.1) (ai_call X m i ls st k h Q x)
    | _ => False
  | _ => False
def ai_icall (x : ai_X) : Prop := match ai_tk x.2.1 [] st with
  | some (.inr (.inr _) :: _, _) => ai_call X m i ls st k h Q x
  | _ => False
def ai_ocall (x : ai_X) : Prop := match x.1, st with
  | 1000, .inr (.inr _) :: r => ai_ck (Nat.ble (ai_cats r) 8) (X m (i + 1) ls r k h Q)
  | 1001, .inl n :: .inl dp :: .inr (.inr q) :: .inl sp :: .inr (.inr p) :: r => match ai_sh p, ai_sh q with
    | some (.inr (kp, np)), some (.inr (kq, nq)) => ai_ck (Nat.beq kp kq && Nat.ble kp 1 && Nat.blt p h.1 && Nat.blt q h.1 && Nat.ble (ai_cats r) 8)
        ((0 ≤ sp ∧ 0 ≤ dp ∧ 0 ≤ n ∧ sp + n ≤ Int.ofNat np ∧ dp + n ≤ Int.ofNat nq) ∧ X m (i + 1) ls r k (h.1, h.2.1, ai_cpy h.2.2 p q sp dp n) Q)
    | _, _ => False
  | 1002, .inr (.inl a) :: r => ai_ck (Nat.ble (ai_cats r) 8 && Nat.ble k.1 (ai_mc m) && Nat.ble k.2 (ai_ms m)) (ai_r8 a ∧ X m (i + 1) ls (.inr (.inl (if 0 < a then a else -a)) :: r) k h Q)
  | 1003, .inl b :: .inl a :: r => ai_ck (Nat.ble (ai_cats r) 8 && Nat.ble k.1 (ai_mc m) && Nat.ble k.2 (ai_ms m)) ((ai_r a ∧ ai_r b) ∧ X m (i + 1) ls (.inl (if b < a then b else a) :: r) k h Q)
  | _, _ => False
def ai_rv : Prop := match st with
  | [] => ai_ck (Nat.ble k.1 (ai_mc m) && Nat.ble k.2 (ai_ms m)) (Q (.inl none, h))
  | _ => False
def ai_ri (x : ai_X) : Prop := match st with
  | [.inl v] => ai_ck (Nat.ble k.1 (ai_mc m) && Nat.ble k.2 (ai_ms m)) (match x.1 with
    | 0 => Q (.inl (some (.inl v)), h)
    | 3 => (0 ≤ v ∧ v ≤ 1) ∧ Q (.inl (some (.inl v)), h)
    | _ => (0 ≤ v ∧ v ≤ 65535) ∧ Q (.inl (some (.inl v)), h))
  | _ => False
def ai_rl : Prop := match st with
  | [.inr (.inl v)] => ai_ck (Nat.ble k.1 (ai_mc m) && Nat.ble k.2 (ai_ms m)) (Q (.inl (some (.inr (.inl v))), h))
  | _ => False
/-- one instruction -/
def ai_ex (x : ai_X) (ins : Instr) : Prop := match ins with
  | .iconst n => ai_pu X m i ls st k h Q (.inl n)
  | .bipush n => ai_pu X m i ls st k h Q (.inl n)
  | .sipush n => ai_pu X m i ls st k h Q (.inl n)
  | .lconst n => ai_pu X m i ls st k h Q (.inr (.inl (Int.ofNat n.val)))
  | .ldc2_w _ => ai_pu X m i ls st k h Q (.inr (.inl (ai_lv x)))
  | .iload n => ai_li X m i ls st k h Q n
  | .iload_n n => ai_li X m i ls st k h Q n.val
  | .lload n => ai_ll X m i ls st k h Q n
  | .lload_n n => ai_ll X m i ls st k h Q n.val
  | .aload n => ai_la X m i ls st k h Q n
  | .aload_n n => ai_la X m i ls st k h Q n.val
  | .istore n => ai_si X m i ls st k h Q n
  | .istore_n n => ai_si X m i ls st k h Q n.val
  | .lstore n => ai_sl X m i ls st k h Q n
  | .lstore_n n => ai_sl X m i ls st k h Q n.val
  | .astore n => ai_sa X m i ls st k h Q n
  | .astore_n n => ai_sa X m i ls st k h Q n.val
  | .iinc n d => ai_inc X m i ls st k h Q n d
  | .iadd => ai_i2 X m i ls st k h Q (fun a b => a + b)
  | .isub => ai_i2 X m i ls st k h Q (fun a b => a - b)
  | .imul => ai_i2 X m i ls st k h Q (fun a b => a * b)
  | .iand => ai_i2 X m i ls st k h Q ai_and
  | .ior => ai_i2 X m i ls st k h Q ai_or
  | .ixor => ai_i2 X m i ls st k h Q ai_xor
  | .ishl => ai_i2 X m i ls st k h Q ai_shl
  | .ishr => ai_i2 X m i ls st k h Q ai_shr
  | .idiv => ai_i2z X m i ls st k h Q ai_div
  | .irem => ai_i2z X m i ls st k h Q ai_rem
  | .ladd => ai_l2 X m i ls st k h Q (fun a b => a + b)
  | .lsub => ai_l2 X m i ls st k h Q (fun a b => a - b)
  | .lmul => ai_l2 X m i ls st k h Q (fun a b => a * b)
  | .land => ai_l2 X m i ls st k h Q ai_land
  | .lor => ai_l2 X m i ls st k h Q ai_lor
  | .ldiv => ai_l2z X m i ls st k h Q ai_ldiv
  | .lrem => ai_l2z X m i ls st k h Q ai_lrem
  | .lshl => ai_lsh X m i ls st k h Q ai_lshl
  | .lshr => ai_lsh X m i ls st k h Q ai_lshr
  | .lneg => ai_l1 X m i ls st k h Q (fun a => -a)
  | .i2c => ai_i1 X m i ls st k h Q ai_i2c
  | .i2l => ai_i2l X m i ls st k h Q
  | .l2i => ai_l2i X m i ls st k h Q
  | .lcmp => ai_lcmp X m i ls st k h Q
  | .ifCond c _ => ai_if0 X m i ls st k h Q c x.1
  | .if_icmp c _ => ai_if2 X m i ls st k h Q c x.1
  | .goto _ => X m x.1 ls st k h Q
  | .tableswitch _ _ _ _ => ai_sw X m ls st k h Q ai_swt x.1
  | .dup => ai_dup X m i ls st k h Q
  | .dup2 => ai_dup2 X m i ls st k h Q
  | .pop => ai_pop X m i ls st k h Q
  | .getfield _ => ai_get X m i ls st k h Q x
  | .putfield _ => ai_pf X m i ls st k h Q x
  | .iaload => ai_ald sc X m i ls st k h Q 0
  | .baload => ai_ald sc X m i ls st k h Q 2
  | .caload => ai_ald sc X m i ls st k h Q 3
  | .laload => ai_lald X m i ls st k h Q
  | .aaload => ai_aald X m i ls st k h Q
  | .iastore => ai_ast X m i ls st k h Q 0 0 0
  | .bastore => ai_ast X m i ls st k h Q 2 0 1
  | .castore => ai_ast X m i ls st k h Q 3 0 65535
  | .lastore => ai_last X m i ls st k h Q
  | .aastore => ai_aast X m i ls st k h Q
  | .arraylength => ai_len sc X m i ls st k h Q
  | .new _ => ai_new X m i ls st k h Q x
  | .newarray _ => ai_nar X m i ls st k h Q x.1
  | .anewarray _ => ai_nar X m i ls st k h Q 4
  | .invokevirtual _ => ai_vcall X m i ls st k h Q x
  | .invokestatic _ => match x.2.2.2.1 with
    | 0 => ai_call X m i ls st k h Q x
    | _ => ai_ocall X m i ls st k h Q x
  | .invokespecial _ => match x.2.2.2.1 with
    | 0 => ai_icall X m i ls st k h Q x
    | 1 => ai_ocall X m i ls st k h Q x
    | _ => False
  | .return_ => ai_rv m st k h Q
  | .ireturn => ai_ri m st k h Q x
  | .lreturn => ai_rl m st k h Q
  | _ => False
def ai_stp : Prop := match ai_nth (ai_ops m) i with
  | some e => ai_ex sc X m i (ai_msk e.2.2.2.2 ls) st k h Q e.2.2.2.1 e.2.1
  | none => False
end AIX
/-- what ends as Q asks: the least that one instruction's rows give -/
def ai_wp (sc : Int × (Int → Int)) : ai_J := fun m i ls st k h Q => ∀ X : ai_J, (∀ Y : ai_J, (∀ m i ls st k h Q, Y m i ls st k h Q → X m i ls st k h Q) → ∀ m i ls st k h Q, ai_stp sc Y m i ls st k h Q → X m i ls st k h Q) → X m i ls st k h Q
/-- a stretch of one method, as far as its cut points -/
def ai_g (sc : Int × (Int → Int)) (m0 : Nat) (cuts : List Nat) : Nat → ai_J
  | 0 => ai_wp sc
  | n + 1 => fun m i ls st k h Q => match Nat.beq m m0 && !cuts.elem i with
    | true => ai_stp sc (ai_g sc m0 cuts n) m i ls st k h Q
    | false => ai_wp sc m i ls st k h Q
theorem ai_wp_of {sc : Int × (Int → Int)} {Y : ai_J} (hY : ∀ m i ls st k h Q, Y m i ls st k h Q → ai_wp sc m i ls st k h Q) {m i : Nat} {ls : ai_L} {st : List ai_V} {k : Nat × Nat} {h : ai_H} {Q : ai_O → Prop} (hs : ai_stp sc Y m i ls st k h Q) : ai_wp sc m i ls st k h Q := fun X hX => hX Y (fun m i ls st k h Q h1 => hY m i ls st k h Q h1 X hX) m i ls st k h Q hs
theorem ai_g_wp (sc : Int × (Int → Int)) (m0 : Nat) (cuts : List Nat) (n : Nat) : ∀ m i ls st k h Q, ai_g sc m0 cuts n m i ls st k h Q → ai_wp sc m i ls st k h Q := by
  induction n with
  | zero => intro m i ls st k h Q hh; exact hh
  | succ n ih =>
    intro m i ls st k h Q hh
    unfold ai_g at hh
    split at hh
    · exact ai_wp_of ih hh
    · exact hh
theorem ai_blk (sc : Int × (Int → Int)) (m : Nat) (cuts : List Nat) (n : Nat) {i : Nat} {ls : ai_L} {st : List ai_V} {k : Nat × Nat} {h : ai_H} {Q : ai_O → Prop} (hs : ai_stp sc (ai_g sc m cuts n) m i ls st k h Q) : ai_wp sc m i ls st k h Q := ai_wp_of (ai_g_wp sc m cuts n) hs
theorem ai_wp_ind {sc : Int × (Int → Int)} {X : ai_J} (hX : ∀ Y : ai_J, (∀ m i ls st k h Q, Y m i ls st k h Q → X m i ls st k h Q) → ∀ m i ls st k h Q, ai_stp sc Y m i ls st k h Q → X m i ls st k h Q) {m i : Nat} {ls : ai_L} {st : List ai_V} {k : Nat × Nat} {h : ai_H} {Q : ai_O → Prop} (hw : ai_wp sc m i ls st k h Q) : X m i ls st k h Q := hw X hX
end
section
/-! THE GROUND: how places, whole numbers and lists of locals lie in the machine. -/
theorem ai_ck_true {b : Bool} {P : Prop} (h : ai_ck b P) : b = true ∧ P := by
  cases b with
  | true => exact ⟨rfl, h⟩
  | false => exact h.elim
theorem ai_ck_of {b : Bool} {P : Prop} (hb : b = true) (h : P) : ai_ck b P := by
  subst hb
  exact h
def ai_rn (ad : Nat → Nat) (v : ai_V) : Value := match v with
  | .inl x => .int (Int32.ofInt x)
  | .inr (.inl x) => .long (Int64.ofInt x)
  | .inr (.inr k) => .ref (ad k)
theorem ai_rn_cat (ad : Nat → Nat) (v : ai_V) : (ai_rn ad v).category = ai_cat v := by
  rcases v with x | x | x <;> rfl
theorem ai_cats_eq (ad : Nat → Nat) : ∀ st : List ai_V, ((st.map (ai_rn ad)).map fun v => v.category).sum = ai_cats st
  | [] => rfl
  | v :: l => by
    simp only [List.map_cons, List.sum_cons, ai_cats, ai_rn_cat]
    rw [ai_cats_eq ad l]
theorem ai_lg_some {ls : ai_L} {j : Nat} {v : ai_V} : ai_lg ls j = some v ↔ ls[j]? = some (some v) := by
  unfold ai_lg
  rw [ai_nth_eq]
  cases h : ls[j]? with
  | none => simp
  | some o => cases o <;> simp
theorem ai_put_get : ∀ (ls : ai_L) (i j : Nat) (o : Option ai_V), (ai_put ls i o)[j]? = if j = i then (ls[j]?).map (fun _ => o) else ls[j]?
  | [], i, j, o => by simp [ai_put]
  | a :: l, 0, j, o => by
    cases j <;> simp [ai_put]
  | a :: l, i + 1, j, o => by
    cases j with
    | zero => simp [ai_put]
    | succ j =>
      have := ai_put_get l i j o
      simp only [ai_put, List.getElem?_cons_succ, this, Nat.add_right_cancel_iff]
theorem ai_lg_put {ls : ai_L} {i j : Nat} {o : Option ai_V} {w : ai_V} (h : ai_lg (ai_put ls i o) j = some w) : (j = i ∧ o = some w) ∨ (j ≠ i ∧ ai_lg ls j = some w) := by
  rw [ai_lg_some, ai_put_get] at h
  by_cases hj : j = i
  · rw [if_pos hj] at h
    left
    refine ⟨hj, ?_⟩
    cases hl : ls[j]? with
    | none => rw [hl] at h; cases h
    | some a => rw [hl] at h; simpa using h
  · rw [if_neg hj] at h
    exact Or.inr ⟨hj, ai_lg_some.mpr h⟩
theorem ai_lg_kill {ls : ai_L} {i j : Nat} {w : ai_V} (h : ai_lg (ai_kill ls i) j = some w) : ai_lg ls j = some w ∧ (j + 1 = i → ai_cat w ≠ 2) := by
  unfold ai_kill at h
  cases i with
  | zero => exact ⟨h, fun q => by omega⟩
  | succ n =>
    simp only at h
    split at h
    · rcases ai_lg_put h with ⟨-, h2⟩ | ⟨h1, h2⟩
      · cases h2
      · exact ⟨h2, fun q => by omega⟩
    · rename_i hn
      refine ⟨h, fun q => ?_⟩
      have hjn : j = n := by omega
      subst hjn
      intro hc
      rcases w with x | x | x
      · cases hc
      · exact hn x h
      · cases hc
theorem ai_lg_s1 {ls : ai_L} {i j : Nat} {v w : ai_V} (h : ai_lg (ai_s1 ls i v) j = some w) : (j = i ∧ w = v) ∨ (j ≠ i ∧ ai_lg ls j = some w ∧ (j + 1 = i → ai_cat w ≠ 2)) := by
  rcases ai_lg_put h with ⟨h1, h2⟩ | ⟨h1, h2⟩
  · exact Or.inl ⟨h1, (Option.some.inj h2).symm⟩
  · exact Or.inr ⟨h1, ai_lg_kill h2⟩
theorem ai_lg_s2 {ls : ai_L} {i j : Nat} {v w : ai_V} (h : ai_lg (ai_s2 ls i v) j = some w) : (j = i ∧ w = v) ∨ (j ≠ i ∧ j ≠ i + 1 ∧ ai_lg ls j = some w ∧ (j + 1 = i → ai_cat w ≠ 2)) := by
  rcases ai_lg_put h with ⟨h1, h2⟩ | ⟨h1, h2⟩
  · exact Or.inl ⟨h1, (Option.some.inj h2).symm⟩
  · rcases ai_lg_put h2 with ⟨-, h4⟩ | ⟨h3, h4⟩
    · cases h4
    · exact Or.inr ⟨h1, h3, ai_lg_kill h4⟩
theorem ai_lg_msk : ∀ (b : List Bool) (ls : ai_L) {j : Nat} {w : ai_V}, ai_lg (ai_msk b ls) j = some w → ai_lg ls j = some w
  | [], ls, j, w, h => h
  | _ :: _, [], j, w, h => h
  | true :: b, a :: l, j, w, h => by
    rw [ai_lg_some] at h ⊢
    cases j with
    | zero => simpa [ai_msk] using h
    | succ j =>
      have := ai_lg_msk b l (j := j) (w := w) (ai_lg_some.mpr (by simpa [ai_msk] using h))
      simpa using ai_lg_some.mp this
  | false :: b, a :: l, j, w, h => by
    rw [ai_lg_some] at h ⊢
    cases j with
    | zero => simp [ai_msk] at h
    | succ j =>
      have := ai_lg_msk b l (j := j) (w := w) (ai_lg_some.mpr (by simpa [ai_msk] using h))
      simpa using ai_lg_some.mp this
/-- the locals, as the kit lists them -/
def ai_as (ad : Nat → Nat) (ls : ai_L) : List (Nat × Value) := (List.range ls.length).filterMap (fun j => (ai_lg ls j).map (fun v => (j, ai_rn ad v)))
theorem ai_as_in {ad : Nat → Nat} {ls : ai_L} {j : Nat} {v : ai_V} (h : ai_lg ls j = some v) : (j, ai_rn ad v) ∈ ai_as ad ls := by
  have hl : j < ls.length := (List.getElem?_eq_some_iff.mp (ai_lg_some.mp h)).1
  exact List.mem_filterMap.mpr ⟨j, List.mem_range.mpr hl, by rw [h]; rfl⟩
theorem ai_as_out {ad : Nat → Nat} {ls : ai_L} {q : Nat × Value} (h : q ∈ ai_as ad ls) : ∃ v, ai_lg ls q.1 = some v ∧ q.2 = ai_rn ad v := by
  obtain ⟨j, -, hj⟩ := List.mem_filterMap.mp h
  cases hv : ai_lg ls j with
  | none => rw [hv] at hj; cases hj
  | some v =>
    rw [hv] at hj
    cases hj
    exact ⟨v, hv, rfl⟩
theorem ai_rd {lsM : Array Slot} {n : Nat} {ad : Nat → Nat} {ls : ai_L} {j : Nat} {v : ai_V} (h : lv_has lsM n (ai_as ad ls)) (hv : ai_lg ls j = some v) : lsM[j]? = some (.val (ai_rn ad v)) := h.2.2 _ (ai_as_in hv)
theorem ai_lvk {lsM : Array Slot} {n : Nat} {ad : Nat → Nat} {ls ls' : ai_L} (h : lv_has lsM n (ai_as ad ls)) (hk : ∀ j v, ai_lg ls' j = some v → ai_lg ls j = some v) : lv_has lsM n (ai_as ad ls') := by
  refine ⟨h.1, h.2.1, fun q hq => ?_⟩
  obtain ⟨v, h1, h2⟩ := ai_as_out hq
  have := ai_as_in (ad := ad) (hk _ _ h1)
  rw [← h2] at this
  exact h.2.2 q this
theorem ai_lv1 {lsM : Array Slot} {n i : Nat} {ad : Nat → Nat} {ls : ai_L} {v : ai_V} (h : lv_has lsM n ((i, ai_rn ad v) :: (ai_as ad ls).filter (fun q => !(q.1 == i) && !(q.1 + 1 == i && q.2.category == 2)))) : lv_has lsM n (ai_as ad (ai_s1 ls i v)) := by
  refine ⟨h.1, h.2.1, fun q hq => h.2.2 q ?_⟩
  obtain ⟨w, h1, h2⟩ := ai_as_out hq
  rcases ai_lg_s1 h1 with ⟨e1, e2⟩ | ⟨e1, e2, e3⟩
  · refine List.mem_cons.mpr (Or.inl ?_)
    subst e2
    exact Prod.ext e1 h2
  · refine List.mem_cons.mpr (Or.inr (List.mem_filter.mpr ⟨?_, ?_⟩))
    · have := ai_as_in (ad := ad) e2
      rw [← h2] at this
      exact this
    · have hc : q.2.category = ai_cat w := by rw [h2, ai_rn_cat]
      simp only [Bool.and_eq_true, Bool.not_eq_true', beq_eq_false_iff_ne, ne_eq, Bool.and_eq_false_iff, hc]
      refine ⟨e1, ?_⟩
      by_cases hq1 : q.1 + 1 = i
      · exact Or.inr (e3 hq1)
      · exact Or.inl hq1
theorem ai_lv2 {lsM : Array Slot} {n i : Nat} {ad : Nat → Nat} {ls : ai_L} {v : ai_V} (h : lv_has lsM n ((i, ai_rn ad v) :: (ai_as ad ls).filter (fun q => !(q.1 == i) && (!(q.1 == i + 1) && !(q.1 + 1 == i && q.2.category == 2))))) : lv_has lsM n (ai_as ad (ai_s2 ls i v)) := by
  refine ⟨h.1, h.2.1, fun q hq => h.2.2 q ?_⟩
  obtain ⟨w, h1, h2⟩ := ai_as_out hq
  rcases ai_lg_s2 h1 with ⟨e1, e2⟩ | ⟨e1, e0, e2, e3⟩
  · refine List.mem_cons.mpr (Or.inl ?_)
    subst e2
    exact Prod.ext e1 h2
  · refine List.mem_cons.mpr (Or.inr (List.mem_filter.mpr ⟨?_, ?_⟩))
    · have := ai_as_in (ad := ad) e2
      rw [← h2] at this
      exact this
    · have hc : q.2.category = ai_cat w := by rw [h2, ai_rn_cat]
      simp only [Bool.and_eq_true, Bool.not_eq_true', beq_eq_false_iff_ne, ne_eq, Bool.and_eq_false_iff, hc]
      refine ⟨e1, e0, ?_⟩
      by_cases hq1 : q.1 + 1 = i
      · exact Or.inr (e3 hq1)
      · exact Or.inl hq1
theorem ai_pd_get : ∀ (n : Nat) (l : ai_L) (j : Nat) {w : ai_V}, (ai_pd n l)[j]? = some (some w) → l[j]? = some (some w)
  | 0, l, j, w, h => by simp [ai_pd] at h
  | n + 1, [], j, w, h => by
    cases j with
    | zero => simp [ai_pd] at h
    | succ j =>
      have := ai_pd_get n [] j (w := w) (by simpa [ai_pd] using h)
      simp at this
  | n + 1, a :: l, j, w, h => by
    cases j with
    | zero => simpa [ai_pd] using h
    | succ j =>
      have := ai_pd_get n l j (w := w) (by simpa [ai_pd] using h)
      simpa using this
theorem ai_fl_args (ad : Nat → Nat) : ∀ (vs : List ai_V) (i j : Nat) {w : ai_V}, (ai_fl vs)[j]? = some (some w) → (i + j, ai_rn ad w) ∈ lv_args i (vs.map (ai_rn ad))
  | [], i, j, w, h => by simp [ai_fl] at h
  | .inl x :: r, i, j, w, h => by
    cases j with
    | zero =>
      have e : w = .inl x := by simpa [ai_fl] using h.symm
      subst e
      exact List.mem_cons_self
    | succ j =>
      have := ai_fl_args ad r (i + 1) j (w := w) (by simpa [ai_fl] using h)
      have e : i + (j + 1) = i + 1 + j := by omega
      rw [e]
      exact List.mem_cons_of_mem _ (by simpa [ai_rn, Value.category] using this)
  | .inr (.inr x) :: r, i, j, w, h => by
    cases j with
    | zero =>
      have e : w = .inr (.inr x) := by simpa [ai_fl] using h.symm
      subst e
      exact List.mem_cons_self
    | succ j =>
      have := ai_fl_args ad r (i + 1) j (w := w) (by simpa [ai_fl] using h)
      have e : i + (j + 1) = i + 1 + j := by omega
      rw [e]
      exact List.mem_cons_of_mem _ (by simpa [ai_rn, Value.category] using this)
  | .inr (.inl x) :: r, i, j, w, h => by
    cases j with
    | zero =>
      have e : w = .inr (.inl x) := by simpa [ai_fl] using h.symm
      subst e
      exact List.mem_cons_self
    | succ j =>
      cases j with
      | zero => simp [ai_fl] at h
      | succ j =>
        have := ai_fl_args ad r (i + 2) j (w := w) (by simpa [ai_fl] using h)
        have e : i + (j + 1 + 1) = i + 2 + j := by omega
        rw [e]
        exact List.mem_cons_of_mem _ (by simpa [ai_rn, Value.category] using this)
theorem ai_sl_len (ad : Nat → Nat) : ∀ vs : List ai_V, (lg_sl (vs.map (ai_rn ad))).length = ai_cats vs
  | [] => rfl
  | .inl x :: r => by
    have := ai_sl_len ad r
    simp [lg_sl, ai_rn, Value.category, ai_cats, ai_cat] at this ⊢
    omega
  | .inr (.inr x) :: r => by
    have := ai_sl_len ad r
    simp [lg_sl, ai_rn, Value.category, ai_cats, ai_cat] at this ⊢
    omega
  | .inr (.inl x) :: r => by
    have := ai_sl_len ad r
    simp [lg_sl, ai_rn, Value.category, ai_cats, ai_cat] at this ⊢
    omega
/-- the locals with which a method begins -/
theorem ai_lv0 (ad : Nat → Nat) (vs : List ai_V) {n : Nat} (h : ai_cats vs ≤ n) : lv_has ((lg_sl (vs.map (ai_rn ad)) ++ List.replicate (n - (lg_sl (vs.map (ai_rn ad))).length) Slot.unset).toArray) n (ai_as ad (ai_en n vs)) := by
  have h0 := lv_entry (vs.map (ai_rn ad)) (n := n) (by rw [ai_sl_len]; exact h)
  refine ⟨h0.1, h0.2.1, fun q hq => h0.2.2 q ?_⟩
  obtain ⟨v, h1, h2⟩ := ai_as_out hq
  have h3 := ai_fl_args ad vs 0 q.1 (ai_pd_get n (ai_fl vs) q.1 (ai_lg_some.mp h1))
  rw [Nat.zero_add, ← h2] at h3
  exact h3
theorem ai_tk_eq (ad : Nat → Nat) : ∀ (n : Nat) (acc st args r : List ai_V), ai_tk n acc st = some (args, r) → acc.reverse ++ st = args.reverse ++ r ∧ args.length = n + acc.length
  | 0, acc, st, args, r, h => by
    simp only [ai_tk, Option.some.injEq, Prod.mk.injEq] at h
    obtain ⟨rfl, rfl⟩ := h
    exact ⟨rfl, by omega⟩
  | n + 1, acc, [], args, r, h => by simp [ai_tk] at h
  | n + 1, acc, v :: st, args, r, h => by
    obtain ⟨h1, h2⟩ := ai_tk_eq ad n (v :: acc) st args r (by simpa [ai_tk] using h)
    refine ⟨?_, by simp at h2; omega⟩
    rw [← h1]
    simp
/-- numbers -/
theorem ai_32 {x : Int} (h : ai_r x) : (Int32.ofInt x).toInt = x := Int32.toInt_ofInt_of_le (by have := h.1; omega) (by have := h.2; omega)
theorem ai_64 {x : Int} (h : ai_r8 x) : (Int64.ofInt x).toInt = x := Int64.toInt_ofInt_of_le (by have := h.1; omega) (by have := h.2; omega)
theorem ai_lt {a b : Int} (ha : ai_r a) (hb : ai_r b) : Int32.ofInt a < Int32.ofInt b ↔ a < b := by rw [Int32.lt_iff_toInt_lt, ai_32 ha, ai_32 hb]
theorem ai_le {a b : Int} (ha : ai_r a) (hb : ai_r b) : Int32.ofInt a ≤ Int32.ofInt b ↔ a ≤ b := by rw [Int32.le_iff_toInt_le, ai_32 ha, ai_32 hb]
theorem ai_eq {a b : Int} (ha : ai_r a) (hb : ai_r b) : Int32.ofInt a = Int32.ofInt b ↔ a = b := by rw [← Int32.toInt_inj, ai_32 ha, ai_32 hb]
theorem ai_lt8 {a b : Int} (ha : ai_r8 a) (hb : ai_r8 b) : Int64.ofInt a < Int64.ofInt b ↔ a < b := by rw [Int64.lt_iff_toInt_lt, ai_64 ha, ai_64 hb]
theorem ai_eq8 {a b : Int} (ha : ai_r8 a) (hb : ai_r8 b) : Int64.ofInt a = Int64.ofInt b ↔ a = b := by rw [← Int64.toInt_inj, ai_64 ha, ai_64 hb]
theorem ai_r0 : ai_r 0 := ⟨by decide, by decide⟩
theorem ai_00 : Int32.ofInt 0 = 0 := rfl
theorem ai_ix {j : Int} {n : Nat} (h0 : 0 ≤ j) (h1 : j < Int.ofNat n) (hn : n < 2147483648) : vp_in (Int32.ofInt j) n ∧ (Int32.ofInt j).toNatClampNeg = j.toNat ∧ j.toNat < n := by
  have h1' : j < (n : Int) := h1
  have hr : ai_r j := ⟨by omega, by omega⟩
  have e : (Int32.ofInt j).toNatClampNeg = j.toNat := Int32.toNatClampNeg_ofInt_of_le (by omega) (by omega)
  have hl : j.toNat < n := by omega
  refine ⟨?_, e, hl⟩
  rw [vp_in_iff, ai_32 hr]
  exact ⟨h0, h1'⟩
theorem ai_i2l_eq {x : Int} (h : ai_r x) : (Int32.ofInt x).toInt64 = Int64.ofInt x := by
  rw [← Int64.ofInt_int32ToInt, ai_32 h]
theorem ai_l2i_eq (x : Int) : (Int64.ofInt x).toInt32 = Int32.ofInt x := Int64.toInt32_ofInt
theorem ai_cmp_eq {a b : Int} (ha : ai_r8 a) (hb : ai_r8 b) : lg_cmp (Int64.ofInt a) (Int64.ofInt b) = Int32.ofInt (ai_cmp a b) := by
  unfold lg_cmp ai_cmp
  have h1 := ai_lt8 ha hb
  have h2 := ai_lt8 hb ha
  have h3 := ai_eq8 ha hb
  by_cases hl : a < b
  · have hn : ¬ b < a := by omega
    have he : ¬ a = b := by omega
    rw [if_neg (fun q => hn (h2.mp q)), if_neg (fun q => he (h3.mp q)), if_pos hl]
    rfl
  · by_cases he : a = b
    · rw [if_neg (fun q => by have := h2.mp q; omega), if_pos (h3.mpr he), if_neg hl, if_pos he]
      rfl
    · have hg : b < a := by omega
      rw [if_pos (h2.mpr hg), if_neg hl, if_neg he]
      rfl
/-- worlds -/
def ai_tab {α : Type} (n : Nat) (f : Nat → α) : List α := (List.range n).map f
theorem ai_tab_get {α : Type} {n : Nat} {f : Nat → α} {k : Nat} (h : k < n) : (ai_tab n f)[k]? = some (f k) := by simp [ai_tab, h]
theorem ai_tab_len {α : Type} {n : Nat} {f : Nat → α} : (ai_tab n f).length = n := by simp [ai_tab]
theorem ai_tab_some {α : Type} {n : Nat} {f : Nat → α} {k : Nat} {x : α} (h : (ai_tab n f)[k]? = some x) : k < n ∧ x = f k := by
  have hk : k < n := by
    have := (List.getElem?_eq_some_iff.mp h).1
    rwa [ai_tab_len] at this
  rw [ai_tab_get hk] at h
  exact ⟨hk, (Option.some.inj h).symm⟩
theorem ai_tab_set {α : Type} {n : Nat} {f : Nat → α} {k : Nat} (v : α) : (ai_tab n f).set k v = ai_tab n (fun j => if j = k then v else f j) := by
  apply List.ext_getElem?
  intro j
  by_cases hj : j < n
  · rw [ai_tab_get hj]
    by_cases hk : j = k
    · subst hk
      rw [List.getElem?_set_self (by rw [ai_tab_len]; exact hj), if_pos rfl]
    · rw [List.getElem?_set_ne (fun q => hk q.symm), ai_tab_get hj, if_neg hk]
  · have h1 : ((ai_tab n f).set k v)[j]? = none := by simp [ai_tab]; omega
    have h2 : (ai_tab n (fun j => if j = k then v else f j))[j]? = none := by simp [ai_tab]; omega
    rw [h1, h2]
theorem ai_tab_succ {α : Type} (n : Nat) (f : Nat → α) : ai_tab (n + 1) f = ai_tab n f ++ [f n] := by simp [ai_tab, List.range_succ]
theorem ai_tab_congr {α : Type} {n : Nat} {f g : Nat → α} (h : ∀ k, k < n → f k = g k) : ai_tab n f = ai_tab n g := by
  unfold ai_tab
  apply List.map_congr_left
  intro k hk
  exact h k (List.mem_range.mp hk)
theorem ai_nn_true : ∀ (u : List (Nat × Nat)) (p : Nat × Nat), ai_nn true u p = true ↔ p ∉ u
  | [], p => by simp [ai_nn]
  | q :: u, p => by
    unfold ai_nn
    by_cases h : q = p
    · subst h; simp
    · have h' : ¬ p = q := fun e => h e.symm
      simp [h, h', ai_nn_true u p]
noncomputable def ai_fv (ad : Nat → Nat) (h : ai_H) (p kd j : Nat) : Value := match kd with
  | 1 => .long (Int64.ofInt (h.2.2 p (Int.ofNat j)))
  | 2 => if (p, j) ∈ h.2.1 then .null else .ref (ad (ai_rf p j))
  | 4 => if (p, j) ∈ h.2.1 then .null else .ref (ad (h.2.2 p (Int.ofNat j)).toNat)
  | _ => .int (Int32.ofInt (h.2.2 p (Int.ofNat j)))
noncomputable def ai_ac (ad : Nat → Nat) (h : ai_H) (p kd : Nat) : (Nat → Int32) ⊕ (Nat → Int64) ⊕ (Nat → UInt32) ⊕ (Nat → UInt64) ⊕ (Nat → Option Nat) := match kd with
  | 1 => .inr (.inl (fun j => Int64.ofInt (h.2.2 p (Int.ofNat j))))
  | 4 => .inr (.inr (.inr (.inr (fun j => if (p, j) ∈ h.2.1 then none else some (ad (ai_rf p j))))))
  | _ => .inl (fun j => Int32.ofInt (h.2.2 p (Int.ofNat j)))
noncomputable def ai_cell (ad : Nat → Nat) (cA : Nat → ClassId) (h : ai_H) (p : Nat) : va_E := match ai_sh p with
  | some (.inl c) => .inr (c, ai_tab (ai_nf c) (fun j => ai_fv ad h p (ai_kd c j) j))
  | some (.inr (kd, n)) => .inl (cA kd, n, ai_ac ad h p kd)
  | none => .inr (0, [])
noncomputable def ai_ws (ad : Nat → Nat) (cA : Nat → ClassId) (h : ai_H) : va_W := ai_tab h.1 (fun p => (ad p, ai_cell ad cA h p))
def ai_ad (base b : Nat) (k : Nat) : Nat := if k < 100 then base + k else b
theorem ai_D {base b : Nat} {cA : Nat → ClassId} {h : ai_H} (hz : h.1 ≤ 92) : va_D (fun q => base ≤ q) (ai_ws (ai_ad base b) cA h) := by
  refine ⟨fun i j p q hi hj e => ?_, fun k q hk => ?_⟩
  · obtain ⟨h1, rfl⟩ := ai_tab_some hi
    obtain ⟨h2, rfl⟩ := ai_tab_some hj
    simp only [ai_ad] at e
    rw [if_pos (by omega), if_pos (by omega)] at e
    omega
  · obtain ⟨h1, rfl⟩ := ai_tab_some hk
    simp only [ai_ad]
    rw [if_pos (by omega)]
    omega
/-- a store into one place -/
theorem ai_ws_set {ad : Nat → Nat} {cA : Nat → ClassId} {h h' : ai_H} {p : Nat} {e : va_E} (hz : h'.1 = h.1) (he : ai_cell ad cA h' p = e) (ho : ∀ q, q ≠ p → ai_cell ad cA h' q = ai_cell ad cA h q) : (ai_ws ad cA h).set p (ad p, e) = ai_ws ad cA h' := by
  unfold ai_ws
  rw [ai_tab_set, hz]
  apply ai_tab_congr
  intro k hk
  by_cases hkp : k = p
  · subst hkp
    rw [if_pos rfl, he]
  · rw [if_neg hkp, ho k hkp]
theorem ai_fv_ne {ad : Nat → Nat} {h : ai_H} {p q : Nat} {i v : Int} {kd j : Nat} (hq : q ≠ p) : ai_fv ad (h.1, h.2.1, ai_set h.2.2 p i v) q kd j = ai_fv ad h q kd j := by
  unfold ai_fv
  simp only [ai_set, if_neg hq]
theorem ai_ac_ne {ad : Nat → Nat} {h : ai_H} {p q : Nat} {i v : Int} {kd : Nat} (hq : q ≠ p) : ai_ac ad (h.1, h.2.1, ai_set h.2.2 p i v) q kd = ai_ac ad h q kd := by
  unfold ai_ac
  simp only [ai_set, if_neg hq]
theorem ai_cell_ne {ad : Nat → Nat} {cA : Nat → ClassId} {h : ai_H} {p q : Nat} {i v : Int} (hq : q ≠ p) : ai_cell ad cA (h.1, h.2.1, ai_set h.2.2 p i v) q = ai_cell ad cA h q := by
  unfold ai_cell
  split
  · congr 2
    apply ai_tab_congr
    intro j _
    exact ai_fv_ne hq
  · rw [ai_ac_ne hq]
  · rfl
end
section
/-! SOUNDNESS: what the machine of places does, the machine does. -/
noncomputable def ai_tys (cA : Nat → ClassId) : List (ClassId × FieldType) := ai_tab 5 (fun kd => (cA kd, ai_TY kd))
def ai_Wd (D : va_G) (base b : Nat) (cA : Nat → ClassId) (h : ai_H) (H : Heap) : Prop := h.1 ≤ 92 ∧ va_P D vwCl (ai_ws (ai_ad base b) cA h) H
def ai_str (s : State) : Prop := ∀ q ∈ ai_strs, ∃ a : Nat, vk_R q.1 q.2.1 q.2.2 a s
/-- two statics of Throwable, that hold a reference or null, below what the law makes -/
def ai_zt : List (String × String) := [("UNASSIGNED_STACK", "[Ljava/lang/StackTraceElement;"), ("SUPPRESSED_SENTINEL", "Ljava/util/List;")]
def ai_ZS (base : Nat) (U : State) (H : Heap) (n d : String) : Prop := ∃ (c : ClassId) (k : Class) (i : Nat) (f : Field) (a : Nat) (cell : Cell) (v : Value), U.vm.findClass "java/lang/Throwable" = some c ∧ U.fieldFound? "java/lang/Throwable" n d = some (c, k, i, f) ∧ f.isStatic = true ∧ k.statics = some a ∧ H[a]? = some cell ∧ cell.vm.isStatics = true ∧ cell.cls = c ∧ f.slot < cell.slots.size ∧ k.staticTypes[f.slot]? = some f.type ∧ cell.slots[f.slot]? = some v ∧ v.isRef = true ∧ a < base
def ai_fw : List Cond := [.declares ⟨"java/lang/RuntimeException", "<init>", "(Ljava/lang/String;)V"⟩, .declares ⟨"java/lang/Exception", "<init>", "(Ljava/lang/String;)V"⟩, .declares ⟨"java/lang/Throwable", "<init>", "(Ljava/lang/String;)V"⟩, .castable "java/lang/IllegalStateException" "java/lang/IllegalStateException", .castable "java/lang/IllegalArgumentException" "java/lang/IllegalArgumentException", .castable "java/lang/UnsupportedOperationException" "java/lang/UnsupportedOperationException", .castable "java/lang/IndexOutOfBoundsException" "java/lang/IndexOutOfBoundsException"]
theorem ai_fw_face : ∀ w ∈ ai_fw, w.onTables = true ∧ w.keepsFace = true := by
  intro w hw
  simp only [ai_fw, List.mem_cons, List.not_mem_nil, or_false] at hw
  rcases hw with rfl | rfl | rfl | rfl | rfl | rfl | rfl <;> exact ⟨rfl, rfl⟩
theorem ai_face {s U : State} {w : Cond} (hon : w.onTables = true) (hf : w.keepsFace = true) (hW : s.WarmedH U.vm) {a a' : Array Value} (h : w.before a s = true) : w.before a' U = true := by
  have h1 : w.before a (s.setVm U.vm) = true := Cond.before_shiftedFace (State.Shifted.of_warmed hW) _ hf h
  rw [Cond.onTables_vm (A' := a') (U' := U) U.vm w hon, State.setVm_self] at h1
  exact h1
def ai_env (base : Nat) (U : State) : Prop := va_AO ai_Store U ∧ (∀ q ∈ ai_zt, ai_ZS base U U.heap q.1 q.2) ∧ (∀ w ∈ ai_fw, w.before #[] U = true) ∧ ∀ x, x < 4 → ∀ y, y < 4 → x ≠ y → va_Nc (ai_xn x) (ai_xn y) U
def ai_stOK (l : Launch) : Prop := l.stackTraces = false
theorem ai_stOK_use {l : Launch} {e : Env} (h : ai_stOK l) (ha : l.admits e) : e.platform.stackTraces = false := by
  rw [ha.platform]
  exact h
theorem ai_env_at {base : Nat} {s U : State} {H : Heap} {locs : List Loc} (hE : ai_env base s) (hS : va_S (fun q => base ≤ q) s.heap H locs) (hU : U.heap = H) (hWW : s.WarmedH U.vm) : ai_env base U := by
  have hW := hWW.alike
  refine ⟨hE.1.moved hW, fun q hq => ?_, fun w hw => ai_face (ai_fw_face w hw).1 (ai_fw_face w hw).2 hWW (hE.2.2.1 w hw), fun x hx y hy hxy => (hE.2.2.2 x hx y hy hxy).moved hW⟩
  obtain ⟨c, k, i, f, a, cell, v, h1, h2, h3, h4, h5, h6, h7, h8, h9, h10, h11, h12⟩ := hE.2.1 q hq
  obtain ⟨k', hi', he⟩ := State.fieldFound?_setVm hW h2
  refine ⟨c, k', i, f, a, cell, v, by rw [hW.findClass]; exact h1, hi', h3, by rw [he]; exact h4, ?_, h6, h7, h8, by rw [he]; exact h9, h10, h11, h12⟩
  rw [hU, hS.2.1 a (Array.getElem?_eq_some_iff.mp h5).1 (Nat.not_le.mpr h12)]
  exact h5
def ai_F (p : Program) (e : Env) (s : State) (mid : MethodId) (args : Array Value) (meth : Method) (c : Code) (m : Nat) : Prop :=
  p.tables.exec = Jvm.exec ∧ c.code = ai_mB m ∧ c.maxLocals = ai_mL m ∧ meth.sig.returnType = ai_mR m ∧ (∀ w ∈ ai_WS, w.before args s = true) ∧ s.vm.findClass (ai_mY m).cls = some mid.cls ∧ meth.locks = false ∧ meth.name = (ai_mY m).name ∧
  c.exceptionTable.toList.map (fun x => (x.startPc, x.endPc, x.handlerPc, x.catchType)) = ai_hh m ∧ ai_str s ∧ e.platform.stackTraces = false
def ai_oc (ad : Nat → Nat) (below : List Frame) (s t : State) (r : Option ai_V ⊕ Nat) : Prop := match r with
  | .inl v => Ended t below (.returned (v.map (ai_rn ad)))
  | .inr x => ∃ (a : Nat) (ce : Cell), Ended t below (.threw a) ∧ t.heap[a]? = some ce ∧ ce.vm = .none ∧ s.vm.findClass (ai_xn x) = some ce.cls
def ai_MQ (D : va_G) (base b : Nat) (cA : Nat → ClassId) (below : List Frame) (s : State) (m : Nat) (Q : ai_O → Prop) (t : State) : Prop :=
  ∃ o : ai_O, Q o ∧ t.status = .running ∧ ai_Wd D base b cA o.2 t.heap ∧ va_F (fun q => base ≤ q) s t ∧ s.WarmedH t.vm ∧ (∃ L, s.sameButNew ({ t with vm := s.vm } : State) L (ai_mc m) (ai_ms m) ∧ ∀ q ∈ L, base ≤ q.base) ∧ ai_oc (ai_ad base b) below s t o.1
def ai_at (l : Launch) (D : va_G) (base b : Nat) (cA : Nat → ClassId) (p : Program) (e : Env) (s : State) (mid : MethodId) (args : Array Value) (below : List Frame) (meth : Method) (c : Code) (m : Nat) (Q : ai_O → Prop) (i : Nat) (ls : ai_L) (st : List ai_V) (k : Nat × Nat) (h : ai_H) : Prop :=
  ∀ (H : Heap) (locs : List Loc) (lsM : Array Slot), ai_Wd D base b cA h H → va_S (fun q => base ≤ q) s.heap H locs → lv_has lsM (ai_mL m) (ai_as (ai_ad base b) ls) → (h.1 < 92 → s.heap.size + k.1 = base + h.1) →
    W p l e (ai_rm m) s mid args below meth c H locs k.1 k.2 (ai_MQ D base b cA below s m Q) (F0 mid (ai_pc m i) lsM (st.map (ai_rn (ai_ad base b))))
def ai_scr (sc : Int × (Int → Int)) (base b : Nat) (s : State) : Prop := ∃ (L : Nat) (xs : Nat → Int32), va_X b L xs s s.heap ∧ b < base ∧ L < 2147483648 ∧ sc.1 = Int.ofNat L ∧ ∀ j : Nat, j < L → xs j = Int32.ofInt (sc.2 (Int.ofNat j))
def ai_SND (sc : Int × (Int → Int)) (l : Launch) (D : va_G) (base b : Nat) (cA : Nat → ClassId) : ai_J := fun m i ls st k h Q =>
  ∀ (p : Program) (e : Env) (s : State) (mid : MethodId) (args : Array Value) (below : List Frame) (meth : Method) (c : Code), ai_F p e s mid args meth c m → va_K D vwCl (ai_tys cA) s → base ≤ s.heap.size → ai_env base s → (m = ai_law → ai_scr sc base b s) → ai_at l D base b cA p e s mid args below meth c m Q (i) (ls) (st) (k) (h)
theorem ai_mono {p : Program} {l : Launch} {e : Env} {R : Room} {s : State} {m : MethodId} {args : Array Value} {below : List Frame} {meth : Method} {c : Code} {H : Heap} {locs : List Loc} {cells slots : Nat} {Q Q' : State → Prop} {g : JFrame} (hQ : ∀ t, Q t → Q' t) (h : W p l e R s m args below meth c H locs cells slots Q g) : W p l e R s m args below meth c H locs cells slots Q' g := by
  intro T hT X
  obtain ⟨t, a, b⟩ := h T hT X
  exact ⟨t, a, hQ t b⟩
section AIS
variable {sc : Int × (Int → Int)} {l : Launch} {D : va_G} {base b : Nat} {cA : Nat → ClassId} {p : Program} {e : Env} {s : State} {mid : MethodId} {args : Array Value} {below : List Frame} {meth : Method} {c : Code} {m : Nat} {Q : ai_O → Prop} {i : Nat} {ls : ai_L} {st : List ai_V} {k : Nat × Nat} {h : ai_H}
theorem sn_iconst (F : ai_F p e s mid args meth c m) {n : Int} (hd : decode (ai_mB m) (ai_pc m i) = .ok (.iconst n, 1)) (hn : ai_pc m (i + 1) = ai_pc m i + 1) (K : ai_at l D base b cA p e s mid args below meth c m Q (i + 1) (ls) (.inl n :: st) (k) (h)) : ai_at l D base b cA p e s mid args below meth c m Q (i) (ls) (st) (k) (h) := by
  intro H locs lsM hW hS hL hZ
  have K := K H locs lsM hW hS hL hZ
  rw [hn] at K
  exact lv_iconst F.1 F.2.1 hd rfl K
theorem sn_bipush (F : ai_F p e s mid args meth c m) {n : Int} (hv : (Int8.ofInt n).toInt32 = Int32.ofInt n) (hd : decode (ai_mB m) (ai_pc m i) = .ok (.bipush n, 2)) (hn : ai_pc m (i + 1) = ai_pc m i + 2) (K : ai_at l D base b cA p e s mid args below meth c m Q (i + 1) (ls) (.inl n :: st) (k) (h)) : ai_at l D base b cA p e s mid args below meth c m Q (i) (ls) (st) (k) (h) := by
  intro H locs lsM hW hS hL hZ
  have K := K H locs lsM hW hS hL hZ
  rw [hn] at K
  exact lv_bipush F.1 F.2.1 hd hv K
theorem sn_sipush (F : ai_F p e s mid args meth c m) {n : Int} (hv : (Int16.ofInt n).toInt32 = Int32.ofInt n) (hd : decode (ai_mB m) (ai_pc m i) = .ok (.sipush n, 3)) (hn : ai_pc m (i + 1) = ai_pc m i + 3) (K : ai_at l D base b cA p e s mid args below meth c m Q (i + 1) (ls) (.inl n :: st) (k) (h)) : ai_at l D base b cA p e s mid args below meth c m Q (i) (ls) (st) (k) (h) := by
  intro H locs lsM hW hS hL hZ
  have K := K H locs lsM hW hS hL hZ
  rw [hn] at K
  exact lv_sipush F.1 F.2.1 hd hv K
theorem sn_lconst (F : ai_F p e s mid args meth c m) {n : Fin 2} (hd : decode (ai_mB m) (ai_pc m i) = .ok (.lconst n, 1)) (hn : ai_pc m (i + 1) = ai_pc m i + 1) (K : ai_at l D base b cA p e s mid args below meth c m Q (i + 1) (ls) (.inr (.inl (Int.ofNat n.val)) :: st) (k) (h)) : ai_at l D base b cA p e s mid args below meth c m Q (i) (ls) (st) (k) (h) := by
  intro H locs lsM hW hS hL hZ
  have K := K H locs lsM hW hS hL hZ
  rw [hn] at K
  exact lv_lconst F.1 F.2.1 hd (by rw [← Int64.ofInt_eq_ofNat]; rfl) K
theorem sn_ldc2 (F : ai_F p e s mid args meth c m) {n : Nat} {v : Int} (hw : Cond.constantLong (ai_mY m).cls n (Int64.ofInt v) ∈ ai_WS) (hd : decode (ai_mB m) (ai_pc m i) = .ok (.ldc2_w n, 3)) (hn : ai_pc m (i + 1) = ai_pc m i + 3) (K : ai_at l D base b cA p e s mid args below meth c m Q (i + 1) (ls) (.inr (.inl v) :: st) (k) (h)) : ai_at l D base b cA p e s mid args below meth c m Q (i) (ls) (st) (k) (h) := by
  intro H locs lsM hW hS hL hZ
  have K := K H locs lsM hW hS hL hZ
  rw [hn] at K
  exact lv_ldc2 F.1 F.2.1 F.2.2.2.2.2.1 (F.2.2.2.2.1 _ hw) hd K
theorem sn_iload (F : ai_F p e s mid args meth c m) {n : Nat} {v : Int} (hv : ai_lg ls n = some (.inl v)) (hd : decode (ai_mB m) (ai_pc m i) = .ok (.iload n, 2)) (hn : ai_pc m (i + 1) = ai_pc m i + 2) (K : ai_at l D base b cA p e s mid args below meth c m Q (i + 1) (ls) (.inl v :: st) (k) (h)) : ai_at l D base b cA p e s mid args below meth c m Q (i) (ls) (st) (k) (h) := by
  intro H locs lsM hW hS hL hZ
  have K := K H locs lsM hW hS hL hZ
  rw [hn] at K
  exact lv_iload F.1 F.2.1 hd (ai_rd hL hv) K
theorem sn_iload_n (F : ai_F p e s mid args meth c m) {n : Fin 4} {v : Int} (hv : ai_lg ls n.val = some (.inl v)) (hd : decode (ai_mB m) (ai_pc m i) = .ok (.iload_n n, 1)) (hn : ai_pc m (i + 1) = ai_pc m i + 1) (K : ai_at l D base b cA p e s mid args below meth c m Q (i + 1) (ls) (.inl v :: st) (k) (h)) : ai_at l D base b cA p e s mid args below meth c m Q (i) (ls) (st) (k) (h) := by
  intro H locs lsM hW hS hL hZ
  have K := K H locs lsM hW hS hL hZ
  rw [hn] at K
  exact lv_iload_n F.1 F.2.1 hd rfl (ai_rd hL hv) K
theorem sn_istore (F : ai_F p e s mid args meth c m) {n : Nat} {v : Int} (hb : n < ai_mL m) (hd : decode (ai_mB m) (ai_pc m i) = .ok (.istore n, 2)) (hn : ai_pc m (i + 1) = ai_pc m i + 2) (K : ai_at l D base b cA p e s mid args below meth c m Q (i + 1) (ai_s1 ls n (.inl v)) (st) (k) (h)) : ai_at l D base b cA p e s mid args below meth c m Q (i) (ls) (.inl v :: st) (k) (h) := by
  intro H locs lsM hW hS hL hZ
  refine lv_istore F.1 F.2.1 hd hL hb rfl (fun ls' hl => ?_)
  have K := K H locs ls' hW hS (ai_lv1 (v := .inl v) hl) hZ
  rw [hn] at K
  exact K
theorem sn_istore_n (F : ai_F p e s mid args meth c m) {n : Fin 4} {v : Int} (hb : n.val < ai_mL m) (hd : decode (ai_mB m) (ai_pc m i) = .ok (.istore_n n, 1)) (hn : ai_pc m (i + 1) = ai_pc m i + 1) (K : ai_at l D base b cA p e s mid args below meth c m Q (i + 1) (ai_s1 ls n.val (.inl v)) (st) (k) (h)) : ai_at l D base b cA p e s mid args below meth c m Q (i) (ls) (.inl v :: st) (k) (h) := by
  intro H locs lsM hW hS hL hZ
  refine lv_istore_n F.1 F.2.1 hd rfl hL hb rfl (fun ls' hl => ?_)
  have K := K H locs ls' hW hS (ai_lv1 (v := .inl v) hl) hZ
  rw [hn] at K
  exact K
theorem sn_lload (F : ai_F p e s mid args meth c m) {n : Nat} {v : Int} (hv : ai_lg ls n = some (.inr (.inl v))) (hd : decode (ai_mB m) (ai_pc m i) = .ok (.lload n, 2)) (hn : ai_pc m (i + 1) = ai_pc m i + 2) (K : ai_at l D base b cA p e s mid args below meth c m Q (i + 1) (ls) (.inr (.inl v) :: st) (k) (h)) : ai_at l D base b cA p e s mid args below meth c m Q (i) (ls) (st) (k) (h) := by
  intro H locs lsM hW hS hL hZ
  have K := K H locs lsM hW hS hL hZ
  rw [hn] at K
  exact lv_lload F.1 F.2.1 hd (ai_rd hL hv) K
theorem sn_lload_n (F : ai_F p e s mid args meth c m) {n : Fin 4} {v : Int} (hv : ai_lg ls n.val = some (.inr (.inl v))) (hd : decode (ai_mB m) (ai_pc m i) = .ok (.lload_n n, 1)) (hn : ai_pc m (i + 1) = ai_pc m i + 1) (K : ai_at l D base b cA p e s mid args below meth c m Q (i + 1) (ls) (.inr (.inl v) :: st) (k) (h)) : ai_at l D base b cA p e s mid args below meth c m Q (i) (ls) (st) (k) (h) := by
  intro H locs lsM hW hS hL hZ
  have K := K H locs lsM hW hS hL hZ
  rw [hn] at K
  exact lv_lload_n F.1 F.2.1 hd rfl (ai_rd hL hv) K
theorem sn_lstore (F : ai_F p e s mid args meth c m) {n : Nat} {v : Int} (hb : n + 1 < ai_mL m) (hd : decode (ai_mB m) (ai_pc m i) = .ok (.lstore n, 2)) (hn : ai_pc m (i + 1) = ai_pc m i + 2) (K : ai_at l D base b cA p e s mid args below meth c m Q (i + 1) (ai_s2 ls n (.inr (.inl v))) (st) (k) (h)) : ai_at l D base b cA p e s mid args below meth c m Q (i) (ls) (.inr (.inl v) :: st) (k) (h) := by
  intro H locs lsM hW hS hL hZ
  refine lv_lstore F.1 F.2.1 hd hL hb rfl (fun ls' hl => ?_)
  have K := K H locs ls' hW hS (ai_lv2 (v := .inr (.inl v)) hl) hZ
  rw [hn] at K
  exact K
theorem sn_lstore_n (F : ai_F p e s mid args meth c m) {n : Fin 4} {v : Int} (hb : n.val + 1 < ai_mL m) (hd : decode (ai_mB m) (ai_pc m i) = .ok (.lstore_n n, 1)) (hn : ai_pc m (i + 1) = ai_pc m i + 1) (K : ai_at l D base b cA p e s mid args below meth c m Q (i + 1) (ai_s2 ls n.val (.inr (.inl v))) (st) (k) (h)) : ai_at l D base b cA p e s mid args below meth c m Q (i) (ls) (.inr (.inl v) :: st) (k) (h) := by
  intro H locs lsM hW hS hL hZ
  refine lv_lstore_n F.1 F.2.1 hd rfl hL hb rfl (fun ls' hl => ?_)
  have K := K H locs ls' hW hS (ai_lv2 (v := .inr (.inl v)) hl) hZ
  rw [hn] at K
  exact K
theorem sn_aload (F : ai_F p e s mid args meth c m) {n : Nat} {v : Nat} (hv : ai_lg ls n = some (.inr (.inr v))) (hd : decode (ai_mB m) (ai_pc m i) = .ok (.aload n, 2)) (hn : ai_pc m (i + 1) = ai_pc m i + 2) (K : ai_at l D base b cA p e s mid args below meth c m Q (i + 1) (ls) (.inr (.inr v) :: st) (k) (h)) : ai_at l D base b cA p e s mid args below meth c m Q (i) (ls) (st) (k) (h) := by
  intro H locs lsM hW hS hL hZ
  have K := K H locs lsM hW hS hL hZ
  rw [hn] at K
  exact lv_aload F.1 F.2.1 hd (ai_rd hL hv) K
theorem sn_aload_n (F : ai_F p e s mid args meth c m) {n : Fin 4} {v : Nat} (hv : ai_lg ls n.val = some (.inr (.inr v))) (hd : decode (ai_mB m) (ai_pc m i) = .ok (.aload_n n, 1)) (hn : ai_pc m (i + 1) = ai_pc m i + 1) (K : ai_at l D base b cA p e s mid args below meth c m Q (i + 1) (ls) (.inr (.inr v) :: st) (k) (h)) : ai_at l D base b cA p e s mid args below meth c m Q (i) (ls) (st) (k) (h) := by
  intro H locs lsM hW hS hL hZ
  have K := K H locs lsM hW hS hL hZ
  rw [hn] at K
  exact lv_aload_n F.1 F.2.1 hd rfl (ai_rd hL hv) K
theorem sn_astore (F : ai_F p e s mid args meth c m) {n : Nat} {v : Nat} (hb : n < ai_mL m) (hd : decode (ai_mB m) (ai_pc m i) = .ok (.astore n, 2)) (hn : ai_pc m (i + 1) = ai_pc m i + 2) (K : ai_at l D base b cA p e s mid args below meth c m Q (i + 1) (ai_s1 ls n (.inr (.inr v))) (st) (k) (h)) : ai_at l D base b cA p e s mid args below meth c m Q (i) (ls) (.inr (.inr v) :: st) (k) (h) := by
  intro H locs lsM hW hS hL hZ
  refine lv_astore F.1 F.2.1 hd hL hb rfl (fun ls' hl => ?_)
  have K := K H locs ls' hW hS (ai_lv1 (v := .inr (.inr v)) hl) hZ
  rw [hn] at K
  exact K
theorem sn_astore_n (F : ai_F p e s mid args meth c m) {n : Fin 4} {v : Nat} (hb : n.val < ai_mL m) (hd : decode (ai_mB m) (ai_pc m i) = .ok (.astore_n n, 1)) (hn : ai_pc m (i + 1) = ai_pc m i + 1) (K : ai_at l D base b cA p e s mid args below meth c m Q (i + 1) (ai_s1 ls n.val (.inr (.inr v))) (st) (k) (h)) : ai_at l D base b cA p e s mid args below meth c m Q (i) (ls) (.inr (.inr v) :: st) (k) (h) := by
  intro H locs lsM hW hS hL hZ
  refine lv_astore_n F.1 F.2.1 hd rfl hL hb rfl (fun ls' hl => ?_)
  have K := K H locs ls' hW hS (ai_lv1 (v := .inr (.inr v)) hl) hZ
  rw [hn] at K
  exact K
theorem sn_iinc (F : ai_F p e s mid args meth c m) {n : Nat} {d v : Int} (hv : ai_lg ls n = some (.inl v)) (hb : n < ai_mL m) (hd : decode (ai_mB m) (ai_pc m i) = .ok (.iinc n d, 3)) (hn : ai_pc m (i + 1) = ai_pc m i + 3) (K : ai_at l D base b cA p e s mid args below meth c m Q (i + 1) (ai_s1 ls n (.inl (v + d))) (st) (k) (h)) : ai_at l D base b cA p e s mid args below meth c m Q (i) (ls) (st) (k) (h) := by
  intro H locs lsM hW hS hL hZ
  obtain ⟨q, hq⟩ := List.getElem?_of_mem (ai_as_in (ad := ai_ad base b) hv)
  refine lv_iinc (k := q) (v := Int32.ofInt (v + d)) F.1 F.2.1 hd hL hq (by rw [Int32.ofInt_add]) hb rfl (fun ls' hl => ?_)
  have K := K H locs ls' hW hS (ai_lv1 (v := .inl (v + d)) hl) hZ
  rw [hn] at K
  exact K
theorem sn_iadd (F : ai_F p e s mid args meth c m) {a0 b0 : Int} (hd : decode (ai_mB m) (ai_pc m i) = .ok (.iadd, 1)) (hn : ai_pc m (i + 1) = ai_pc m i + 1) (K : ai_at l D base b cA p e s mid args below meth c m Q (i + 1) (ls) (.inl (a0 + b0) :: st) (k) (h)) : ai_at l D base b cA p e s mid args below meth c m Q (i) (ls) (.inl b0 :: .inl a0 :: st) (k) (h) := by
  intro H locs lsM hW hS hL hZ
  have K := K H locs lsM hW hS hL hZ
  rw [hn] at K
  have e : Int32.ofInt (a0 + b0) = Int32.ofInt a0 + Int32.ofInt b0 := Int32.ofInt_add a0 b0
  simp only [List.map_cons, ai_rn] at K ⊢
  rw [e] at K
  exact lv_iadd F.1 F.2.1 hd K
theorem sn_isub (F : ai_F p e s mid args meth c m) {a0 b0 : Int} (hd : decode (ai_mB m) (ai_pc m i) = .ok (.isub, 1)) (hn : ai_pc m (i + 1) = ai_pc m i + 1) (K : ai_at l D base b cA p e s mid args below meth c m Q (i + 1) (ls) (.inl (a0 - b0) :: st) (k) (h)) : ai_at l D base b cA p e s mid args below meth c m Q (i) (ls) (.inl b0 :: .inl a0 :: st) (k) (h) := by
  intro H locs lsM hW hS hL hZ
  have K := K H locs lsM hW hS hL hZ
  rw [hn] at K
  have e : Int32.ofInt (a0 - b0) = Int32.ofInt a0 - Int32.ofInt b0 := Int32.ofInt_sub a0 b0
  simp only [List.map_cons, ai_rn] at K ⊢
  rw [e] at K
  exact lv_isub F.1 F.2.1 hd K
theorem sn_imul (F : ai_F p e s mid args meth c m) {a0 b0 : Int} (hd : decode (ai_mB m) (ai_pc m i) = .ok (.imul, 1)) (hn : ai_pc m (i + 1) = ai_pc m i + 1) (K : ai_at l D base b cA p e s mid args below meth c m Q (i + 1) (ls) (.inl (a0 * b0) :: st) (k) (h)) : ai_at l D base b cA p e s mid args below meth c m Q (i) (ls) (.inl b0 :: .inl a0 :: st) (k) (h) := by
  intro H locs lsM hW hS hL hZ
  have K := K H locs lsM hW hS hL hZ
  rw [hn] at K
  have e : Int32.ofInt (a0 * b0) = Int32.ofInt a0 * Int32.ofInt b0 := Int32.ofInt_mul a0 b0
  simp only [List.map_cons, ai_rn] at K ⊢
  rw [e] at K
  exact lv_imul F.1 F.2.1 hd K
theorem sn_ladd (F : ai_F p e s mid args meth c m) {a0 b0 : Int} (hd : decode (ai_mB m) (ai_pc m i) = .ok (.ladd, 1)) (hn : ai_pc m (i + 1) = ai_pc m i + 1) (K : ai_at l D base b cA p e s mid args below meth c m Q (i + 1) (ls) (.inr (.inl (a0 + b0)) :: st) (k) (h)) : ai_at l D base b cA p e s mid args below meth c m Q (i) (ls) (.inr (.inl b0) :: .inr (.inl a0) :: st) (k) (h) := by
  intro H locs lsM hW hS hL hZ
  have K := K H locs lsM hW hS hL hZ
  rw [hn] at K
  have e : Int64.ofInt (a0 + b0) = Int64.ofInt a0 + Int64.ofInt b0 := Int64.ofInt_add a0 b0
  simp only [List.map_cons, ai_rn] at K ⊢
  rw [e] at K
  exact lv_ladd F.1 F.2.1 hd K
theorem sn_lsub (F : ai_F p e s mid args meth c m) {a0 b0 : Int} (hd : decode (ai_mB m) (ai_pc m i) = .ok (.lsub, 1)) (hn : ai_pc m (i + 1) = ai_pc m i + 1) (K : ai_at l D base b cA p e s mid args below meth c m Q (i + 1) (ls) (.inr (.inl (a0 - b0)) :: st) (k) (h)) : ai_at l D base b cA p e s mid args below meth c m Q (i) (ls) (.inr (.inl b0) :: .inr (.inl a0) :: st) (k) (h) := by
  intro H locs lsM hW hS hL hZ
  have K := K H locs lsM hW hS hL hZ
  rw [hn] at K
  have e : Int64.ofInt (a0 - b0) = Int64.ofInt a0 - Int64.ofInt b0 := Int64.ofInt_sub a0 b0
  simp only [List.map_cons, ai_rn] at K ⊢
  rw [e] at K
  exact lv_lsub F.1 F.2.1 hd K
theorem sn_lmul (F : ai_F p e s mid args meth c m) {a0 b0 : Int} (hd : decode (ai_mB m) (ai_pc m i) = .ok (.lmul, 1)) (hn : ai_pc m (i + 1) = ai_pc m i + 1) (K : ai_at l D base b cA p e s mid args below meth c m Q (i + 1) (ls) (.inr (.inl (a0 * b0)) :: st) (k) (h)) : ai_at l D base b cA p e s mid args below meth c m Q (i) (ls) (.inr (.inl b0) :: .inr (.inl a0) :: st) (k) (h) := by
  intro H locs lsM hW hS hL hZ
  have K := K H locs lsM hW hS hL hZ
  rw [hn] at K
  have e : Int64.ofInt (a0 * b0) = Int64.ofInt a0 * Int64.ofInt b0 := Int64.ofInt_mul a0 b0
  simp only [List.map_cons, ai_rn] at K ⊢
  rw [e] at K
  exact lv_lmul F.1 F.2.1 hd K
theorem sn_iand (F : ai_F p e s mid args meth c m) {a0 b0 : Int} (hd : decode (ai_mB m) (ai_pc m i) = .ok (.iand, 1)) (hn : ai_pc m (i + 1) = ai_pc m i + 1) (K : ai_at l D base b cA p e s mid args below meth c m Q (i + 1) (ls) (.inl (ai_and a0 b0) :: st) (k) (h)) : ai_at l D base b cA p e s mid args below meth c m Q (i) (ls) (.inl b0 :: .inl a0 :: st) (k) (h) := by
  intro H locs lsM hW hS hL hZ
  have K := K H locs lsM hW hS hL hZ
  rw [hn] at K
  have e : Int32.ofInt (ai_and a0 b0) = Int32.ofInt a0 &&& Int32.ofInt b0 := Int32.ofInt_toInt _
  simp only [List.map_cons, ai_rn] at K ⊢
  rw [e] at K
  exact lv_iand F.1 F.2.1 hd K
theorem sn_ior (F : ai_F p e s mid args meth c m) {a0 b0 : Int} (hd : decode (ai_mB m) (ai_pc m i) = .ok (.ior, 1)) (hn : ai_pc m (i + 1) = ai_pc m i + 1) (K : ai_at l D base b cA p e s mid args below meth c m Q (i + 1) (ls) (.inl (ai_or a0 b0) :: st) (k) (h)) : ai_at l D base b cA p e s mid args below meth c m Q (i) (ls) (.inl b0 :: .inl a0 :: st) (k) (h) := by
  intro H locs lsM hW hS hL hZ
  have K := K H locs lsM hW hS hL hZ
  rw [hn] at K
  have e : Int32.ofInt (ai_or a0 b0) = Int32.ofInt a0 ||| Int32.ofInt b0 := Int32.ofInt_toInt _
  simp only [List.map_cons, ai_rn] at K ⊢
  rw [e] at K
  exact lv_ior F.1 F.2.1 hd K
theorem sn_ixor (F : ai_F p e s mid args meth c m) {a0 b0 : Int} (hd : decode (ai_mB m) (ai_pc m i) = .ok (.ixor, 1)) (hn : ai_pc m (i + 1) = ai_pc m i + 1) (K : ai_at l D base b cA p e s mid args below meth c m Q (i + 1) (ls) (.inl (ai_xor a0 b0) :: st) (k) (h)) : ai_at l D base b cA p e s mid args below meth c m Q (i) (ls) (.inl b0 :: .inl a0 :: st) (k) (h) := by
  intro H locs lsM hW hS hL hZ
  have K := K H locs lsM hW hS hL hZ
  rw [hn] at K
  have e : Int32.ofInt (ai_xor a0 b0) = Int32.ofInt a0 ^^^ Int32.ofInt b0 := Int32.ofInt_toInt _
  simp only [List.map_cons, ai_rn] at K ⊢
  rw [e] at K
  exact lv_ixor F.1 F.2.1 hd K
theorem sn_ishl (F : ai_F p e s mid args meth c m) {a0 b0 : Int} (hd : decode (ai_mB m) (ai_pc m i) = .ok (.ishl, 1)) (hn : ai_pc m (i + 1) = ai_pc m i + 1) (K : ai_at l D base b cA p e s mid args below meth c m Q (i + 1) (ls) (.inl (ai_shl a0 b0) :: st) (k) (h)) : ai_at l D base b cA p e s mid args below meth c m Q (i) (ls) (.inl b0 :: .inl a0 :: st) (k) (h) := by
  intro H locs lsM hW hS hL hZ
  have K := K H locs lsM hW hS hL hZ
  rw [hn] at K
  have e : Int32.ofInt (ai_shl a0 b0) = Int32.ofInt a0 <<< (Int32.ofInt b0 &&& 31) := Int32.ofInt_toInt _
  simp only [List.map_cons, ai_rn] at K ⊢
  rw [e] at K
  exact lv_ishl F.1 F.2.1 hd K
theorem sn_ishr (F : ai_F p e s mid args meth c m) {a0 b0 : Int} (hd : decode (ai_mB m) (ai_pc m i) = .ok (.ishr, 1)) (hn : ai_pc m (i + 1) = ai_pc m i + 1) (K : ai_at l D base b cA p e s mid args below meth c m Q (i + 1) (ls) (.inl (ai_shr a0 b0) :: st) (k) (h)) : ai_at l D base b cA p e s mid args below meth c m Q (i) (ls) (.inl b0 :: .inl a0 :: st) (k) (h) := by
  intro H locs lsM hW hS hL hZ
  have K := K H locs lsM hW hS hL hZ
  rw [hn] at K
  have e : Int32.ofInt (ai_shr a0 b0) = Int32.ofInt a0 >>> (Int32.ofInt b0 &&& 31) := Int32.ofInt_toInt _
  simp only [List.map_cons, ai_rn] at K ⊢
  rw [e] at K
  exact lv_ishr F.1 F.2.1 hd K
theorem sn_idiv (F : ai_F p e s mid args meth c m) {a0 b0 : Int} (hz : ai_r b0 ∧ ¬ b0 = 0) (hd : decode (ai_mB m) (ai_pc m i) = .ok (.idiv, 1)) (hn : ai_pc m (i + 1) = ai_pc m i + 1) (K : ai_at l D base b cA p e s mid args below meth c m Q (i + 1) (ls) (.inl (ai_div a0 b0) :: st) (k) (h)) : ai_at l D base b cA p e s mid args below meth c m Q (i) (ls) (.inl b0 :: .inl a0 :: st) (k) (h) := by
  intro H locs lsM hW hS hL hZ
  have K := K H locs lsM hW hS hL hZ
  rw [hn] at K
  have e : Int32.ofInt (ai_div a0 b0) = Int32.ofInt a0 / Int32.ofInt b0 := Int32.ofInt_toInt _
  simp only [List.map_cons, ai_rn] at K ⊢
  rw [e] at K
  exact lv_idiv F.1 F.2.1 hd (fun q => hz.2 ((ai_eq hz.1 ai_r0).mp q)) K
theorem sn_irem (F : ai_F p e s mid args meth c m) {a0 b0 : Int} (hz : ai_r b0 ∧ ¬ b0 = 0) (hd : decode (ai_mB m) (ai_pc m i) = .ok (.irem, 1)) (hn : ai_pc m (i + 1) = ai_pc m i + 1) (K : ai_at l D base b cA p e s mid args below meth c m Q (i + 1) (ls) (.inl (ai_rem a0 b0) :: st) (k) (h)) : ai_at l D base b cA p e s mid args below meth c m Q (i) (ls) (.inl b0 :: .inl a0 :: st) (k) (h) := by
  intro H locs lsM hW hS hL hZ
  have K := K H locs lsM hW hS hL hZ
  rw [hn] at K
  have e : Int32.ofInt (ai_rem a0 b0) = Int32.ofInt a0 - Int32.ofInt a0 / Int32.ofInt b0 * Int32.ofInt b0 := Int32.ofInt_toInt _
  simp only [List.map_cons, ai_rn] at K ⊢
  rw [e] at K
  exact lv_irem F.1 F.2.1 hd (fun q => hz.2 ((ai_eq hz.1 ai_r0).mp q)) K
theorem sn_land (F : ai_F p e s mid args meth c m) {a0 b0 : Int} (hd : decode (ai_mB m) (ai_pc m i) = .ok (.land, 1)) (hn : ai_pc m (i + 1) = ai_pc m i + 1) (K : ai_at l D base b cA p e s mid args below meth c m Q (i + 1) (ls) (.inr (.inl (ai_land a0 b0)) :: st) (k) (h)) : ai_at l D base b cA p e s mid args below meth c m Q (i) (ls) (.inr (.inl b0) :: .inr (.inl a0) :: st) (k) (h) := by
  intro H locs lsM hW hS hL hZ
  have K := K H locs lsM hW hS hL hZ
  rw [hn] at K
  have e : Int64.ofInt (ai_land a0 b0) = Int64.ofInt a0 &&& Int64.ofInt b0 := Int64.ofInt_toInt _
  simp only [List.map_cons, ai_rn] at K ⊢
  rw [e] at K
  exact lv_land F.1 F.2.1 hd K
theorem sn_lor (F : ai_F p e s mid args meth c m) {a0 b0 : Int} (hd : decode (ai_mB m) (ai_pc m i) = .ok (.lor, 1)) (hn : ai_pc m (i + 1) = ai_pc m i + 1) (K : ai_at l D base b cA p e s mid args below meth c m Q (i + 1) (ls) (.inr (.inl (ai_lor a0 b0)) :: st) (k) (h)) : ai_at l D base b cA p e s mid args below meth c m Q (i) (ls) (.inr (.inl b0) :: .inr (.inl a0) :: st) (k) (h) := by
  intro H locs lsM hW hS hL hZ
  have K := K H locs lsM hW hS hL hZ
  rw [hn] at K
  have e : Int64.ofInt (ai_lor a0 b0) = Int64.ofInt a0 ||| Int64.ofInt b0 := Int64.ofInt_toInt _
  simp only [List.map_cons, ai_rn] at K ⊢
  rw [e] at K
  exact lv_lor F.1 F.2.1 hd K
theorem ai_r80 : ai_r8 0 := ⟨by decide, by decide⟩
theorem sn_ldiv (F : ai_F p e s mid args meth c m) {a0 b0 : Int} (hz : ai_r8 b0 ∧ ¬ b0 = 0) (hd : decode (ai_mB m) (ai_pc m i) = .ok (.ldiv, 1)) (hn : ai_pc m (i + 1) = ai_pc m i + 1) (K : ai_at l D base b cA p e s mid args below meth c m Q (i + 1) (ls) (.inr (.inl (ai_ldiv a0 b0)) :: st) (k) (h)) : ai_at l D base b cA p e s mid args below meth c m Q (i) (ls) (.inr (.inl b0) :: .inr (.inl a0) :: st) (k) (h) := by
  intro H locs lsM hW hS hL hZ
  have K := K H locs lsM hW hS hL hZ
  rw [hn] at K
  have e : Int64.ofInt (ai_ldiv a0 b0) = Int64.ofInt a0 / Int64.ofInt b0 := Int64.ofInt_toInt _
  simp only [List.map_cons, ai_rn] at K ⊢
  rw [e] at K
  exact lv_ldiv F.1 F.2.1 hd (fun q => hz.2 ((ai_eq8 hz.1 ai_r80).mp q)) K
theorem sn_lrem (F : ai_F p e s mid args meth c m) {a0 b0 : Int} (hz : ai_r8 b0 ∧ ¬ b0 = 0) (hd : decode (ai_mB m) (ai_pc m i) = .ok (.lrem, 1)) (hn : ai_pc m (i + 1) = ai_pc m i + 1) (K : ai_at l D base b cA p e s mid args below meth c m Q (i + 1) (ls) (.inr (.inl (ai_lrem a0 b0)) :: st) (k) (h)) : ai_at l D base b cA p e s mid args below meth c m Q (i) (ls) (.inr (.inl b0) :: .inr (.inl a0) :: st) (k) (h) := by
  intro H locs lsM hW hS hL hZ
  have K := K H locs lsM hW hS hL hZ
  rw [hn] at K
  have e : Int64.ofInt (ai_lrem a0 b0) = Int64.ofInt a0 - Int64.ofInt a0 / Int64.ofInt b0 * Int64.ofInt b0 := Int64.ofInt_toInt _
  simp only [List.map_cons, ai_rn] at K ⊢
  rw [e] at K
  exact lv_lrem F.1 F.2.1 hd (fun q => hz.2 ((ai_eq8 hz.1 ai_r80).mp q)) K
theorem sn_lshl (F : ai_F p e s mid args meth c m) {a0 b0 : Int} (hd : decode (ai_mB m) (ai_pc m i) = .ok (.lshl, 1)) (hn : ai_pc m (i + 1) = ai_pc m i + 1) (K : ai_at l D base b cA p e s mid args below meth c m Q (i + 1) (ls) (.inr (.inl (ai_lshl a0 b0)) :: st) (k) (h)) : ai_at l D base b cA p e s mid args below meth c m Q (i) (ls) (.inl b0 :: .inr (.inl a0) :: st) (k) (h) := by
  intro H locs lsM hW hS hL hZ
  have K := K H locs lsM hW hS hL hZ
  rw [hn] at K
  have e : Int64.ofInt (ai_lshl a0 b0) = Int64.ofInt a0 <<< ((Int32.ofInt b0).toInt64 &&& 63) := Int64.ofInt_toInt _
  simp only [List.map_cons, ai_rn] at K ⊢
  rw [e] at K
  exact lv_lshl F.1 F.2.1 hd rfl K
theorem sn_lshr (F : ai_F p e s mid args meth c m) {a0 b0 : Int} (hd : decode (ai_mB m) (ai_pc m i) = .ok (.lshr, 1)) (hn : ai_pc m (i + 1) = ai_pc m i + 1) (K : ai_at l D base b cA p e s mid args below meth c m Q (i + 1) (ls) (.inr (.inl (ai_lshr a0 b0)) :: st) (k) (h)) : ai_at l D base b cA p e s mid args below meth c m Q (i) (ls) (.inl b0 :: .inr (.inl a0) :: st) (k) (h) := by
  intro H locs lsM hW hS hL hZ
  have K := K H locs lsM hW hS hL hZ
  rw [hn] at K
  have e : Int64.ofInt (ai_lshr a0 b0) = Int64.ofInt a0 >>> ((Int32.ofInt b0).toInt64 &&& 63) := Int64.ofInt_toInt _
  simp only [List.map_cons, ai_rn] at K ⊢
  rw [e] at K
  exact lv_lshr F.1 F.2.1 hd rfl K
theorem sn_lneg (F : ai_F p e s mid args meth c m) {a0 : Int} (hd : decode (ai_mB m) (ai_pc m i) = .ok (.lneg, 1)) (hn : ai_pc m (i + 1) = ai_pc m i + 1) (K : ai_at l D base b cA p e s mid args below meth c m Q (i + 1) (ls) (.inr (.inl (-a0)) :: st) (k) (h)) : ai_at l D base b cA p e s mid args below meth c m Q (i) (ls) (.inr (.inl a0) :: st) (k) (h) := by
  intro H locs lsM hW hS hL hZ
  have K := K H locs lsM hW hS hL hZ
  rw [hn] at K
  have e : Int64.ofInt (-a0) = -Int64.ofInt a0 := Int64.ofInt_neg a0
  simp only [List.map_cons, ai_rn] at K ⊢
  rw [e] at K
  exact lv_lneg F.1 F.2.1 hd K
theorem sn_i2c (F : ai_F p e s mid args meth c m) {a0 : Int} (hd : decode (ai_mB m) (ai_pc m i) = .ok (.i2c, 1)) (hn : ai_pc m (i + 1) = ai_pc m i + 1) (K : ai_at l D base b cA p e s mid args below meth c m Q (i + 1) (ls) (.inl (ai_i2c a0) :: st) (k) (h)) : ai_at l D base b cA p e s mid args below meth c m Q (i) (ls) (.inl a0 :: st) (k) (h) := by
  intro H locs lsM hW hS hL hZ
  have K := K H locs lsM hW hS hL hZ
  rw [hn] at K
  have e : Int32.ofInt (ai_i2c a0) = ((Int32.ofInt a0).toUInt32 % 65536).toInt32 := Int32.ofInt_toInt _
  simp only [List.map_cons, ai_rn] at K ⊢
  rw [e] at K
  exact lv_i2c F.1 F.2.1 hd rfl K
theorem sn_i2l (F : ai_F p e s mid args meth c m) {a0 : Int} (hr : ai_r a0) (hd : decode (ai_mB m) (ai_pc m i) = .ok (.i2l, 1)) (hn : ai_pc m (i + 1) = ai_pc m i + 1) (K : ai_at l D base b cA p e s mid args below meth c m Q (i + 1) (ls) (.inr (.inl a0) :: st) (k) (h)) : ai_at l D base b cA p e s mid args below meth c m Q (i) (ls) (.inl a0 :: st) (k) (h) := by
  intro H locs lsM hW hS hL hZ
  have K := K H locs lsM hW hS hL hZ
  rw [hn] at K
  exact lv_i2l F.1 F.2.1 hd (ai_i2l_eq hr) K
theorem sn_l2i (F : ai_F p e s mid args meth c m) {a0 : Int} (hd : decode (ai_mB m) (ai_pc m i) = .ok (.l2i, 1)) (hn : ai_pc m (i + 1) = ai_pc m i + 1) (K : ai_at l D base b cA p e s mid args below meth c m Q (i + 1) (ls) (.inl a0 :: st) (k) (h)) : ai_at l D base b cA p e s mid args below meth c m Q (i) (ls) (.inr (.inl a0) :: st) (k) (h) := by
  intro H locs lsM hW hS hL hZ
  have K := K H locs lsM hW hS hL hZ
  rw [hn] at K
  exact lv_l2i F.1 F.2.1 hd (ai_l2i_eq a0) K
theorem sn_lcmp (F : ai_F p e s mid args meth c m) {a0 b0 : Int} (ha : ai_r8 a0) (hb : ai_r8 b0) (hd : decode (ai_mB m) (ai_pc m i) = .ok (.lcmp, 1)) (hn : ai_pc m (i + 1) = ai_pc m i + 1) (K : ai_at l D base b cA p e s mid args below meth c m Q (i + 1) (ls) (.inl (ai_cmp a0 b0) :: st) (k) (h)) : ai_at l D base b cA p e s mid args below meth c m Q (i) (ls) (.inr (.inl b0) :: .inr (.inl a0) :: st) (k) (h) := by
  intro H locs lsM hW hS hL hZ
  have K := K H locs lsM hW hS hL hZ
  rw [hn] at K
  simp only [List.map_cons, ai_rn] at K ⊢
  rw [← ai_cmp_eq ha hb] at K
  exact W.lcmp F.1 F.2.1 hd K
theorem sn_icmp_eq (F : ai_F p e s mid args meth c m) {a0 b0 : Int} {off : Int} {t : Nat} (ha : ai_r a0) (hb : ai_r b0) (hd : decode (ai_mB m) (ai_pc m i) = .ok (.if_icmp .eq off, 3)) (hn : ai_pc m (i + 1) = ai_pc m i + 3) (ht : (ai_pc m i : Int) + off = (ai_pc m t : Int)) (K1 : a0 = b0 → ai_at l D base b cA p e s mid args below meth c m Q (t) (ls) (st) (k) (h)) (K2 : ¬ (a0 = b0) → ai_at l D base b cA p e s mid args below meth c m Q (i + 1) (ls) (st) (k) (h)) : ai_at l D base b cA p e s mid args below meth c m Q (i) (ls) (.inl b0 :: .inl a0 :: st) (k) (h) := by
  intro H locs lsM hW hS hL hZ
  refine lv_icmp_eq F.1 F.2.1 hd ht (fun q => K1 ?_ H locs lsM hW hS hL hZ) (fun q => ?_)
  · exact (ai_eq ha hb).mp q
  · have K := K2 (fun z => q ((ai_eq ha hb).mpr z)) H locs lsM hW hS hL hZ
    rw [hn] at K
    exact K
theorem sn_if_eq (F : ai_F p e s mid args meth c m) {a0 b0 : Int} {off : Int} {t : Nat} (ha : ai_r a0) (hd : decode (ai_mB m) (ai_pc m i) = .ok (.ifCond .eq off, 3)) (hn : ai_pc m (i + 1) = ai_pc m i + 3) (ht : (ai_pc m i : Int) + off = (ai_pc m t : Int)) (K1 : a0 = 0 → ai_at l D base b cA p e s mid args below meth c m Q (t) (ls) (st) (k) (h)) (K2 : ¬ (a0 = 0) → ai_at l D base b cA p e s mid args below meth c m Q (i + 1) (ls) (st) (k) (h)) : ai_at l D base b cA p e s mid args below meth c m Q (i) (ls) (.inl a0 :: st) (k) (h) := by
  intro H locs lsM hW hS hL hZ
  refine lv_if_eq F.1 F.2.1 hd ht (fun q => K1 ?_ H locs lsM hW hS hL hZ) (fun q => ?_)
  · exact (ai_eq ha ai_r0).mp q
  · have K := K2 (fun z => q ((ai_eq ha ai_r0).mpr z)) H locs lsM hW hS hL hZ
    rw [hn] at K
    exact K
theorem sn_icmp_ne (F : ai_F p e s mid args meth c m) {a0 b0 : Int} {off : Int} {t : Nat} (ha : ai_r a0) (hb : ai_r b0) (hd : decode (ai_mB m) (ai_pc m i) = .ok (.if_icmp .ne off, 3)) (hn : ai_pc m (i + 1) = ai_pc m i + 3) (ht : (ai_pc m i : Int) + off = (ai_pc m t : Int)) (K1 : ¬ a0 = b0 → ai_at l D base b cA p e s mid args below meth c m Q (t) (ls) (st) (k) (h)) (K2 : ¬ (¬ a0 = b0) → ai_at l D base b cA p e s mid args below meth c m Q (i + 1) (ls) (st) (k) (h)) : ai_at l D base b cA p e s mid args below meth c m Q (i) (ls) (.inl b0 :: .inl a0 :: st) (k) (h) := by
  intro H locs lsM hW hS hL hZ
  refine lv_icmp_ne F.1 F.2.1 hd ht (fun q => K1 ?_ H locs lsM hW hS hL hZ) (fun q => ?_)
  · exact fun z => q ((ai_eq ha hb).mpr z)
  · have K := K2 (fun z => z ((ai_eq ha hb).mp q)) H locs lsM hW hS hL hZ
    rw [hn] at K
    exact K
theorem sn_if_ne (F : ai_F p e s mid args meth c m) {a0 b0 : Int} {off : Int} {t : Nat} (ha : ai_r a0) (hd : decode (ai_mB m) (ai_pc m i) = .ok (.ifCond .ne off, 3)) (hn : ai_pc m (i + 1) = ai_pc m i + 3) (ht : (ai_pc m i : Int) + off = (ai_pc m t : Int)) (K1 : ¬ a0 = 0 → ai_at l D base b cA p e s mid args below meth c m Q (t) (ls) (st) (k) (h)) (K2 : ¬ (¬ a0 = 0) → ai_at l D base b cA p e s mid args below meth c m Q (i + 1) (ls) (st) (k) (h)) : ai_at l D base b cA p e s mid args below meth c m Q (i) (ls) (.inl a0 :: st) (k) (h) := by
  intro H locs lsM hW hS hL hZ
  refine lv_if_ne F.1 F.2.1 hd ht (fun q => K1 ?_ H locs lsM hW hS hL hZ) (fun q => ?_)
  · exact fun z => q ((ai_eq ha ai_r0).mpr z)
  · have K := K2 (fun z => z ((ai_eq ha ai_r0).mp q)) H locs lsM hW hS hL hZ
    rw [hn] at K
    exact K
theorem sn_icmp_lt (F : ai_F p e s mid args meth c m) {a0 b0 : Int} {off : Int} {t : Nat} (ha : ai_r a0) (hb : ai_r b0) (hd : decode (ai_mB m) (ai_pc m i) = .ok (.if_icmp .lt off, 3)) (hn : ai_pc m (i + 1) = ai_pc m i + 3) (ht : (ai_pc m i : Int) + off = (ai_pc m t : Int)) (K1 : a0 < b0 → ai_at l D base b cA p e s mid args below meth c m Q (t) (ls) (st) (k) (h)) (K2 : ¬ (a0 < b0) → ai_at l D base b cA p e s mid args below meth c m Q (i + 1) (ls) (st) (k) (h)) : ai_at l D base b cA p e s mid args below meth c m Q (i) (ls) (.inl b0 :: .inl a0 :: st) (k) (h) := by
  intro H locs lsM hW hS hL hZ
  refine lv_icmp_lt F.1 F.2.1 hd ht (fun q => K1 ?_ H locs lsM hW hS hL hZ) (fun q => ?_)
  · exact (ai_lt ha hb).mp q
  · have K := K2 (fun z => q ((ai_lt ha hb).mpr z)) H locs lsM hW hS hL hZ
    rw [hn] at K
    exact K
theorem sn_if_lt (F : ai_F p e s mid args meth c m) {a0 b0 : Int} {off : Int} {t : Nat} (ha : ai_r a0) (hd : decode (ai_mB m) (ai_pc m i) = .ok (.ifCond .lt off, 3)) (hn : ai_pc m (i + 1) = ai_pc m i + 3) (ht : (ai_pc m i : Int) + off = (ai_pc m t : Int)) (K1 : a0 < 0 → ai_at l D base b cA p e s mid args below meth c m Q (t) (ls) (st) (k) (h)) (K2 : ¬ (a0 < 0) → ai_at l D base b cA p e s mid args below meth c m Q (i + 1) (ls) (st) (k) (h)) : ai_at l D base b cA p e s mid args below meth c m Q (i) (ls) (.inl a0 :: st) (k) (h) := by
  intro H locs lsM hW hS hL hZ
  refine lv_if_lt F.1 F.2.1 hd ht (fun q => K1 ?_ H locs lsM hW hS hL hZ) (fun q => ?_)
  · exact (ai_lt ha ai_r0).mp q
  · have K := K2 (fun z => q ((ai_lt ha ai_r0).mpr z)) H locs lsM hW hS hL hZ
    rw [hn] at K
    exact K
theorem sn_icmp_ge (F : ai_F p e s mid args meth c m) {a0 b0 : Int} {off : Int} {t : Nat} (ha : ai_r a0) (hb : ai_r b0) (hd : decode (ai_mB m) (ai_pc m i) = .ok (.if_icmp .ge off, 3)) (hn : ai_pc m (i + 1) = ai_pc m i + 3) (ht : (ai_pc m i : Int) + off = (ai_pc m t : Int)) (K1 : b0 ≤ a0 → ai_at l D base b cA p e s mid args below meth c m Q (t) (ls) (st) (k) (h)) (K2 : ¬ (b0 ≤ a0) → ai_at l D base b cA p e s mid args below meth c m Q (i + 1) (ls) (st) (k) (h)) : ai_at l D base b cA p e s mid args below meth c m Q (i) (ls) (.inl b0 :: .inl a0 :: st) (k) (h) := by
  intro H locs lsM hW hS hL hZ
  refine lv_icmp_ge F.1 F.2.1 hd ht (fun q => K1 ?_ H locs lsM hW hS hL hZ) (fun q => ?_)
  · exact (ai_le hb ha).mp q
  · have K := K2 (fun z => q ((ai_le hb ha).mpr z)) H locs lsM hW hS hL hZ
    rw [hn] at K
    exact K
theorem sn_if_ge (F : ai_F p e s mid args meth c m) {a0 b0 : Int} {off : Int} {t : Nat} (ha : ai_r a0) (hd : decode (ai_mB m) (ai_pc m i) = .ok (.ifCond .ge off, 3)) (hn : ai_pc m (i + 1) = ai_pc m i + 3) (ht : (ai_pc m i : Int) + off = (ai_pc m t : Int)) (K1 : 0 ≤ a0 → ai_at l D base b cA p e s mid args below meth c m Q (t) (ls) (st) (k) (h)) (K2 : ¬ (0 ≤ a0) → ai_at l D base b cA p e s mid args below meth c m Q (i + 1) (ls) (st) (k) (h)) : ai_at l D base b cA p e s mid args below meth c m Q (i) (ls) (.inl a0 :: st) (k) (h) := by
  intro H locs lsM hW hS hL hZ
  refine lv_if_ge F.1 F.2.1 hd ht (fun q => K1 ?_ H locs lsM hW hS hL hZ) (fun q => ?_)
  · exact (ai_le ai_r0 ha).mp q
  · have K := K2 (fun z => q ((ai_le ai_r0 ha).mpr z)) H locs lsM hW hS hL hZ
    rw [hn] at K
    exact K
theorem sn_icmp_gt (F : ai_F p e s mid args meth c m) {a0 b0 : Int} {off : Int} {t : Nat} (ha : ai_r a0) (hb : ai_r b0) (hd : decode (ai_mB m) (ai_pc m i) = .ok (.if_icmp .gt off, 3)) (hn : ai_pc m (i + 1) = ai_pc m i + 3) (ht : (ai_pc m i : Int) + off = (ai_pc m t : Int)) (K1 : b0 < a0 → ai_at l D base b cA p e s mid args below meth c m Q (t) (ls) (st) (k) (h)) (K2 : ¬ (b0 < a0) → ai_at l D base b cA p e s mid args below meth c m Q (i + 1) (ls) (st) (k) (h)) : ai_at l D base b cA p e s mid args below meth c m Q (i) (ls) (.inl b0 :: .inl a0 :: st) (k) (h) := by
  intro H locs lsM hW hS hL hZ
  refine lv_icmp_gt F.1 F.2.1 hd ht (fun q => K1 ?_ H locs lsM hW hS hL hZ) (fun q => ?_)
  · exact (ai_lt hb ha).mp q
  · have K := K2 (fun z => q ((ai_lt hb ha).mpr z)) H locs lsM hW hS hL hZ
    rw [hn] at K
    exact K
theorem sn_if_gt (F : ai_F p e s mid args meth c m) {a0 b0 : Int} {off : Int} {t : Nat} (ha : ai_r a0) (hd : decode (ai_mB m) (ai_pc m i) = .ok (.ifCond .gt off, 3)) (hn : ai_pc m (i + 1) = ai_pc m i + 3) (ht : (ai_pc m i : Int) + off = (ai_pc m t : Int)) (K1 : 0 < a0 → ai_at l D base b cA p e s mid args below meth c m Q (t) (ls) (st) (k) (h)) (K2 : ¬ (0 < a0) → ai_at l D base b cA p e s mid args below meth c m Q (i + 1) (ls) (st) (k) (h)) : ai_at l D base b cA p e s mid args below meth c m Q (i) (ls) (.inl a0 :: st) (k) (h) := by
  intro H locs lsM hW hS hL hZ
  refine lv_if_gt F.1 F.2.1 hd ht (fun q => K1 ?_ H locs lsM hW hS hL hZ) (fun q => ?_)
  · exact (ai_lt ai_r0 ha).mp q
  · have K := K2 (fun z => q ((ai_lt ai_r0 ha).mpr z)) H locs lsM hW hS hL hZ
    rw [hn] at K
    exact K
theorem sn_icmp_le (F : ai_F p e s mid args meth c m) {a0 b0 : Int} {off : Int} {t : Nat} (ha : ai_r a0) (hb : ai_r b0) (hd : decode (ai_mB m) (ai_pc m i) = .ok (.if_icmp .le off, 3)) (hn : ai_pc m (i + 1) = ai_pc m i + 3) (ht : (ai_pc m i : Int) + off = (ai_pc m t : Int)) (K1 : a0 ≤ b0 → ai_at l D base b cA p e s mid args below meth c m Q (t) (ls) (st) (k) (h)) (K2 : ¬ (a0 ≤ b0) → ai_at l D base b cA p e s mid args below meth c m Q (i + 1) (ls) (st) (k) (h)) : ai_at l D base b cA p e s mid args below meth c m Q (i) (ls) (.inl b0 :: .inl a0 :: st) (k) (h) := by
  intro H locs lsM hW hS hL hZ
  refine lv_icmp_le F.1 F.2.1 hd ht (fun q => K1 ?_ H locs lsM hW hS hL hZ) (fun q => ?_)
  · exact (ai_le ha hb).mp q
  · have K := K2 (fun z => q ((ai_le ha hb).mpr z)) H locs lsM hW hS hL hZ
    rw [hn] at K
    exact K
theorem sn_if_le (F : ai_F p e s mid args meth c m) {a0 b0 : Int} {off : Int} {t : Nat} (ha : ai_r a0) (hd : decode (ai_mB m) (ai_pc m i) = .ok (.ifCond .le off, 3)) (hn : ai_pc m (i + 1) = ai_pc m i + 3) (ht : (ai_pc m i : Int) + off = (ai_pc m t : Int)) (K1 : a0 ≤ 0 → ai_at l D base b cA p e s mid args below meth c m Q (t) (ls) (st) (k) (h)) (K2 : ¬ (a0 ≤ 0) → ai_at l D base b cA p e s mid args below meth c m Q (i + 1) (ls) (st) (k) (h)) : ai_at l D base b cA p e s mid args below meth c m Q (i) (ls) (.inl a0 :: st) (k) (h) := by
  intro H locs lsM hW hS hL hZ
  refine lv_if_le F.1 F.2.1 hd ht (fun q => K1 ?_ H locs lsM hW hS hL hZ) (fun q => ?_)
  · exact (ai_le ha ai_r0).mp q
  · have K := K2 (fun z => q ((ai_le ha ai_r0).mpr z)) H locs lsM hW hS hL hZ
    rw [hn] at K
    exact K
theorem sn_goto (F : ai_F p e s mid args meth c m) {off : Int} {t : Nat} (hd : decode (ai_mB m) (ai_pc m i) = .ok (.goto off, 3)) (ht : (ai_pc m i : Int) + off = (ai_pc m t : Int)) (K : ai_at l D base b cA p e s mid args below meth c m Q (t) (ls) (st) (k) (h)) : ai_at l D base b cA p e s mid args below meth c m Q (i) (ls) (st) (k) (h) := by
  intro H locs lsM hW hS hL hZ
  exact lv_goto F.1 F.2.1 hd ht (K H locs lsM hW hS hL hZ)
theorem sn_dup_i (F : ai_F p e s mid args meth c m) {a0 : Int} (hd : decode (ai_mB m) (ai_pc m i) = .ok (.dup, 1)) (hn : ai_pc m (i + 1) = ai_pc m i + 1) (K : ai_at l D base b cA p e s mid args below meth c m Q (i + 1) (ls) (.inl a0 :: .inl a0 :: st) (k) (h)) : ai_at l D base b cA p e s mid args below meth c m Q (i) (ls) (.inl a0 :: st) (k) (h) := by
  intro H locs lsM hW hS hL hZ
  have K := K H locs lsM hW hS hL hZ
  rw [hn] at K
  exact lv_dup F.1 F.2.1 hd rfl K
theorem sn_dup_a (F : ai_F p e s mid args meth c m) {a0 : Nat} (hd : decode (ai_mB m) (ai_pc m i) = .ok (.dup, 1)) (hn : ai_pc m (i + 1) = ai_pc m i + 1) (K : ai_at l D base b cA p e s mid args below meth c m Q (i + 1) (ls) (.inr (.inr a0) :: .inr (.inr a0) :: st) (k) (h)) : ai_at l D base b cA p e s mid args below meth c m Q (i) (ls) (.inr (.inr a0) :: st) (k) (h) := by
  intro H locs lsM hW hS hL hZ
  have K := K H locs lsM hW hS hL hZ
  rw [hn] at K
  exact lv_dup F.1 F.2.1 hd rfl K
theorem sn_dup2 (F : ai_F p e s mid args meth c m) {a0 : Int} {b0 : Nat} (hd : decode (ai_mB m) (ai_pc m i) = .ok (.dup2, 1)) (hn : ai_pc m (i + 1) = ai_pc m i + 1) (K : ai_at l D base b cA p e s mid args below meth c m Q (i + 1) (ls) (.inl a0 :: .inr (.inr b0) :: .inl a0 :: .inr (.inr b0) :: st) (k) (h)) : ai_at l D base b cA p e s mid args below meth c m Q (i) (ls) (.inl a0 :: .inr (.inr b0) :: st) (k) (h) := by
  intro H locs lsM hW hS hL hZ
  have K := K H locs lsM hW hS hL hZ
  rw [hn] at K
  exact lv_dup2_11 F.1 F.2.1 hd rfl rfl K
theorem sn_pop (F : ai_F p e s mid args meth c m) {a0 : Int} (hd : decode (ai_mB m) (ai_pc m i) = .ok (.pop, 1)) (hn : ai_pc m (i + 1) = ai_pc m i + 1) (K : ai_at l D base b cA p e s mid args below meth c m Q (i + 1) (ls) (st) (k) (h)) : ai_at l D base b cA p e s mid args below meth c m Q (i) (ls) (.inl a0 :: st) (k) (h) := by
  intro H locs lsM hW hS hL hZ
  have K := K H locs lsM hW hS hL hZ
  rw [hn] at K
  exact lv_pop F.1 F.2.1 hd rfl K
end AIS
end
section
/-! SOUNDNESS of the instructions that read and write cells. -/
theorem ai_fv_eq {ad : Nat → Nat} {h h' : ai_H} {p kd j : Nat} (h1 : h'.2.2 p (Int.ofNat j) = h.2.2 p (Int.ofNat j)) (h2 : (p, j) ∈ h'.2.1 ↔ (p, j) ∈ h.2.1) : ai_fv ad h' p kd j = ai_fv ad h p kd j := by
  unfold ai_fv
  simp only [h1, h2]
theorem ai_cell_eq {ad : Nat → Nat} {cA : Nat → ClassId} {h h' : ai_H} {p : Nat} (h1 : ∀ j : Int, h'.2.2 p j = h.2.2 p j) (h2 : ∀ j : Nat, (p, j) ∈ h'.2.1 ↔ (p, j) ∈ h.2.1) : ai_cell ad cA h' p = ai_cell ad cA h p := by
  unfold ai_cell
  split
  · congr 2
    apply ai_tab_congr
    intro j _
    exact ai_fv_eq (h1 _) (h2 j)
  · unfold ai_ac
    simp only [h1, h2]
  · rfl
theorem ai_set_ne {σ : ai_S} {p q : Nat} {i v j : Int} (hq : q ≠ p) : ai_set σ p i v q j = σ q j := by simp [ai_set, hq]
theorem ai_set_nj {σ : ai_S} {p q : Nat} {i v j : Int} (hj : j ≠ i) : ai_set σ p i v q j = σ q j := by
  unfold ai_set
  split
  · simp [hj]
  · rfl
theorem ai_set_eq {σ : ai_S} {p : Nat} {i v : Int} : ai_set σ p i v p i = v := by simp [ai_set]
theorem ai_cell_put {ad : Nat → Nat} {cA : Nat → ClassId} {h h' : ai_H} {q ci ks : Nat} {v : Value} (hsh : ai_sh q = some (.inl ci)) (h1 : ai_fv ad h' q (ai_kd ci ks) ks = v) (h2 : ∀ j, j ≠ ks → ai_fv ad h' q (ai_kd ci j) j = ai_fv ad h q (ai_kd ci j) j) :
    ai_cell ad cA h' q = .inr (ci, (ai_tab (ai_nf ci) (fun j => ai_fv ad h q (ai_kd ci j) j)).set ks v) := by
  unfold ai_cell
  rw [hsh, ai_tab_set]
  simp only
  congr 2
  apply ai_tab_congr
  intro j _
  by_cases hj : j = ks
  · subst hj
    rw [if_pos rfl, h1]
  · rw [if_neg hj, h2 j hj]
theorem ai_at_obj {ad : Nat → Nat} {cA : Nat → ClassId} {h : ai_H} {q ci : Nat} (hq : q < h.1) (hsh : ai_sh q = some (.inl ci)) : (ai_ws ad cA h)[q]? = some (ad q, .inr (ci, ai_tab (ai_nf ci) (fun j => ai_fv ad h q (ai_kd ci j) j))) := by
  rw [ai_ws, ai_tab_get hq, ai_cell, hsh]
theorem ai_at_arr {ad : Nat → Nat} {cA : Nat → ClassId} {h : ai_H} {q kd n : Nat} (hq : q < h.1) (hsh : ai_sh q = some (.inr (kd, n))) : (ai_ws ad cA h)[q]? = some (ad q, .inl (cA kd, n, ai_ac ad h q kd)) := by
  rw [ai_ws, ai_tab_get hq, ai_cell, hsh]
theorem ai_tys_at {cA : Nat → ClassId} {kd : Nat} (hk : kd < 5) : (ai_tys cA)[kd]? = some (cA kd, ai_TY kd) := ai_tab_get hk
section AIH
variable {sc : Int × (Int → Int)} {l : Launch} {D : va_G} {base b : Nat} {cA : Nat → ClassId} {p : Program} {e : Env} {s : State} {mid : MethodId} {args : Array Value} {below : List Frame} {meth : Method} {c : Code} {m : Nat} {Q : ai_O → Prop} {i : Nat} {ls : ai_L} {st : List ai_V} {k : Nat × Nat} {h h' : ai_H}
theorem sn_get (F : ai_F p e s mid args meth c m) (hK : va_K D vwCl (ai_tys cA) s) {ci ks idx q : Nat} {C : String} {T : u_T} {N : Nat} (hcl : vwCl[ci]? = some (C, T, N)) (hkN : ks < N) (hnf : ai_nf ci = N) (hw : Cond.fieldLink (ai_mY m).cls idx C (T ks).2.1 (T ks).2.2.1 ∈ ai_WS) (hdc : (T ks).1 = C) (hlay : ∀ w ∈ u_ws C T N, w ∈ ai_WS) (hsh : ai_sh q = some (.inl ci)) (hq : q < h.1) {v : ai_V} (hv : ai_fv (ai_ad base b) h q (ai_kd ci ks) ks = ai_rn (ai_ad base b) v) (hd : decode (ai_mB m) (ai_pc m i) = .ok (.getfield idx, 3)) (hn : ai_pc m (i + 1) = ai_pc m i + 3) (K : ai_at l D base b cA p e s mid args below meth c m Q (i + 1) (ls) (v :: st) (k) (h)) : ai_at l D base b cA p e s mid args below meth c m Q (i) (ls) (.inr (.inr q) :: st) (k) (h) := by
  intro H locs lsM hW hS hL hZ
  have K := K H locs lsM hW hS hL hZ
  rw [hn] at K
  exact va_get (D := D) (cl := vwCl) (ws := ai_ws (ai_ad base b) cA h) (ci := ci) (v := ai_rn (ai_ad base b) v) (C := C) (T := T) (N := N) F.1 F.2.1 F.2.2.2.2.1 hlay F.2.2.2.2.2.1 hK hW.2 q (ai_at_obj hq hsh) hcl ks hkN (F.2.2.2.2.1 _ hw) (fun x h9 => by rw [hdc] at h9; exact h9) (by rw [ai_tab_get (by rw [hnf]; exact hkN), hv]) hd K
theorem sn_put (F : ai_F p e s mid args meth c m) (hK : va_K D vwCl (ai_tys cA) s) {ci ks idx q : Nat} {C : String} {T : u_T} {N : Nat} (hcl : vwCl[ci]? = some (C, T, N)) (hkN : ks < N) (hnf : ai_nf ci = N) (hw : Cond.fieldLink (ai_mY m).cls idx C (T ks).2.1 (T ks).2.2.1 ∈ ai_WS) (hdc : (T ks).1 = C) (hlay : ∀ w ∈ u_ws C T N, w ∈ ai_WS) (hsh : ai_sh q = some (.inl ci)) (hq : q < h.1) (hty : ∀ j, j < N → parseFieldDescriptor (T j).2.2.1 = some (ai_ft ci j)) (hnm : ∀ x, x < N → ∀ y, y < N → x ≠ y → (T x).2.1 ≠ (T y).2.1) {v : ai_V} (hnr : narrow (ai_ft ci ks) (ai_rn (ai_ad base b) v) = ai_rn (ai_ad base b) v) (hfit : fits (ai_ft ci ks) (ai_rn (ai_ad base b) v) = true) (hz1 : h'.1 = h.1) (hce : ai_cell (ai_ad base b) cA h' q = .inr (ci, (ai_tab (ai_nf ci) (fun j => ai_fv (ai_ad base b) h q (ai_kd ci j) j)).set ks (ai_rn (ai_ad base b) v))) (hoth : ∀ r, r ≠ q → ai_cell (ai_ad base b) cA h' r = ai_cell (ai_ad base b) cA h r) (hfin : (T ks).2.2.2 = false) (hd : decode (ai_mB m) (ai_pc m i) = .ok (.putfield idx, 3)) (hn : ai_pc m (i + 1) = ai_pc m i + 3) (K : ai_at l D base b cA p e s mid args below meth c m Q (i + 1) (ls) (st) (k) (h')) : ai_at l D base b cA p e s mid args below meth c m Q (i) (ls) (v :: .inr (.inr q) :: st) (k) (h) := by
  intro H locs lsM hW hS hL hZ
  refine va_put (D := D) (cl := vwCl) (ws := ai_ws (ai_ad base b) cA h) (ci := ci) (v := ai_rn (ai_ad base b) v) (C := C) (T := T) (N := N) F.1 F.2.1 F.2.2.2.2.1 hlay (ai_ft ci) hty hnm F.2.2.2.2.2.1 hK hW.2 (ai_D hW.1) hS q (ai_at_obj hq hsh) hcl ks hkN (F.2.2.2.2.1 _ hw) (fun x h9 => by rw [hdc] at h9; exact h9) hfin (hty ks hkN) hnr hfit (by rw [ai_tab_len, hnf]; exact hkN) hd (fun H1 locs1 hP1 _ hS1 => ?_)
  rw [ai_ws_set hz1 hce hoth] at hP1
  have K := K H1 locs1 lsM ⟨by rw [hz1]; exact hW.1, hP1⟩ hS1 hL (by rw [hz1]; exact hZ)
  rw [hn] at K
  exact K
theorem sn_putF (F : ai_F p e s mid args meth c m) (hK : va_K D vwCl (ai_tys cA) s) {ci ks idx q : Nat} {C : String} {T : u_T} {N : Nat} (hcl : vwCl[ci]? = some (C, T, N)) (hkN : ks < N) (hnf : ai_nf ci = N) (hw : Cond.fieldLink (ai_mY m).cls idx C (T ks).2.1 (T ks).2.2.1 ∈ ai_WS) (hdc : (T ks).1 = C) (hlay : ∀ w ∈ u_ws C T N, w ∈ ai_WS) (hsh : ai_sh q = some (.inl ci)) (hq : q < h.1) (hty : ∀ j, j < N → parseFieldDescriptor (T j).2.2.1 = some (ai_ft ci j)) (hnm : ∀ x, x < N → ∀ y, y < N → x ≠ y → (T x).2.1 ≠ (T y).2.1) {v : ai_V} (hnr : narrow (ai_ft ci ks) (ai_rn (ai_ad base b) v) = ai_rn (ai_ad base b) v) (hfit : fits (ai_ft ci ks) (ai_rn (ai_ad base b) v) = true) (hz1 : h'.1 = h.1) (hce : ai_cell (ai_ad base b) cA h' q = .inr (ci, (ai_tab (ai_nf ci) (fun j => ai_fv (ai_ad base b) h q (ai_kd ci j) j)).set ks (ai_rn (ai_ad base b) v))) (hoth : ∀ r, r ≠ q → ai_cell (ai_ad base b) cA h' r = ai_cell (ai_ad base b) cA h r) (hfin : (T ks).2.2.2 = true) (hini : (ai_mY m).name = "<init>") (hown : C = (ai_mY m).cls) (hd : decode (ai_mB m) (ai_pc m i) = .ok (.putfield idx, 3)) (hn : ai_pc m (i + 1) = ai_pc m i + 3) (K : ai_at l D base b cA p e s mid args below meth c m Q (i + 1) (ls) (st) (k) (h')) : ai_at l D base b cA p e s mid args below meth c m Q (i) (ls) (v :: .inr (.inr q) :: st) (k) (h) := by
  intro H locs lsM hW hS hL hZ
  refine va_putF (D := D) (cl := vwCl) (ws := ai_ws (ai_ad base b) cA h) (ci := ci) (v := ai_rn (ai_ad base b) v) (C := C) (T := T) (N := N) F.1 F.2.1 F.2.2.2.2.1 hlay (ai_ft ci) hty hnm F.2.2.2.2.2.1 hK hW.2 (ai_D hW.1) hS q (ai_at_obj hq hsh) hcl ks hkN (F.2.2.2.2.1 _ hw) (fun x h9 => by rw [hdc] at h9; exact h9) hfin (F.2.2.2.2.2.2.2.1.trans hini) (hdc.trans hown) (hty ks hkN) hnr hfit (by rw [ai_tab_len, hnf]; exact hkN) hd (fun H1 locs1 hP1 _ hS1 => ?_)
  rw [ai_ws_set hz1 hce hoth] at hP1
  have K := K H1 locs1 lsM ⟨by rw [hz1]; exact hW.1, hP1⟩ hS1 hL (by rw [hz1]; exact hZ)
  rw [hn] at K
  exact K
theorem sn_iald (F : ai_F p e s mid args meth c m) (hK : va_K D vwCl (ai_tys cA) s) {q n : Nat} {j : Int} (hsh : ai_sh q = some (.inr (0, n))) (hq : q < h.1) (hj : 0 ≤ j ∧ j < Int.ofNat n) (hN : n < 2147483648) (hd : decode (ai_mB m) (ai_pc m i) = .ok (.iaload, 1)) (hn : ai_pc m (i + 1) = ai_pc m i + 1) (K : ai_at l D base b cA p e s mid args below meth c m Q (i + 1) (ls) (.inl (h.2.2 q j) :: st) (k) (h)) : ai_at l D base b cA p e s mid args below meth c m Q (i) (ls) (.inl j :: .inr (.inr q) :: st) (k) (h) := by
  intro H locs lsM hW hS hL hZ
  have K := K H locs lsM hW hS hL hZ
  rw [hn] at K
  obtain ⟨h1, h2, h3⟩ := ai_ix hj.1 hj.2 hN
  refine va_iald (D := D) (cl := vwCl) (ws := ai_ws (ai_ad base b) cA h) (f := fun j => Int32.ofInt (h.2.2 q (Int.ofNat j))) F.1 F.2.1 hK hW.2 q 0 (ai_at_arr hq hsh) (ai_tys_at (by decide)) h1 hd ?_
  have e : (Int.ofNat j.toNat) = j := Int.toNat_of_nonneg hj.1
  rw [h2, e]
  exact K
theorem sn_zald (F : ai_F p e s mid args meth c m) (hK : va_K D vwCl (ai_tys cA) s) {q n : Nat} {j : Int} (hsh : ai_sh q = some (.inr (2, n))) (hq : q < h.1) (hj : 0 ≤ j ∧ j < Int.ofNat n) (hN : n < 2147483648) (hd : decode (ai_mB m) (ai_pc m i) = .ok (.baload, 1)) (hn : ai_pc m (i + 1) = ai_pc m i + 1) (K : ai_at l D base b cA p e s mid args below meth c m Q (i + 1) (ls) (.inl (h.2.2 q j) :: st) (k) (h)) : ai_at l D base b cA p e s mid args below meth c m Q (i) (ls) (.inl j :: .inr (.inr q) :: st) (k) (h) := by
  intro H locs lsM hW hS hL hZ
  have K := K H locs lsM hW hS hL hZ
  rw [hn] at K
  obtain ⟨h1, h2, h3⟩ := ai_ix hj.1 hj.2 hN
  refine va_zald (D := D) (cl := vwCl) (ws := ai_ws (ai_ad base b) cA h) (f := fun j => Int32.ofInt (h.2.2 q (Int.ofNat j))) F.1 F.2.1 hK hW.2 q 2 (ai_at_arr hq hsh) (ai_tys_at (by decide)) h1 hd ?_
  have e : (Int.ofNat j.toNat) = j := Int.toNat_of_nonneg hj.1
  rw [h2, e]
  exact K
theorem sn_cald (F : ai_F p e s mid args meth c m) (hK : va_K D vwCl (ai_tys cA) s) {q n : Nat} {j : Int} (hsh : ai_sh q = some (.inr (3, n))) (hq : q < h.1) (hj : 0 ≤ j ∧ j < Int.ofNat n) (hN : n < 2147483648) (hd : decode (ai_mB m) (ai_pc m i) = .ok (.caload, 1)) (hn : ai_pc m (i + 1) = ai_pc m i + 1) (K : ai_at l D base b cA p e s mid args below meth c m Q (i + 1) (ls) (.inl (h.2.2 q j) :: st) (k) (h)) : ai_at l D base b cA p e s mid args below meth c m Q (i) (ls) (.inl j :: .inr (.inr q) :: st) (k) (h) := by
  intro H locs lsM hW hS hL hZ
  have K := K H locs lsM hW hS hL hZ
  rw [hn] at K
  obtain ⟨h1, h2, h3⟩ := ai_ix hj.1 hj.2 hN
  refine va_cald (D := D) (cl := vwCl) (ws := ai_ws (ai_ad base b) cA h) (f := fun j => Int32.ofInt (h.2.2 q (Int.ofNat j))) F.1 F.2.1 hK hW.2 q 3 (ai_at_arr hq hsh) (ai_tys_at (by decide)) h1 hd ?_
  have e : (Int.ofNat j.toNat) = j := Int.toNat_of_nonneg hj.1
  rw [h2, e]
  exact K
theorem sn_lald (F : ai_F p e s mid args meth c m) (hK : va_K D vwCl (ai_tys cA) s) {q n : Nat} {j : Int} (hsh : ai_sh q = some (.inr (1, n))) (hq : q < h.1) (hj : 0 ≤ j ∧ j < Int.ofNat n) (hN : n < 2147483648) (hd : decode (ai_mB m) (ai_pc m i) = .ok (.laload, 1)) (hn : ai_pc m (i + 1) = ai_pc m i + 1) (K : ai_at l D base b cA p e s mid args below meth c m Q (i + 1) (ls) (.inr (.inl (h.2.2 q j)) :: st) (k) (h)) : ai_at l D base b cA p e s mid args below meth c m Q (i) (ls) (.inl j :: .inr (.inr q) :: st) (k) (h) := by
  intro H locs lsM hW hS hL hZ
  have K := K H locs lsM hW hS hL hZ
  rw [hn] at K
  obtain ⟨h1, h2, h3⟩ := ai_ix hj.1 hj.2 hN
  refine va_lald (D := D) (cl := vwCl) (ws := ai_ws (ai_ad base b) cA h) (f := fun j => Int64.ofInt (h.2.2 q (Int.ofNat j))) F.1 F.2.1 hK hW.2 q 1 (ai_at_arr hq hsh) (ai_tys_at (by decide)) h1 hd ?_
  have e : (Int.ofNat j.toNat) = j := Int.toNat_of_nonneg hj.1
  rw [h2, e]
  exact K
theorem sn_aald (F : ai_F p e s mid args meth c m) (hK : va_K D vwCl (ai_tys cA) s) {q n : Nat} {j : Int} (hsh : ai_sh q = some (.inr (4, n))) (hq : q < h.1) (hu : h.2.1 = []) (hj : 0 ≤ j ∧ j < Int.ofNat n) (hN : n < 2147483648) (hd : decode (ai_mB m) (ai_pc m i) = .ok (.aaload, 1)) (hn : ai_pc m (i + 1) = ai_pc m i + 1) (K : ai_at l D base b cA p e s mid args below meth c m Q (i + 1) (ls) (.inr (.inr (ai_rf q j.toNat)) :: st) (k) (h)) : ai_at l D base b cA p e s mid args below meth c m Q (i) (ls) (.inl j :: .inr (.inr q) :: st) (k) (h) := by
  intro H locs lsM hW hS hL hZ
  have K := K H locs lsM hW hS hL hZ
  rw [hn] at K
  obtain ⟨h1, h2, h3⟩ := ai_ix hj.1 hj.2 hN
  refine va_aldq (D := D) (cl := vwCl) (ws := ai_ws (ai_ad base b) cA h) (f := fun j => if (q, j) ∈ h.2.1 then none else some (ai_ad base b (ai_rf q j))) F.1 F.2.1 hK hW.2 q 4 (ai_at_arr hq hsh) (ai_tys_at (by decide)) h1 hd ?_
  rw [h2, hu, if_neg (by simp)]
  exact K
theorem sn_iast (F : ai_F p e s mid args meth c m) (hK : va_K D vwCl (ai_tys cA) s) {q n : Nat} {j v : Int} (hsh : ai_sh q = some (.inr (0, n))) (hq : q < h.1) (hj : 0 ≤ j ∧ j < Int.ofNat n) (hN : n < 2147483648) (hd : decode (ai_mB m) (ai_pc m i) = .ok (.iastore, 1)) (hn : ai_pc m (i + 1) = ai_pc m i + 1) (K : ai_at l D base b cA p e s mid args below meth c m Q (i + 1) (ls) (st) (k) ((h.1, h.2.1, ai_set h.2.2 q j v))) : ai_at l D base b cA p e s mid args below meth c m Q (i) (ls) (.inl v :: .inl j :: .inr (.inr q) :: st) (k) (h) := by
  intro H locs lsM hW hS hL hZ
  obtain ⟨h1, h2, h3⟩ := ai_ix hj.1 hj.2 hN
  refine va_iast (D := D) (cl := vwCl) (ws := ai_ws (ai_ad base b) cA h) (f := fun j => Int32.ofInt (h.2.2 q (Int.ofNat j))) F.1 F.2.1 hK hW.2 (ai_D hW.1) hS q 0 (ai_at_arr hq hsh) (ai_tys_at (by decide)) h1 hd (fun H1 locs1 hP1 _ hS1 => ?_)
  rw [h2, ai_ws_set (h := h) (h' := (h.1, h.2.1, ai_set h.2.2 q j v)) rfl ?_ (fun r hr => ai_cell_eq (fun j => ai_set_ne hr) (fun j => Iff.rfl))] at hP1
  · have K := K H1 locs1 lsM ⟨hW.1, hP1⟩ hS1 hL hZ
    rw [hn] at K
    exact K
  · unfold ai_cell
    rw [hsh]
    simp only [ai_ac]
    congr 4
    funext x
    by_cases hx : x = j.toNat
    · subst hx
      have e : (Int.ofNat j.toNat) = j := Int.toNat_of_nonneg hj.1
      simp only [upd, if_pos, e, ai_set_eq]
    · have hx' : Int.ofNat x ≠ j := fun z => hx (by rw [← z]; rfl)
      simp only [upd, if_neg hx, ai_set_nj hx']
theorem ai_nar_boolean {v : Int} (hv : 0 ≤ v ∧ v ≤ 1) : vp_nar .boolean (Int32.ofInt v) = Int32.ofInt v := by
  have : v = 0 ∨ v = 1 := by omega
  rcases this with rfl | rfl <;> rfl
theorem sn_zast (F : ai_F p e s mid args meth c m) (hK : va_K D vwCl (ai_tys cA) s) {q n : Nat} {j v : Int} (hsh : ai_sh q = some (.inr (2, n))) (hq : q < h.1) (hj : 0 ≤ j ∧ j < Int.ofNat n) (hv : 0 ≤ v ∧ v ≤ 1) (hN : n < 2147483648) (hd : decode (ai_mB m) (ai_pc m i) = .ok (.bastore, 1)) (hn : ai_pc m (i + 1) = ai_pc m i + 1) (K : ai_at l D base b cA p e s mid args below meth c m Q (i + 1) (ls) (st) (k) ((h.1, h.2.1, ai_set h.2.2 q j v))) : ai_at l D base b cA p e s mid args below meth c m Q (i) (ls) (.inl v :: .inl j :: .inr (.inr q) :: st) (k) (h) := by
  intro H locs lsM hW hS hL hZ
  obtain ⟨h1, h2, h3⟩ := ai_ix hj.1 hj.2 hN
  refine va_zast (D := D) (cl := vwCl) (ws := ai_ws (ai_ad base b) cA h) (f := fun j => Int32.ofInt (h.2.2 q (Int.ofNat j))) F.1 F.2.1 hK hW.2 (ai_D hW.1) hS q 2 (ai_at_arr hq hsh) (ai_tys_at (by decide)) h1 hd (fun H1 locs1 hP1 _ hS1 => ?_)
  have hnv : vp_nar .boolean (Int32.ofInt v) = Int32.ofInt v := ai_nar_boolean hv
  rw [hnv] at hP1
  rw [h2, ai_ws_set (h := h) (h' := (h.1, h.2.1, ai_set h.2.2 q j v)) rfl ?_ (fun r hr => ai_cell_eq (fun j => ai_set_ne hr) (fun j => Iff.rfl))] at hP1
  · have K := K H1 locs1 lsM ⟨hW.1, hP1⟩ hS1 hL hZ
    rw [hn] at K
    exact K
  · unfold ai_cell
    rw [hsh]
    simp only [ai_ac]
    congr 4
    funext x
    by_cases hx : x = j.toNat
    · subst hx
      have e : (Int.ofNat j.toNat) = j := Int.toNat_of_nonneg hj.1
      simp only [upd, if_pos, e, ai_set_eq]
    · have hx' : Int.ofNat x ≠ j := fun z => hx (by rw [← z]; rfl)
      simp only [upd, if_neg hx, ai_set_nj hx']
theorem ai_nI {v : Int} (h : 0 ≤ v) : Int32.ofInt v = nI v.toNat := by
  have e : v = Int.ofNat v.toNat := (Int.toNat_of_nonneg h).symm
  rw [e]
  exact Int32.ofInt_eq_ofNat
theorem ai_nar_char {v : Int} (hv : 0 ≤ v ∧ v ≤ 65535) : vp_nar .char (Int32.ofInt v) = Int32.ofInt v := by
  have h1 := (pk_charN (q := v.toNat) (by omega)).1
  rw [ai_nI hv.1]
  unfold vp_nar
  rw [h1]
theorem sn_cast (F : ai_F p e s mid args meth c m) (hK : va_K D vwCl (ai_tys cA) s) {q n : Nat} {j v : Int} (hsh : ai_sh q = some (.inr (3, n))) (hq : q < h.1) (hj : 0 ≤ j ∧ j < Int.ofNat n) (hv : 0 ≤ v ∧ v ≤ 65535) (hN : n < 2147483648) (hd : decode (ai_mB m) (ai_pc m i) = .ok (.castore, 1)) (hn : ai_pc m (i + 1) = ai_pc m i + 1) (K : ai_at l D base b cA p e s mid args below meth c m Q (i + 1) (ls) (st) (k) ((h.1, h.2.1, ai_set h.2.2 q j v))) : ai_at l D base b cA p e s mid args below meth c m Q (i) (ls) (.inl v :: .inl j :: .inr (.inr q) :: st) (k) (h) := by
  intro H locs lsM hW hS hL hZ
  obtain ⟨h1, h2, h3⟩ := ai_ix hj.1 hj.2 hN
  refine va_cast (D := D) (cl := vwCl) (ws := ai_ws (ai_ad base b) cA h) (f := fun j => Int32.ofInt (h.2.2 q (Int.ofNat j))) F.1 F.2.1 hK hW.2 (ai_D hW.1) hS q 3 (ai_at_arr hq hsh) (ai_tys_at (by decide)) h1 hd (fun H1 locs1 hP1 _ hS1 => ?_)
  have hnv : vp_nar .char (Int32.ofInt v) = Int32.ofInt v := ai_nar_char hv
  rw [hnv] at hP1
  rw [h2, ai_ws_set (h := h) (h' := (h.1, h.2.1, ai_set h.2.2 q j v)) rfl ?_ (fun r hr => ai_cell_eq (fun j => ai_set_ne hr) (fun j => Iff.rfl))] at hP1
  · have K := K H1 locs1 lsM ⟨hW.1, hP1⟩ hS1 hL hZ
    rw [hn] at K
    exact K
  · unfold ai_cell
    rw [hsh]
    simp only [ai_ac]
    congr 4
    funext x
    by_cases hx : x = j.toNat
    · subst hx
      have e : (Int.ofNat j.toNat) = j := Int.toNat_of_nonneg hj.1
      simp only [upd, if_pos, e, ai_set_eq]
    · have hx' : Int.ofNat x ≠ j := fun z => hx (by rw [← z]; rfl)
      simp only [upd, if_neg hx, ai_set_nj hx']
theorem sn_last (F : ai_F p e s mid args meth c m) (hK : va_K D vwCl (ai_tys cA) s) {q n : Nat} {j v : Int} (hsh : ai_sh q = some (.inr (1, n))) (hq : q < h.1) (hj : 0 ≤ j ∧ j < Int.ofNat n) (hN : n < 2147483648) (hd : decode (ai_mB m) (ai_pc m i) = .ok (.lastore, 1)) (hn : ai_pc m (i + 1) = ai_pc m i + 1) (K : ai_at l D base b cA p e s mid args below meth c m Q (i + 1) (ls) (st) (k) ((h.1, h.2.1, ai_set h.2.2 q j v))) : ai_at l D base b cA p e s mid args below meth c m Q (i) (ls) (.inr (.inl v) :: .inl j :: .inr (.inr q) :: st) (k) (h) := by
  intro H locs lsM hW hS hL hZ
  obtain ⟨h1, h2, h3⟩ := ai_ix hj.1 hj.2 hN
  refine va_last (D := D) (cl := vwCl) (ws := ai_ws (ai_ad base b) cA h) (f := fun j => Int64.ofInt (h.2.2 q (Int.ofNat j))) F.1 F.2.1 hK hW.2 (ai_D hW.1) hS q 1 (ai_at_arr hq hsh) (ai_tys_at (by decide)) h1 hd (fun H1 locs1 hP1 _ hS1 => ?_)
  rw [h2, ai_ws_set (h := h) (h' := (h.1, h.2.1, ai_set h.2.2 q j v)) rfl ?_ (fun r hr => ai_cell_eq (fun j => ai_set_ne hr) (fun j => Iff.rfl))] at hP1
  · have K := K H1 locs1 lsM ⟨hW.1, hP1⟩ hS1 hL hZ
    rw [hn] at K
    exact K
  · unfold ai_cell
    rw [hsh]
    simp only [ai_ac]
    congr 5
    funext x
    by_cases hx : x = j.toNat
    · subst hx
      have e : (Int.ofNat j.toNat) = j := Int.toNat_of_nonneg hj.1
      simp only [vp_updL, if_pos, e, ai_set_eq]
    · have hx' : Int.ofNat x ≠ j := fun z => hx (by rw [← z]; rfl)
      simp only [vp_updL, if_neg hx, ai_set_nj hx']
theorem sn_len (F : ai_F p e s mid args meth c m) (hK : va_K D vwCl (ai_tys cA) s) {q n kd : Nat} (hsh : ai_sh q = some (.inr (kd, n))) (hkd : kd < 5) (hq : q < h.1) (hd : decode (ai_mB m) (ai_pc m i) = .ok (.arraylength, 1)) (hn : ai_pc m (i + 1) = ai_pc m i + 1) (K : ai_at l D base b cA p e s mid args below meth c m Q (i + 1) (ls) (.inl (Int.ofNat n) :: st) (k) (h)) : ai_at l D base b cA p e s mid args below meth c m Q (i) (ls) (.inr (.inr q) :: st) (k) (h) := by
  intro H locs lsM hW hS hL hZ
  have K := K H locs lsM hW hS hL hZ
  rw [hn] at K
  exact va_alen (D := D) (cl := vwCl) (ws := ai_ws (ai_ad base b) cA h) F.1 F.2.1 hK hW.2 q kd (ai_at_arr hq hsh) (ai_tys_at hkd) (v := Int32.ofInt (Int.ofNat n)) (Int32.ofInt_eq_ofNat).symm hd K
theorem sn_aast (F : ai_F p e s mid args meth c m) (hK : va_K D vwCl (ai_tys cA) s) {q n v ci : Nat} {j : Int} {T : u_T} {N : Nat} (hcl : vwCl[ci]? = some (ai_Store, T, N)) (hsh : ai_sh q = some (.inr (4, n))) (hq : q < h.1) (hvs : ai_sh v = some (.inl ci)) (hvq : v < h.1) (hv : v = ai_rf q j.toNat) (hj : 0 ≤ j ∧ j < Int.ofNat n) (hN : n < 2147483648) (hd : decode (ai_mB m) (ai_pc m i) = .ok (.aastore, 1)) (hn : ai_pc m (i + 1) = ai_pc m i + 1) (K : ai_at l D base b cA p e s mid args below meth c m Q (i + 1) (ls) (st) (k) ((h.1, h.2.1.filter (fun z => !decide (z = (q, j.toNat))), h.2.2))) : ai_at l D base b cA p e s mid args below meth c m Q (i) (ls) (.inr (.inr v) :: .inl j :: .inr (.inr q) :: st) (k) (h) := by
  intro H locs lsM hW hS hL hZ
  obtain ⟨h1, h2, h3⟩ := ai_ix hj.1 hj.2 hN
  refine va_astq (D := D) (cl := vwCl) (ws := ai_ws (ai_ad base b) cA h) (r := (ai_Store, T, N)) (f := fun j => if (q, j) ∈ h.2.1 then none else some (ai_ad base b (ai_rf q j))) F.1 F.2.1 hK hW.2 (ai_D hW.1) hS q 4 v ci (ai_at_arr hq hsh) (ai_tys_at (by decide)) (ai_at_obj hvq hvs) hcl h1 hd (fun H1 locs1 hP1 _ hS1 => ?_)
  rw [h2, ai_ws_set (h := h) (h' := (h.1, h.2.1.filter (fun z => !decide (z = (q, j.toNat))), h.2.2)) rfl ?_ (fun r hr => ai_cell_eq (fun j => rfl) (fun x => ?_))] at hP1
  · have K := K H1 locs1 lsM ⟨hW.1, hP1⟩ hS1 hL hZ
    rw [hn] at K
    exact K
  · unfold ai_cell
    rw [hsh]
    simp only [ai_ac]
    congr 7
    funext x
    by_cases hx : x = j.toNat
    · subst hx
      simp [va_up, hv]
    · simp [va_up, hx]
  · simp only [List.mem_filter, Bool.not_eq_true', decide_eq_false_iff_not, Prod.mk.injEq, and_iff_left_iff_imp]
    intro _ z
    exact hr z.1
theorem sn_copyi (F : ai_F p e s mid args meth c m) (hK : va_K D vwCl (ai_tys cA) s) {qp qq np nq idx : Nat} {sp dp n : Int} (hw1 : Cond.methodLink (ai_mY m).cls idx arraycopyName ∈ ai_WS) (hw2 : Cond.native arraycopyName ∈ ai_WS) (hw3 : Cond.static arraycopyName ∈ ai_WS) (hw4 : Cond.initialized "java/lang/System" ∈ ai_WS) (hsp : ai_sh qp = some (.inr (0, np))) (hsq : ai_sh qq = some (.inr (0, nq))) (hqp : qp < h.1) (hqq : qq < h.1) (hr : 0 ≤ sp ∧ 0 ≤ dp ∧ 0 ≤ n ∧ sp + n ≤ Int.ofNat np ∧ dp + n ≤ Int.ofNat nq) (hN : np < 2147483648 ∧ nq < 2147483648) (hf : 1 ≤ (ai_rm m).frames) (hlo : ai_cats st + (nativeFrameWords "java/lang/System" "arraycopy" 5 + 11) ≤ (ai_rm m).locals) (hd : decode (ai_mB m) (ai_pc m i) = .ok (.invokestatic idx, 3)) (hn : ai_pc m (i + 1) = ai_pc m i + 3) (K : ai_at l D base b cA p e s mid args below meth c m Q (i + 1) (ls) (st) (k) ((h.1, h.2.1, ai_cpy h.2.2 qp qq sp dp n))) : ai_at l D base b cA p e s mid args below meth c m Q (i) (ls) (.inl n :: .inl dp :: .inr (.inr qq) :: .inl sp :: .inr (.inr qp) :: st) (k) (h) := by
  intro H locs lsM hW hS hL hZ
  obtain ⟨r1, r2, r3, r4, r5⟩ := hr
  have r4' : sp + n ≤ (np : Int) := r4
  have r5' : dp + n ≤ (nq : Int) := r5
  have es : (Int32.ofInt sp).toNatClampNeg = sp.toNat := Int32.toNatClampNeg_ofInt_of_le (by omega) (by omega)
  have ed : (Int32.ofInt dp).toNatClampNeg = dp.toNat := Int32.toNatClampNeg_ofInt_of_le (by omega) (by omega)
  have en : (Int32.ofInt n).toNatClampNeg = n.toNat := Int32.toNatClampNeg_ofInt_of_le (by omega) (by omega)
  have g : ∀ x : Int, 0 ≤ x → x ≤ 2147483647 → ¬ Int32.ofInt x < 0 := fun x h1 h2 z => by
    have := (ai_lt (a := x) (b := 0) ⟨by omega, by omega⟩ ai_r0).mp z
    omega
  refine va_copyi (D := D) (cl := vwCl) (ws := ai_ws (ai_ad base b) cA h) (f := fun j => Int32.ofInt (h.2.2 qp (Int.ofNat j))) (g := fun j => Int32.ofInt (h.2.2 qq (Int.ofNat j))) (ty := .int) F.1 F.2.1 (F.2.2.1.trans hL.1.symm) F.2.2.2.2.2.1 (F.2.2.2.2.1 _ hw1) (F.2.2.2.2.1 _ hw2) (F.2.2.2.2.1 _ hw3) (F.2.2.2.2.1 _ hw4) hK hW.2 (ai_D hW.1) hS qp qq 0 0 (ai_at_arr hqp hsp) (ai_at_arr hqq hsq) (ai_tys_at (by decide)) (ai_tys_at (by decide)) rfl (g sp r1 (by omega)) (g dp r2 (by omega)) (g n r3 (by omega)) (by rw [es, en]; omega) (by rw [ed, en]; omega) (fun _ _ => rfl) hf (by rw [ai_cats_eq]; exact hlo) hd (fun H1 locs1 hP1 _ hS1 => ?_)
  rw [es, ed, en, ai_ws_set (h := h) (h' := (h.1, h.2.1, ai_cpy h.2.2 qp qq sp dp n)) rfl ?_ (fun r hr => ai_cell_eq (fun j => by simp [ai_cpy, hr]) (fun j => Iff.rfl))] at hP1
  · have K := K H1 locs1 lsM ⟨hW.1, hP1⟩ hS1 hL hZ
    rw [hn] at K
    exact K
  · unfold ai_cell
    rw [hsq]
    simp only [ai_ac]
    congr 4
    funext x
    simp only [va_cpy, ai_cpy, if_true]
    by_cases hx : dp.toNat ≤ x ∧ x < dp.toNat + n.toNat
    · have hx' : dp ≤ Int.ofNat x ∧ Int.ofNat x < dp + n := by
        constructor
        · have := hx.1; show dp ≤ (x : Int); omega
        · have := hx.2; show (x : Int) < dp + n; omega
      have ex : sp + (Int.ofNat x - dp) = Int.ofNat (sp.toNat + (x - dp.toNat)) := by
        show sp + ((x : Int) - dp) = ((sp.toNat + (x - dp.toNat) : Nat) : Int)
        omega
      rw [if_pos hx, if_pos hx', ex]
    · have hx' : ¬ (dp ≤ Int.ofNat x ∧ Int.ofNat x < dp + n) := fun z => hx (by
        have z1 : dp ≤ (x : Int) := z.1
        have z2 : (x : Int) < dp + n := z.2
        omega)
      rw [if_neg hx, if_neg hx']
theorem sn_copyl (F : ai_F p e s mid args meth c m) (hK : va_K D vwCl (ai_tys cA) s) {qp qq np nq idx : Nat} {sp dp n : Int} (hw1 : Cond.methodLink (ai_mY m).cls idx arraycopyName ∈ ai_WS) (hw2 : Cond.native arraycopyName ∈ ai_WS) (hw3 : Cond.static arraycopyName ∈ ai_WS) (hw4 : Cond.initialized "java/lang/System" ∈ ai_WS) (hsp : ai_sh qp = some (.inr (1, np))) (hsq : ai_sh qq = some (.inr (1, nq))) (hqp : qp < h.1) (hqq : qq < h.1) (hr : 0 ≤ sp ∧ 0 ≤ dp ∧ 0 ≤ n ∧ sp + n ≤ Int.ofNat np ∧ dp + n ≤ Int.ofNat nq) (hN : np < 2147483648 ∧ nq < 2147483648) (hf : 1 ≤ (ai_rm m).frames) (hlo : ai_cats st + (nativeFrameWords "java/lang/System" "arraycopy" 5 + 11) ≤ (ai_rm m).locals) (hd : decode (ai_mB m) (ai_pc m i) = .ok (.invokestatic idx, 3)) (hn : ai_pc m (i + 1) = ai_pc m i + 3) (K : ai_at l D base b cA p e s mid args below meth c m Q (i + 1) (ls) (st) (k) ((h.1, h.2.1, ai_cpy h.2.2 qp qq sp dp n))) : ai_at l D base b cA p e s mid args below meth c m Q (i) (ls) (.inl n :: .inl dp :: .inr (.inr qq) :: .inl sp :: .inr (.inr qp) :: st) (k) (h) := by
  intro H locs lsM hW hS hL hZ
  obtain ⟨r1, r2, r3, r4, r5⟩ := hr
  have r4' : sp + n ≤ (np : Int) := r4
  have r5' : dp + n ≤ (nq : Int) := r5
  have es : (Int32.ofInt sp).toNatClampNeg = sp.toNat := Int32.toNatClampNeg_ofInt_of_le (by omega) (by omega)
  have ed : (Int32.ofInt dp).toNatClampNeg = dp.toNat := Int32.toNatClampNeg_ofInt_of_le (by omega) (by omega)
  have en : (Int32.ofInt n).toNatClampNeg = n.toNat := Int32.toNatClampNeg_ofInt_of_le (by omega) (by omega)
  have g : ∀ x : Int, 0 ≤ x → x ≤ 2147483647 → ¬ Int32.ofInt x < 0 := fun x h1 h2 z => by
    have := (ai_lt (a := x) (b := 0) ⟨by omega, by omega⟩ ai_r0).mp z
    omega
  refine va_copyl (D := D) (cl := vwCl) (ws := ai_ws (ai_ad base b) cA h) (f := fun j => Int64.ofInt (h.2.2 qp (Int.ofNat j))) (g := fun j => Int64.ofInt (h.2.2 qq (Int.ofNat j))) (ty := .long) F.1 F.2.1 (F.2.2.1.trans hL.1.symm) F.2.2.2.2.2.1 (F.2.2.2.2.1 _ hw1) (F.2.2.2.2.1 _ hw2) (F.2.2.2.2.1 _ hw3) (F.2.2.2.2.1 _ hw4) hK hW.2 (ai_D hW.1) hS qp qq 1 1 (ai_at_arr hqp hsp) (ai_at_arr hqq hsq) (ai_tys_at (by decide)) (ai_tys_at (by decide)) rfl (g sp r1 (by omega)) (g dp r2 (by omega)) (g n r3 (by omega)) (by rw [es, en]; omega) (by rw [ed, en]; omega) (fun _ _ => rfl) hf (by rw [ai_cats_eq]; exact hlo) hd (fun H1 locs1 hP1 _ hS1 => ?_)
  rw [es, ed, en, ai_ws_set (h := h) (h' := (h.1, h.2.1, ai_cpy h.2.2 qp qq sp dp n)) rfl ?_ (fun r hr => ai_cell_eq (fun j => by simp [ai_cpy, hr]) (fun j => Iff.rfl))] at hP1
  · have K := K H1 locs1 lsM ⟨hW.1, hP1⟩ hS1 hL hZ
    rw [hn] at K
    exact K
  · unfold ai_cell
    rw [hsq]
    simp only [ai_ac]
    congr 5
    funext x
    simp only [va_cpy, ai_cpy, if_true]
    by_cases hx : dp.toNat ≤ x ∧ x < dp.toNat + n.toNat
    · have hx' : dp ≤ Int.ofNat x ∧ Int.ofNat x < dp + n := by
        constructor
        · have := hx.1; show dp ≤ (x : Int); omega
        · have := hx.2; show (x : Int) < dp + n; omega
      have ex : sp + (Int.ofNat x - dp) = Int.ofNat (sp.toNat + (x - dp.toNat)) := by
        show sp + ((x : Int) - dp) = ((sp.toNat + (x - dp.toNat) : Nat) : Int)
        omega
      rw [if_pos hx, if_pos hx', ex]
    · have hx' : ¬ (dp ≤ Int.ofNat x ∧ Int.ofNat x < dp + n) := fun z => hx (by
        have z1 : dp ≤ (x : Int) := z.1
        have z2 : (x : Int) < dp + n := z.2
        omega)
      rw [if_neg hx, if_neg hx']
theorem sn_labs (F : ai_F p e s mid args meth c m) (hK : va_K D vwCl (ai_tys cA) s) {idx : Nat} {a0 : Int} (hw1 : Cond.methodLink (ai_mY m).cls idx Lib.MathLoose.abs_long.x ∈ ai_WS) (hw2 : Cond.static Lib.MathLoose.abs_long.x ∈ ai_WS) (hw3 : Cond.initialized "java/lang/Math" ∈ ai_WS) (hw4 : Cond.code Lib.MathLoose.abs_long.x Lib.MathLoose.abs_long.code 2 (some .long) ∈ ai_WS) (hr : ai_r8 a0) (hf : 1 ≤ (ai_rm m).frames) (hlo : ai_cats st + 13 ≤ (ai_rm m).locals) (hkc : k.1 ≤ (ai_rm m).cells) (hks : k.2 ≤ (ai_rm m).slots) (hd : decode (ai_mB m) (ai_pc m i) = .ok (.invokestatic idx, 3)) (hn : ai_pc m (i + 1) = ai_pc m i + 3) (K : ai_at l D base b cA p e s mid args below meth c m Q (i + 1) (ls) (.inr (.inl (if 0 < a0 then a0 else -a0)) :: st) (k) (h)) : ai_at l D base b cA p e s mid args below meth c m Q (i) (ls) (.inr (.inl a0) :: st) (k) (h) := by
  intro H locs lsM hW hS hL hZ
  have K := K H locs lsM hW hS hL hZ
  rw [hn] at K
  have ea : Int64.ofInt (if 0 < a0 then a0 else -a0) = if 0 < Int64.ofInt a0 then Int64.ofInt a0 else -Int64.ofInt a0 := by
    have h1 : (0 : Int64) < Int64.ofInt a0 ↔ 0 < a0 := ai_lt8 (a := 0) (b := a0) ai_r80 hr
    by_cases h0 : 0 < a0
    · rw [if_pos h0, if_pos (h1.mpr h0)]
    · rw [if_neg h0, if_neg (fun z => h0 (h1.mp z)), Int64.ofInt_neg]
  simp only [List.map_cons, ai_rn] at K ⊢
  rw [ea] at K
  exact va_mabs_long F.1 F.2.1 (F.2.2.1.trans hL.1.symm) F.2.2.2.2.2.1 (F.2.2.2.2.1 _ hw1) (F.2.2.2.2.1 _ hw2) (F.2.2.2.2.1 _ hw3) (F.2.2.2.2.1 _ hw4) hf (by rw [ai_cats_eq]; exact hlo) hkc hks hd K
theorem sn_imin (F : ai_F p e s mid args meth c m) (hK : va_K D vwCl (ai_tys cA) s) {idx : Nat} {a0 b0 : Int} (hw1 : Cond.methodLink (ai_mY m).cls idx Lib.Math.min.name ∈ ai_WS) (hw2 : Cond.static Lib.Math.min.name ∈ ai_WS) (hw3 : Cond.initialized "java/lang/Math" ∈ ai_WS) (hw4 : Cond.code Lib.Math.min.name Lib.Math.min.code 2 (some .int) ∈ ai_WS) (ha : ai_r a0) (hb : ai_r b0) (hf : 1 ≤ (ai_rm m).frames) (hlo : ai_cats st + 13 ≤ (ai_rm m).locals) (hkc : k.1 ≤ (ai_rm m).cells) (hks : k.2 ≤ (ai_rm m).slots) (hd : decode (ai_mB m) (ai_pc m i) = .ok (.invokestatic idx, 3)) (hn : ai_pc m (i + 1) = ai_pc m i + 3) (K : ai_at l D base b cA p e s mid args below meth c m Q (i + 1) (ls) (.inl (if b0 < a0 then b0 else a0) :: st) (k) (h)) : ai_at l D base b cA p e s mid args below meth c m Q (i) (ls) (.inl b0 :: .inl a0 :: st) (k) (h) := by
  intro H locs lsM hW hS hL hZ
  have K := K H locs lsM hW hS hL hZ
  rw [hn] at K
  have ea : Int32.ofInt (if b0 < a0 then b0 else a0) = if Int32.ofInt b0 < Int32.ofInt a0 then Int32.ofInt b0 else Int32.ofInt a0 := by
    have h1 := ai_lt hb ha
    by_cases h0 : b0 < a0
    · rw [if_pos h0, if_pos (h1.mpr h0)]
    · rw [if_neg h0, if_neg (fun z => h0 (h1.mp z))]
  simp only [List.map_cons, ai_rn] at K ⊢
  rw [ea] at K
  exact va_mmin F.1 F.2.1 (F.2.2.1.trans hL.1.symm) F.2.2.2.2.2.1 (F.2.2.2.2.1 _ hw1) (F.2.2.2.2.1 _ hw2) (F.2.2.2.2.1 _ hw3) (F.2.2.2.2.1 _ hw4) hf (by rw [ai_cats_eq]; exact hlo) hkc hks hd K
theorem sn_sld (F : ai_F p e s mid args meth c m) {j : Int} (hs : ai_scr sc base b s) (hj : 0 ≤ j ∧ j < sc.1) (hbs : base ≤ s.heap.size) (hd : decode (ai_mB m) (ai_pc m i) = .ok (.iaload, 1)) (hn : ai_pc m (i + 1) = ai_pc m i + 1) (K : ai_at l D base b cA p e s mid args below meth c m Q (i + 1) (ls) (.inl (sc.2 j) :: st) (k) (h)) : ai_at l D base b cA p e s mid args below meth c m Q (i) (ls) (.inl j :: .inr (.inr 100) :: st) (k) (h) := by
  intro H locs lsM hW hS hL hZ
  have K := K H locs lsM hW hS hL hZ
  rw [hn] at K
  obtain ⟨L, xs, hX, hb, hL2, e1, e2⟩ := hs
  rw [e1] at hj
  obtain ⟨h1, h2, h3⟩ := ai_ix hj.1 hj.2 hL2
  refine va_sld (A := fun q => base ≤ q) (H0 := s.heap) F.1 F.2.1 hX (Nat.lt_of_lt_of_le hb hbs) (Nat.not_le.mpr hb) hS h1 hd ?_
  have e : (Int.ofNat j.toNat) = j := Int.toNat_of_nonneg hj.1
  rw [h2, e2 _ h3, e]
  exact K
theorem sn_slen (F : ai_F p e s mid args meth c m) (hs : ai_scr sc base b s) (hbs : base ≤ s.heap.size) (hd : decode (ai_mB m) (ai_pc m i) = .ok (.arraylength, 1)) (hn : ai_pc m (i + 1) = ai_pc m i + 1) (K : ai_at l D base b cA p e s mid args below meth c m Q (i + 1) (ls) (.inl sc.1 :: st) (k) (h)) : ai_at l D base b cA p e s mid args below meth c m Q (i) (ls) (.inr (.inr 100) :: st) (k) (h) := by
  intro H locs lsM hW hS hL hZ
  have K := K H locs lsM hW hS hL hZ
  rw [hn] at K
  obtain ⟨L, xs, hX, hb, hL2, e1, e2⟩ := hs
  refine va_slen (A := fun q => base ≤ q) (H0 := s.heap) F.1 F.2.1 hX (Nat.lt_of_lt_of_le hb hbs) (Nat.not_le.mpr hb) hS hd ?_
  rw [e1] at K
  simp only [List.map_cons, ai_rn] at K
  rw [show Int32.ofInt (Int.ofNat L) = Int32.ofNat L from Int32.ofInt_eq_ofNat] at K
  exact K
end AIH
end
section
/-! SOUNDNESS of what makes cells, of returns and of calls. -/
theorem ai_fv_new {ad : Nat → Nat} {h : ai_H} {ty : FieldType} {p kd j : Nat} (hc : ai_cp ty kd = true) (hu : kd = 2 ∨ kd = 4 → (p, j) ∈ h.2.1) (h0 : h.2.2 p (Int.ofNat j) = 0) : defaultValue ty = ai_fv ad h p kd j := by
  unfold ai_cp at hc
  split at hc
  · simp only [ai_fv, h0]; rfl
  · simp only [ai_fv, h0]; rfl
  · simp only [ai_fv, h0]; rfl
  · simp only [ai_fv, if_pos (hu (Or.inl rfl))]; rfl
  · simp only [ai_fv, if_pos (hu (Or.inr rfl))]; rfl
  · simp only [ai_fv, if_pos (hu (Or.inl rfl))]; rfl
  · cases hc
theorem ai_us_mem {z ci x j : Nat} : (x, j) ∈ ai_us z ci ↔ x = z ∧ j < ai_nf ci ∧ (ai_kd ci j = 2 ∨ ai_kd ci j = 4) := by
  unfold ai_us
  simp only [List.mem_map, List.mem_filter, List.mem_range, Bool.or_eq_true, beq_iff_eq, Prod.mk.injEq]
  constructor
  · rintro ⟨y, ⟨h1, h2⟩, rfl, rfl⟩
    exact ⟨rfl, h1, h2⟩
  · rintro ⟨rfl, h1, h2⟩
    exact ⟨j, ⟨h1, h2⟩, rfl, rfl⟩
theorem ai_sz {D : va_G} {base b : Nat} {cA : Nat → ClassId} {h : ai_H} {H H0 : Heap} {locs : List Loc} (hW : ai_Wd D base b cA h H) (hS : va_S (fun q => base ≤ q) H0 H locs) (hb : base ≤ H0.size) : base + h.1 ≤ H.size := by
  by_cases hz : h.1 = 0
  · have := hS.1
    omega
  · have h1 := hW.2 (h.1 - 1) _ (ai_tab_get (by omega))
    have h2 := va_at.lt h1
    have h3 := hW.1
    simp only [ai_ad] at h2
    rw [if_pos (by omega)] at h2
    omega
theorem ai_ad_lt {base b k : Nat} (h : k < 100) : ai_ad base b k = base + k := by
  unfold ai_ad
  rw [if_pos h]
/-- a new place, behind the others -/
theorem ai_grow {D : va_G} {base b : Nat} {cA : Nat → ClassId} {h : ai_H} {H H1 : Heap} {u : List (Nat × Nat)} (hW : ai_Wd D base b cA h H) (hz : h.1 < 92) (hsz : H.size = base + h.1) (hu : ∀ x j, x ≠ h.1 → ((x, j) ∈ h.2.1 ++ u ↔ (x, j) ∈ h.2.1)) (o1 : ∀ q, q < H.size → H1[q]? = H[q]?)
    (hnew : va_at D vwCl (H.size, ai_cell (ai_ad base b) cA (h.1 + 1, h.2.1 ++ u, ai_zero h.2.2 h.1) h.1) H1) : ai_Wd D base b cA (h.1 + 1, h.2.1 ++ u, ai_zero h.2.2 h.1) H1 := by
  refine ⟨by show h.1 + 1 ≤ 92; omega, fun x q hx => ?_⟩
  obtain ⟨h1, rfl⟩ := ai_tab_some hx
  by_cases hxz : x = h.1
  · subst hxz
    rw [ai_ad_lt (by omega), ← hsz]
    exact hnew
  · have hlt : x < h.1 := by
      have h1' : x < h.1 + 1 := h1
      omega
    have h2 := hW.2 x _ (ai_tab_get hlt)
    have e : ai_cell (ai_ad base b) cA (h.1 + 1, h.2.1 ++ u, ai_zero h.2.2 h.1) x = ai_cell (ai_ad base b) cA h x := ai_cell_eq (fun j => by simp [ai_zero, hxz]) (fun j => hu x j hxz)
    rw [e]
    refine h2.kept (o1 _ ?_)
    show ai_ad base b x < H.size
    rw [ai_ad_lt (by omega)]
    omega
section AIN
variable {sc : Int × (Int → Int)} {l : Launch} {D : va_G} {base b : Nat} {cA : Nat → ClassId} {p : Program} {e : Env} {s : State} {mid : MethodId} {args : Array Value} {below : List Frame} {meth : Method} {c : Code} {m : Nat} {Q : ai_O → Prop} {i : Nat} {ls : ai_L} {st : List ai_V} {k : Nat × Nat} {h h' : ai_H}
theorem ai_full {T : State} {H : Heap} {locs : List Loc} {R : Room} (hW : ai_Wd D base b cA h H) (hS : va_S (fun q => base ≤ q) s.heap H locs) (hbs : base ≤ s.heap.size) (hZ : h.1 < 92 → s.heap.size + k.1 = base + h.1) (hz : h.1 < 92) (hT : T.heap = H) (X : Stand p l e R s mid args below meth c T locs k.1 k.2) : H.size = base + h.1 := by
  have h1 := X.heapSize
  rw [hT] at h1
  have h2 := ai_sz hW hS hbs
  have h3 := hZ hz
  omega
theorem ai_newobj {ad : Nat → Nat} {cX : Nat → ClassId} {ws : List Cond} {h : ai_H} {ci o : Nat} {C : String} {T : u_T} {N : Nat} {kC : Class} {H1 : Heap} (hts : ∀ w ∈ ws, w.before args s = true) (hcl : vwCl[ci]? = some (C, T, N)) (hnf : ai_nf ci = N) (hlay : ∀ w ∈ u_ws C T N, w ∈ ws) (hty : ∀ j, j < N → parseFieldDescriptor (T j).2.2.1 = some (ai_ft ci j)) (hcp : ∀ j, j < N → ai_cp (ai_ft ci j) (ai_kd ci j) = true) (hKn : u_Kn s C T N (D.1 ci) (D.2 ci)) (hkC : s.vm.classes[D.1 ci]? = some kC) (e1 : H1[o]? = some (blank (D.1 ci) kC)) (hsh : ai_sh h.1 = some (.inl ci)) : va_at D vwCl (o, ai_cell ad cX (h.1 + 1, h.2.1 ++ ai_us h.1 ci, ai_zero h.2.2 h.1) h.1) H1 := by
  have e : ai_cell ad cX (h.1 + 1, h.2.1 ++ ai_us h.1 ci, ai_zero h.2.2 h.1) h.1 = .inr (ci, ai_tab (ai_nf ci) (fun j => ai_fv ad (h.1 + 1, h.2.1 ++ ai_us h.1 ci, ai_zero h.2.2 h.1) h.1 (ai_kd ci j) j)) := by
    unfold ai_cell
    rw [hsh]
  rw [e]
  have hb := (u_born (ai_ft ci) hts hlay hKn hkC e1 hty).to (V' := vp_V (ai_tab (ai_nf ci) (fun j => ai_fv ad (h.1 + 1, h.2.1 ++ ai_us h.1 ci, ai_zero h.2.2 h.1) h.1 (ai_kd ci j) j))) (fun j hj => by
    unfold vp_V
    rw [List.getD_eq_getElem?_getD, ai_tab_get (by rw [hnf]; exact hj)]
    exact ai_fv_new (hcp j hj) (fun q => List.mem_append.mpr (Or.inr (ai_us_mem.mpr ⟨rfl, by rw [hnf]; exact hj, q⟩))) (by simp [ai_zero]))
  exact ⟨(C, T, N), hcl, hb⟩
theorem sn_new (F : ai_F p e s mid args meth c m) (hK : va_K D vwCl (ai_tys cA) s) {ci idx : Nat} {C : String} {T : u_T} {N : Nat} (hcl : vwCl[ci]? = some (C, T, N)) (hnf : ai_nf ci = N) (hlay : ∀ w ∈ u_ws C T N, w ∈ ai_WS) (hty : ∀ j, j < N → parseFieldDescriptor (T j).2.2.1 = some (ai_ft ci j)) (hcp : ∀ j, j < N → ai_cp (ai_ft ci j) (ai_kd ci j) = true) (hw1 : Cond.classLink (ai_mY m).cls idx C ∈ ai_WS) (hw2 : Cond.instantiable C N ∈ ai_WS) (hw3 : Cond.initialized C ∈ ai_WS) (hbs : base ≤ s.heap.size) (hsh : ai_sh h.1 = some (.inl ci)) (hz : h.1 < 92) (hkc : k.1 + 1 ≤ ai_mc m) (hks : k.2 + N ≤ ai_ms m) (hd : decode (ai_mB m) (ai_pc m i) = .ok (.new idx, 3)) (hn : ai_pc m (i + 1) = ai_pc m i + 3) (K : ai_at l D base b cA p e s mid args below meth c m Q (i + 1) (ls) (.inr (.inr h.1) :: st) ((k.1 + 1, k.2 + N)) ((h.1 + 1, h.2.1 ++ ai_us h.1 ci, ai_zero h.2.2 h.1))) : ai_at l D base b cA p e s mid args below meth c m Q (i) (ls) (st) (k) (h) := by
  intro H locs lsM hW hS hL hZ T0 hT X
  have hsz := ai_full hW hS hbs hZ hz hT X
  have hrn : ai_rn (ai_ad base b) (.inr (.inr h.1)) = .ref H.size := by
    show Value.ref (ai_ad base b h.1) = .ref H.size
    rw [ai_ad_lt (by omega), hsz]
  have hKn := hK.1 ci _ hcl
  revert T0
  show W p l e (ai_rm m) s mid args below meth c H locs k.1 k.2 _ _
  refine W.newcK F.1 F.2.1 F.2.2.2.2.2.1 (F.2.2.2.2.1 _ hw1) (F.2.2.2.2.1 _ hw2) (F.2.2.2.2.1 _ hw3) rfl hd hkc hks hKn.2.1 rfl fun H1 kC hkC e1 z1 o1 => ?_
  have hW1 : ai_Wd D base b cA (h.1 + 1, h.2.1 ++ ai_us h.1 ci, ai_zero h.2.2 h.1) H1 := by
    refine ai_grow hW hz hsz (fun x j hx => ?_) o1 ?_
    · rw [List.mem_append]
      exact ⟨fun q => q.elim id (fun q => absurd (ai_us_mem.mp q).1 hx), Or.inl⟩
    · exact ai_newobj F.2.2.2.2.1 hcl hnf hlay hty hcp hKn hkC e1 hsh
  have K := K H1 locs lsM hW1 ⟨Nat.le_trans hS.1 (by omega), fun x h1 h2 => (o1 x (Nat.lt_of_lt_of_le h1 hS.1)).trans (hS.2.1 x h1 h2), hS.2.2⟩ hL (fun _ => by
    have := hZ hz
    show s.heap.size + (k.1 + 1) = base + (h.1 + 1)
    omega)
  rw [hn, List.map_cons, hrn] at K
  exact K
theorem ai_ac_new {ad : Nat → Nat} {h : ai_H} {p kd n : Nat} (cX : ClassId) (hk : kd < 5) (h0 : ∀ j : Int, h.2.2 p j = 0) (hu : kd = 4 → ∀ j, j < n → (p, j) ∈ h.2.1) : vp_cell cX (n, ai_ac ad h p kd) = arrV cX n (fun _ => defaultValue (ai_TY kd)) := by
  have hh : kd = 0 ∨ kd = 1 ∨ kd = 2 ∨ kd = 3 ∨ kd = 4 := by omega
  rcases hh with rfl | rfl | rfl | rfl | rfl
  · simp only [ai_ac, h0]; rw [vp_cell_i]; rfl
  · simp only [ai_ac, h0]; rw [vp_cell_l]; rfl
  · simp only [ai_ac, h0]; rw [vp_cell_i]; rfl
  · simp only [ai_ac, h0]; rw [vp_cell_i]; rfl
  · simp only [ai_ac]
    rw [vp_cell_q]
    unfold arrV
    congr 1
    congr 1
    funext j
    show va_rf (if (p, j.val) ∈ h.2.1 then none else some (ad (ai_rf p j.val))) = _
    rw [if_pos (hu rfl j.val j.isLt)]
    rfl
theorem sn_nar (F : ai_F p e s mid args meth c m) (hK : va_K D vwCl (ai_tys cA) s) {kd n0 : Nat} {atype : ArrayType} (hty : newarray.typeOf atype = ai_TY kd) (hkd : kd < 4) (hw : Cond.arrayClass (ai_TY kd) ∈ ai_WS) (hbs : base ≤ s.heap.size) (hsh : ai_sh h.1 = some (.inr (kd, n0))) (hz : h.1 < 92) (hN : n0 ≤ 1000000) (hkc : k.1 + 1 ≤ ai_mc m) (hks : k.2 + n0 ≤ ai_ms m) (hd : decode (ai_mB m) (ai_pc m i) = .ok (.newarray atype, 2)) (hn : ai_pc m (i + 1) = ai_pc m i + 2) (K : ai_at l D base b cA p e s mid args below meth c m Q (i + 1) (ls) (.inr (.inr h.1) :: st) ((k.1 + 1, k.2 + n0)) ((h.1 + 1, h.2.1 ++ (if kd = 4 then (List.range n0).map (fun j => (h.1, j)) else []), ai_zero h.2.2 h.1))) : ai_at l D base b cA p e s mid args below meth c m Q (i) (ls) (.inl (Int.ofNat n0) :: st) (k) (h) := by
  intro H locs lsM hW hS hL hZ T0 hT X
  have hsz := ai_full hW hS hbs hZ hz hT X
  have hrn : ai_rn (ai_ad base b) (.inr (.inr h.1)) = .ref H.size := by
    show Value.ref (ai_ad base b h.1) = .ref H.size
    rw [ai_ad_lt (by omega), hsz]
  have hcb : componentBytes (newarray.typeOf atype) ≤ 8 := by cases atype <;> decide
  have hRA := (hK.2 kd _ (ai_tys_at (by omega))).2
  have hi := ai_ix (j := Int.ofNat n0) (n := n0 + 1) (Int.natCast_nonneg n0) (by show (n0 : Int) < ((n0 + 1 : Nat) : Int); omega) (by omega)
  revert T0
  show W p l e (ai_rm m) s mid args below meth c H locs k.1 k.2 _ _
  refine va_newaK F.1 F.2.1 (by rw [hty]; exact F.2.2.2.2.1 _ hw) rfl hd (n := Int32.ofInt (Int.ofNat n0)) (N := n0) (rest := st.map (ai_rn (ai_ad base b))) rfl (fun q => hi.1 (Or.inl q)) hi.2.1 (Nat.le_trans (Nat.mul_le_mul (Nat.le_refl n0) hcb) (by omega)) hkc hks rfl fun H1 cX e1 z1 o1 hAr hNm => ?_
  have hcX : cX = cA kd := by
    rw [hty] at hNm
    have hh : kd = 0 ∨ kd = 1 ∨ kd = 2 ∨ kd = 3 := by omega
    rcases hh with rfl | rfl | rfl | rfl <;> exact Option.some.inj (hNm.symm.trans hRA)
  subst hcX
  have hW1 : ai_Wd D base b cA (h.1 + 1, h.2.1 ++ (if kd = 4 then (List.range n0).map (fun j => (h.1, j)) else []), ai_zero h.2.2 h.1) H1 := by
    refine ai_grow hW hz hsz (fun x j hx => ?_) o1 ?_
    · rw [if_neg (by omega), List.append_nil]
    · unfold ai_cell
      rw [hsh]
      show H1[H.size]? = some (vp_cell _ _)
      rw [e1, ai_ac_new (cA kd) (by omega) (fun j => by simp [ai_zero]) (fun q => by omega), hty]
  have K := K H1 locs lsM hW1 ⟨Nat.le_trans hS.1 (by omega), fun x h1 h2 => (o1 x (Nat.lt_of_lt_of_le h1 hS.1)).trans (hS.2.1 x h1 h2), hS.2.2⟩ hL (fun _ => by
    have := hZ hz
    show s.heap.size + (k.1 + 1) = base + (h.1 + 1)
    omega)
  rw [hn, List.map_cons, hrn] at K
  exact K
theorem sn_anar (F : ai_F p e s mid args meth c m) (hK : va_K D vwCl (ai_tys cA) s) {n0 idx : Nat} (hw : Cond.classLink (ai_mY m).cls idx ai_Store ∈ ai_WS) (hov : va_AO ai_Store s) (hbs : base ≤ s.heap.size) (hsh : ai_sh h.1 = some (.inr (4, n0))) (hz : h.1 < 92) (hN : n0 ≤ 1000000) (hkc : k.1 + 1 ≤ ai_mc m) (hks : k.2 + n0 ≤ ai_ms m) (hd : decode (ai_mB m) (ai_pc m i) = .ok (.anewarray idx, 3)) (hn : ai_pc m (i + 1) = ai_pc m i + 3) (K : ai_at l D base b cA p e s mid args below meth c m Q (i + 1) (ls) (.inr (.inr h.1) :: st) ((k.1 + 1, k.2 + n0)) ((h.1 + 1, h.2.1 ++ (if 4 = 4 then (List.range n0).map (fun j => (h.1, j)) else []), ai_zero h.2.2 h.1))) : ai_at l D base b cA p e s mid args below meth c m Q (i) (ls) (.inl (Int.ofNat n0) :: st) (k) (h) := by
  intro H locs lsM hW hS hL hZ T0 hT X
  have hsz := ai_full hW hS hbs hZ hz hT X
  have hrn : ai_rn (ai_ad base b) (.inr (.inr h.1)) = .ref H.size := by
    show Value.ref (ai_ad base b h.1) = .ref H.size
    rw [ai_ad_lt (by omega), hsz]
  obtain ⟨kA0, comp0, -, -, -, hfc⟩ := (hK.2 4 _ (ai_tys_at (by omega))).2
  have hi := ai_ix (j := Int.ofNat n0) (n := n0 + 1) (Int.natCast_nonneg n0) (by show (n0 : Int) < ((n0 + 1 : Nat) : Int); omega) (by omega)
  have e0 : (Int32.ofInt (Int.ofNat n0)).toNatClampNeg = n0 := hi.2.1
  revert T0
  show W p l e (ai_rm m) s mid args below meth c H locs k.1 k.2 _ _
  refine W.anew F.1 F.2.1 F.2.2.2.2.2.1 (F.2.2.2.2.1 _ hw) (va_AO.use hov) rfl hd (n := Int32.ofInt (Int.ofNat n0)) (rest := st.map (ai_rn (ai_ad base b))) rfl (fun q => hi.1 (Or.inl q)) (by rw [e0]; omega) hkc (by rw [e0]; exact hks) fun cX kA comp f1 f2 f3 f4 => ?_
  have hcX : cX = cA 4 := Option.some.inj (f1.symm.trans hfc)
  subst hcX
  rw [e0]
  generalize hH1 : H.push ({ cls := cA 4, slots := Array.replicate n0 .null, vm := .none } : Cell) = H1
  have z1 : H1.size = H.size + 1 := by rw [← hH1, Array.size_push]
  have e1 : H1[H.size]? = some (arrV (cA 4) n0 (fun _ => .null)) := by rw [← hH1, Array.getElem?_push_size, ← arrV_new]
  have o1 : ∀ q : Nat, q < H.size → H1[q]? = H[q]? := fun q hq => by rw [← hH1, Array.getElem?_push, if_neg (Nat.ne_of_lt hq)]
  have hW1 : ai_Wd D base b cA (h.1 + 1, h.2.1 ++ (if 4 = 4 then (List.range n0).map (fun j => (h.1, j)) else []), ai_zero h.2.2 h.1) H1 := by
    refine ai_grow hW hz hsz (fun x j hx => ?_) o1 ?_
    · rw [if_pos rfl, List.mem_append]
      refine ⟨fun q => q.elim id (fun q => ?_), Or.inl⟩
      obtain ⟨y, -, hy⟩ := List.mem_map.mp q
      exact absurd (Prod.mk.inj hy).1.symm hx
    · unfold ai_cell
      rw [hsh]
      show H1[H.size]? = some (vp_cell _ _)
      rw [e1, ai_ac_new (cA 4) (by omega) (fun j => by simp [ai_zero]) (fun _ j hj => by
        rw [if_pos rfl]
        exact List.mem_append.mpr (Or.inr (List.mem_map.mpr ⟨j, List.mem_range.mpr hj, rfl⟩)))]
      rfl
  have K := K H1 locs lsM hW1 ⟨Nat.le_trans hS.1 (by omega), fun x h1 h2 => (o1 x (Nat.lt_of_lt_of_le h1 hS.1)).trans (hS.2.1 x h1 h2), hS.2.2⟩ hL (fun _ => by
    have := hZ hz
    show s.heap.size + (k.1 + 1) = base + (h.1 + 1)
    omega)
  rw [hn, List.map_cons, hrn] at K
  exact K
theorem sn_oinit (F : ai_F p e s mid args meth c m) {idx q : Nat} (hw1 : Cond.methodLink (ai_mY m).cls idx Lib.objectInit ∈ ai_WS) (hw2 : Cond.instanceMethod Lib.objectInit ∈ ai_WS) (hw3 : Cond.code Lib.objectInit ⟨#[0xb1]⟩ 1 none ∈ ai_WS) (hf : 1 ≤ (ai_rm m).frames) (hlo : ai_cats st + 12 ≤ (ai_rm m).locals) (hd : decode (ai_mB m) (ai_pc m i) = .ok (.invokespecial idx, 3)) (hn : ai_pc m (i + 1) = ai_pc m i + 3) (K : ai_at l D base b cA p e s mid args below meth c m Q (i + 1) (ls) (st) (k) (h)) : ai_at l D base b cA p e s mid args below meth c m Q (i) (ls) (.inr (.inr q) :: st) (k) (h) := by
  intro H locs lsM hW hS hL hZ
  have K := K H locs lsM hW hS hL hZ
  rw [hn] at K
  refine W.objInit F.1 F.2.1 F.2.2.2.2.2.1 (F.2.2.2.2.1 _ hw1) (F.2.2.2.2.1 _ hw2) (F.2.2.2.2.1 _ hw3) rfl (hL.1.trans F.2.2.1.symm) rfl hd hf ?_ K
  have := ai_cats_eq (ai_ad base b) st
  show 2 * 0 + ((st.map (ai_rn (ai_ad base b))).map fun v => v.category).sum + 12 ≤ _
  omega
/-- the end of a method, as the kit has it, is the end as this machine has it -/
theorem ai_end {H : Heap} {locs : List Loc} {v : Option ai_V} (hW : ai_Wd D base b cA h H) (hS : va_S (fun q => base ≤ q) s.heap H locs) (hQ : Q (.inl v, h)) :
    ∀ t : State, MQ below (fun _ _ o t => o = .returned (v.map (ai_rn (ai_ad base b))) ∧ t.heap = H ∧ s.WarmedH t.vm) args s (ai_mc m) (ai_ms m) (fun q => base ≤ q) t → ai_MQ D base b cA below s m Q t := by
  rintro t ⟨o, h1, h2, ⟨rfl, h3, h4⟩, L, ⟨-, -, h5⟩, h6⟩
  exact ⟨(.inl v, h), hQ, h1, by show ai_Wd D base b cA h t.heap; rw [h3]; exact hW, hS.F h3, h4, ⟨L, h5, h6⟩, h2⟩
theorem sn_vret (F : ai_F p e s mid args meth c m) (hr : ai_mR m = none) (hkc : k.1 ≤ ai_mc m) (hks : k.2 ≤ ai_ms m) (hQ : Q (.inl none, h)) (hd : decode (ai_mB m) (ai_pc m i) = .ok (.return_, 1)) : ai_at l D base b cA p e s mid args below meth c m Q (i) (ls) ([]) (k) (h) := by
  intro H locs lsM hW hS hL hZ
  refine W.widen hkc hks (ai_mono (ai_end (args := args) (below := below) (m := m) (v := none) hW hS hQ) ?_)
  exact W.vret F.1 F.2.1 (F.2.2.2.1.trans hr) (fun t ht hw => ⟨rfl, ht, hw⟩) hS.2.2 hd F.2.2.2.2.2.2.1
theorem sn_iret (F : ai_F p e s mid args meth c m) {v : Int} (hr : ai_mR m = some .int) (hkc : k.1 ≤ ai_mc m) (hks : k.2 ≤ ai_ms m) (hQ : Q (.inl (some (.inl v)), h)) (hd : decode (ai_mB m) (ai_pc m i) = .ok (.ireturn, 1)) : ai_at l D base b cA p e s mid args below meth c m Q (i) (ls) ([.inl v]) (k) (h) := by
  intro H locs lsM hW hS hL hZ
  refine W.widen hkc hks (ai_mono (ai_end (args := args) (below := below) (m := m) (v := some (.inl v)) hW hS hQ) ?_)
  exact W.iret F.1 F.2.1 (F.2.2.2.1.trans hr) (fun t ht hw => ⟨rfl, ht, hw⟩) hS.2.2 hd F.2.2.2.2.2.2.1
theorem sn_zret (F : ai_F p e s mid args meth c m) {v : Int} {ty : FieldType} (hr : ai_mR m = some ty) (hnr : narrow ty (.int (Int32.ofInt v)) = .int (Int32.ofInt v)) (hkc : k.1 ≤ ai_mc m) (hks : k.2 ≤ ai_ms m) (hQ : Q (.inl (some (.inl v)), h)) (hd : decode (ai_mB m) (ai_pc m i) = .ok (.ireturn, 1)) : ai_at l D base b cA p e s mid args below meth c m Q (i) (ls) ([.inl v]) (k) (h) := by
  intro H locs lsM hW hS hL hZ
  refine W.widen hkc hks (ai_mono (ai_end (args := args) (below := below) (m := m) (v := some (.inl v)) hW hS hQ) ?_)
  exact W.zret F.1 F.2.1 (F.2.2.2.1.trans hr) hnr (fun t ht hw => ⟨rfl, ht, hw⟩) hS.2.2 hd F.2.2.2.2.2.2.1
theorem sn_lret (F : ai_F p e s mid args meth c m) {v : Int} (hr : ai_mR m = some .long) (hkc : k.1 ≤ ai_mc m) (hks : k.2 ≤ ai_ms m) (hQ : Q (.inl (some (.inr (.inl v))), h)) (hd : decode (ai_mB m) (ai_pc m i) = .ok (.lreturn, 1)) : ai_at l D base b cA p e s mid args below meth c m Q (i) (ls) ([.inr (.inl v)]) (k) (h) := by
  intro H locs lsM hW hS hL hZ
  refine W.widen hkc hks (ai_mono (ai_end (args := args) (below := below) (m := m) (v := some (.inr (.inl v))) hW hS hQ) ?_)
  exact W.lret F.1 F.2.1 (F.2.2.2.1.trans hr) (fun t ht hw => ⟨rfl, ht, hw⟩) hS.2.2 hd F.2.2.2.2.2.2.1
/-! calls -/
def ai_PcB (D : va_G) (base b : Nat) (cA : Nat → ClassId) (h : ai_H) (U : State) : Prop := ai_Wd D base b cA h U.heap ∧ va_K D vwCl (ai_tys cA) U ∧ base ≤ U.heap.size ∧ (h.1 < 92 → U.heap.size = base + h.1) ∧ ai_str U ∧ ai_env base U
def ai_Qc (D : va_G) (base b : Nat) (cA : Nat → ClassId) (P : ai_O → Prop) : Array Value → State → Outcome → State → Prop := fun _ st oc t => ∃ (v : Option ai_V) (h' : ai_H), P (.inl v, h') ∧ oc = .returned (v.map (ai_rn (ai_ad base b))) ∧ ai_Wd D base b cA h' t.heap ∧ va_F (fun q => base ≤ q) st t
theorem ai_blind {D : va_G} {base b : Nat} {cA : Nat → ClassId} {h : ai_H} {vs : List Value} : FrameBlind (va_Pc vs (ai_PcB D base b cA h)) := by
  intro a U g mk q
  obtain ⟨q0, q1, q2, q3, q4, q5, q6⟩ := q
  exact ⟨q0, q1, va_K.moved (u := U) (U := U.calling g mk a) (Vm.Alike.refl U.vm) q2, q3, q4, fun x hx => by
    obtain ⟨y, hy⟩ := q5 x hx
    exact ⟨y, vk_R.same (u := U) rfl hy⟩, ai_env_at (locs := []) q6 va_S.rf rfl (State.WarmedH.refl U)⟩
theorem ai_str_warm {s U : State} (hW : s.WarmedH U.vm) (h : ai_str s) : ai_str U := fun q hq => by
  obtain ⟨y, hy⟩ := h q hq
  exact ⟨y, vk_R.warm hW hy⟩
noncomputable def ai_wm (m : Nat) : List Cond := ai_cw m :: ai_WS
theorem ai_toMet {sc : Int × (Int → Int)} {l : Launch} {D : va_G} {base b : Nat} {cA : Nat → ClassId} {m' : Nat} {vs : List ai_V} {h : ai_H} {P : ai_O → Prop} (hl : ai_stOK l) (hpl : plainName (ai_mY m').cls = true) (hcd : ai_hh m' = []) (hlaw : m' ≠ ai_law) (hp0 : ai_pc m' 0 = 0) (hcat : ai_cats vs ≤ ai_mL m') (hC : ai_SND sc l D base b cA m' 0 (ai_en (ai_mL m') vs) [] (0, 0) h P) (hret : ∀ o, P o → ∃ v h', o = (.inl v, h')) :
    Met l (ai_mY m') (ai_wm m') (ai_rm m') (va_Pc (vs.map (ai_rn (ai_ad base b))) (ai_PcB D base b cA h)) (ai_Qc D base b cA P) (ai_mc m') (ai_ms m') (fun q => base ≤ q) := by
  refine Met.ofW (cc := ai_mB m') (maxL := ai_mL m') (ret := ai_mR m') (ws' := ai_WS) hpl (by unfold ai_wm ai_cw; rw [hcd]) ?_
  intro p e s mid args below meth c s₁ B hml hv
  obtain ⟨rfl, hWd, hK, hbs, hz, hst, hen⟩ := hv
  have hts := atoms_spec (ws := ai_wm m') B.pre
  have hex : c.exceptionTable.toList.map (fun x => (x.startPc, x.endPc, x.handlerPc, x.catchType)) = ai_hh m' := by
    have hc := hts (ai_cw m') List.mem_cons_self
    unfold ai_cw at hc
    rw [hcd] at hc ⊢
    obtain ⟨meth2, c2, h1, h2, -, -, -, -, h3, -⟩ := Cond.code_spec B.named hc
    cases B.method.symm.trans h1
    have hcode : meth.code = some c := by
      have h := B.here.code
      rw [State.code?_eq, B.method₁] at h
      exact h
    cases hcode.symm.trans h2
    rw [Array.isEmpty_iff.mp h3]
    rfl
  have F : ai_F p e s mid _ meth c m' := ⟨B.exec, B.bytes, hml, B.returns, fun w hw => hts w (List.mem_cons_of_mem _ hw), findClass_of_methodNamed B.named, B.notSynchronized, (name_of_methodNamed B.named B.method).1, hex, hst, ai_stOK_use hl B.admits⟩
  rw [lg_entry_eq]
  have K := hC p e s mid _ below meth c F hK hbs hen (fun q => absurd q hlaw) s.heap [] _ hWd va_S.rf (ai_lv0 (ai_ad base b) vs hcat) (fun q => by have := hz q; show s.heap.size + 0 = _; omega)
  rw [hp0] at K
  refine ai_mono ?_ K
  rintro t ⟨o, h1, h2, h3, h4, h5, ⟨L, h6, h7⟩, h8⟩
  obtain ⟨v, h', rfl⟩ := hret o h1
  exact ⟨.returned (v.map (ai_rn (ai_ad base b))), h2, h8, ⟨v, h', h1, rfl, h3, h4⟩, L, ⟨⟨_, rfl⟩, h5, h6⟩, h7⟩

/-- behind a call that came back -/
theorem ai_go {P : ai_O → Prop} {H : Heap} {locs : List Loc} {R : Room} {cells slots mc ms pc : Nat} {lsM : Array Slot} {st0 rest : List Value} {a : Array Value} {Qw : State → Prop} (hr : va_Run p l e R s mid args below meth c H locs cells slots mc ms (F0 mid pc lsM st0) rest (ai_Qc D base b cA P a) (fun q => base ≤ q)) (hS : va_S (fun q => base ≤ q) s.heap H locs)
    (kk : ∀ (v : Option ai_V) (h' : ai_H) (H1 : Heap) (locs1 : List Loc), P (.inl v, h') → ai_Wd D base b cA h' H1 → va_S (fun q => base ≤ q) s.heap H1 locs1 → W p l e R s mid args below meth c H1 locs1 (cells + mc) (slots + ms) Qw (F0 mid (pc + 3) lsM ((v.map (ai_rn (ai_ad base b))).toList ++ rest))) : W p l e R s mid args below meth c H locs cells slots Qw (F0 mid pc lsM st0) := by
  intro T hT X
  obtain ⟨v, st₀, t, T', L, h0, X', hL, e1, e2, ⟨v1, h', hp, hv, hw, hz, hk⟩, st⟩ := hr T hT X
  cases hv
  rw [h0] at hz hk
  obtain ⟨t2, a1, b1⟩ := kk v1 h' T'.heap (locs ++ L) hp (by rw [e1]; exact hw) ⟨Nat.le_trans hS.1 (by rw [e1]; exact hz), fun q h1 h2 => by rw [e1, hk q (Nat.lt_of_lt_of_le h1 hS.1) h2]; exact hS.2.1 q h1 h2, fun q hq => by
      rcases List.mem_append.mp hq with h | h
      · exact hS.2.2 q h
      · exact hL q h⟩ T' rfl X'
  exact ⟨t2, st t2 a1, b1⟩
theorem ai_wm_eq {m' : Nat} (h : ai_hh m' = []) : ai_wm m' = Cond.code (ai_mY m') (ai_mB m') (ai_mL m') (ai_mR m') :: ai_WS := by
  unfold ai_wm ai_cw
  rw [h]
theorem sn_callV (F : ai_F p e s mid args meth c m) (hK : va_K D vwCl (ai_tys cA) s) {m' idx n : Nat} {vs r : List ai_V} {P : ai_O → Prop} (hM : Met l (ai_mY m') (ai_wm m') (ai_rm m') (va_Pc (vs.map (ai_rn (ai_ad base b))) (ai_PcB D base b cA h)) (ai_Qc D base b cA P) (ai_mc m') (ai_ms m') (fun q => base ≤ q)) (hcd : ai_hh m' = []) (hgd : ∀ w ∈ ai_WS, (w.onTables && w.keeps) = true ∨ ∃ ty, w = .arrayClass ty) (hcw : ai_cw m' ∈ ai_WS) (hbs : base ≤ s.heap.size) (hE : ai_env base s) {C : String} {ci : Nat} {T : u_T} {N q : Nat} (hcl : vwCl[ci]? = some (C, T, N)) (hC : (ai_mY m').cls = C) (hw1 : Cond.methodLink (ai_mY m).cls idx (ai_mY m') ∈ ai_WS) (hw2 : Cond.instanceMethod (ai_mY m') ∈ ai_WS) (hw3 : Cond.selects C (ai_mY m') (ai_mY m') ∈ ai_WS) (hw4 : Cond.initialized C ∈ ai_WS) (hy : (ai_mY m').cls ≠ "java/lang/invoke/MethodHandle" ∧ (ai_mY m').cls ≠ "java/lang/invoke/VarHandle" ∧ (parseMethodDescriptor (ai_mY m').desc).map (fun d => d.parameters.length) = some n) {ws : List ai_V} (hvs : vs = .inr (.inr q) :: ws) (hlen : ws.length = n) (hsh : ai_sh q = some (.inl ci)) (hq : q < h.1) (hR : (ai_rm m').frames + 1 ≤ (ai_rm m).frames ∧ 8 + (ai_mL m' + 11) + (ai_rm m').locals ≤ (ai_rm m).locals) (hcs : ai_cats r ≤ 8) (hf : k.1 + ai_mc m' ≤ ai_mc m ∧ k.2 + ai_ms m' ≤ ai_ms m) (hd : decode (ai_mB m) (ai_pc m i) = .ok (.invokevirtual idx, 3)) (hn : ai_pc m (i + 1) = ai_pc m i + 3) (K : ∀ v h', P (.inl v, h') → (h.1 < 92 → h'.1 = h.1 + ai_mc m') ∧ (92 ≤ h.1 → 92 ≤ h'.1) ∧ ai_at l D base b cA p e s mid args below meth c m Q (i + 1) (ls) (v.toList ++ r) ((k.1 + ai_mc m', k.2 + ai_ms m')) (h')) : ai_at l D base b cA p e s mid args below meth c m Q (i) (ls) (vs.reverse ++ r) (k) (h) := by
  intro H locs lsM hW hS hL hZ T0 hT0 X0
  have hsz : h.1 < 92 → H.size = base + h.1 := fun q => ai_full hW hS hbs hZ q hT0 X0
  have hGood : GoodIn ai_WS (wsV (ai_mY m).cls idx C (ai_mY m') (ai_wm m')) := by
    intro w hw
    have hin : w ∈ ai_WS := by
      unfold wsV ai_wm at hw
      simp only [List.mem_append, List.mem_cons, List.not_mem_nil, or_false] at hw
      rcases hw with (rfl | rfl | rfl | rfl) | (rfl | hw)
      · exact hw1
      · exact hw2
      · exact hw3
      · exact hw4
      · exact hcw
      · exact hw
    exact ⟨hin, hgd w hin⟩
  revert T0
  show W p l e (ai_rm m) s mid args below meth c H locs k.1 k.2 _ _
  subst hvs
  have hrun := va_runV (As := ws.map (ai_rn (ai_ad base b))) (rest := r.map (ai_rn (ai_ad base b))) (C := C) (b := ai_ad base b q) ⟨F.1, F.2.1, F.2.2.1, F.2.2.2.2.2.1, F.2.2.2.2.1⟩ hM (cwV n F.2.2.2.2.1 hGood (ai_wm_eq hcd) rfl rfl ⟨hC, hy⟩ hR) ⟨ai_blind, va_recv hK hW.2 hcl (ai_at_obj hq hsh), (fun U hU hW' => ⟨rfl, by rw [hU]; exact hW, va_K.moved hW'.alike hK, by rw [hU]; exact Nat.le_trans hbs hS.1, fun q => by rw [hU]; exact hsz q, ai_str_warm hW' F.2.2.2.2.2.2.2.2.2.1, ai_env_at hE hS hU hW'⟩)⟩ rfl (by rw [List.length_map]; exact hlen) hL.1 (by simp [ai_rn]) (lv_room (by rw [ai_cats_eq]; exact hcs)) hd hf (g := F0 mid (ai_pc m i) lsM (((.inr (.inr q) :: ws).reverse ++ r).map (ai_rn (ai_ad base b)))) (l := l) (e := e) (below := below) (meth := meth) (locs := locs) (cells := k.1) (slots := k.2)
  refine ai_go hrun hS (fun v h' H1 locs1 hp hw1 hS1 => ?_)
  obtain ⟨hz1, hz2, K⟩ := K v h' hp
  have K := K H1 locs1 lsM hw1 hS1 hL (fun q => by
    have hle : h.1 < 92 := by
      by_cases hh : h.1 < 92
      · exact hh
      · exact absurd (hz2 (by omega)) (by omega)
    have := hZ hle
    have := hz1 hle
    show s.heap.size + (k.1 + ai_mc m') = base + h'.1
    omega)
  rw [hn] at K
  cases v <;> exact K
theorem sn_callI (F : ai_F p e s mid args meth c m) (hK : va_K D vwCl (ai_tys cA) s) {m' idx n : Nat} {vs r : List ai_V} {P : ai_O → Prop} (hM : Met l (ai_mY m') (ai_wm m') (ai_rm m') (va_Pc (vs.map (ai_rn (ai_ad base b))) (ai_PcB D base b cA h)) (ai_Qc D base b cA P) (ai_mc m') (ai_ms m') (fun q => base ≤ q)) (hcd : ai_hh m' = []) (hgd : ∀ w ∈ ai_WS, (w.onTables && w.keeps) = true ∨ ∃ ty, w = .arrayClass ty) (hcw : ai_cw m' ∈ ai_WS) (hbs : base ≤ s.heap.size) (hE : ai_env base s) {q : Nat} (hw1 : Cond.methodLink (ai_mY m).cls idx (ai_mY m') ∈ ai_WS) (hw2 : Cond.instanceMethod (ai_mY m') ∈ ai_WS) (hw4 : Cond.initialized (ai_mY m').cls ∈ ai_WS) (hini : (ai_mY m').name = "<init>") (hrn : ai_mR m' = none) (hy : (ai_mY m').cls ≠ "java/lang/invoke/MethodHandle" ∧ (ai_mY m').cls ≠ "java/lang/invoke/VarHandle" ∧ (parseMethodDescriptor (ai_mY m').desc).map (fun d => d.parameters.length) = some n) {ws : List ai_V} (hvs : vs = .inr (.inr q) :: ws) (hlen : ws.length = n) (hR : (ai_rm m').frames + 1 ≤ (ai_rm m).frames ∧ 8 + (ai_mL m' + 11) + (ai_rm m').locals ≤ (ai_rm m).locals) (hcs : ai_cats r ≤ 8) (hf : k.1 + ai_mc m' ≤ ai_mc m ∧ k.2 + ai_ms m' ≤ ai_ms m) (hd : decode (ai_mB m) (ai_pc m i) = .ok (.invokespecial idx, 3)) (hn : ai_pc m (i + 1) = ai_pc m i + 3) (K : ∀ v h', P (.inl v, h') → (h.1 < 92 → h'.1 = h.1 + ai_mc m') ∧ (92 ≤ h.1 → 92 ≤ h'.1) ∧ ai_at l D base b cA p e s mid args below meth c m Q (i + 1) (ls) (v.toList ++ r) ((k.1 + ai_mc m', k.2 + ai_ms m')) (h')) : ai_at l D base b cA p e s mid args below meth c m Q (i) (ls) (vs.reverse ++ r) (k) (h) := by
  intro H locs lsM hW hS hL hZ T0 hT0 X0
  have hsz : h.1 < 92 → H.size = base + h.1 := fun q => ai_full hW hS hbs hZ q hT0 X0
  have hGood : GoodIn ai_WS (ai_wm m') := by
    intro w hw
    have hin : w ∈ ai_WS := by
      unfold ai_wm at hw
      rcases List.mem_cons.mp hw with rfl | hw
      · exact hcw
      · exact hw
    exact ⟨hin, hgd w hin⟩
  revert T0
  show W p l e (ai_rm m) s mid args below meth c H locs k.1 k.2 _ _
  subst hvs
  have hrun := va_runI (As := ws.map (ai_rn (ai_ad base b))) (rest := r.map (ai_rn (ai_ad base b))) (b := ai_ad base b q) ⟨F.1, F.2.1, F.2.2.1, F.2.2.2.2.2.1, F.2.2.2.2.1⟩ hM (cwI n F.2.2.2.2.1 hGood (by rw [ai_wm_eq hcd, hrn]) rfl rfl (F.2.2.2.2.1 _ hw4) (F.2.2.2.2.1 _ hw1) (F.2.2.2.2.1 _ hw2) hini hy hR) ⟨ai_blind, (fun U hU hW' => ⟨rfl, by rw [hU]; exact hW, va_K.moved hW'.alike hK, by rw [hU]; exact Nat.le_trans hbs hS.1, fun q => by rw [hU]; exact hsz q, ai_str_warm hW' F.2.2.2.2.2.2.2.2.2.1, ai_env_at hE hS hU hW'⟩)⟩ rfl (by rw [List.length_map]; exact hlen) hL.1 (by simp [ai_rn]) (lv_room (by rw [ai_cats_eq]; exact hcs)) hd hf (g := F0 mid (ai_pc m i) lsM (((.inr (.inr q) :: ws).reverse ++ r).map (ai_rn (ai_ad base b)))) (l := l) (e := e) (below := below) (meth := meth) (locs := locs) (cells := k.1) (slots := k.2)
  refine ai_go hrun hS (fun v h' H1 locs1 hp hw1 hS1 => ?_)
  obtain ⟨hz1, hz2, K⟩ := K v h' hp
  have K := K H1 locs1 lsM hw1 hS1 hL (fun q => by
    have hle : h.1 < 92 := by
      by_cases hh : h.1 < 92
      · exact hh
      · exact absurd (hz2 (by omega)) (by omega)
    have := hZ hle
    have := hz1 hle
    show s.heap.size + (k.1 + ai_mc m') = base + h'.1
    omega)
  rw [hn] at K
  cases v <;> exact K
theorem sn_callS (F : ai_F p e s mid args meth c m) (hK : va_K D vwCl (ai_tys cA) s) {m' idx n : Nat} {vs r : List ai_V} {P : ai_O → Prop} (hM : Met l (ai_mY m') (ai_wm m') (ai_rm m') (va_Pc (vs.map (ai_rn (ai_ad base b))) (ai_PcB D base b cA h)) (ai_Qc D base b cA P) (ai_mc m') (ai_ms m') (fun q => base ≤ q)) (hcd : ai_hh m' = []) (hgd : ∀ w ∈ ai_WS, (w.onTables && w.keeps) = true ∨ ∃ ty, w = .arrayClass ty) (hcw : ai_cw m' ∈ ai_WS) (hbs : base ≤ s.heap.size) (hE : ai_env base s) (hC : (ai_mY m').cls = (ai_mY m).cls) (hw1 : Cond.methodLink (ai_mY m).cls idx (ai_mY m') ∈ ai_WS) (hw2 : Cond.static (ai_mY m') ∈ ai_WS) (hw4 : Cond.initialized (ai_mY m).cls ∈ ai_WS) (hy : (ai_mY m').cls ≠ "java/lang/invoke/MethodHandle" ∧ (ai_mY m').cls ≠ "java/lang/invoke/VarHandle" ∧ (parseMethodDescriptor (ai_mY m').desc).map (fun d => d.parameters.length) = some n) (hlen : vs.length = n) (hR : (ai_rm m').frames + 1 ≤ (ai_rm m).frames ∧ 8 + (ai_mL m' + 11) + (ai_rm m').locals ≤ (ai_rm m).locals) (hcs : ai_cats r ≤ 8) (hf : k.1 + ai_mc m' ≤ ai_mc m ∧ k.2 + ai_ms m' ≤ ai_ms m) (hd : decode (ai_mB m) (ai_pc m i) = .ok (.invokestatic idx, 3)) (hn : ai_pc m (i + 1) = ai_pc m i + 3) (K : ∀ v h', P (.inl v, h') → (h.1 < 92 → h'.1 = h.1 + ai_mc m') ∧ (92 ≤ h.1 → 92 ≤ h'.1) ∧ ai_at l D base b cA p e s mid args below meth c m Q (i + 1) (ls) (v.toList ++ r) ((k.1 + ai_mc m', k.2 + ai_ms m')) (h')) : ai_at l D base b cA p e s mid args below meth c m Q (i) (ls) (vs.reverse ++ r) (k) (h) := by
  intro H locs lsM hW hS hL hZ T0 hT0 X0
  have hsz : h.1 < 92 → H.size = base + h.1 := fun q => ai_full hW hS hbs hZ q hT0 X0
  have hGood : GoodIn ai_WS (wsS (ai_mY m).cls idx (ai_mY m') (ai_wm m')) := by
    intro w hw
    have hin : w ∈ ai_WS := by
      unfold wsS ai_wm at hw
      simp only [List.mem_append, List.mem_cons, List.not_mem_nil, or_false] at hw
      rcases hw with (rfl | rfl | rfl) | (rfl | hw)
      · exact hw1
      · exact hw2
      · exact hw4
      · exact hcw
      · exact hw
    exact ⟨hin, hgd w hin⟩
  revert T0
  show W p l e (ai_rm m) s mid args below meth c H locs k.1 k.2 _ _
  skip
  have hrun := va_runS (As := vs.map (ai_rn (ai_ad base b))) (rest := r.map (ai_rn (ai_ad base b))) ⟨F.1, F.2.1, F.2.2.1, F.2.2.2.2.2.1, F.2.2.2.2.1⟩ hM (cwS n F.2.2.2.2.1 hGood (ai_wm_eq hcd) rfl rfl ⟨hC, hy⟩ hR) ⟨ai_blind, (fun U hU hW' => ⟨rfl, by rw [hU]; exact hW, va_K.moved hW'.alike hK, by rw [hU]; exact Nat.le_trans hbs hS.1, fun q => by rw [hU]; exact hsz q, ai_str_warm hW' F.2.2.2.2.2.2.2.2.2.1, ai_env_at hE hS hU hW'⟩)⟩ rfl (by rw [List.length_map]; exact hlen) hL.1 (by simp [ai_rn]) (lv_room (by rw [ai_cats_eq]; exact hcs)) hd hf (g := F0 mid (ai_pc m i) lsM (((vs).reverse ++ r).map (ai_rn (ai_ad base b)))) (l := l) (e := e) (below := below) (meth := meth) (locs := locs) (cells := k.1) (slots := k.2)
  refine ai_go hrun hS (fun v h' H1 locs1 hp hw1 hS1 => ?_)
  obtain ⟨hz1, hz2, K⟩ := K v h' hp
  have K := K H1 locs1 lsM hw1 hS1 hL (fun q => by
    have hle : h.1 < 92 := by
      by_cases hh : h.1 < 92
      · exact hh
      · exact absurd (hz2 (by omega)) (by omega)
    have := hZ hle
    have := hz1 hle
    show s.heap.size + (k.1 + ai_mc m') = base + h'.1
    omega)
  rw [hn] at K
  cases v <;> exact K
end AIN
end
section
/-! INVERSION: what one instruction's row says. -/
section AIV
variable {sc : Int × (Int → Int)} {Y : ai_J} {m i : Nat} {ls : ai_L} {st : List ai_V} {k : Nat × Nat} {h : ai_H} {Q : ai_O → Prop}
theorem iv_li {n : Nat} (hs : ai_li Y m i ls st k h Q n) : ∃ v : Int, ai_lg ls n = some (.inl v) ∧ Y m (i + 1) ls (.inl v :: st) k h Q := by
  unfold ai_li at hs
  split at hs
  · rename_i v hv
    exact ⟨v, hv, hs⟩
  · exact hs.elim
theorem iv_ll {n : Nat} (hs : ai_ll Y m i ls st k h Q n) : ∃ v : Int, ai_lg ls n = some (.inr (.inl v)) ∧ Y m (i + 1) ls (.inr (.inl v) :: st) k h Q := by
  unfold ai_ll at hs
  split at hs
  · rename_i v hv
    exact ⟨v, hv, hs⟩
  · exact hs.elim
theorem iv_la {n : Nat} (hs : ai_la Y m i ls st k h Q n) : ∃ v : Nat, ai_lg ls n = some (.inr (.inr v)) ∧ Y m (i + 1) ls (.inr (.inr v) :: st) k h Q := by
  unfold ai_la at hs
  split at hs
  · rename_i v hv
    exact ⟨v, hv, hs⟩
  · exact hs.elim
theorem iv_si {n : Nat} (hs : ai_si Y m i ls st k h Q n) : ∃ (v : Int) (r : List ai_V), st = .inl v :: r ∧ Y m (i + 1) (ai_s1 ls n (.inl v)) r k h Q := by
  unfold ai_si at hs
  split at hs
  · exact ⟨_, _, rfl, hs⟩
  · exact hs.elim
theorem iv_sl {n : Nat} (hs : ai_sl Y m i ls st k h Q n) : ∃ (v : Int) (r : List ai_V), st = .inr (.inl v) :: r ∧ Y m (i + 1) (ai_s2 ls n (.inr (.inl v))) r k h Q := by
  unfold ai_sl at hs
  split at hs
  · exact ⟨_, _, rfl, hs⟩
  · exact hs.elim
theorem iv_sa {n : Nat} (hs : ai_sa Y m i ls st k h Q n) : ∃ (v : Nat) (r : List ai_V), st = .inr (.inr v) :: r ∧ Y m (i + 1) (ai_s1 ls n (.inr (.inr v))) r k h Q := by
  unfold ai_sa at hs
  split at hs
  · exact ⟨_, _, rfl, hs⟩
  · exact hs.elim
theorem iv_inc {n : Nat} {d : Int} (hs : ai_inc Y m i ls st k h Q n d) : ∃ v : Int, ai_lg ls n = some (.inl v) ∧ Y m (i + 1) (ai_s1 ls n (.inl (v + d))) st k h Q := by
  unfold ai_inc at hs
  split at hs
  · rename_i v hv
    exact ⟨v, hv, hs⟩
  · exact hs.elim
theorem iv_i2 {f : Int → Int → Int} (hs : ai_i2 Y m i ls st k h Q f) : ∃ (b0 a0 : Int) (r : List ai_V), st = .inl b0 :: .inl a0 :: r ∧ Y m (i + 1) ls (.inl (f a0 b0) :: r) k h Q := by
  unfold ai_i2 at hs
  split at hs
  · exact ⟨_, _, _, rfl, hs⟩
  · exact hs.elim
theorem iv_i2z {f : Int → Int → Int} (hs : ai_i2z Y m i ls st k h Q f) : ∃ (b0 a0 : Int) (r : List ai_V), st = .inl b0 :: .inl a0 :: r ∧ (ai_r b0 ∧ ¬ b0 = 0) ∧ Y m (i + 1) ls (.inl (f a0 b0) :: r) k h Q := by
  unfold ai_i2z at hs
  split at hs
  · exact ⟨_, _, _, rfl, hs⟩
  · exact hs.elim
theorem iv_l2 {f : Int → Int → Int} (hs : ai_l2 Y m i ls st k h Q f) : ∃ (b0 a0 : Int) (r : List ai_V), st = .inr (.inl b0) :: .inr (.inl a0) :: r ∧ Y m (i + 1) ls (.inr (.inl (f a0 b0)) :: r) k h Q := by
  unfold ai_l2 at hs
  split at hs
  · exact ⟨_, _, _, rfl, hs⟩
  · exact hs.elim
theorem iv_l2z {f : Int → Int → Int} (hs : ai_l2z Y m i ls st k h Q f) : ∃ (b0 a0 : Int) (r : List ai_V), st = .inr (.inl b0) :: .inr (.inl a0) :: r ∧ (ai_r8 b0 ∧ ¬ b0 = 0) ∧ Y m (i + 1) ls (.inr (.inl (f a0 b0)) :: r) k h Q := by
  unfold ai_l2z at hs
  split at hs
  · exact ⟨_, _, _, rfl, hs⟩
  · exact hs.elim
theorem iv_lsh {f : Int → Int → Int} (hs : ai_lsh Y m i ls st k h Q f) : ∃ (b0 a0 : Int) (r : List ai_V), st = .inl b0 :: .inr (.inl a0) :: r ∧ Y m (i + 1) ls (.inr (.inl (f a0 b0)) :: r) k h Q := by
  unfold ai_lsh at hs
  split at hs
  · exact ⟨_, _, _, rfl, hs⟩
  · exact hs.elim
theorem iv_i1 {f : Int → Int} (hs : ai_i1 Y m i ls st k h Q f) : ∃ (a0 : Int) (r : List ai_V), st = .inl a0 :: r ∧ Y m (i + 1) ls (.inl (f a0) :: r) k h Q := by
  unfold ai_i1 at hs
  split at hs
  · exact ⟨_, _, rfl, hs⟩
  · exact hs.elim
theorem iv_l1 {f : Int → Int} (hs : ai_l1 Y m i ls st k h Q f) : ∃ (a0 : Int) (r : List ai_V), st = .inr (.inl a0) :: r ∧ Y m (i + 1) ls (.inr (.inl (f a0)) :: r) k h Q := by
  unfold ai_l1 at hs
  split at hs
  · exact ⟨_, _, rfl, hs⟩
  · exact hs.elim
theorem iv_i2l (hs : ai_i2l Y m i ls st k h Q) : ∃ (a0 : Int) (r : List ai_V), st = .inl a0 :: r ∧ ai_r a0 ∧ Y m (i + 1) ls (.inr (.inl a0) :: r) k h Q := by
  unfold ai_i2l at hs
  split at hs
  · exact ⟨_, _, rfl, hs⟩
  · exact hs.elim
theorem iv_l2i (hs : ai_l2i Y m i ls st k h Q) : ∃ (a0 : Int) (r : List ai_V), st = .inr (.inl a0) :: r ∧ Y m (i + 1) ls (.inl a0 :: r) k h Q := by
  unfold ai_l2i at hs
  split at hs
  · exact ⟨_, _, rfl, hs⟩
  · exact hs.elim
theorem iv_lcmp (hs : ai_lcmp Y m i ls st k h Q) : ∃ (b0 a0 : Int) (r : List ai_V), st = .inr (.inl b0) :: .inr (.inl a0) :: r ∧ (ai_r8 a0 ∧ ai_r8 b0) ∧ Y m (i + 1) ls (.inl (ai_cmp a0 b0) :: r) k h Q := by
  unfold ai_lcmp at hs
  split at hs
  · exact ⟨_, _, _, rfl, hs⟩
  · exact hs.elim
theorem iv_if0 {cd : ClassFile.Cond} {t : Nat} (hs : ai_if0 Y m i ls st k h Q cd t) : ∃ (a0 : Int) (r : List ai_V), st = .inl a0 :: r ∧ ai_r a0 ∧ (ai_cd cd a0 0 → Y m t ls r k h Q) ∧ (¬ ai_cd cd a0 0 → Y m (i + 1) ls r k h Q) := by
  unfold ai_if0 at hs
  split at hs
  · exact ⟨_, _, rfl, hs⟩
  · exact hs.elim
theorem iv_if2 {cd : ClassFile.Cond} {t : Nat} (hs : ai_if2 Y m i ls st k h Q cd t) : ∃ (b0 a0 : Int) (r : List ai_V), st = .inl b0 :: .inl a0 :: r ∧ (ai_r a0 ∧ ai_r b0) ∧ (ai_cd cd a0 b0 → Y m t ls r k h Q) ∧ (¬ ai_cd cd a0 b0 → Y m (i + 1) ls r k h Q) := by
  unfold ai_if2 at hs
  split at hs
  · exact ⟨_, _, _, rfl, hs⟩
  · exact hs.elim
theorem iv_sw {ts : List Nat} {t : Nat} (hs : ai_sw Y m ls st k h Q ts t) : ∃ (a0 : Int) (r : List ai_V), st = .inl a0 :: r ∧ ai_r a0 ∧ (∀ (j s : Nat), ai_nth ts j = some s → a0 = Int.ofNat j → Y m s ls r k h Q) ∧ ((a0 < 0 ∨ Int.ofNat ts.length ≤ a0) → Y m t ls r k h Q) := by
  unfold ai_sw at hs
  split at hs
  · exact ⟨_, _, rfl, hs⟩
  · exact hs.elim
theorem iv_dup (hs : ai_dup Y m i ls st k h Q) : (∃ (a0 : Int) (r : List ai_V), st = .inl a0 :: r ∧ Y m (i + 1) ls (.inl a0 :: .inl a0 :: r) k h Q) ∨ (∃ (a0 : Nat) (r : List ai_V), st = .inr (.inr a0) :: r ∧ Y m (i + 1) ls (.inr (.inr a0) :: .inr (.inr a0) :: r) k h Q) := by
  unfold ai_dup at hs
  split at hs
  · exact Or.inl ⟨_, _, rfl, hs⟩
  · exact Or.inr ⟨_, _, rfl, hs⟩
  · exact hs.elim
theorem iv_dup2 (hs : ai_dup2 Y m i ls st k h Q) : ∃ (a0 : Int) (b0 : Nat) (r : List ai_V), st = .inl a0 :: .inr (.inr b0) :: r ∧ Y m (i + 1) ls (.inl a0 :: .inr (.inr b0) :: .inl a0 :: .inr (.inr b0) :: r) k h Q := by
  unfold ai_dup2 at hs
  split at hs
  · exact ⟨_, _, _, rfl, hs⟩
  · exact hs.elim
theorem iv_pop (hs : ai_pop Y m i ls st k h Q) : ∃ (a0 : Int) (r : List ai_V), st = .inl a0 :: r ∧ Y m (i + 1) ls r k h Q := by
  unfold ai_pop at hs
  split at hs
  · exact ⟨_, _, rfl, hs⟩
  · exact hs.elim
theorem iv_and2 {a b : Bool} (h : (a && b) = true) : a = true ∧ b = true := by rwa [Bool.and_eq_true] at h
theorem iv_get {ad : Nat → Nat} {x : ai_X} (hx : x.2.2.1 ≤ 4) (hs : ai_get Y m i ls st k h Q x) : ∃ (q : Nat) (r : List ai_V) (v : ai_V), st = .inr (.inr q) :: r ∧ ai_sh q = some (.inl x.1) ∧ q < h.1 ∧ ai_fv ad h q x.2.2.1 x.2.1 = ai_rn ad v ∧ Y m (i + 1) ls (v :: r) k h Q := by
  unfold ai_get at hs
  split at hs
  · rename_i q r
    split at hs
    · rename_i c hc
      have zz0 := hs
      clear hs
      obtain ⟨h1, hs⟩ := ai_ck_true zz0
      obtain ⟨h1, h2⟩ := iv_and2 h1
      have e1 : c = x.1 := Nat.eq_of_beq_eq_true h1
      subst e1
      have hq : q < h.1 := by simpa [Nat.blt_eq] using h2
      split at hs
      · rename_i e
        exact ⟨q, r, _, rfl, hc, hq, by rw [e]; rfl, hs⟩
      · rename_i e
        exact ⟨q, r, _, rfl, hc, hq, by rw [e]; rfl, hs⟩
      · rename_i e
        have zz0 := hs
        clear hs
        obtain ⟨h3, hs⟩ := ai_ck_true zz0
        refine ⟨q, r, _, rfl, hc, hq, ?_, hs⟩
        rw [e]
        show (if (q, x.2.1) ∈ h.2.1 then Value.null else .ref (ad (ai_rf q x.2.1))) = _
        rw [if_neg ((ai_nn_true _ _).mp h3)]
        rfl
      · rename_i e
        exact ⟨q, r, _, rfl, hc, hq, by rw [e]; rfl, hs⟩
      · rename_i e0 e1 e2 e3
        have zz0 := hs
        clear hs
        obtain ⟨h3, hs⟩ := ai_ck_true zz0
        refine ⟨q, r, _, rfl, hc, hq, ?_, hs⟩
        have e4 : x.2.2.1 = 4 := by
          have n0 : x.2.2.1 ≠ 0 := fun z => e0 z
          have n1 : x.2.2.1 ≠ 1 := fun z => e1 z
          have n2 : x.2.2.1 ≠ 2 := fun z => e2 z
          have n3 : x.2.2.1 ≠ 3 := fun z => e3 z
          omega
        rw [e4]
        show (if (q, x.2.1) ∈ h.2.1 then Value.null else .ref (ad (h.2.2 q (Int.ofNat x.2.1)).toNat)) = _
        rw [if_neg ((ai_nn_true _ _).mp h3)]
        rfl
    · exact hs.elim
  · exact hs.elim
theorem ai_mem_fil {u : List (Nat × Nat)} {p q : Nat × Nat} : q ∈ u.filter (fun z => !decide (z = p)) ↔ q ∈ u ∧ q ≠ p := by
  simp [List.mem_filter]
theorem iv_pf {ad : Nat → Nat} {cA : Nat → ClassId} {x : ai_X} {ty : FieldType} (hcp : ai_cp ty x.2.2.1 = true) (hs : ai_pf Y m i ls st k h Q x) : ∃ (v : ai_V) (q : Nat) (r : List ai_V) (h' : ai_H), st = v :: .inr (.inr q) :: r ∧ ai_sh q = some (.inl x.1) ∧ q < h.1 ∧ narrow ty (ai_rn ad v) = ai_rn ad v ∧ fits ty (ai_rn ad v) = true ∧ h'.1 = h.1 ∧ ai_fv ad h' q x.2.2.1 x.2.1 = ai_rn ad v ∧ (∀ kd j, j ≠ x.2.1 → ai_fv ad h' q kd j = ai_fv ad h q kd j) ∧ (∀ r, r ≠ q → ai_cell ad cA h' r = ai_cell ad cA h r) ∧ Y m (i + 1) ls r k h' Q := by
  unfold ai_pf at hs
  split at hs
  · rename_i v q r
    split at hs
    · rename_i c hc
      have zz0 := hs
      clear hs
      obtain ⟨h1, hs⟩ := ai_ck_true zz0
      obtain ⟨h1, h2⟩ := iv_and2 h1
      have e1 : c = x.1 := Nat.eq_of_beq_eq_true h1
      subst e1
      have hq : q < h.1 := by simpa [Nat.blt_eq] using h2
      have setf : ∀ (w : Int) (kd j : Nat), j ≠ x.2.1 → ai_fv ad (h.1, h.2.1, ai_set h.2.2 q (Int.ofNat x.2.1) w) q kd j = ai_fv ad h q kd j := fun w kd j hj => ai_fv_eq (ai_set_nj (fun z => hj (Int.ofNat.inj z))) Iff.rfl
      have seto : ∀ (w : Int) (r : Nat), r ≠ q → ai_cell ad cA (h.1, h.2.1, ai_set h.2.2 q (Int.ofNat x.2.1) w) r = ai_cell ad cA h r := fun w r hr => ai_cell_eq (fun j => ai_set_ne hr) (fun j => Iff.rfl)
      have filf : ∀ (σ : ai_S) (kd j : Nat), σ q (Int.ofNat j) = h.2.2 q (Int.ofNat j) → j ≠ x.2.1 → ai_fv ad (h.1, h.2.1.filter (fun z => !decide (z = (q, x.2.1))), σ) q kd j = ai_fv ad h q kd j := fun σ kd j hσ hj => ai_fv_eq hσ (ai_mem_fil.trans ⟨fun z => z.1, fun z => ⟨z, fun y => hj (Prod.mk.inj y).2⟩⟩)
      have filo : ∀ (σ : ai_S) (r : Nat), (∀ j, σ r j = h.2.2 r j) → r ≠ q → ai_cell ad cA (h.1, h.2.1.filter (fun z => !decide (z = (q, x.2.1))), σ) r = ai_cell ad cA h r := fun σ r hσ hr => ai_cell_eq hσ (fun j => ai_mem_fil.trans ⟨fun z => z.1, fun z => ⟨z, fun y => hr (Prod.mk.inj y).1⟩⟩)
      split at hs
      · rename_i w e
        rw [e] at hcp ⊢
        have hty : ty = .int := by cases ty <;> first | rfl | cases hcp
        subst hty
        exact ⟨_, q, r, (h.1, h.2.1, ai_set h.2.2 q (Int.ofNat x.2.1) w), rfl, hc, hq, rfl, rfl, rfl, by show Value.int (Int32.ofInt (ai_set _ _ _ _ _ _)) = _; rw [ai_set_eq]; rfl, setf w, seto w, hs⟩
      · rename_i w e
        rw [e] at hcp ⊢
        have hty : ty = .long := by cases ty <;> first | rfl | cases hcp
        subst hty
        exact ⟨_, q, r, (h.1, h.2.1, ai_set h.2.2 q (Int.ofNat x.2.1) w), rfl, hc, hq, rfl, rfl, rfl, by show Value.long (Int64.ofInt (ai_set _ _ _ _ _ _)) = _; rw [ai_set_eq]; rfl, setf w, seto w, hs⟩
      · rename_i w e
        rw [e] at hcp ⊢
        have zz0 := hs
        clear hs
        obtain ⟨h3, hs⟩ := ai_ck_true zz0
        have e3 : w = ai_rf q x.2.1 := Nat.eq_of_beq_eq_true h3
        have hty : narrow ty (.ref (ad w)) = .ref (ad w) ∧ fits ty (.ref (ad w)) = true := by cases ty <;> first | exact ⟨rfl, rfl⟩ | cases hcp
        refine ⟨_, q, r, (h.1, h.2.1.filter (fun z => !decide (z = (q, x.2.1))), h.2.2), rfl, hc, hq, hty.1, hty.2, rfl, ?_, fun kd j hj => filf _ kd j rfl hj, fun r hr => filo _ r (fun _ => rfl) hr, hs⟩
        show (if (q, x.2.1) ∈ h.2.1.filter (fun z => !decide (z = (q, x.2.1))) then Value.null else .ref (ad (ai_rf q x.2.1))) = _
        rw [if_neg (fun z => (ai_mem_fil.mp z).2 rfl), e3]
        rfl
      · rename_i w e
        rw [e] at hcp ⊢
        have hty : ty = .boolean := by cases ty <;> first | rfl | cases hcp
        subst hty
        have hb : w = 0 ∨ w = 1 := by have := hs.1; omega
        have hnf : narrow .boolean (.int (Int32.ofInt w)) = .int (Int32.ofInt w) ∧ fits .boolean (.int (Int32.ofInt w)) = true := by rcases hb with rfl | rfl <;> exact ⟨rfl, rfl⟩
        exact ⟨_, q, r, (h.1, h.2.1, ai_set h.2.2 q (Int.ofNat x.2.1) w), rfl, hc, hq, hnf.1, hnf.2, rfl, by show Value.int (Int32.ofInt (ai_set _ _ _ _ _ _)) = _; rw [ai_set_eq]; rfl, setf w, seto w, hs.2⟩
      · rename_i w e
        rw [e] at hcp ⊢
        have hty : narrow ty (.ref (ad w)) = .ref (ad w) ∧ fits ty (.ref (ad w)) = true := by cases ty <;> first | exact ⟨rfl, rfl⟩ | cases hcp
        refine ⟨_, q, r, (h.1, h.2.1.filter (fun z => !decide (z = (q, x.2.1))), ai_set h.2.2 q (Int.ofNat x.2.1) (Int.ofNat w)), rfl, hc, hq, hty.1, hty.2, rfl, ?_, fun kd j hj => filf _ kd j (ai_set_nj (fun z => hj (Int.ofNat.inj z))) hj, fun r hr => filo _ r (fun _ => ai_set_ne hr) hr, hs⟩
        show (if (q, x.2.1) ∈ h.2.1.filter (fun z => !decide (z = (q, x.2.1))) then Value.null else .ref (ad (ai_set _ _ _ _ _ _).toNat)) = _
        rw [if_neg (fun z => (ai_mem_fil.mp z).2 rfl), ai_set_eq]
        rfl
      · exact hs.elim
    · exact hs.elim
  · exact hs.elim
theorem ai_sh_small {q kd n : Nat} (h : ai_sh q = some (.inr (kd, n))) : n ≤ 1000000 ∧ kd < 5 := by
  have h0 : ai_shT.all (fun x => match x with
    | .inl _ => true
    | .inr y => decide (y.2 ≤ 1000000) && decide (y.1 < 5)) = true := by decide +kernel
  unfold ai_sh at h
  rw [ai_nth_eq] at h
  have h1 := List.all_eq_true.mp h0 _ (List.mem_of_getElem? h)
  simp only [Bool.and_eq_true, decide_eq_true_eq] at h1
  exact h1
theorem iv_blt {a b : Nat} (h : Nat.blt a b = true) : a < b := by simpa [Nat.blt_eq] using h
theorem iv_ble {a b : Nat} (h : Nat.ble a b = true) : a ≤ b := Nat.le_of_ble_eq_true h
theorem iv_ald {kd : Nat} (hs : ai_ald sc Y m i ls st k h Q kd) : ∃ (j : Int) (q : Nat) (r : List ai_V), st = .inl j :: .inr (.inr q) :: r ∧ ((∃ n, ai_sh q = some (.inr (kd, n)) ∧ q < h.1 ∧ (0 ≤ j ∧ j < Int.ofNat n) ∧ Y m (i + 1) ls (.inl (h.2.2 q j) :: r) k h Q) ∨ (q = 100 ∧ kd = 0 ∧ m = ai_law ∧ (0 ≤ j ∧ j < sc.1) ∧ Y m (i + 1) ls (.inl (sc.2 j) :: r) k h Q)) := by
  unfold ai_ald at hs
  split at hs
  · rename_i j q r
    refine ⟨j, q, r, rfl, ?_⟩
    split at hs
    · rename_i kk n hc
      have zz0 := hs
      clear hs
      obtain ⟨h1, hs⟩ := ai_ck_true zz0
      obtain ⟨h1, h2⟩ := iv_and2 h1
      have e1 : kk = kd := Nat.eq_of_beq_eq_true h1
      subst e1
      exact Or.inl ⟨n, hc, iv_blt h2, hs.1, hs.2⟩
    · have zz0 := hs
      clear hs
      obtain ⟨h1, hs⟩ := ai_ck_true zz0
      obtain ⟨h1, h3⟩ := iv_and2 h1
      obtain ⟨h1, h2⟩ := iv_and2 h1
      exact Or.inr ⟨Nat.eq_of_beq_eq_true h1, Nat.eq_of_beq_eq_true h2, Nat.eq_of_beq_eq_true h3, hs.1, hs.2⟩
    · exact hs.elim
  · exact hs.elim
theorem iv_lald (hs : ai_lald Y m i ls st k h Q) : ∃ (j : Int) (q n : Nat) (r : List ai_V), st = .inl j :: .inr (.inr q) :: r ∧ ai_sh q = some (.inr (1, n)) ∧ q < h.1 ∧ (0 ≤ j ∧ j < Int.ofNat n) ∧ Y m (i + 1) ls (.inr (.inl (h.2.2 q j)) :: r) k h Q := by
  unfold ai_lald at hs
  split at hs
  · rename_i j q r
    split at hs
    · rename_i kk n hc
      have zz0 := hs
      clear hs
      obtain ⟨h1, hs⟩ := ai_ck_true zz0
      obtain ⟨h1, h2⟩ := iv_and2 h1
      have e1 : kk = 1 := Nat.eq_of_beq_eq_true h1
      subst e1
      exact ⟨j, q, n, r, rfl, hc, iv_blt h2, hs.1, hs.2⟩
    · exact hs.elim
  · exact hs.elim
theorem iv_aald (hs : ai_aald Y m i ls st k h Q) : ∃ (j : Int) (q n : Nat) (r : List ai_V), st = .inl j :: .inr (.inr q) :: r ∧ ai_sh q = some (.inr (4, n)) ∧ q < h.1 ∧ h.2.1 = [] ∧ (0 ≤ j ∧ j < Int.ofNat n) ∧ Y m (i + 1) ls (.inr (.inr (ai_rf q j.toNat)) :: r) k h Q := by
  unfold ai_aald at hs
  split at hs
  · rename_i j q r
    split at hs
    · rename_i kk n hc
      have zz0 := hs
      clear hs
      obtain ⟨h1, hs⟩ := ai_ck_true zz0
      obtain ⟨h1, h3⟩ := iv_and2 h1
      obtain ⟨h1, h2⟩ := iv_and2 h1
      have e1 : kk = 4 := Nat.eq_of_beq_eq_true h1
      subst e1
      exact ⟨j, q, n, r, rfl, hc, iv_blt h2, List.isEmpty_iff.mp h3, hs.1, hs.2⟩
    · exact hs.elim
  · exact hs.elim
theorem iv_ast {kd : Nat} {lo hi : Int} (hs : ai_ast Y m i ls st k h Q kd lo hi) : ∃ (v j : Int) (q n : Nat) (r : List ai_V), st = .inl v :: .inl j :: .inr (.inr q) :: r ∧ ai_sh q = some (.inr (kd, n)) ∧ q < h.1 ∧ (0 ≤ j ∧ j < Int.ofNat n) ∧ (kd ≠ 0 → lo ≤ v ∧ v ≤ hi) ∧ Y m (i + 1) ls r k (h.1, h.2.1, ai_set h.2.2 q j v) Q := by
  unfold ai_ast at hs
  split at hs
  · rename_i v j q r
    split at hs
    · rename_i kk n hc
      have zz0 := hs
      clear hs
      obtain ⟨h1, hs⟩ := ai_ck_true zz0
      obtain ⟨h1, h2⟩ := iv_and2 h1
      have e1 : kk = kd := Nat.eq_of_beq_eq_true h1
      subst e1
      split at hs
      · exact ⟨v, j, q, n, r, rfl, hc, iv_blt h2, hs.1, fun z => absurd rfl z, hs.2⟩
      · exact ⟨v, j, q, n, r, rfl, hc, iv_blt h2, hs.1, fun _ => hs.2.1, hs.2.2⟩
    · exact hs.elim
  · exact hs.elim
theorem iv_last (hs : ai_last Y m i ls st k h Q) : ∃ (v j : Int) (q n : Nat) (r : List ai_V), st = .inr (.inl v) :: .inl j :: .inr (.inr q) :: r ∧ ai_sh q = some (.inr (1, n)) ∧ q < h.1 ∧ (0 ≤ j ∧ j < Int.ofNat n) ∧ Y m (i + 1) ls r k (h.1, h.2.1, ai_set h.2.2 q j v) Q := by
  unfold ai_last at hs
  split at hs
  · rename_i v j q r
    split at hs
    · rename_i kk n hc
      have zz0 := hs
      clear hs
      obtain ⟨h1, hs⟩ := ai_ck_true zz0
      obtain ⟨h1, h2⟩ := iv_and2 h1
      have e1 : kk = 1 := Nat.eq_of_beq_eq_true h1
      subst e1
      exact ⟨v, j, q, n, r, rfl, hc, iv_blt h2, hs.1, hs.2⟩
    · exact hs.elim
  · exact hs.elim
theorem iv_aast (hs : ai_aast Y m i ls st k h Q) : ∃ (v q n : Nat) (j : Int) (r : List ai_V), st = .inr (.inr v) :: .inl j :: .inr (.inr q) :: r ∧ ai_sh q = some (.inr (4, n)) ∧ q < h.1 ∧ v < h.1 ∧ v = ai_rf q j.toNat ∧ (0 ≤ j ∧ j < Int.ofNat n) ∧ Y m (i + 1) ls r k (h.1, h.2.1.filter (fun z => !decide (z = (q, j.toNat))), h.2.2) Q := by
  unfold ai_aast at hs
  split at hs
  · rename_i v j q r
    split at hs
    · rename_i kk n hc
      have zz0 := hs
      clear hs
      obtain ⟨h1, hs⟩ := ai_ck_true zz0
      obtain ⟨h1, h4⟩ := iv_and2 h1
      obtain ⟨h1, h3⟩ := iv_and2 h1
      obtain ⟨h1, h2⟩ := iv_and2 h1
      have e1 : kk = 4 := Nat.eq_of_beq_eq_true h1
      subst e1
      exact ⟨v, q, n, j, r, rfl, hc, iv_blt h2, iv_blt h3, Nat.eq_of_beq_eq_true h4, hs.1, hs.2⟩
    · exact hs.elim
  · exact hs.elim
theorem iv_len (hs : ai_len sc Y m i ls st k h Q) : ∃ (q : Nat) (r : List ai_V), st = .inr (.inr q) :: r ∧ ((∃ kd n, ai_sh q = some (.inr (kd, n)) ∧ q < h.1 ∧ Y m (i + 1) ls (.inl (Int.ofNat n) :: r) k h Q) ∨ (q = 100 ∧ m = ai_law ∧ Y m (i + 1) ls (.inl sc.1 :: r) k h Q)) := by
  unfold ai_len at hs
  split at hs
  · rename_i q r
    refine ⟨q, r, rfl, ?_⟩
    split at hs
    · rename_i kk n hc
      have zz0 := hs
      clear hs
      obtain ⟨h1, hs⟩ := ai_ck_true zz0
      exact Or.inl ⟨_, _, hc, iv_blt h1, hs⟩
    · have zz0 := hs
      clear hs
      obtain ⟨h1, hs⟩ := ai_ck_true zz0
      obtain ⟨h1, h2⟩ := iv_and2 h1
      exact Or.inr ⟨Nat.eq_of_beq_eq_true h1, Nat.eq_of_beq_eq_true h2, hs⟩
    · exact hs.elim
  · exact hs.elim
theorem iv_nar {kd : Nat} (hs : ai_nar Y m i ls st k h Q kd) : ∃ (n0 : Nat) (r : List ai_V), st = .inl (Int.ofNat n0) :: r ∧ ai_sh h.1 = some (.inr (kd, n0)) ∧ h.1 < 92 ∧ k.1 + 1 ≤ ai_mc m ∧ k.2 + n0 ≤ ai_ms m ∧ Y m (i + 1) ls (.inr (.inr h.1) :: r) (k.1 + 1, k.2 + n0) (h.1 + 1, h.2.1 ++ (if kd = 4 then (List.range n0).map (fun j => (h.1, j)) else []), ai_zero h.2.2 h.1) Q := by
  unfold ai_nar at hs
  split at hs
  · rename_i n r
    split at hs
    · rename_i kk n0 hc
      have zz0 := hs
      clear hs
      obtain ⟨h1, hs⟩ := ai_ck_true zz0
      obtain ⟨h1, h4⟩ := iv_and2 h1
      obtain ⟨h1, h3⟩ := iv_and2 h1
      obtain ⟨h1, h2⟩ := iv_and2 h1
      have e1 : kk = kd := Nat.eq_of_beq_eq_true h1
      subst e1
      obtain ⟨rfl, hs⟩ := hs
      exact ⟨n0, r, rfl, hc, iv_blt h2, iv_ble h3, iv_ble h4, hs⟩
    · exact hs.elim
  · exact hs.elim
theorem iv_call {x : ai_X} (hs : ai_call Y m i ls st k h Q x) : ∃ (vs r : List ai_V), st = vs.reverse ++ r ∧ vs.length = x.2.1 ∧ ai_tk x.2.1 [] st = some (vs, r) ∧ ai_cats r ≤ 8 ∧ ai_cats vs ≤ ai_mL x.1 ∧ k.1 + ai_mc x.1 ≤ ai_mc m ∧ k.2 + ai_ms x.1 ≤ ai_ms m ∧
    (match x.2.2.1 with
    | 0 => ai_ret Y x.1 (ai_en (ai_mL x.1) vs) h (fun v h' => ai_ck (ai_zz h.1 h'.1 (ai_mc x.1)) (Y m (i + 1) ls (v.toList ++ r) (k.1 + ai_mc x.1, k.2 + ai_ms x.1) h' Q))
    | _ => ai_ret Y x.1 (ai_en (ai_mL x.1) vs) h (fun v h' => ai_ck (ai_zz h.1 h'.1 (ai_mc x.1)) (Y m (i + 1) ls (v.toList ++ r) (k.1 + ai_mc x.1, k.2 + ai_ms x.1) h' Q)) ∨
        ai_thr Y x.1 (ai_en (ai_mL x.1) vs) h (fun c h' => ai_ck (Nat.ble 92 h'.1) (match ai_ct m c with
          | some (t, sl) => Y m t (ai_put (ai_kill ls sl) sl none) [] (k.1 + ai_mc x.1, k.2 + ai_ms x.1) h' Q
          | none => False))) := by
  unfold ai_call at hs
  split at hs
  · rename_i vs r htk
    have zz0 := hs
    clear hs
    obtain ⟨h1, hs⟩ := ai_ck_true zz0
    have zz0 := hs
    clear hs
    obtain ⟨h2, hs⟩ := ai_ck_true zz0
    obtain ⟨h1, h3⟩ := iv_and2 h1
    obtain ⟨h2, h4⟩ := iv_and2 h2
    obtain ⟨g1, g2⟩ := ai_tk_eq (fun n => n) _ _ _ _ _ htk
    exact ⟨vs, r, by simpa using g1, by simpa using g2, htk, iv_ble h1, iv_ble h3, iv_ble h2, iv_ble h4, hs⟩
  · exact hs.elim
theorem ai_zz_use {z z' n : Nat} (h : ai_zz z z' n = true) : (z < 92 → z' = z + n) ∧ (92 ≤ z → 92 ≤ z') := by
  unfold ai_zz at h
  split at h
  · rename_i h1
    have := iv_ble h1
    have := iv_ble h
    exact ⟨fun q => by omega, fun _ => by omega⟩
  · rename_i h1
    have h2 : ¬ 92 ≤ z := fun q => by rw [Nat.ble_eq_true_of_le q] at h1; cases h1
    exact ⟨fun _ => Nat.eq_of_beq_eq_true h, fun q => absurd q h2⟩
theorem iv_ocall0 {x : ai_X} (e : x.1 = 1000) (hs : ai_ocall Y m i ls st k h Q x) : ∃ (q : Nat) (r : List ai_V), st = .inr (.inr q) :: r ∧ ai_cats r ≤ 8 ∧ Y m (i + 1) ls r k h Q := by
  unfold ai_ocall at hs
  rw [e] at hs
  split at hs
  · have zz0 := hs
    clear hs
    obtain ⟨h1, hs⟩ := ai_ck_true zz0
    exact ⟨_, _, rfl, iv_ble h1, hs⟩
  all_goals first | exact hs.elim | (rename_i z; cases z) | (exfalso; simp_all; done)
theorem iv_ocall1 {x : ai_X} (e : x.1 = 1001) (hs : ai_ocall Y m i ls st k h Q x) : ∃ (n dp sp : Int) (qq qp kd np nq : Nat) (r : List ai_V), st = .inl n :: .inl dp :: .inr (.inr qq) :: .inl sp :: .inr (.inr qp) :: r ∧ kd ≤ 1 ∧ ai_sh qp = some (.inr (kd, np)) ∧ ai_sh qq = some (.inr (kd, nq)) ∧ qp < h.1 ∧ qq < h.1 ∧ ai_cats r ≤ 8 ∧ (0 ≤ sp ∧ 0 ≤ dp ∧ 0 ≤ n ∧ sp + n ≤ Int.ofNat np ∧ dp + n ≤ Int.ofNat nq) ∧ Y m (i + 1) ls r k (h.1, h.2.1, ai_cpy h.2.2 qp qq sp dp n) Q := by
  unfold ai_ocall at hs
  rw [e] at hs
  split at hs
  · rename_i z; cases z
  · rename_i n dp qq sp qp r _
    split at hs
    · rename_i kp np kq nq hp hq
      have zz0 := hs
      clear hs
      obtain ⟨h1, hs⟩ := ai_ck_true zz0
      obtain ⟨h1, h5⟩ := iv_and2 h1
      obtain ⟨h1, h4⟩ := iv_and2 h1
      obtain ⟨h1, h3⟩ := iv_and2 h1
      obtain ⟨h1, h2⟩ := iv_and2 h1
      have e1 : kp = kq := Nat.eq_of_beq_eq_true h1
      subst e1
      exact ⟨n, dp, sp, qq, qp, kp, np, nq, r, rfl, iv_ble h2, hp, hq, iv_blt h3, iv_blt h4, iv_ble h5, hs.1, hs.2⟩
    · exact hs.elim
  all_goals first | exact hs.elim | (rename_i z; cases z) | (exfalso; simp_all; done)
theorem iv_ocall2 {x : ai_X} (e : x.1 = 1002) (hs : ai_ocall Y m i ls st k h Q x) : ∃ (a0 : Int) (r : List ai_V), st = .inr (.inl a0) :: r ∧ ai_cats r ≤ 8 ∧ ai_r8 a0 ∧ k.1 ≤ ai_mc m ∧ k.2 ≤ ai_ms m ∧ Y m (i + 1) ls (.inr (.inl (if 0 < a0 then a0 else -a0)) :: r) k h Q := by
  unfold ai_ocall at hs
  rw [e] at hs
  split at hs
  · rename_i z; cases z
  · rename_i z; cases z
  · have zz0 := hs
    clear hs
    obtain ⟨h1, hs⟩ := ai_ck_true zz0
    obtain ⟨h1, h3⟩ := iv_and2 h1
    obtain ⟨h1, h2⟩ := iv_and2 h1
    exact ⟨_, _, rfl, iv_ble h1, hs.1, iv_ble h2, iv_ble h3, hs.2⟩
  all_goals first | exact hs.elim | (rename_i z; cases z) | (exfalso; simp_all; done)
theorem iv_ocall3 {x : ai_X} (e : x.1 = 1003) (hs : ai_ocall Y m i ls st k h Q x) : ∃ (b0 a0 : Int) (r : List ai_V), st = .inl b0 :: .inl a0 :: r ∧ ai_cats r ≤ 8 ∧ (ai_r a0 ∧ ai_r b0) ∧ k.1 ≤ ai_mc m ∧ k.2 ≤ ai_ms m ∧ Y m (i + 1) ls (.inl (if b0 < a0 then b0 else a0) :: r) k h Q := by
  unfold ai_ocall at hs
  rw [e] at hs
  split at hs
  · rename_i z; cases z
  · rename_i z; cases z
  · rename_i z; cases z
  · have zz0 := hs
    clear hs
    obtain ⟨h1, hs⟩ := ai_ck_true zz0
    obtain ⟨h1, h3⟩ := iv_and2 h1
    obtain ⟨h1, h2⟩ := iv_and2 h1
    exact ⟨_, _, _, rfl, iv_ble h1, hs.1, iv_ble h2, iv_ble h3, hs.2⟩
  all_goals first | exact hs.elim | (rename_i z; cases z) | (exfalso; simp_all; done)
theorem ai_stores {q n v : Nat} {j : Int} (hsh : ai_sh q = some (.inr (4, n))) (hj : j.toNat < n) (hv : v = ai_rf q j.toNat) : ∃ (ci : Nat) (T : u_T) (N : Nat), vwCl[ci]? = some (ai_Store, T, N) ∧ ai_sh v = some (.inl ci) := by
  have h0 : (List.range 92).all (fun q => match ai_sh q with
    | some (.inr (4, n)) => (List.range n).all (fun j => decide (ai_sh (ai_rf q j) = some (.inl 8)))
    | _ => true) = true := by decide +kernel
  have hq : q < 92 := by
    unfold ai_sh at hsh
    rw [ai_nth_eq] at hsh
    exact (List.getElem?_eq_some_iff.mp hsh).1
  have h1 := List.all_eq_true.mp h0 q (List.mem_range.mpr hq)
  rw [hsh] at h1
  have h2 := of_decide_eq_true (List.all_eq_true.mp h1 j.toNat (List.mem_range.mpr hj))
  rw [hv]
  exact ⟨8, ai_T8, 3, rfl, h2⟩
end AIV
end
section
/-! THE SOUNDNESS of the machine of places: what ends there as Q asks, ends so in the machine. -/
theorem ai_okf_use {m n : Nat} {x : ai_X} {pt : Bool} (h : ai_okf m x n pt = true) : ∃ (C : String) (T : u_T) (N : Nat), vwCl[x.1]? = some (C, T, N) ∧ x.2.1 < N ∧ Cond.fieldLink (ai_mY m).cls n C (T x.2.1).2.1 (T x.2.1).2.2.1 ∈ ai_WS ∧ ai_kd x.1 x.2.1 = x.2.2.1 ∧ (pt = true → (T x.2.1).2.2.2 = false ∨ ((T x.2.1).2.2.2 = true ∧ (ai_mY m).name = "<init>" ∧ C = (ai_mY m).cls)) := by
  unfold ai_okf at h
  split at h
  · rename_i C T N hcl
    obtain ⟨h, h4⟩ := iv_and2 h
    obtain ⟨h, h3⟩ := iv_and2 h
    obtain ⟨h, h2⟩ := iv_and2 h
    refine ⟨C, T, N, hcl, iv_blt h, ai_wd_in h2, Nat.eq_of_beq_eq_true h3, fun hp => ?_⟩
    subst hp
    cases hf : (T x.2.1).2.2.2 with
    | false => exact Or.inl rfl
    | true =>
      rw [hf] at h4
      have h5 : (decide ((ai_mY m).name = "<init>") && decide (C = (ai_mY m).cls)) = true := h4
      obtain ⟨h5, h6⟩ := iv_and2 h5
      exact Or.inr ⟨rfl, of_decide_eq_true h5, of_decide_eq_true h6⟩
  · cases h
theorem ai_rmk_use {m m' : Nat} (h : ai_rmk m m' = true) : (ai_rm m').frames + 1 ≤ (ai_rm m).frames ∧ 8 + (ai_mL m' + 11) + (ai_rm m').locals ≤ (ai_rm m).locals := by
  obtain ⟨h1, h2⟩ := iv_and2 h
  exact ⟨iv_ble h1, iv_ble h2⟩
theorem ai_okv_use {m n kd : Nat} {x : ai_X} (h : ai_okv m x n kd = true) : Cond.methodLink (ai_mY m).cls n (ai_mY x.1) ∈ ai_WS ∧ ai_mK x.1 = kd ∧ x.1 < 206 ∧ x.2.1 = ai_mN x.1 + (if kd = 2 then 0 else 1) ∧ ai_rmk m x.1 = true ∧ (kd = 2 → (ai_mY x.1).cls = (ai_mY m).cls ∧ x.2.2.1 = 0) ∧ (kd = 1 → x.2.2.1 = 0 ∧ ai_hh x.1 = []) ∧ (kd = 0 → ai_hh x.1 = []) := by
  unfold ai_okv at h
  obtain ⟨h, h6⟩ := iv_and2 h
  obtain ⟨h, h5⟩ := iv_and2 h
  obtain ⟨h, h4⟩ := iv_and2 h
  obtain ⟨h, h3⟩ := iv_and2 h
  obtain ⟨h1, h2⟩ := iv_and2 h
  refine ⟨ai_wd_in h1, Nat.eq_of_beq_eq_true h2, iv_blt h3, Nat.eq_of_beq_eq_true h4, h5, fun q => ?_, fun q => ?_, fun q => ?_⟩
  · subst q
    obtain ⟨g1, g2⟩ := iv_and2 h6
    exact ⟨of_decide_eq_true g1, Nat.eq_of_beq_eq_true g2⟩
  · subst q
    obtain ⟨g1, g2⟩ := iv_and2 h6
    exact ⟨Nat.eq_of_beq_eq_true g1, List.isEmpty_iff.mp g2⟩
  · subst q
    exact List.isEmpty_iff.mp h6
theorem ai_meth_use {m : Nat} (h : m < 206) : Cond.initialized (ai_mY m).cls ∈ ai_WS ∧ ((ai_mY m).cls ≠ "java/lang/invoke/MethodHandle" ∧ (ai_mY m).cls ≠ "java/lang/invoke/VarHandle" ∧ (parseMethodDescriptor (ai_mY m).desc).map (fun d => d.parameters.length) = some (ai_mN m)) ∧ plainName (ai_mY m).cls = true ∧ ai_pc m 0 = 0 ∧ (ai_mK m = 0 → Cond.instanceMethod (ai_mY m) ∈ ai_WS ∧ Cond.selects (ai_mY m).cls (ai_mY m) (ai_mY m) ∈ ai_WS ∧ ∃ T N, vwCl[ai_mC m]? = some ((ai_mY m).cls, T, N)) ∧ (ai_mK m = 1 → Cond.instanceMethod (ai_mY m) ∈ ai_WS ∧ (ai_mY m).name = "<init>" ∧ ai_mR m = none) ∧ (ai_mK m = 2 → Cond.static (ai_mY m) ∈ ai_WS) := by
  have h0 := ai_meth h
  unfold ai_okY at h0
  obtain ⟨h0, h7⟩ := iv_and2 h0
  obtain ⟨h0, h6⟩ := iv_and2 h0
  obtain ⟨h0, h5⟩ := iv_and2 h0
  obtain ⟨h0, h4⟩ := iv_and2 h0
  obtain ⟨h0, h3⟩ := iv_and2 h0
  obtain ⟨h1, h2⟩ := iv_and2 h0
  refine ⟨ai_wd_in h1, ⟨of_decide_eq_true h2, of_decide_eq_true h3, of_decide_eq_true h4⟩, h5, Nat.eq_of_beq_eq_true h6, fun q => ?_, fun q => ?_, fun q => ?_⟩
  · rw [q] at h7
    obtain ⟨h7, g3⟩ := iv_and2 h7
    obtain ⟨g1, g2⟩ := iv_and2 h7
    refine ⟨ai_wd_in g1, ai_wd_in g2, ?_⟩
    have g4 := of_decide_eq_true g3
    cases hv : vwCl[ai_mC m]? with
    | none => rw [hv] at g4; cases g4
    | some y =>
      obtain ⟨C, T, N⟩ := y
      rw [hv] at g4
      cases g4
      exact ⟨T, N, rfl⟩
  · rw [q] at h7
    obtain ⟨h7, g3⟩ := iv_and2 h7
    obtain ⟨g1, g2⟩ := iv_and2 h7
    exact ⟨ai_wd_in g1, of_decide_eq_true g2, of_decide_eq_true g3⟩
  · rw [q] at h7
    exact ai_wd_in h7
end
section
/-! A THROW: the walk is begun anew at the state where it stands (so that what was written before is kept), then 'new E, dup, ldc, E(String), athrow'. -/
theorem ai_rebase {p : Program} {l : Launch} {e : Env} {R R' : Room} {s : State} {m : MethodId} {args : Array Value} {below : List Frame} {meth : Method} {c : Code} {T : State} {locs : List Loc} {cells slots : Nat} (X : Stand p l e R s m args below meth c T locs cells slots) (hf : R'.frames ≤ R.frames) (hlo : R'.locals ≤ R.locals) (hc : cells + R'.cells ≤ R.cells) (hs : slots + R'.slots ≤ R.slots) :
    Stand p l e R' (T.setFrames (.invoking m args :: below)) m args below meth c T [] 0 0 := by
  obtain ⟨g₀, hg⟩ := Option.isSome_iff_exists.mp X.here.top
  obtain ⟨r, hr⟩ := State.topJava?_eq_some.mp hg
  obtain ⟨t, ht, -⟩ := State.frames_cons hr
  have hcur : T.cur < T.threads.size := (Array.getElem?_eq_some_iff.mp ht).1
  have hfr : (T.setFrames (.invoking m args :: below)).frames = .invoking m args :: below := State.frames_setFrames _ hcur
  have hmeth : (T.setFrames (.invoking m args :: below)).vm.method? m = some meth := X.method'
  have hback : (T.setFrames (.invoking m args :: below)).setFrames T.frames = T := by
    rw [State.setFrames_setFrames, State.setFrames_self ht]
  have hcur' : (T.setFrames (.invoking m args :: below)).cur < (T.setFrames (.invoking m args :: below)).threads.size := State.cur_lt_of_frames hfr
  obtain ⟨t', ht', -⟩ := State.frames_cons hfr
  refine ⟨X.admits, X.cas, X.clock, hfr, ?_, ?_, hmeth, X.code, X.here, X.tail, State.WarmedH.refl (T.setFrames (.invoking m args :: below)), (State.stackLimits_setFrames _ _ _).symm, (State.stackBytes_setFrames _ _).symm, ?_⟩
  · have h0 := X.room
    have h1 := X.heapSize
    have h2 := X.used
    have h3 := X.book
    have e1 : s.localsInUse = (T.setFrames (.invoking m args :: below)).localsInUse := by
      rw [State.localsInUse_invoking X.frames X.method X.code, State.localsInUse_invoking hfr hmeth X.code]
    have e2 : (T.setFrames (.invoking m args :: below)).heap.size = T.heap.size := rfl
    have e3 : (T.setFrames (.invoking m args :: below)).slotsUsed = T.slotsUsed := rfl
    have e4 : (T.setFrames (.invoking m args :: below)).slotsTrue = T.slotsTrue := rfl
    have e5 := State.stackLimits_setFrames e.platform T (.invoking m args :: below)
    have e6 := State.stackBytes_setFrames T (.invoking m args :: below)
    have e7 := X.limits
    have e8 := X.bytes
    simp only [State.hasRoom, Bool.and_eq_true, decide_eq_true_eq, X.frames] at h0
    simp only [State.hasRoom, Bool.and_eq_true, decide_eq_true_eq, hfr, ← e1, e2, e3, e4, e5, e6, e7, e8]
    refine ⟨⟨⟨⟨?_, ?_⟩, ?_⟩, ?_⟩, h3⟩ <;> omega
  · have h0 := X.hears
    have ha := X.warmed.alike
    unfold State.hears at h0 ⊢
    split at h0
    · rw [State.code?_eq] at h0 ⊢
      show ((((T.vm.method? _).bind _).bind _).isSome) = true
      rw [ha.method?]
      exact h0
    · rfl
    · rfl
    · show (T.vm.method? m).any _ = true
      rw [ha.method?]
      exact h0
  · have h := (State.sameButNew.refl (T.setFrames (.invoking m args :: below)) ht').setFrames T.frames hcur'
    rw [hback] at h
    exact h
theorem ai_same_frames {A t : State} {fs : List Frame} {L : List Loc} {k n : Nat} (h : (A.setFrames fs).sameButNew t L k n) : A.sameButNew t L k n := ⟨by have h1 := h.1; rwa [State.setFrames_setFrames] at h1, h.2⟩
theorem ai_ZS_words {base : Nat} {U : State} {n d : String} (h : ai_ZS base U U.heap n d) (a : Array Value) : (Cond.laysStatic "java/lang/Throwable" n d).before a U = true ∧ (Cond.isRef (.static "java/lang/Throwable" n d)).before a U = true := by
  obtain ⟨c, k, i, f, ad, cell, v, h1, h2, h3, h4, h5, h6, h7, h8, h9, h10, h11, h12⟩ := h
  constructor
  · simp only [Cond.before, Cond.holds, Cond.value, h1, h2, h4, Option.bind_some, h5, Option.map_some, h3, h6, h7, h9]
    simp [h8]
  · have e : (Term.static "java/lang/Throwable" n d).eval a U none [] U = some v := by
      simp [Term.eval, State.fieldNamed?, h2, h3, h4, h5, h6, h10]
    simp only [Cond.before, Cond.holds, Cond.value, e, Option.map_some]
    cases v <;> first | rfl | cases h11
def ai_zw : List Cond := [.laysStatic "java/lang/Throwable" "UNASSIGNED_STACK" "[Ljava/lang/StackTraceElement;", .isRef (.static "java/lang/Throwable" "UNASSIGNED_STACK" "[Ljava/lang/StackTraceElement;"), .laysStatic "java/lang/Throwable" "SUPPRESSED_SENTINEL" "Ljava/util/List;", .isRef (.static "java/lang/Throwable" "SUPPRESSED_SENTINEL" "Ljava/util/List;")]
def ai_xs : List String := ["java/lang/RuntimeException", "java/lang/Exception"]
noncomputable def ai_ownk (w : Cond) : Bool := (decide (w ∈ lw_tbl) && goodWord w) || decide (w ∈ ai_fw) || decide (w ∈ ai_zw)
def ai_oA (X : String) : List Cond := Bundle.throwableAtoms ++ Bundle.throwableSAtoms ++ Bundle.chainSAtoms X ai_xs
def ai_oB (X : String) : List Cond := (Bundle.ownAtoms "" 0 X ai_xs).drop ((ai_oA X).length + 1)
theorem ai_own_eq (own : String) (ic : Nat) (X : String) : Bundle.ownAtoms own ic X ai_xs = ai_oA X ++ (.methodLink own ic ⟨X, "<init>", "(Ljava/lang/String;)V"⟩ :: ai_oB X) := rfl
set_option maxRecDepth 1000000 in
theorem ai_own_all : (List.range 4).all (fun x => (ai_oA (ai_xn x)).all ai_ownk && (ai_oB (ai_xn x)).all ai_ownk && decide (Cond.initialized (ai_xn x) ∈ lw_tbl) && decide (Cond.instantiable (ai_xn x) 6 ∈ lw_tbl) && Bundle.fit (ai_xn x)) = true := by decide +kernel
theorem ai_own_use {x : Nat} (hx : x < 4) {own : String} {ic : Nat} {s : State} {args : Array Value} {base : Nat} (hts : ∀ w ∈ ai_WS, w.before args s = true) (hE : ai_env base s) (hm : Cond.methodLink own ic ⟨ai_xn x, "<init>", "(Ljava/lang/String;)V"⟩ ∈ ai_WS) : ∀ w ∈ Bundle.ownAtoms own ic (ai_xn x) ai_xs, w.before args s = true := by
  have h0 := List.all_eq_true.mp ai_own_all x (List.mem_range.mpr hx)
  simp only [Bool.and_eq_true] at h0
  have one : ∀ w, ai_ownk w = true → w.before args s = true := by
    intro w hw
    unfold ai_ownk at hw
    simp only [Bool.or_eq_true, Bool.and_eq_true, decide_eq_true_eq] at hw
    rcases hw with (hw | hw) | hw
    · exact hts w (List.mem_filter.mpr ⟨hw.1, hw.2⟩)
    · exact ai_face (ai_fw_face w hw).1 (ai_fw_face w hw).2 (State.WarmedH.refl s) (hE.2.2.1 w hw)
    · have z1 := ai_ZS_words (hE.2.1 ("UNASSIGNED_STACK", "[Ljava/lang/StackTraceElement;") (by simp [ai_zt])) args
      have z2 := ai_ZS_words (hE.2.1 ("SUPPRESSED_SENTINEL", "Ljava/util/List;") (by simp [ai_zt])) args
      simp only [ai_zw, List.mem_cons, List.not_mem_nil, or_false] at hw
      rcases hw with rfl | rfl | rfl | rfl
      · exact z1.1
      · exact z1.2
      · exact z2.1
      · exact z2.2
  intro w hw
  rw [ai_own_eq] at hw
  rcases List.mem_append.mp hw with hw | hw
  · exact one w (List.all_eq_true.mp h0.1.1.1.1 w hw)
  · rcases List.mem_cons.mp hw with rfl | hw
    · exact hts _ hm
    · exact one w (List.all_eq_true.mp h0.1.1.1.2 w hw)
theorem ai_xn_words {x : Nat} (hx : x < 4) : Cond.initialized (ai_xn x) ∈ ai_WS ∧ Cond.instantiable (ai_xn x) 6 ∈ ai_WS ∧ Bundle.fit (ai_xn x) = true := by
  have h0 := List.all_eq_true.mp ai_own_all x (List.mem_range.mpr hx)
  simp only [Bool.and_eq_true, decide_eq_true_eq] at h0
  exact ⟨List.mem_filter.mpr ⟨h0.1.1.2, rfl⟩, List.mem_filter.mpr ⟨h0.1.2, rfl⟩, h0.2⟩

theorem ai_wm_eqW {m' : Nat} (h : ai_hh m' ≠ []) : ai_wm m' = Cond.codeWith (ai_mY m') (ai_mB m') (ai_mL m') (ai_mR m') (ai_hh m') :: ai_WS := by
  unfold ai_wm ai_cw
  split
  · rename_i z
    exact absurd z h
  · rfl
theorem ai_toMetW {sc : Int × (Int → Int)} {l : Launch} {D : va_G} {base b : Nat} {cA : Nat → ClassId} {m' : Nat} {vs : List ai_V} {h : ai_H} {P : ai_O → Prop} (hl : ai_stOK l) (hpl : plainName (ai_mY m').cls = true) (hcd : ai_hh m' ≠ []) (hlaw : m' ≠ ai_law) (hp0 : ai_pc m' 0 = 0) (hcat : ai_cats vs ≤ ai_mL m') (hC : ai_SND sc l D base b cA m' 0 (ai_en (ai_mL m') vs) [] (0, 0) h P) (hret : ∀ o, P o → ∃ v h', o = (.inl v, h')) :
    Met l (ai_mY m') (ai_wm m') (ai_rm m') (va_Pc (vs.map (ai_rn (ai_ad base b))) (ai_PcB D base b cA h)) (ai_Qc D base b cA P) (ai_mc m') (ai_ms m') (fun q => base ≤ q) := by
  refine va_MetW (cc := ai_mB m') (maxL := ai_mL m') (ret := ai_mR m') (hh := ai_hh m') (ws' := ai_WS) hpl (ai_wm_eqW hcd) ?_
  intro p e s mid args below meth c s₁ B hml hv
  obtain ⟨rfl, hWd, hK, hbs, hz, hst, hen⟩ := hv
  have hts := atoms_spec (ws := ai_wm m') B.pre
  have hex : c.exceptionTable.toList.map (fun x => (x.startPc, x.endPc, x.handlerPc, x.catchType)) = ai_hh m' := by
    have hc := hts (Cond.codeWith (ai_mY m') (ai_mB m') (ai_mL m') (ai_mR m') (ai_hh m')) (by rw [ai_wm_eqW hcd]; exact List.mem_cons_self)
    obtain ⟨m9, meth2, c2, hn9, h1, h2, -, -, h3, -⟩ := Cond.codeWith_spec hc
    cases B.named.symm.trans hn9
    cases B.method.symm.trans h1
    have hcode : meth.code = some c := by
      have h := B.here.code
      rw [State.code?_eq, B.method₁] at h
      exact h
    cases hcode.symm.trans h2
    exact h3
  have F : ai_F p e s mid _ meth c m' := ⟨B.exec, B.bytes, hml, B.returns, fun w hw => hts w (List.mem_cons_of_mem _ hw), findClass_of_methodNamed B.named, B.notSynchronized, (name_of_methodNamed B.named B.method).1, hex, hst, ai_stOK_use hl B.admits⟩
  rw [lg_entry_eq]
  have K := hC p e s mid _ below meth c F hK hbs hen (fun q => absurd q hlaw) s.heap [] _ hWd va_S.rf (ai_lv0 (ai_ad base b) vs hcat) (fun q => by have := hz q; show s.heap.size + 0 = _; omega)
  rw [hp0] at K
  refine ai_mono ?_ K
  rintro t ⟨o, h1, h2, h3, h4, h5, ⟨L, h6, h7⟩, h8⟩
  obtain ⟨v, h', rfl⟩ := hret o h1
  exact ⟨.returned (v.map (ai_rn (ai_ad base b))), h2, h8, ⟨v, h', h1, rfl, h3, h4⟩, L, ⟨⟨_, rfl⟩, h5, h6⟩, h7⟩
section AIW
variable {sc : Int × (Int → Int)} {l : Launch} {D : va_G} {base b : Nat} {cA : Nat → ClassId} {p : Program} {e : Env} {s : State} {mid : MethodId} {args : Array Value} {below : List Frame} {meth : Method} {c : Code} {m : Nat} {Q : ai_O → Prop} {i : Nat} {ls : ai_L} {st : List ai_V} {k : Nat × Nat} {h h' : ai_H}
theorem ai_runSW {y : MethodName} {ws : List Cond} {rm R : Room} {Pc : Array Value → State → Prop} {Qc : Array Value → State → Outcome → State → Prop} {mc ms maxL index : Nat} {free : Addr → Prop} {bytes : ByteArray} {ret : Option FieldType} {hh : List (Nat × Nat × Nat × Nat)} {own : String} {As rest : List Value} {g : JFrame} {H : Heap} {locs : List Loc} {cells slots : Nat} (hexec : p.tables.exec = Jvm.exec) (hown : s.vm.findClass own = some mid.cls) (hM : Met l y ws rm Pc Qc mc ms free) (hcw : Cond.codeWith y bytes maxL ret hh ∈ ws) (hws : ∀ w ∈ ws, ∀ (a' : Array Value) (U : State), s.WarmedH U.vm → w.before a' U = true) (hcb : (Cond.codeWith y bytes maxL ret hh).before args s = true) (hst : (Cond.static y).before args s = true) (hini : (Cond.initialized y.cls).before args s = true) (hl : (Cond.methodLink own index y).before args s = true) (hy : y.cls ≠ "java/lang/invoke/MethodHandle" ∧ y.cls ≠ "java/lang/invoke/VarHandle") (hrc : rm.cells = mc) (hrs : rm.slots = ms) (hR : rm.frames + 1 ≤ R.frames ∧ 8 + (maxL + 11) + rm.locals ≤ R.locals) (hp : PreS s H Pc As)
    (hlen : ∀ sig, parseMethodDescriptor y.desc = some sig → As.length = sig.parameters.length) (hg : g.method = mid) (hsize : g.locals.size = c.maxLocals) (hstack : g.stack = As.reverse ++ rest) (hW : 2 * g.monitorRoom + (rest.map fun v => v.category).sum ≤ 8) (hdg : decode c.code g.pc = .ok (.invokestatic index, 3)) (hf : cells + mc ≤ R.cells ∧ slots + ms ≤ R.slots) :
    va_Run p l e R s mid args below meth c H locs cells slots mc ms g rest (Qc As.toArray) free := by
  have hK : Back l R p e below s args y 3 8 (PreOf R mc ms Pc) (PostOf Qc mc ms free) := va_backW hM hp.1 hrc hrs hR.1 hR.2 hws hcw (fun a' U hW => word_at hW (Or.inl rfl) hini)
  intro T hT X
  obtain ⟨m9, methM, cM, hnamed, hmethM, -, -, -, -, -, -, hsig⟩ := Cond.codeWith_spec hcb
  have hstatic : methM.isStatic = true := Cond.static_spec hnamed hmethM hst
  obtain ⟨kP, hkP, -⟩ := className_of_methodNamed hnamed
  have hinitP : kP.init = .initialized := Cond.initialized_spec (findClass_of_methodNamed hnamed) hkP hini
  obtain ⟨vm₁, X₁, hstep₁⟩ := X.invokestatic hexec hown hl hnamed hmethM hstatic hkP hinitP hy (g := g) hg (argsL := As) (rest := rest) (hlen _ hsig) hstack hdg
  obtain ⟨v, ⟨U', l2, c2, s2⟩, X', ⟨g', mk, t, L, e1, e2, hq, h1, hL, h2, h3⟩, hsteps⟩ := hK mid meth c ⟨T.setVm vm₁, locs, cells, slots⟩ { g with stack := rest } (.invokestatic index) m9 As.toArray X₁ hg hsize hdg hW (X₁.named hnamed) ⟨hf.1, hf.2, hp.2 (T.setVm vm₁) hT X₁.warmed⟩
  dsimp only [Pt.U, Pt.locs, Pt.cells, Pt.slots] at X' e1 e2 h1 h2 h3 hsteps
  subst h1; subst h2; subst h3
  exact ⟨v, (T.setVm vm₁).calling g' mk As.toArray, t, U', L, hT, X', hL, e1, e2, hq, fun target h => hstep₁ _ fun acts => by rw [doInvoke_state]; exact hsteps.trans h⟩
theorem sn_callSW (F : ai_F p e s mid args meth c m) (hK : va_K D vwCl (ai_tys cA) s) {m' idx n : Nat} {vs r : List ai_V} {P : ai_O → Prop} (hM : Met l (ai_mY m') (ai_wm m') (ai_rm m') (va_Pc (vs.map (ai_rn (ai_ad base b))) (ai_PcB D base b cA h)) (ai_Qc D base b cA P) (ai_mc m') (ai_ms m') (fun q => base ≤ q)) (hcd : ai_hh m' ≠ []) (hgd : ∀ w ∈ ai_WS, (w.onTables && w.keeps) = true ∨ ∃ ty, w = .arrayClass ty) (hcw : ai_cw m' ∈ ai_WS) (hbs : base ≤ s.heap.size) (hE : ai_env base s) (hC : (ai_mY m').cls = (ai_mY m).cls) (hw1 : Cond.methodLink (ai_mY m).cls idx (ai_mY m') ∈ ai_WS) (hw2 : Cond.static (ai_mY m') ∈ ai_WS) (hw4 : Cond.initialized (ai_mY m).cls ∈ ai_WS) (hy : (ai_mY m').cls ≠ "java/lang/invoke/MethodHandle" ∧ (ai_mY m').cls ≠ "java/lang/invoke/VarHandle" ∧ (parseMethodDescriptor (ai_mY m').desc).map (fun d => d.parameters.length) = some n) (hlen : vs.length = n) (hR : (ai_rm m').frames + 1 ≤ (ai_rm m).frames ∧ 8 + (ai_mL m' + 11) + (ai_rm m').locals ≤ (ai_rm m).locals) (hcs : ai_cats r ≤ 8) (hf : k.1 + ai_mc m' ≤ ai_mc m ∧ k.2 + ai_ms m' ≤ ai_ms m) (hd : decode (ai_mB m) (ai_pc m i) = .ok (.invokestatic idx, 3)) (hn : ai_pc m (i + 1) = ai_pc m i + 3) (K : ∀ v h', P (.inl v, h') → (h.1 < 92 → h'.1 = h.1 + ai_mc m') ∧ (92 ≤ h.1 → 92 ≤ h'.1) ∧ ai_at l D base b cA p e s mid args below meth c m Q (i + 1) (ls) (v.toList ++ r) ((k.1 + ai_mc m', k.2 + ai_ms m')) (h')) : ai_at l D base b cA p e s mid args below meth c m Q (i) (ls) (vs.reverse ++ r) (k) (h) := by
  intro H locs lsM hW hS hL hZ T0 hT0 X0
  have hsz : h.1 < 92 → H.size = base + h.1 := fun q => ai_full hW hS hbs hZ q hT0 X0
  have hGood : GoodIn ai_WS (ai_wm m') := by
    intro w hw
    have hin : w ∈ ai_WS := by
      unfold ai_wm at hw
      rcases List.mem_cons.mp hw with rfl | hw
      · exact hcw
      · exact hw
    exact ⟨hin, hgd w hin⟩
  revert T0
  show W p l e (ai_rm m) s mid args below meth c H locs k.1 k.2 _ _
  have hcm : Cond.codeWith (ai_mY m') (ai_mB m') (ai_mL m') (ai_mR m') (ai_hh m') ∈ ai_wm m' := by rw [ai_wm_eqW hcd]; exact List.mem_cons_self
  have hrun := ai_runSW (l := l) (e := e) (below := below) (meth := meth) (locs := locs) (cells := k.1) (slots := k.2) (R := ai_rm m) (rm := ai_rm m') (c := c) (As := vs.map (ai_rn (ai_ad base b))) (rest := r.map (ai_rn (ai_ad base b))) (g := F0 mid (ai_pc m i) lsM ((vs.reverse ++ r).map (ai_rn (ai_ad base b)))) F.1 F.2.2.2.2.2.1 hM hcm (pay_in F.2.2.2.2.1 hGood) (F.2.2.2.2.1 _ (hGood _ hcm).1) (F.2.2.2.2.1 _ hw2) (by rw [hC]; exact F.2.2.2.2.1 _ hw4) (F.2.2.2.2.1 _ hw1) ⟨hy.1, hy.2.1⟩ rfl rfl hR ⟨ai_blind, (fun U hU hW' => ⟨rfl, by rw [hU]; exact hW, va_K.moved hW'.alike hK, by rw [hU]; exact Nat.le_trans hbs hS.1, fun q => by rw [hU]; exact hsz q, ai_str_warm hW' F.2.2.2.2.2.2.2.2.2.1, ai_env_at hE hS hU hW'⟩)⟩ (fun sig hsg => by
      have h2 := hy.2.2
      rw [hsg] at h2
      rw [List.length_map, hlen]
      exact (Option.some.inj h2).symm) rfl (hL.1.trans F.2.2.1.symm) (by simp [ai_rn]) (lv_room (by rw [ai_cats_eq]; exact hcs)) (by rw [F.2.1]; exact hd) hf
  refine ai_go hrun hS (fun v h' H1 locs1 hp hw1 hS1 => ?_)
  obtain ⟨hz1, hz2, K⟩ := K v h' hp
  have K := K H1 locs1 lsM hw1 hS1 hL (fun q => by
    have hle : h.1 < 92 := by
      by_cases hh : h.1 < 92
      · exact hh
      · exact absurd (hz2 (by omega)) (by omega)
    have := hZ hle
    have := hz1 hle
    show s.heap.size + (k.1 + ai_mc m') = base + h'.1
    omega)
  rw [hn] at K
  cases v <;> exact K
theorem sn_throw0 {Y : ai_J} {n : Nat} {x : ai_X} (F : ai_F p e s mid args meth c m) (hK : va_K D vwCl (ai_tys cA) s) (hbs : base ≤ s.heap.size) (hE : ai_env base s) (hd : decode (ai_mB m) (ai_pc m i) = .ok (.new n, 3)) (hx : ¬ x.2.2.1 = 0) (hok : ai_okI m i (ai_pc m i) x (.new n) = true) (hs : ai_ex sc Y m i ls st k h Q x (.new n)) : ai_at l D base b cA p e s mid args below meth c m Q (i) (ls) (st) (k) (h) := by
  have hok2 : ai_okx m i (ai_pc m i) x n = true := by
    have h0 : (match x.2.2.1 with
      | 0 => ai_nx m i (ai_pc m i + 3) && ai_okn m x n
      | _ => ai_okx m i (ai_pc m i) x n) = true := hok
    split at h0
    · rename_i z; exact absurd z hx
    · exact h0
  have hs : ai_new Y m i ls st k h Q x := hs
  unfold ai_new at hs
  split at hs
  · rename_i z; exact absurd z hx
  split at hs
  case h_2 => exact hs.elim
  have zz0 := hs
  clear hs
  obtain ⟨g1, hQ⟩ := ai_ck_true zz0
  obtain ⟨g1, g3⟩ := iv_and2 g1
  obtain ⟨g1, g2⟩ := iv_and2 g1
  have hz := iv_ble g1
  have hkc := iv_ble g2
  have hks := iv_ble g3
  unfold ai_okx at hok2
  obtain ⟨hok2, o6⟩ := iv_and2 hok2
  obtain ⟨hok2, o5⟩ := iv_and2 hok2
  obtain ⟨hok2, o4⟩ := iv_and2 hok2
  obtain ⟨hok2, o3⟩ := iv_and2 hok2
  obtain ⟨o1, o2⟩ := iv_and2 hok2
  have hhh : ai_hh m = [] := List.isEmpty_iff.mp o1
  have hx4 := iv_blt o4
  split at o6
  case h_2 => cases o6
  split at o6
  case h_2 => cases o6
  rename_i e3 he3 _ _ _ _ kx ic hd3 hd4 hd6 hd9
  obtain ⟨o7, o8⟩ := iv_and2 o6
  obtain ⟨q, hq, hqk⟩ := List.any_eq_true.mp o7
  obtain ⟨q1, q2⟩ := iv_and2 hqk
  have eq1 := of_decide_eq_true q1
  have eq2 : q.2.1 = kx := Nat.eq_of_beq_eq_true q2
  obtain ⟨hxi, hxn, hfit⟩ := ai_xn_words hx4
  intro H locs lsM hW hS hL hZ T hT X
  have X' := ai_rebase (R' := { frames := ai_mf m, cells := 1, slots := 6, locals := ai_mw m }) X (Nat.le_refl _) (Nat.le_refl _) hkc hks
  have hWs : s.WarmedH (T.setFrames (.invoking mid args :: below)).vm := X.warmed
  have hts' : ∀ w ∈ ai_WS, w.before args (T.setFrames (.invoking mid args :: below)) = true := fun w hw => word_at hWs (ai_WS_good w hw) (F.2.2.2.2.1 w hw)
  have hE' : ai_env base (T.setFrames (.invoking mid args :: below)) := ai_env_at hE hS hT hWs
  have hown' : (T.setFrames (.invoking mid args :: below)).vm.findClass (ai_mY m).cls = some mid.cls := by
    show T.vm.findClass _ = _
    rw [X.warmed.alike.findClass]
    exact F.2.2.2.2.2.1
  obtain ⟨msg, hmsg⟩ := F.2.2.2.2.2.2.2.2.2.1 q hq
  have hmsg' : vk_R (ai_mY m).cls kx q.2.2 msg (T.setFrames (.invoking mid args :: below)) := by
    have h9 := vk_R.warm (U := T.setFrames (.invoking mid args :: below)) hWs hmsg
    rw [eq1, eq2] at h9
    exact h9
  have hatoms := ai_own_use (base := base) hx4 (own := (ai_mY m).cls) (ic := ic) hts' hE' (ai_wd_in o8)
  have hexc : ∀ y ∈ c.exceptionTable.toList, covers y (ai_pc m i + 6 + 3) = false := by
    have h9 := F.2.2.2.2.2.2.2.2.1
    rw [hhh] at h9
    have h10 : c.exceptionTable.toList = [] := List.map_eq_nil_iff.mp h9
    rw [h10]
    intro y hy
    cases hy
  refine (show W p l e { frames := ai_mf m, cells := 1, slots := 6, locals := ai_mw m } (T.setFrames (.invoking mid args :: below)) mid args below meth c H [] 0 0 (ai_MQ D base b cA below s m Q) (F0 mid (ai_pc m i) lsM []) from ?_) T hT X'
  refine W.newc F.1 F.2.1 hown' (hts' _ (ai_wd_in o5)) (hts' _ hxn) (hts' _ hxi) rfl hd (Nat.le_refl _) (Nat.le_refl _) fun cC kC f1 f2 f3 f4 => ?_
  refine lv_dup F.1 F.2.1 hd3 rfl ?_
  refine va_ldcS F.1 F.2.1 hown' hmsg' hd4 ?_
  intro T1 hT1 X1
  obtain ⟨U, u1, u2, u3, u4, u5, ce, u6, u7⟩ := X1.ctorThrowS F.1 F.2.2.2.2.2.2.2.2.2.2 hown' hfit (by decide +kernel) hatoms (fun _ hy => by cases hy) f1 f2 (a := H.size) (by rw [hT1]; simp [freshCell]) (by show T.heap.size ≤ H.size; rw [hT]; exact Nat.le_refl _) (msg := .ref msg) rfl (g := F0 mid (ai_pc m i + 3 + 1 + 2) lsM [.ref msg, .ref H.size, .ref H.size]) rfl (hL.1.trans F.2.2.1.symm) rfl rfl (rest := []) rfl (by rw [F.2.1]; exact hd6) (by rw [F.2.1]; exact hd9) hexc (by have := iv_ble o2; show 2 + 3 < ai_mf m; omega) (by have := iv_ble o3; show 2 * 0 + (1 + 0) + (13 * (2 + 1) + 42) ≤ ai_mw m; omega) F.2.2.2.2.2.2.1
  have hheap : ∀ q9 : Nat, q9 < H.size → U.heap[q9]? = H[q9]? := by
    intro q9 hq9
    obtain ⟨c9, hc9⟩ : ∃ c9, T.heap[q9]? = some c9 := ⟨_, Array.getElem?_eq_getElem (by rw [hT]; exact hq9)⟩
    obtain ⟨c8, k1, k2, k3, k4⟩ := u5.2.2.2.2.2 q9 c9 hc9
    have hsl : c8.slots = c9.slots := Array.ext_getElem? (fun z => k4 z (by simp))
    have e9 : c8 = c9 := by rw [k2, hsl]
    show U.heap[q9]? = _
    rw [← hT, hc9, ← e9]
    exact k1
  have hsz : T.heap.size ≤ U.heap.size := u5.2.1
  refine ⟨U, u1, (.inr x.1, h), hQ, u2, ⟨hW.1, hW.2.kept (fun k9 q9 hk9 => hheap q9.1 ((hW.2 k9 q9 hk9).lt))⟩, ⟨Nat.le_trans hS.1 (by rw [← hT]; exact hsz), fun q9 h1 h2 => (hheap q9 (Nat.lt_of_lt_of_le h1 hS.1)).trans (hS.2.1 q9 h1 h2)⟩, State.WarmedH.trans X.warmed u4, ⟨locs ++ [], ?_, fun q9 hq9 => hS.2.2 q9 (by simpa using hq9)⟩, H.size, ce, u3, u6, u7.vm, ?_⟩
  · have h7 : ((T.setVm s.vm).setFrames (.invoking mid args :: below)).sameButNew _ [] (0 + 1) (0 + 6) := u5.setVm s.vm
    have h8 := X.same.trans (ai_same_frames h7)
    exact h8.mono hkc hks
  · have h8 := u7.cls
    have h9 : T.vm.findClass (ai_xn x.1) = some ce.cls := h8
    rw [← X.warmed.alike.findClass]
    exact h9
end AIW
end
section
/-! A CATCH: a call that throws, in a method with handlers; the handlers' classes may not be resolved yet. -/
theorem ai_go_cold {E : CtlPost} {e : Env} {d : Bool} {acts : List Action} {s : State} {f : JFrame} {a : Addr} {Q : Handler → Pre} {x : ExceptionTableEntry} {t : List ExceptionTableEntry} {c : ClassId} {cell : Cell} {vm' : Vm} (hx : covers x f.pc = true) (h0 : x.catchType ≠ 0)
    (hg : (Jvm.resolveClass f.method.cls x.catchType).Gives e.toSetting s.vm (.ok c) vm') (hsz : vm'.classes.size ≤ s.vm.classes.size) (hcell : s.heap[a]? = some cell) (hobj : ∀ k, cell.vm ≠ .statics k)
    (hk : ∃ k, vm'.classes[cell.cls]? = some k) (hc : ∃ k, vm'.classes[c]? = some k) :
    Sem.wp (findHandler.go f a (x :: t)) Q E e d acts s ↔ if vm'.assignable cell.cls c = true then Q (.found x.handlerPc) d acts (s.setVm vm') else Sem.wp (findHandler.go f a t) Q E e d acts (s.setVm vm') := by
  simp only [covers] at hx
  obtain ⟨ha, ht⟩ := hg.op (op := VmOp.resolveClass f.method.cls x.catchType) rfl
  have hcell' : (s.setVm vm').heap[a]? = some cell := hcell
  cases hfit : vm'.assignable cell.cls c <;>
    simp [findHandler.go, hx, h0, ha, ht, hsz, hcell', hcell, hobj, hk, hc, hfit, VmOp.dirties, VmOp.acts]
/-- the first handler whose class is that of the exception -/
def ai_fst : List ExceptionTableEntry → List Nat → Nat → Option Nat
  | e :: L, y :: cs, x => if y = x then some e.handlerPc else ai_fst L cs x
  | _, _, _ => none
def ai_hk (own : String) (args : Array Value) (s : State) (pc : Nat) : List ExceptionTableEntry → List Nat → Prop
  | e :: L, y :: cs => (covers e pc = true ∧ e.catchType ≠ 0 ∧ y < 4 ∧ (Cond.classLink own e.catchType (ai_xn y)).before args s = true) ∧ ai_hk own args s pc L cs
  | [], [] => True
  | _, _ => False
theorem ai_find {e : Env} {s S0 : State} {args : Array Value} {own : String} {f : JFrame} {a : Addr} {ce : Cell} {x hp base : Nat} (hpl : e.platform.magicAccessors = ({} : Platform).magicAccessors) (hown : s.vm.findClass own = some f.method.cls) (hE : ai_env base s) (hx4 : x < 4) (hcell : S0.heap[a]? = some ce) (hvm : ce.vm = .none) (hcls : s.vm.findClass (ai_xn x) = some ce.cls) (hcx : ∀ y, y < 4 → ∃ z k, s.vm.findClass (ai_xn y) = some z ∧ s.vm.classes[z]? = some k) :
    ∀ (L : List ExceptionTableEntry) (cs : List Nat) (V : Vm), ai_hk own args s f.pc L cs → ai_fst L cs x = some hp → s.WarmedH V → ∃ vm', s.WarmedH vm' ∧ ∀ (Q : Handler → Pre) (E : CtlPost) (d : Bool) (acts : List Action), Sem.wp (findHandler.go f a L) Q E e d acts (S0.setVm V) ↔ Q (.found hp) d acts (S0.setVm vm') := by
  intro L
  induction L with
  | nil => intro cs V _ h2 _; cases cs <;> simp [ai_fst] at h2
  | cons e0 L ih =>
    intro cs V h1 h2 hV
    cases cs with
    | nil => simp [ai_fst] at h2
    | cons y cs =>
      obtain ⟨⟨k1, k2, k3, k4⟩, h1⟩ := h1
      obtain ⟨cy, hfy, hcl⟩ := Cond.classLink_spec hown k4 e.platform hpl
      obtain ⟨hg, hwarm, -⟩ := State.classEntry (e := e) hV hcl
      generalize V.noted f.method.cls e0.catchType (.cls cy) = vm₁ at hg hwarm
      have hal : V.Alike vm₁ := hV.alike.symm.trans hwarm.alike
      have hcls1 : ∀ y, y < 4 → ∀ z : ClassId, s.vm.findClass (ai_xn y) = some z → ∃ k, vm₁.classes[z]? = some k := by
        intro y hy z hn
        obtain ⟨z2, k, hz2, hk⟩ := hcx y hy
        cases hn.symm.trans hz2
        obtain ⟨k', hk', -⟩ := hwarm.alike.2.2 _ _ hk
        exact ⟨k', hk'⟩
      have hgo := fun (Q : Handler → Pre) (E : CtlPost) (d : Bool) (acts : List Action) => ai_go_cold (E := E) (d := d) (acts := acts) (Q := Q) (s := S0.setVm V) (f := f) (a := a) (t := L) k1 k2 hg hal.size_le hcell (fun k => by rw [hvm]; exact fun z => by cases z) (hcls1 x hx4 _ hcls) (hcls1 y k3 _ hfy)
      by_cases hyx : y = x
      · subst hyx
        have hp' : e0.handlerPc = hp := by simpa [ai_fst] using h2
        refine ⟨vm₁, hwarm, fun Q E d acts => ?_⟩
        rw [hgo]
        have has : vm₁.assignable ce.cls cy = true := by
          have e1 : cy = ce.cls := Option.some.inj (hfy.symm.trans hcls)
          have hc : (Cond.castable (ai_xn y) (ai_xn y)).before #[] s = true := hE.2.2.1 _ (by
            rcases (show y = 0 ∨ y = 1 ∨ y = 2 ∨ y = 3 by omega) with rfl | rfl | rfl | rfl <;> simp [ai_fw, ai_xn, ai_gd, ai_nth, ai_xnT])
          obtain ⟨c1, t1, z1, z2, z3⟩ := Cond.castable_spec hc
          cases z1.symm.trans hcls
          cases z2.symm.trans hfy
          rw [hwarm.alike.assignable]
          exact z3
        rw [if_pos has, hp']
        rfl
      · have h3 : ai_fst L cs x = some hp := by simpa [ai_fst, hyx] using h2
        obtain ⟨vm', hw', hQ⟩ := ih cs vm₁ h1 h3 hwarm
        refine ⟨vm', hw', fun Q E d acts => ?_⟩
        rw [hgo]
        have has : ¬ vm₁.assignable ce.cls cy = true := by
          obtain ⟨c1, t1, z1, z2, z3⟩ := hE.2.2.2 x hx4 y k3 (fun z => hyx z.symm)
          cases z1.symm.trans hcls
          cases z2.symm.trans hfy
          rw [hwarm.alike.assignable, z3]
          decide
        rw [if_neg has]
        exact hQ Q E d acts
def ai_QT (D : va_G) (base b : Nat) (cA : Nat → ClassId) (P : ai_O → Prop) (mc ms : Nat) : Array Value → State → Outcome → State → Prop := fun _ st oc t => ∃ (x : Nat) (h' : ai_H) (a : Nat) (ce : Cell), P (.inr x, h') ∧ oc = .threw a ∧ ai_Wd D base b cA h' t.heap ∧ va_F (fun q => base ≤ q) st t ∧ t.heap[a]? = some ce ∧ ce.vm = .none ∧ st.vm.findClass (ai_xn x) = some ce.cls ∧ st.WarmedH t.vm ∧ ∃ L, st.sameButNew ({ t with vm := st.vm } : State) L mc ms ∧ ∀ q ∈ L, base ≤ q.base
theorem ai_toMetT {sc : Int × (Int → Int)} {l : Launch} {D : va_G} {base b : Nat} {cA : Nat → ClassId} {m' : Nat} {vs : List ai_V} {h : ai_H} {P : ai_O → Prop} (hl : ai_stOK l) (hpl : plainName (ai_mY m').cls = true) (hcd : ai_hh m' = []) (hlaw : m' ≠ ai_law) (hp0 : ai_pc m' 0 = 0) (hcat : ai_cats vs ≤ ai_mL m') (hC : ai_SND sc l D base b cA m' 0 (ai_en (ai_mL m') vs) [] (0, 0) h P) (hthr : ∀ o, P o → ∃ v h', o = (.inr v, h')) :
    MetFree l (ai_mY m') (headSpec (ai_wm m') (ai_rm m')) (va_Pc (vs.map (ai_rn (ai_ad base b))) (ai_PcB D base b cA h)) (fun _ _ _ _ _ => True) (ai_QT D base b cA P (ai_mc m') (ai_ms m')) := by
  refine MetFree.of_bodyS (code := ai_mB m') (maxLocals := ai_mL m') (ret := ai_mR m') hpl ?_ ?_
  · intro args s m hh hn
    obtain ⟨meth, c, h1, h2, h3, h4, h5, h6, -, -⟩ := Cond.code_spec hn (atoms_spec (ws := ai_wm m') hh _ (by rw [ai_wm_eq hcd]; exact List.mem_cons_self))
    exact ⟨meth, c, h1, h2, h3, h4, h5, h6⟩
  · intro p e s mid args below meth c s₁ B hml hv _
    obtain ⟨rfl, hWd, hK, hbs, hz, hst, hen⟩ := hv
    have hts := atoms_spec (ws := ai_wm m') B.pre
    have hcode : meth.code = some c := by
      have h := B.here.code
      rw [State.code?_eq, B.method₁] at h
      exact h
    have hex : c.exceptionTable.toList.map (fun x => (x.startPc, x.endPc, x.handlerPc, x.catchType)) = ai_hh m' := by
      have hc := hts (Cond.code (ai_mY m') (ai_mB m') (ai_mL m') (ai_mR m')) (by rw [ai_wm_eq hcd]; exact List.mem_cons_self)
      rw [hcd]
      obtain ⟨meth2, c2, h1, h2, -, -, -, -, h3, -⟩ := Cond.code_spec B.named hc
      cases B.method.symm.trans h1
      cases hcode.symm.trans h2
      rw [Array.isEmpty_iff.mp h3]
      rfl
    have F : ai_F p e s mid _ meth c m' := ⟨B.exec, B.bytes, hml, B.returns, fun w hw => hts w (List.mem_cons_of_mem _ hw), findClass_of_methodNamed B.named, B.notSynchronized, (name_of_methodNamed B.named B.method).1, hex, hst, ai_stOK_use hl B.admits⟩
    have K := hC p e s mid _ below meth c F hK hbs hen (fun q => absurd q hlaw) s.heap [] _ hWd va_S.rf (ai_lv0 (ai_ad base b) vs hcat) (fun q => by have := hz q; show s.heap.size + 0 = _; omega)
    rw [hp0] at K
    have hh0 : s₁.heap = s.heap := by rw [B.state]; rfl
    have K2 : W p l e (ai_rm m') s mid (vs.map (ai_rn (ai_ad base b))).toArray below meth c s.heap [] 0 0 (ai_MQ D base b cA below s m' P) (entryFrame mid (vs.map (ai_rn (ai_ad base b))).toArray (ai_mL m')) := by
      rw [lg_entry_eq]
      exact K
    obtain ⟨t, a1, o, h1, h2, h3, h4, h5, ⟨L, h6, h7⟩, h8⟩ := K2 s₁ hh0 (Stand.of_body B)
    obtain ⟨v, h', rfl⟩ := hthr o h1
    obtain ⟨a, ce, g1, g2, g3, g4⟩ := h8
    exact ⟨t, .threw a, a1, h2, g1, v, h', a, ce, h1, rfl, h3, h4, g2, g3, g4, h5, L, h6, h7⟩
/-- a call that throws: its own frame is there again, with the note above it -/
theorem ai_callT {p : Program} {l : Launch} {e : Env} {R : Room} {s : State} {m : MethodId} {args : Array Value} {below : List Frame} {meth : Method} {c : Code} {U : State} {locs : List Loc} {cells slots : Nat} (X : Stand p l e R s m args below meth c U locs cells slots) {y : MethodName} {S : Spec} {Pc : Array Value → State → Prop} {Qc : Array Value → State → Outcome → State → Prop} {bytes : ByteArray} {maxL mc ms : Nat} {ret : Option FieldType} {a : Array Value} {g : JFrame} {ig : Instr} {len : Nat} {mk : MethodId}
    (hM : MetFree l y S Pc (fun _ _ _ _ _ => True) Qc) (hframes : S.room.frames + 1 ≤ R.frames) (hlocals : 8 + (maxL + 11) + S.room.locals ≤ R.locals) (h1 : S.pre.before a U = true) (h2 : (Cond.code y bytes maxL ret).before a U = true) (h3 : (Cond.initialized y.cls).before a U = true) (h4 : cells + S.room.cells ≤ R.cells) (h5 : slots + S.room.slots ≤ R.slots)
    (hg : g.method = m) (hsize : g.locals.size = c.maxLocals) (hdg : decode c.code g.pc = .ok (ig, len)) (hW : 2 * g.monitorRoom + (g.stack.map fun v => v.category).sum ≤ 8) (hn : U.methodNamed? y = some mk) (hP : Pc a (U.calling g mk a))
    {EL : List Loc → Prop} (hQ : ∀ o t, Qc a (U.calling g mk a) o t → ∃ v L, o = .threw v ∧ (U.calling g mk a).WarmedH t.vm ∧ (U.calling g mk a).sameButNew ({ t with vm := (U.calling g mk a).vm } : State) L mc ms ∧ EL L) :
    ∃ (v : Addr) (t U2 : State) (L : List Loc), Qc a (U.calling g mk a) (.threw v) t ∧ U2.heap = t.heap ∧ U2.vm = t.vm ∧ EL L ∧ Stand p l e R s m args below meth c U2 (locs ++ L) (cells + mc) (slots + ms) ∧ Steps p.tables e below (doInvoke e (U.setTop g) [] mk a).1 ((U2.setTop g).pushFrame (.throwing v)) := by
  subst hg
  obtain ⟨methY, cY, hmY, hcY, -, hlY, -, -, -, -⟩ := Cond.code_spec hn h2
  obtain ⟨kY, hkY, -⟩ := className_of_methodNamed hn
  have hinitY : kY.init = .initialized := Cond.initialized_spec (findClass_of_methodNamed hn) hkY h3
  have happ : S.appliesLoose y e.platform (U.calling g mk a) = true :=
    Spec.appliesLoose_calling (g := g) X.here hdg hn hkY hinitY (X.room_calling (g := g) (R' := S.room) hsize hmY hcY hframes (by rw [hlY]; omega) h4 h5) h1
  obtain ⟨mid, hmid⟩ := X.here.above
  have hfr : (U.setTop g).frames = (.java g :: mid) ++ below := by rw [State.frames_setTop' g X.here.top, hmid]; rfl
  obtain ⟨o, s₂, hsteps, -, hend, hq⟩ := Steps.callFree hM p X.admits X.cas X.clock (acts := []) hfr happ hP trivial
  have hq' : Qc a (U.calling g mk a) o s₂ := hq
  rw [State.frames_setTop' g X.here.top] at hend
  obtain ⟨v, L, rfl, hW₂, hsm, hEL⟩ := hQ o s₂ hq'
  obtain ⟨e2, q2, q3, q4, q5, q6⟩ := hsm
  have hf₂ : s₂.frames = .throwing v :: .java g :: U.frames.tail := hend
  have e3 : s₂ = ({ (U.calling g mk a).setFrames s₂.frames with heap := s₂.heap, slotsUsed := s₂.slotsUsed } : State).setVm s₂.vm := by
    have h9 : s₂ = ({ s₂ with vm := (U.calling g mk a).vm } : State).setVm s₂.vm := rfl
    rw [e2] at h9
    exact h9
  have hW' : U.WarmedH s₂.vm := hW₂
  obtain ⟨g₀, hg0⟩ := Option.isSome_iff_exists.mp X.here.top
  obtain ⟨r, hr⟩ := State.topJava?_eq_some.mp hg0
  obtain ⟨t0, ht0, -⟩ := State.frames_cons hr
  have hs₂ : s₂ = ((({ U with heap := s₂.heap, slotsUsed := s₂.slotsUsed } : State).setVm s₂.vm).setTop g).pushFrame (.throwing v) := by
    have hr' : (({ U with heap := s₂.heap, slotsUsed := s₂.slotsUsed } : State).setVm s₂.vm).frames = .java g₀ :: r := hr
    refine e3.trans ?_
    rw [hf₂, State.calling_eq X.here.top, State.setFrames_setFrames, State.pushFrame, State.frames_setTop _ hr', State.setTop_of_frames _ hr', State.setFrames_setFrames, hr]
    rfl
  have hsame : U.sameButNew ({ U with heap := s₂.heap, slotsUsed := s₂.slotsUsed } : State) L mc ms := by
    refine ⟨?_, q2, q3, q4, q5, q6⟩
    show ({ U with heap := s₂.heap, slotsUsed := s₂.slotsUsed } : State) = { U.setFrames U.frames with heap := s₂.heap, slotsUsed := s₂.slotsUsed }
    rw [State.setFrames_self ht0]
  refine ⟨v, s₂, (({ U with heap := s₂.heap, slotsUsed := s₂.slotsUsed } : State).setVm s₂.vm), L, hq', rfl, rfl, hEL, ⟨X.admits, X.cas, X.clock, X.frames, X.room, X.hears, X.method, X.code, (X.here.setHeapUsed s₂.heap s₂.slotsUsed).setVm hW'.alike, X.tail, State.WarmedH.trans X.warmed hW', X.limits, X.bytes, X.same.trans (hsame.setVm s.vm)⟩, ?_⟩
  rw [← hs₂]
  exact hsteps
/-- into a handler whose class may have been resolved on the way -/
theorem ai_caught {tb : Tables} {e : Env} {s target : State} {g : JFrame} {c : Code} {below : List Frame} {a : Addr} {vm' : Vm} (h : At s g.method c below) {pc : Nat} (hal : s.vm.Alike vm')
    (hfind : ∀ (Q : Handler → Pre) (E : CtlPost) (d : Bool) (acts : List Action), Sem.wp (findHandler g a) Q E e d acts ((s.setTop g).pushFrame (.throwing a)) ↔ Q (.found pc) d acts (((s.setTop g).pushFrame (.throwing a)).setVm vm'))
    (hrest : Steps tb e below ((s.setVm vm').setTop { g with pc := pc, stack := [.ref a] }) target) :
    Steps tb e below ((s.setTop g).pushFrame (.throwing a)) target := by
  obtain ⟨hgo, hw⟩ := h.throwing a
  refine Steps.head hgo hw ?_
  have hst : (stepThrowing e ((s.setTop g).pushFrame (.throwing a)) a (.java g :: s.frames.tail)).Is ((((s.setTop g).pushFrame (.throwing a)).setVm vm').setFrames (.java { g with pc := pc, stack := [.ref a] } :: s.frames.tail)) [] := by
    simp only [stepThrowing, searchFrame, vmDo]
    generalize hr : Sem.go _ e false [] _ = res
    obtain ⟨as, rfl, ha⟩ := Sem.eq_ok_of hr (a := Handler.found pc) (s' := ((s.setTop g).pushFrame (.throwing a)).setVm vm') (acts' := []) (by simp [hfind _ _ _ _])
    exact ⟨rfl, ha⟩
  rw [stepThread_throwing (frames_entered h.top _), hst.1]
  obtain ⟨g₀, hg⟩ := Option.isSome_iff_exists.mp h.top
  obtain ⟨r, hr⟩ := State.topJava?_eq_some.mp hg
  have hr' : (s.setVm vm').frames = .java g₀ :: r := hr
  rw [State.setTop_of_frames _ hr'] at hrest
  have e1 : (((s.setTop g).pushFrame (.throwing a)).setVm vm').setFrames (.java { g with pc := pc, stack := [.ref a] } :: s.frames.tail) = (s.setVm vm').setFrames (.java { g with pc := pc, stack := [.ref a] } :: r) := by
    rw [State.pushFrame, State.setTop_of_frames _ hr, hr]
    show (((s.setVm vm').setFrames _).setFrames _).setFrames _ = _
    rw [State.setFrames_setFrames, State.setFrames_setFrames]
    rfl
  rw [e1]
  exact hrest

/-- the handlers of a method, as the tables have them -/
noncomputable def ai_hw (x : Nat) : Nat := ai_gd 0 [2064, 2145, 3068, 4036] x
noncomputable def ai_okH (m pc : Nat) : List (Nat × Nat × Nat × Nat) → List (Nat × Nat × Nat) → Bool
  | (s, e, hp, ct) :: L, (x, t, sl) :: cs => Nat.ble s pc && Nat.blt pc e && !Nat.beq ct 0 && Nat.blt x 4 && ai_wd (ai_hw x) (.classLink (ai_mY m).cls ct (ai_xn x)) && Nat.ble 1 t && Nat.blt sl (ai_mL m) && (match ai_nth (ai_ops m) (t - 1) with
    | some en => Nat.beq en.1 hp && (match en.2.1 with
      | .astore n => Nat.beq n sl && ai_nx m (t - 1) (hp + 2)
      | .astore_n n => Nat.beq n.val sl && ai_nx m (t - 1) (hp + 1)
      | _ => false)
    | none => false) && ai_okH m pc L cs
  | [], [] => true
  | _, _ => false
noncomputable def ai_okT (m i : Nat) : Bool := match ai_nth (ai_ops m) i with
  | some en => match en.2.1 with
    | .invokevirtual _ => Nat.beq en.2.2.2.1.2.2.1 0 || ai_okH m en.1 (ai_hh m) (ai_gd [] ai_ctT m)
    | _ => true
  | none => true
set_option maxRecDepth 1000000 in
theorem ai_okT_all : (List.range' 191 15).all (fun m => (List.range 40).all (ai_okT m)) = true := by decide +kernel
set_option maxRecDepth 1000000 in
theorem ai_okT_rest : (List.range 207).all (fun m => (decide (191 ≤ m) && decide (m < 206)) || (ai_ops m).all (fun en => match en.2.1 with
    | .invokevirtual _ => Nat.beq en.2.2.2.1.2.2.1 0
    | _ => true)) = true := by decide +kernel
set_option maxRecDepth 1000000 in
theorem ai_okT_len : (List.range' 191 15).all (fun m => Nat.ble (ai_ops m).length 40) = true := by decide +kernel
theorem ai_okT_use {m i n : Nat} {x : ai_X} {pc len : Nat} {mask : List Bool} (hen : ai_nth (ai_ops m) i = some (pc, .invokevirtual n, len, x, mask)) (hx : ¬ x.2.2.1 = 0) : ai_okH m (ai_pc m i) (ai_hh m) (ai_gd [] ai_ctT m) = true := by
  have hpc : ai_pc m i = pc := by unfold ai_pc; rw [hen]
  rw [hpc]
  by_cases hw : 191 ≤ m ∧ m < 206
  · have h1 := List.all_eq_true.mp ai_okT_all m (List.mem_range'_1.mpr ⟨hw.1, by omega⟩)
    have h2 := List.all_eq_true.mp ai_okT_len m (List.mem_range'_1.mpr ⟨hw.1, by omega⟩)
    have h3 := List.all_eq_true.mp h1 i (List.mem_range.mpr (Nat.lt_of_lt_of_le (ai_len_lt hen) (iv_ble h2)))
    unfold ai_okT at h3
    rw [hen] at h3
    have h4 : (Nat.beq x.2.2.1 0 || ai_okH m pc (ai_hh m) (ai_gd [] ai_ctT m)) = true := h3
    rcases (Bool.or_eq_true _ _).mp h4 with h5 | h5
    · exact absurd (Nat.eq_of_beq_eq_true h5) hx
    · exact h5
  · have h1 := List.all_eq_true.mp ai_okT_rest m (List.mem_range.mpr (ai_ops_lt hen))
    have h2 : (decide (191 ≤ m) && decide (m < 206)) = false := by
      by_cases a : 191 ≤ m
      · have b : ¬ m < 206 := fun z => hw ⟨a, z⟩
        simp [b]
      · simp [a]
    rw [h2, Bool.false_or] at h1
    have hmem : (pc, Instr.invokevirtual n, len, x, mask) ∈ ai_ops m := by
      rw [ai_nth_eq] at hen
      exact List.mem_of_getElem? hen
    have h3 := List.all_eq_true.mp h1 _ hmem
    exact absurd (Nat.eq_of_beq_eq_true h3) hx
theorem ai_okH_hk {m pc : Nat} {args : Array Value} {s : State} (hts : ∀ w ∈ ai_WS, w.before args s = true) : ∀ (L : List ExceptionTableEntry) (cs : List (Nat × Nat × Nat)), ai_okH m pc (L.map (fun x => (x.startPc, x.endPc, x.handlerPc, x.catchType))) cs = true → ai_hk (ai_mY m).cls args s pc L (cs.map (fun q => q.1)) := by
  intro L
  induction L with
  | nil =>
    intro cs h2
    cases cs with
    | nil => trivial
    | cons a cs => simp [ai_okH] at h2
  | cons e0 L ih =>
    intro cs h2
    cases cs with
    | nil => simp [ai_okH] at h2
    | cons a cs =>
      obtain ⟨y, t0, sl0⟩ := a
      simp only [List.map_cons] at h2
      unfold ai_okH at h2
      obtain ⟨h2, g9⟩ := iv_and2 h2
      obtain ⟨h2, g8⟩ := iv_and2 h2
      obtain ⟨h2, g7⟩ := iv_and2 h2
      obtain ⟨h2, g6⟩ := iv_and2 h2
      obtain ⟨h2, g5⟩ := iv_and2 h2
      obtain ⟨h2, g4⟩ := iv_and2 h2
      obtain ⟨h2, g3⟩ := iv_and2 h2
      obtain ⟨g1, g2⟩ := iv_and2 h2
      refine ⟨⟨?_, ?_, iv_blt g4, hts _ (ai_wd_in g5)⟩, ih cs g9⟩
      · have a1 := iv_ble g1
        have a2 := iv_blt g2
        simp [covers, a1, a2]
      · intro z
        rw [z] at g3
        cases g3
theorem ai_okH_use {m pc x t sl : Nat} {args : Array Value} {s : State} (hts : ∀ w ∈ ai_WS, w.before args s = true) : ∀ (L : List ExceptionTableEntry) (H : List (Nat × Nat × Nat × Nat)) (cs : List (Nat × Nat × Nat)), L.map (fun x => (x.startPc, x.endPc, x.handlerPc, x.catchType)) = H → ai_okH m pc H cs = true → ai_ctf cs x = some (t, sl) → ai_hk (ai_mY m).cls args s pc L (cs.map (fun q => q.1)) ∧ ∃ hp, ai_fst L (cs.map (fun q => q.1)) x = some hp ∧ x < 4 ∧ 1 ≤ t ∧ sl < ai_mL m ∧ ai_pc m (t - 1) = hp ∧ ((∃ n, decode (ai_mB m) hp = .ok (.astore n, 2) ∧ n = sl ∧ ai_pc m t = hp + 2) ∨ (∃ n : Fin 4, decode (ai_mB m) hp = .ok (.astore_n n, 1) ∧ n.val = sl ∧ ai_pc m t = hp + 1)) := by
  intro L
  induction L with
  | nil =>
    intro H cs h1 h2 h3
    subst h1
    cases cs with
    | nil => simp [ai_ctf] at h3
    | cons a cs => simp [ai_okH] at h2
  | cons e0 L ih =>
    intro H cs h1 h2 h3
    subst h1
    cases cs with
    | nil => simp [ai_okH] at h2
    | cons a cs =>
      obtain ⟨y, t0, sl0⟩ := a
      simp only [List.map_cons] at h2
      unfold ai_okH at h2
      obtain ⟨h2, g9⟩ := iv_and2 h2
      obtain ⟨h2, g8⟩ := iv_and2 h2
      obtain ⟨h2, g7⟩ := iv_and2 h2
      obtain ⟨h2, g6⟩ := iv_and2 h2
      obtain ⟨h2, g5⟩ := iv_and2 h2
      obtain ⟨h2, g4⟩ := iv_and2 h2
      obtain ⟨h2, g3⟩ := iv_and2 h2
      obtain ⟨g1, g2⟩ := iv_and2 h2
      have hk0 : covers e0 pc = true ∧ e0.catchType ≠ 0 ∧ y < 4 ∧ (Cond.classLink (ai_mY m).cls e0.catchType (ai_xn y)).before args s = true := by
        refine ⟨?_, ?_, iv_blt g4, hts _ (ai_wd_in g5)⟩
        · have a1 := iv_ble g1
          have a2 := iv_blt g2
          simp [covers, a1, a2]
        · intro z
          rw [z] at g3
          cases g3
      by_cases hyx : y = x
      · subst hyx
        have h4 : (t0, sl0) = (t, sl) := by
          have : ai_ctf ((y, t0, sl0) :: cs) y = some (t0, sl0) := by simp [ai_ctf]
          exact Option.some.inj (this.symm.trans h3)
        cases h4
        refine ⟨⟨hk0, ?_⟩, e0.handlerPc, by simp [ai_fst], hk0.2.2.1, iv_ble g6, iv_blt g7, ?_⟩
        · exact ai_okH_hk hts L cs g9
        · split at g8
          · rename_i en hen2
            obtain ⟨k1, k2⟩ := iv_and2 g8
            have hp1 : en.1 = e0.handlerPc := Nat.eq_of_beq_eq_true k1
            have hpc : ai_pc m (t - 1) = e0.handlerPc := by unfold ai_pc; rw [hen2]; exact hp1
            refine ⟨hpc, ?_⟩
            obtain ⟨hd, -⟩ := ai_row hen2
            have hln := ai_lk_of hen2
            rw [hpc] at hd
            have et : t - 1 + 1 = t := by have := iv_ble g6; omega
            obtain ⟨pc1, ins1, len1, x1, mk1⟩ := en
            split at k2
            · rename_i n he
              obtain ⟨k3, k4⟩ := iv_and2 k2
              have he' : ins1 = .astore n := he
              subst he'
              have hl1 : len1 = 2 := Nat.eq_of_beq_eq_true hln
              subst hl1
              have h9 := ai_nx_pc k4
              rw [et] at h9
              exact Or.inl ⟨n, hd, Nat.eq_of_beq_eq_true k3, h9⟩
            · rename_i n he
              obtain ⟨k3, k4⟩ := iv_and2 k2
              have he' : ins1 = .astore_n n := he
              subst he'
              have hl1 : len1 = 1 := Nat.eq_of_beq_eq_true hln
              subst hl1
              have h9 := ai_nx_pc k4
              rw [et] at h9
              exact Or.inr ⟨n, hd, Nat.eq_of_beq_eq_true k3, h9⟩
            · cases k2
          · cases g8
      · have h4 : ai_ctf cs x = some (t, sl) := by
          have hb : Nat.beq y x = false := by
            cases hb : Nat.beq y x with
            | true => exact absurd (Nat.eq_of_beq_eq_true hb) hyx
            | false => rfl
          simpa [ai_ctf, hb] using h3
        obtain ⟨i1, hp, i2, i3⟩ := ih _ cs rfl g9 h4
        exact ⟨⟨hk0, i1⟩, hp, by simpa [ai_fst, hyx] using i2, i3⟩

section AIK
variable {sc : Int × (Int → Int)} {l : Launch} {D : va_G} {base b : Nat} {cA : Nat → ClassId} {p : Program} {e : Env} {s : State} {mid : MethodId} {args : Array Value} {below : List Frame} {meth : Method} {c : Code} {m : Nat} {Q : ai_O → Prop} {i : Nat} {ls : ai_L} {st : List ai_V} {k : Nat × Nat} {h h' : ai_H}
theorem sn_catch0 {Y : ai_J} {x : ai_X} {n q : Nat} {ws rr : List ai_V} {C : String} {T : u_T} {N : Nat} (hl : ai_stOK l) (F : ai_F p e s mid args meth c m) (hK : va_K D vwCl (ai_tys cA) s) (hbs : base ≤ s.heap.size) (hE : ai_env base s) (hY : ∀ m i ls st k h Q, Y m i ls st k h Q → ai_SND sc l D base b cA m i ls st k h Q) (KY : ∀ i ls st k h, Y m i ls st k h Q → ai_at l D base b cA p e s mid args below meth c m Q (i) (ls) (st) (k) (h)) (hcl : vwCl[ai_mC x.1]? = some (C, T, N)) (hw1 : Cond.methodLink (ai_mY m).cls n (ai_mY x.1) ∈ ai_WS) (hw2 : Cond.instanceMethod (ai_mY x.1) ∈ ai_WS) (hw3 : Cond.selects C (ai_mY x.1) (ai_mY x.1) ∈ ai_WS) (hi4 : Cond.initialized C ∈ ai_WS) (hy : (ai_mY x.1).cls ≠ "java/lang/invoke/MethodHandle" ∧ (ai_mY x.1).cls ≠ "java/lang/invoke/VarHandle" ∧ (parseMethodDescriptor (ai_mY x.1).desc).map (fun d => d.parameters.length) = some (ai_mN x.1)) (hpl : plainName (ai_mY x.1).cls = true) (hp0 : ai_pc x.1 0 = 0) (hlt : x.1 < 206) (hhh : ai_hh x.1 = []) (hwl : ws.length = ai_mN x.1) (hsh : ai_sh q = some (.inl (ai_mC x.1))) (hq : q < h.1) (hrmk : ai_rmk m x.1 = true) (hc8 : ai_cats rr ≤ 8) (hcv : ai_cats (.inr (.inr q) :: ws) ≤ ai_mL x.1) (hf : k.1 + ai_mc x.1 ≤ ai_mc m ∧ k.2 + ai_ms x.1 ≤ ai_ms m) (hd : decode (ai_mB m) (ai_pc m i) = .ok (.invokevirtual n, 3))
    (hs : ai_thr Y x.1 (ai_en (ai_mL x.1) (.inr (.inr q) :: ws)) h (fun c h' => ai_ck (Nat.ble 92 h'.1) (match ai_ct m c with
      | some (t, sl) => Y m t (ai_put (ai_kill ls sl) sl none) [] (k.1 + ai_mc x.1, k.2 + ai_ms x.1) h' Q
      | none => False))) (hen : ∃ pc len mask, ai_nth (ai_ops m) i = some (pc, .invokevirtual n, len, x, mask)) (hx : ¬ x.2.2.1 = 0) : ai_at l D base b cA p e s mid args below meth c m Q (i) (ls) ((.inr (.inr q) :: ws).reverse ++ rr) (k) (h) := by
  obtain ⟨pc0, len0, mask0, hen⟩ := hen
  have hokH := ai_okT_use hen hx
  obtain ⟨P, hP, hall⟩ := hs
  have hMT := ai_toMetT hl hpl hhh (by intro z; rw [z] at hlt; exact absurd hlt (by decide)) hp0 hcv (hY _ _ _ _ _ _ _ hP) (fun o ho => by obtain ⟨v, h', e, -⟩ := hall o ho; exact ⟨v, h', e⟩)
  obtain ⟨hR1, hR2⟩ := ai_rmk_use hrmk
  intro H locs lsM hW hS hL hZ T9 hT X
  have hsz : h.1 < 92 → H.size = base + h.1 := fun q => ai_full hW hS hbs hZ q hT X
  obtain ⟨cellB, hcB, hoB, hclB⟩ := va_recv hK hW.2 hcl (ai_at_obj hq hsh)
  have hclB' : s.vm.findClass C = some cellB.cls := hclB
  have hcwin : Cond.code (ai_mY x.1) (ai_mB x.1) (ai_mL x.1) (ai_mR x.1) ∈ ai_WS := by
    have h9 := ai_cw_in hlt
    unfold ai_cw at h9
    rw [hhh] at h9
    exact h9
  have hcode := F.2.2.2.2.1 _ hcwin
  have hy2 : (ai_mY x.1).cls ≠ "java/lang/invoke/MethodHandle" ∧ (ai_mY x.1).cls ≠ "java/lang/invoke/VarHandle" := ⟨hy.1, hy.2.1⟩
  obtain ⟨mk, methM, hnamed, hmethM, hstM, habM⟩ := Cond.instanceMethod_spec (F.2.2.2.2.1 _ hw2)
  obtain ⟨methM', cM, hmethM', -, -, -, -, -, -, hsigM⟩ := Cond.code_spec hnamed hcode
  cases hmethM.symm.trans hmethM'
  obtain ⟨c2, r2, m2, q1, q2, q3, q4, kP, hkP, hkPi⟩ := Cond.selects_spec (F.2.2.2.2.1 _ hw3)
  cases hclB'.symm.trans q1
  cases (State.methodFound?_of_named hnamed hy2).symm.trans q2
  cases hnamed.symm.trans q3
  have hselP : selectMethod e.platform s.vm cellB.cls mk = .method mk := by rw [Launch.admits_selectMethod X.admits]; exact q4
  have hlenA : (ws.map (ai_rn (ai_ad base b))).length = methM.sig.parameters.length := by
    have h9 := hy.2.2
    rw [hsigM] at h9
    rw [List.length_map, hwl]
    exact (Option.some.inj h9).symm
  obtain ⟨vm₁, X₁, hstep₁⟩ := X.invokevirtual F.1 F.2.2.2.2.2.1 (F.2.2.2.2.1 _ hw1) hnamed hmethM hstM hkP hkPi hy2 (a := ai_ad base b q) (cell := cellB) (by rw [hT]; exact hcB) (fun z h9 => by rw [h9] at hoB; cases hoB) hselP hmethM habM hkP hkPi (g := F0 mid (ai_pc m i) lsM (((.inr (.inr q) :: ws).reverse ++ rr).map (ai_rn (ai_ad base b)))) rfl (argsL := ws.map (ai_rn (ai_ad base b))) (rest := rr.map (ai_rn (ai_ad base b))) hlenA (by simp [ai_rn]) (by rw [F.2.1]; exact hd)
  have hWU : s.WarmedH (T9.setVm vm₁).vm := X₁.warmed
  have hgoodw : ∀ w ∈ ai_wm x.1, ∀ (a' : Array Value) (U : State), s.WarmedH U.vm → w.before a' U = true := by
    intro w hw a' U hWW
    have hin : w ∈ ai_WS := by
      unfold ai_wm at hw
      rcases List.mem_cons.mp hw with rfl | hw
      · exact ai_cw_in hlt
      · exact hw
    exact word_at hWW (ai_WS_good w hin) (F.2.2.2.2.1 w hin)
  have hwC : Cond.initialized (ai_mY x.1).cls ∈ ai_WS := (ai_meth_use hlt).1
  obtain ⟨v, t, U2, L, hq2, e1, e2, hEL, X₂, hsteps⟩ := ai_callT (EL := fun L => ∀ q ∈ L, base ≤ q.base) (mc := ai_mc x.1) (ms := ai_ms x.1) (bytes := ai_mB x.1) (maxL := ai_mL x.1) (ret := ai_mR x.1) (a := (Value.ref (ai_ad base b q) :: ws.map (ai_rn (ai_ad base b))).toArray) (g := { F0 mid (ai_pc m i) lsM (((.inr (.inr q) :: ws).reverse ++ rr).map (ai_rn (ai_ad base b))) with stack := rr.map (ai_rn (ai_ad base b)) }) (ig := .invokevirtual n) (len := 3) (mk := mk) X₁ hMT hR1 hR2 (atoms_intro fun w hw => hgoodw w hw _ _ hWU) (word_at hWU (ai_WS_good _ hcwin) hcode) (word_at hWU (ai_WS_good _ hwC) (F.2.2.2.2.1 _ hwC)) hf.1 hf.2 rfl (hL.1.trans F.2.2.1.symm) (by rw [F.2.1]; exact hd) (lv_room (by rw [ai_cats_eq]; exact hc8)) (X₁.named hnamed)
    (ai_blind _ _ _ _ ⟨rfl, by show ai_Wd D base b cA h T9.heap; rw [hT]; exact hW, va_K.moved hWU.alike hK, by show base ≤ T9.heap.size; rw [hT]; exact Nat.le_trans hbs hS.1, fun z => by show T9.heap.size = _; rw [hT]; exact hsz z, ai_str_warm hWU F.2.2.2.2.2.2.2.2.2.1, ai_env_at hE hS (by show T9.heap = H; exact hT) hWU⟩)
    (fun o t9 hq9 => by
      obtain ⟨xx, h', a9, ce, hp, hoc, -, -, -, -, -, hwm, L9, hsm9, hL9⟩ := hq9
      exact ⟨a9, L9, hoc, hwm, hsm9, hL9⟩)
  obtain ⟨xx, h', a9, ce, hp, hoc, hWd, hF, hce, hcv2, hfc, -, -⟩ := hq2
  cases hoc
  obtain ⟨v2, h2, ev, hk9⟩ := hall _ hp
  cases ev
  obtain ⟨hz92, hk9⟩ := ai_ck_true hk9
  split at hk9
  case h_2 => exact hk9.elim
  rename_i tt sl hct
  obtain ⟨hp3, hfst, hx4, ht1, hslm, hpcH, hast⟩ := (ai_okH_use (x := xx) F.2.2.2.2.1 c.exceptionTable.toList _ _ F.2.2.2.2.2.2.2.2.1 hokH hct).2
  have hhk := (ai_okH_use (x := xx) F.2.2.2.2.1 c.exceptionTable.toList _ _ F.2.2.2.2.2.2.2.2.1 hokH hct).1
  have hfc' : s.vm.findClass (ai_xn xx) = some ce.cls := by
    have h9 : T9.vm.findClass (ai_xn xx) = some ce.cls ∨ (T9.setVm vm₁).vm.findClass (ai_xn xx) = some ce.cls := Or.inr hfc
    have h8 : (T9.setVm vm₁).vm.findClass (ai_xn xx) = some ce.cls := hfc
    rw [hWU.alike.findClass] at h8
    exact h8
  have hcx : ∀ y, y < 4 → ∃ z k, s.vm.findClass (ai_xn y) = some z ∧ s.vm.classes[z]? = some k := by
    intro y hy4
    obtain ⟨z, kz, z1, z2, -⟩ := Cond.instantiable_spec (F.2.2.2.2.1 _ (ai_xn_words hy4).2.1)
    exact ⟨z, kz, z1, z2⟩
  have hmeth2 : U2.vm.method? mid = some meth := X₂.method'
  obtain ⟨vm', hw', hfind⟩ := ai_find (e := e) (s := s) (S0 := (U2.setTop { F0 mid (ai_pc m i) lsM (((.inr (.inr q) :: ws).reverse ++ rr).map (ai_rn (ai_ad base b))) with stack := rr.map (ai_rn (ai_ad base b)) }).pushFrame (.throwing v)) (f := { F0 mid (ai_pc m i) lsM (((.inr (.inr q) :: ws).reverse ++ rr).map (ai_rn (ai_ad base b))) with stack := rr.map (ai_rn (ai_ad base b)) }) (a := v) (by rw [X.admits.platform]) F.2.2.2.2.2.1 hE hx4 (by rw [Stand.throwing_heap, e1]; exact hce) hcv2 hfc' hcx c.exceptionTable.toList _ U2.vm hhk hfst X₂.warmed
  have X₃ := X₂.noted hw'
  -- the handler's first instruction lays the exception aside
  have hrest : W p l e (ai_rm m) s mid args below meth c U2.heap (locs ++ L) (k.1 + ai_mc x.1) (k.2 + ai_ms x.1) (ai_MQ D base b cA below s m Q) (F0 mid hp3 lsM [.ref v]) := by
    have hS2 : va_S (fun q => base ≤ q) s.heap U2.heap (locs ++ L) := by
      have hT9 : T9.heap = H := hT
      refine ⟨?_, fun q9 g1 g2 => ?_, fun q9 hq9 => ?_⟩
      · rw [e1]
        have h9 : T9.heap.size ≤ t.heap.size := hF.1
        rw [hT9] at h9
        exact Nat.le_trans hS.1 h9
      · rw [e1]
        have h9 : t.heap[q9]? = T9.heap[q9]? := hF.2 q9 (by show q9 < T9.heap.size; rw [hT9]; exact Nat.lt_of_lt_of_le g1 hS.1) g2
        rw [h9, hT9]
        exact hS.2.1 q9 g1 g2
      · rcases List.mem_append.mp hq9 with h9 | h9
        · exact hS.2.2 q9 h9
        · exact hEL q9 h9
    have K := KY tt (ai_put (ai_kill ls sl) sl none) [] (k.1 + ai_mc x.1, k.2 + ai_ms x.1) h' hk9
    have hput : ∀ ls' : Array Slot, lv_has ls' (ai_mL m) ((sl, Value.ref v) :: (ai_as (ai_ad base b) ls).filter (fun q => !(q.1 == sl) && !(q.1 + 1 == sl && q.2.category == 2))) → lv_has ls' (ai_mL m) (ai_as (ai_ad base b) (ai_put (ai_kill ls sl) sl none)) := by
      intro ls' h9
      refine ⟨h9.1, h9.2.1, fun q9 hq9 => h9.2.2 q9 ?_⟩
      obtain ⟨w, g1, g2⟩ := ai_as_out hq9
      rcases ai_lg_put g1 with ⟨-, g4⟩ | ⟨g3, g4⟩
      · cases g4
      · obtain ⟨g5, g6⟩ := ai_lg_kill g4
        refine List.mem_cons.mpr (Or.inr (List.mem_filter.mpr ⟨?_, ?_⟩))
        · have g7 := ai_as_in (ad := ai_ad base b) g5
          rw [← g2] at g7
          exact g7
        · have hc9 : q9.2.category = ai_cat w := by rw [g2, ai_rn_cat]
          simp only [Bool.and_eq_true, Bool.not_eq_true', beq_eq_false_iff_ne, ne_eq, Bool.and_eq_false_iff, hc9]
          refine ⟨g3, ?_⟩
          by_cases g8 : q9.1 + 1 = sl
          · exact Or.inr (g6 g8)
          · exact Or.inl g8
    rcases hast with ⟨n9, hd9, rfl, hpt⟩ | ⟨n9, hd9, rfl, hpt⟩
    · refine lv_astore F.1 F.2.1 hd9 hL hslm rfl (fun ls' hl9 => ?_)
      have K2 := K U2.heap (locs ++ L) ls' (by rw [e1]; exact hWd) hS2 (hput ls' hl9) (fun z => absurd z (by have := iv_ble hz92; omega))
      rw [hpt] at K2
      exact K2
    · refine lv_astore_n F.1 F.2.1 hd9 rfl hL hslm rfl (fun ls' hl9 => ?_)
      have K2 := K U2.heap (locs ++ L) ls' (by rw [e1]; exact hWd) hS2 (hput ls' hl9) (fun z => absurd z (by have := iv_ble hz92; omega))
      rw [hpt] at K2
      exact K2
  obtain ⟨tf, st9, hQ9⟩ := hrest (U2.setVm vm') rfl X₃
  refine ⟨tf, ?_, hQ9⟩
  refine hstep₁ _ fun acts => ?_
  rw [doInvoke_state]
  refine hsteps.trans ?_
  refine ai_caught (c := c) (vm' := vm') (pc := hp3) X₂.here (X₂.warmed.alike.symm.trans hw'.alike) (fun Q9 E9 d9 acts9 => ?_) st9
  have hm9 : ((U2.setTop { F0 mid (ai_pc m i) lsM (((.inr (.inr q) :: ws).reverse ++ rr).map (ai_rn (ai_ad base b))) with stack := rr.map (ai_rn (ai_ad base b)) }).pushFrame (.throwing v)).vm.method? mid = some meth := by
    rw [Stand.throwing_vm]
    exact hmeth2
  rw [W.findHandler_eq hm9 X.code]
  exact hfind Q9 E9 d9 acts9
end AIK
end
section
/-! THE SOUNDNESS, put together. -/
theorem ai_core {sc : Int × (Int → Int)} {l : Launch} {D : va_G} {base b : Nat} {cA : Nat → ClassId} (hl : ai_stOK l) : ∀ Y : ai_J, (∀ m i ls st k h Q, Y m i ls st k h Q → ai_SND sc l D base b cA m i ls st k h Q) → ∀ m i ls st k h Q, ai_stp sc Y m i ls st k h Q → ai_SND sc l D base b cA m i ls st k h Q := by
  intro Y hY m i ls st k h Q hs p e s mid args below meth c F hK hbs hE hscr
  unfold ai_stp at hs
  split at hs
  case h_2 => exact hs.elim
  rename_i en hen
  obtain ⟨pc, ins, len, x, mask⟩ := en
  obtain ⟨hd, hok⟩ := ai_row hen
  have hln := ai_lk_of hen
  have hmask : ai_at l D base b cA p e s mid args below meth c m Q (i) (ai_msk mask ls) (st) (k) (h) → ai_at l D base b cA p e s mid args below meth c m Q (i) (ls) (st) (k) (h) := fun K H locs lsM hW hS hL hZ => K H locs lsM hW hS (ai_lvk hL (fun j v hv => ai_lg_msk mask ls hv)) hZ
  refine hmask ?_
  replace hs : ai_ex sc Y m i (ai_msk mask ls) st k h Q x ins := hs
  generalize ai_msk mask ls = ls at hs ⊢
  have KY : ∀ i ls st k h, Y m i ls st k h Q → ai_at l D base b cA p e s mid args below meth c m Q (i) (ls) (st) (k) (h) := fun i ls st k h hy => hY m i ls st k h Q hy p e s mid args below meth c F hK hbs hE hscr
  cases ins with
  | iconst n =>
    obtain rfl : len = 1 := Nat.eq_of_beq_eq_true hln
    replace hok : ai_nx m i (ai_pc m i + 1) = true := hok
    exact sn_iconst F hd (ai_nx_pc hok) (KY (i + 1) ls (.inl n :: st) k h hs)
  | lconst n =>
    obtain rfl : len = 1 := Nat.eq_of_beq_eq_true hln
    replace hok : ai_nx m i (ai_pc m i + 1) = true := hok
    exact sn_lconst F hd (ai_nx_pc hok) (KY (i + 1) ls (.inr (.inl (Int.ofNat n.val)) :: st) k h hs)
  | bipush n =>
    obtain rfl : len = 2 := Nat.eq_of_beq_eq_true hln
    replace hok : (ai_nx m i (ai_pc m i + 2) && decide ((Int8.ofInt n).toInt32 = Int32.ofInt n)) = true := hok
    obtain ⟨h1, h2⟩ := iv_and2 hok
    exact sn_bipush F (of_decide_eq_true h2) hd (ai_nx_pc h1) (KY (i + 1) ls (.inl n :: st) k h hs)
  | sipush n =>
    obtain rfl : len = 3 := Nat.eq_of_beq_eq_true hln
    replace hok : (ai_nx m i (ai_pc m i + 3) && decide ((Int16.ofInt n).toInt32 = Int32.ofInt n)) = true := hok
    obtain ⟨h1, h2⟩ := iv_and2 hok
    exact sn_sipush F (of_decide_eq_true h2) hd (ai_nx_pc h1) (KY (i + 1) ls (.inl n :: st) k h hs)
  | ldc2_w n =>
    obtain rfl : len = 3 := Nat.eq_of_beq_eq_true hln
    replace hok : (ai_nx m i (ai_pc m i + 3) && ai_wd x.2.2.2.2 (.constantLong (ai_mY m).cls n (Int64.ofInt (ai_lv x)))) = true := hok
    obtain ⟨h1, h2⟩ := iv_and2 hok
    exact sn_ldc2 F (ai_wd_in h2) hd (ai_nx_pc h1) (KY (i + 1) ls (.inr (.inl (ai_lv x)) :: st) k h hs)
  | iload n =>
    obtain rfl : len = 2 := Nat.eq_of_beq_eq_true hln
    replace hok : ai_nx m i (ai_pc m i + 2) = true := hok
    obtain ⟨v, hv, hs⟩ := iv_li (show ai_li Y m i ls st k h Q n from hs)
    exact sn_iload F hv hd (ai_nx_pc hok) (KY _ _ _ _ _ hs)
  | istore n =>
    obtain rfl : len = 2 := Nat.eq_of_beq_eq_true hln
    replace hok : (ai_nx m i (ai_pc m i + 2) && Nat.blt n (ai_mL m)) = true := hok
    obtain ⟨h1, h2⟩ := iv_and2 hok
    obtain ⟨v, r, rfl, hs⟩ := iv_si (show ai_si Y m i ls st k h Q n from hs)
    exact sn_istore F (iv_blt h2) hd (ai_nx_pc h1) (KY _ _ _ _ _ hs)
  | iload_n n =>
    obtain rfl : len = 1 := Nat.eq_of_beq_eq_true hln
    replace hok : ai_nx m i (ai_pc m i + 1) = true := hok
    obtain ⟨v, hv, hs⟩ := iv_li (show ai_li Y m i ls st k h Q n.val from hs)
    exact sn_iload_n F hv hd (ai_nx_pc hok) (KY _ _ _ _ _ hs)
  | istore_n n =>
    obtain rfl : len = 1 := Nat.eq_of_beq_eq_true hln
    replace hok : (ai_nx m i (ai_pc m i + 1) && Nat.blt n.val (ai_mL m)) = true := hok
    obtain ⟨h1, h2⟩ := iv_and2 hok
    obtain ⟨v, r, rfl, hs⟩ := iv_si (show ai_si Y m i ls st k h Q n.val from hs)
    exact sn_istore_n F (iv_blt h2) hd (ai_nx_pc h1) (KY _ _ _ _ _ hs)
  | lload n =>
    obtain rfl : len = 2 := Nat.eq_of_beq_eq_true hln
    replace hok : ai_nx m i (ai_pc m i + 2) = true := hok
    obtain ⟨v, hv, hs⟩ := iv_ll (show ai_ll Y m i ls st k h Q n from hs)
    exact sn_lload F hv hd (ai_nx_pc hok) (KY _ _ _ _ _ hs)
  | lstore n =>
    obtain rfl : len = 2 := Nat.eq_of_beq_eq_true hln
    replace hok : (ai_nx m i (ai_pc m i + 2) && Nat.blt (n + 1) (ai_mL m)) = true := hok
    obtain ⟨h1, h2⟩ := iv_and2 hok
    obtain ⟨v, r, rfl, hs⟩ := iv_sl (show ai_sl Y m i ls st k h Q n from hs)
    exact sn_lstore F (iv_blt h2) hd (ai_nx_pc h1) (KY _ _ _ _ _ hs)
  | lload_n n =>
    obtain rfl : len = 1 := Nat.eq_of_beq_eq_true hln
    replace hok : ai_nx m i (ai_pc m i + 1) = true := hok
    obtain ⟨v, hv, hs⟩ := iv_ll (show ai_ll Y m i ls st k h Q n.val from hs)
    exact sn_lload_n F hv hd (ai_nx_pc hok) (KY _ _ _ _ _ hs)
  | lstore_n n =>
    obtain rfl : len = 1 := Nat.eq_of_beq_eq_true hln
    replace hok : (ai_nx m i (ai_pc m i + 1) && Nat.blt (n.val + 1) (ai_mL m)) = true := hok
    obtain ⟨h1, h2⟩ := iv_and2 hok
    obtain ⟨v, r, rfl, hs⟩ := iv_sl (show ai_sl Y m i ls st k h Q n.val from hs)
    exact sn_lstore_n F (iv_blt h2) hd (ai_nx_pc h1) (KY _ _ _ _ _ hs)
  | aload n =>
    obtain rfl : len = 2 := Nat.eq_of_beq_eq_true hln
    replace hok : ai_nx m i (ai_pc m i + 2) = true := hok
    obtain ⟨v, hv, hs⟩ := iv_la (show ai_la Y m i ls st k h Q n from hs)
    exact sn_aload F hv hd (ai_nx_pc hok) (KY _ _ _ _ _ hs)
  | astore n =>
    obtain rfl : len = 2 := Nat.eq_of_beq_eq_true hln
    replace hok : (ai_nx m i (ai_pc m i + 2) && Nat.blt n (ai_mL m)) = true := hok
    obtain ⟨h1, h2⟩ := iv_and2 hok
    obtain ⟨v, r, rfl, hs⟩ := iv_sa (show ai_sa Y m i ls st k h Q n from hs)
    exact sn_astore F (iv_blt h2) hd (ai_nx_pc h1) (KY _ _ _ _ _ hs)
  | aload_n n =>
    obtain rfl : len = 1 := Nat.eq_of_beq_eq_true hln
    replace hok : ai_nx m i (ai_pc m i + 1) = true := hok
    obtain ⟨v, hv, hs⟩ := iv_la (show ai_la Y m i ls st k h Q n.val from hs)
    exact sn_aload_n F hv hd (ai_nx_pc hok) (KY _ _ _ _ _ hs)
  | astore_n n =>
    obtain rfl : len = 1 := Nat.eq_of_beq_eq_true hln
    replace hok : (ai_nx m i (ai_pc m i + 1) && Nat.blt n.val (ai_mL m)) = true := hok
    obtain ⟨h1, h2⟩ := iv_and2 hok
    obtain ⟨v, r, rfl, hs⟩ := iv_sa (show ai_sa Y m i ls st k h Q n.val from hs)
    exact sn_astore_n F (iv_blt h2) hd (ai_nx_pc h1) (KY _ _ _ _ _ hs)
  | iinc n d =>
    obtain rfl : len = 3 := Nat.eq_of_beq_eq_true hln
    replace hok : (ai_nx m i (ai_pc m i + 3) && Nat.blt n (ai_mL m)) = true := hok
    obtain ⟨h1, h2⟩ := iv_and2 hok
    obtain ⟨v, hv, hs⟩ := iv_inc (show ai_inc Y m i ls st k h Q n d from hs)
    exact sn_iinc F hv (iv_blt h2) hd (ai_nx_pc h1) (KY _ _ _ _ _ hs)
  | iadd =>
    obtain rfl : len = 1 := Nat.eq_of_beq_eq_true hln
    replace hok : ai_nx m i (ai_pc m i + 1) = true := hok
    obtain ⟨b0, a0, r, rfl, hs⟩ := iv_i2 (show ai_i2 Y m i ls st k h Q (fun a b => a + b) from hs)
    exact sn_iadd F hd (ai_nx_pc hok) (KY _ _ _ _ _ hs)
  | isub =>
    obtain rfl : len = 1 := Nat.eq_of_beq_eq_true hln
    replace hok : ai_nx m i (ai_pc m i + 1) = true := hok
    obtain ⟨b0, a0, r, rfl, hs⟩ := iv_i2 (show ai_i2 Y m i ls st k h Q (fun a b => a - b) from hs)
    exact sn_isub F hd (ai_nx_pc hok) (KY _ _ _ _ _ hs)
  | imul =>
    obtain rfl : len = 1 := Nat.eq_of_beq_eq_true hln
    replace hok : ai_nx m i (ai_pc m i + 1) = true := hok
    obtain ⟨b0, a0, r, rfl, hs⟩ := iv_i2 (show ai_i2 Y m i ls st k h Q (fun a b => a * b) from hs)
    exact sn_imul F hd (ai_nx_pc hok) (KY _ _ _ _ _ hs)
  | iand =>
    obtain rfl : len = 1 := Nat.eq_of_beq_eq_true hln
    replace hok : ai_nx m i (ai_pc m i + 1) = true := hok
    obtain ⟨b0, a0, r, rfl, hs⟩ := iv_i2 (show ai_i2 Y m i ls st k h Q ai_and from hs)
    exact sn_iand F hd (ai_nx_pc hok) (KY _ _ _ _ _ hs)
  | ior =>
    obtain rfl : len = 1 := Nat.eq_of_beq_eq_true hln
    replace hok : ai_nx m i (ai_pc m i + 1) = true := hok
    obtain ⟨b0, a0, r, rfl, hs⟩ := iv_i2 (show ai_i2 Y m i ls st k h Q ai_or from hs)
    exact sn_ior F hd (ai_nx_pc hok) (KY _ _ _ _ _ hs)
  | ixor =>
    obtain rfl : len = 1 := Nat.eq_of_beq_eq_true hln
    replace hok : ai_nx m i (ai_pc m i + 1) = true := hok
    obtain ⟨b0, a0, r, rfl, hs⟩ := iv_i2 (show ai_i2 Y m i ls st k h Q ai_xor from hs)
    exact sn_ixor F hd (ai_nx_pc hok) (KY _ _ _ _ _ hs)
  | ishl =>
    obtain rfl : len = 1 := Nat.eq_of_beq_eq_true hln
    replace hok : ai_nx m i (ai_pc m i + 1) = true := hok
    obtain ⟨b0, a0, r, rfl, hs⟩ := iv_i2 (show ai_i2 Y m i ls st k h Q ai_shl from hs)
    exact sn_ishl F hd (ai_nx_pc hok) (KY _ _ _ _ _ hs)
  | ishr =>
    obtain rfl : len = 1 := Nat.eq_of_beq_eq_true hln
    replace hok : ai_nx m i (ai_pc m i + 1) = true := hok
    obtain ⟨b0, a0, r, rfl, hs⟩ := iv_i2 (show ai_i2 Y m i ls st k h Q ai_shr from hs)
    exact sn_ishr F hd (ai_nx_pc hok) (KY _ _ _ _ _ hs)
  | idiv =>
    obtain rfl : len = 1 := Nat.eq_of_beq_eq_true hln
    replace hok : ai_nx m i (ai_pc m i + 1) = true := hok
    obtain ⟨b0, a0, r, rfl, hz, hs⟩ := iv_i2z (show ai_i2z Y m i ls st k h Q ai_div from hs)
    exact sn_idiv F hz hd (ai_nx_pc hok) (KY _ _ _ _ _ hs)
  | irem =>
    obtain rfl : len = 1 := Nat.eq_of_beq_eq_true hln
    replace hok : ai_nx m i (ai_pc m i + 1) = true := hok
    obtain ⟨b0, a0, r, rfl, hz, hs⟩ := iv_i2z (show ai_i2z Y m i ls st k h Q ai_rem from hs)
    exact sn_irem F hz hd (ai_nx_pc hok) (KY _ _ _ _ _ hs)
  | ladd =>
    obtain rfl : len = 1 := Nat.eq_of_beq_eq_true hln
    replace hok : ai_nx m i (ai_pc m i + 1) = true := hok
    obtain ⟨b0, a0, r, rfl, hs⟩ := iv_l2 (show ai_l2 Y m i ls st k h Q (fun a b => a + b) from hs)
    exact sn_ladd F hd (ai_nx_pc hok) (KY _ _ _ _ _ hs)
  | lsub =>
    obtain rfl : len = 1 := Nat.eq_of_beq_eq_true hln
    replace hok : ai_nx m i (ai_pc m i + 1) = true := hok
    obtain ⟨b0, a0, r, rfl, hs⟩ := iv_l2 (show ai_l2 Y m i ls st k h Q (fun a b => a - b) from hs)
    exact sn_lsub F hd (ai_nx_pc hok) (KY _ _ _ _ _ hs)
  | lmul =>
    obtain rfl : len = 1 := Nat.eq_of_beq_eq_true hln
    replace hok : ai_nx m i (ai_pc m i + 1) = true := hok
    obtain ⟨b0, a0, r, rfl, hs⟩ := iv_l2 (show ai_l2 Y m i ls st k h Q (fun a b => a * b) from hs)
    exact sn_lmul F hd (ai_nx_pc hok) (KY _ _ _ _ _ hs)
  | land =>
    obtain rfl : len = 1 := Nat.eq_of_beq_eq_true hln
    replace hok : ai_nx m i (ai_pc m i + 1) = true := hok
    obtain ⟨b0, a0, r, rfl, hs⟩ := iv_l2 (show ai_l2 Y m i ls st k h Q ai_land from hs)
    exact sn_land F hd (ai_nx_pc hok) (KY _ _ _ _ _ hs)
  | lor =>
    obtain rfl : len = 1 := Nat.eq_of_beq_eq_true hln
    replace hok : ai_nx m i (ai_pc m i + 1) = true := hok
    obtain ⟨b0, a0, r, rfl, hs⟩ := iv_l2 (show ai_l2 Y m i ls st k h Q ai_lor from hs)
    exact sn_lor F hd (ai_nx_pc hok) (KY _ _ _ _ _ hs)
  | ldiv =>
    obtain rfl : len = 1 := Nat.eq_of_beq_eq_true hln
    replace hok : ai_nx m i (ai_pc m i + 1) = true := hok
    obtain ⟨b0, a0, r, rfl, hz, hs⟩ := iv_l2z (show ai_l2z Y m i ls st k h Q ai_ldiv from hs)
    exact sn_ldiv F hz hd (ai_nx_pc hok) (KY _ _ _ _ _ hs)
  | lrem =>
    obtain rfl : len = 1 := Nat.eq_of_beq_eq_true hln
    replace hok : ai_nx m i (ai_pc m i + 1) = true := hok
    obtain ⟨b0, a0, r, rfl, hz, hs⟩ := iv_l2z (show ai_l2z Y m i ls st k h Q ai_lrem from hs)
    exact sn_lrem F hz hd (ai_nx_pc hok) (KY _ _ _ _ _ hs)
  | lshl =>
    obtain rfl : len = 1 := Nat.eq_of_beq_eq_true hln
    replace hok : ai_nx m i (ai_pc m i + 1) = true := hok
    obtain ⟨b0, a0, r, rfl, hs⟩ := iv_lsh (show ai_lsh Y m i ls st k h Q ai_lshl from hs)
    exact sn_lshl F hd (ai_nx_pc hok) (KY _ _ _ _ _ hs)
  | lshr =>
    obtain rfl : len = 1 := Nat.eq_of_beq_eq_true hln
    replace hok : ai_nx m i (ai_pc m i + 1) = true := hok
    obtain ⟨b0, a0, r, rfl, hs⟩ := iv_lsh (show ai_lsh Y m i ls st k h Q ai_lshr from hs)
    exact sn_lshr F hd (ai_nx_pc hok) (KY _ _ _ _ _ hs)
  | lneg =>
    obtain rfl : len = 1 := Nat.eq_of_beq_eq_true hln
    replace hok : ai_nx m i (ai_pc m i + 1) = true := hok
    obtain ⟨a0, r, rfl, hs⟩ := iv_l1 (show ai_l1 Y m i ls st k h Q (fun a => -a) from hs)
    exact sn_lneg F hd (ai_nx_pc hok) (KY _ _ _ _ _ hs)
  | i2c =>
    obtain rfl : len = 1 := Nat.eq_of_beq_eq_true hln
    replace hok : ai_nx m i (ai_pc m i + 1) = true := hok
    obtain ⟨a0, r, rfl, hs⟩ := iv_i1 (show ai_i1 Y m i ls st k h Q ai_i2c from hs)
    exact sn_i2c F hd (ai_nx_pc hok) (KY _ _ _ _ _ hs)
  | l2i =>
    obtain rfl : len = 1 := Nat.eq_of_beq_eq_true hln
    replace hok : ai_nx m i (ai_pc m i + 1) = true := hok
    obtain ⟨a0, r, rfl, hs⟩ := iv_l2i (show ai_l2i Y m i ls st k h Q from hs)
    exact sn_l2i F hd (ai_nx_pc hok) (KY _ _ _ _ _ hs)
  | pop =>
    obtain rfl : len = 1 := Nat.eq_of_beq_eq_true hln
    replace hok : ai_nx m i (ai_pc m i + 1) = true := hok
    obtain ⟨a0, r, rfl, hs⟩ := iv_pop (show ai_pop Y m i ls st k h Q from hs)
    exact sn_pop F hd (ai_nx_pc hok) (KY _ _ _ _ _ hs)
  | i2l =>
    obtain rfl : len = 1 := Nat.eq_of_beq_eq_true hln
    replace hok : ai_nx m i (ai_pc m i + 1) = true := hok
    obtain ⟨a0, r, rfl, hr, hs⟩ := iv_i2l (show ai_i2l Y m i ls st k h Q from hs)
    exact sn_i2l F hr hd (ai_nx_pc hok) (KY _ _ _ _ _ hs)
  | lcmp =>
    obtain rfl : len = 1 := Nat.eq_of_beq_eq_true hln
    replace hok : ai_nx m i (ai_pc m i + 1) = true := hok
    obtain ⟨b0, a0, r, rfl, hr, hs⟩ := iv_lcmp (show ai_lcmp Y m i ls st k h Q from hs)
    exact sn_lcmp F hr.1 hr.2 hd (ai_nx_pc hok) (KY _ _ _ _ _ hs)
  | ifCond cd off =>
    obtain rfl : len = 3 := Nat.eq_of_beq_eq_true hln
    replace hok : (ai_nx m i (ai_pc m i + 3) && ai_tg m x.1 (Int.ofNat (ai_pc m i) + off)) = true := hok
    obtain ⟨h1, h2⟩ := iv_and2 hok
    obtain ⟨a0, r, rfl, hr, hs1, hs2⟩ := iv_if0 (show ai_if0 Y m i ls st k h Q cd x.1 from hs)
    cases cd
    · exact sn_if_eq (b0 := 0) F hr hd (ai_nx_pc h1) (ai_tg_pc h2) (fun q => KY _ _ _ _ _ (hs1 q)) (fun q => KY _ _ _ _ _ (hs2 q))
    · exact sn_if_ne (b0 := 0) F hr hd (ai_nx_pc h1) (ai_tg_pc h2) (fun q => KY _ _ _ _ _ (hs1 q)) (fun q => KY _ _ _ _ _ (hs2 q))
    · exact sn_if_lt (b0 := 0) F hr hd (ai_nx_pc h1) (ai_tg_pc h2) (fun q => KY _ _ _ _ _ (hs1 q)) (fun q => KY _ _ _ _ _ (hs2 q))
    · exact sn_if_ge (b0 := 0) F hr hd (ai_nx_pc h1) (ai_tg_pc h2) (fun q => KY _ _ _ _ _ (hs1 q)) (fun q => KY _ _ _ _ _ (hs2 q))
    · exact sn_if_gt (b0 := 0) F hr hd (ai_nx_pc h1) (ai_tg_pc h2) (fun q => KY _ _ _ _ _ (hs1 q)) (fun q => KY _ _ _ _ _ (hs2 q))
    · exact sn_if_le (b0 := 0) F hr hd (ai_nx_pc h1) (ai_tg_pc h2) (fun q => KY _ _ _ _ _ (hs1 q)) (fun q => KY _ _ _ _ _ (hs2 q))
  | if_icmp cd off =>
    obtain rfl : len = 3 := Nat.eq_of_beq_eq_true hln
    replace hok : (ai_nx m i (ai_pc m i + 3) && ai_tg m x.1 (Int.ofNat (ai_pc m i) + off)) = true := hok
    obtain ⟨h1, h2⟩ := iv_and2 hok
    obtain ⟨b0, a0, r, rfl, hr, hs1, hs2⟩ := iv_if2 (show ai_if2 Y m i ls st k h Q cd x.1 from hs)
    cases cd
    · exact sn_icmp_eq F hr.1 hr.2 hd (ai_nx_pc h1) (ai_tg_pc h2) (fun q => KY _ _ _ _ _ (hs1 q)) (fun q => KY _ _ _ _ _ (hs2 q))
    · exact sn_icmp_ne F hr.1 hr.2 hd (ai_nx_pc h1) (ai_tg_pc h2) (fun q => KY _ _ _ _ _ (hs1 q)) (fun q => KY _ _ _ _ _ (hs2 q))
    · exact sn_icmp_lt F hr.1 hr.2 hd (ai_nx_pc h1) (ai_tg_pc h2) (fun q => KY _ _ _ _ _ (hs1 q)) (fun q => KY _ _ _ _ _ (hs2 q))
    · exact sn_icmp_ge F hr.1 hr.2 hd (ai_nx_pc h1) (ai_tg_pc h2) (fun q => KY _ _ _ _ _ (hs1 q)) (fun q => KY _ _ _ _ _ (hs2 q))
    · exact sn_icmp_gt F hr.1 hr.2 hd (ai_nx_pc h1) (ai_tg_pc h2) (fun q => KY _ _ _ _ _ (hs1 q)) (fun q => KY _ _ _ _ _ (hs2 q))
    · exact sn_icmp_le F hr.1 hr.2 hd (ai_nx_pc h1) (ai_tg_pc h2) (fun q => KY _ _ _ _ _ (hs1 q)) (fun q => KY _ _ _ _ _ (hs2 q))
  | goto off =>
    obtain rfl : len = 3 := Nat.eq_of_beq_eq_true hln
    replace hok : ai_tg m x.1 (Int.ofNat (ai_pc m i) + off) = true := hok
    exact sn_goto F hd (ai_tg_pc hok) (KY x.1 ls st k h hs)
  | tableswitch df lo hi offs =>
    replace hok : (decide (lo = 0) && decide (hi = 18) && Nat.beq ai_swt.length 19 && ai_tg m x.1 (Int.ofNat (ai_pc m i) + df) && (List.range 19).all (fun j => match offs[j]?, ai_nth ai_swt j with
      | some o, some t => ai_tg m t (Int.ofNat (ai_pc m i) + o)
      | _, _ => false)) = true := hok
    obtain ⟨hok, h5⟩ := iv_and2 hok
    obtain ⟨hok, h4⟩ := iv_and2 hok
    obtain ⟨hok, h3⟩ := iv_and2 hok
    obtain ⟨h1, h2⟩ := iv_and2 hok
    have e1 := of_decide_eq_true h1
    have e2 := of_decide_eq_true h2
    have e3 : ai_swt.length = 19 := Nat.eq_of_beq_eq_true h3
    subst e1
    subst e2
    obtain ⟨a0, r, rfl, hr, hs1, hs2⟩ := iv_sw (show ai_sw Y m ls st k h Q ai_swt x.1 from hs)
    rw [e3] at hs2
    intro H locs lsM hW hS hL hZ
    by_cases hin : a0 < 0 ∨ (18 : Int) < a0
    · exact lv_tableOut (x := Int32.ofInt a0) F.1 F.2.1 hd (by rw [ai_32 hr]; exact hin) (ai_tg_pc h4) (KY _ _ _ _ _ (hs2 (by rcases hin with q | q; exact Or.inl q; exact Or.inr (by show (19 : Int) ≤ a0; omega))) H locs lsM hW hS hL hZ)
    · have hj : a0.toNat < 19 := by omega
      have h6 := List.all_eq_true.mp h5 a0.toNat (List.mem_range.mpr hj)
      split at h6
      · rename_i o t ho ht
        refine lv_tableIn (x := Int32.ofInt a0) (off := o) F.1 F.2.1 hd (by rw [ai_32 hr]; omega) (by rw [ai_32 hr]; omega) ?_ (ai_tg_pc h6) (KY _ _ _ _ _ (hs1 a0.toNat t ht (by show a0 = ((a0.toNat : Nat) : Int); omega)) H locs lsM hW hS hL hZ)
        rw [ai_32 hr, Int.sub_zero]
        exact ho
      · cases h6
  | dup =>
    obtain rfl : len = 1 := Nat.eq_of_beq_eq_true hln
    replace hok : ai_nx m i (ai_pc m i + 1) = true := hok
    rcases iv_dup (show ai_dup Y m i ls st k h Q from hs) with ⟨a0, r, rfl, hs⟩ | ⟨a0, r, rfl, hs⟩
    · exact sn_dup_i F hd (ai_nx_pc hok) (KY _ _ _ _ _ hs)
    · exact sn_dup_a F hd (ai_nx_pc hok) (KY _ _ _ _ _ hs)
  | dup2 =>
    obtain rfl : len = 1 := Nat.eq_of_beq_eq_true hln
    replace hok : ai_nx m i (ai_pc m i + 1) = true := hok
    obtain ⟨a0, b0, r, rfl, hs⟩ := iv_dup2 (show ai_dup2 Y m i ls st k h Q from hs)
    exact sn_dup2 F hd (ai_nx_pc hok) (KY _ _ _ _ _ hs)
  | getfield n =>
    obtain rfl : len = 3 := Nat.eq_of_beq_eq_true hln
    replace hok : (ai_nx m i (ai_pc m i + 3) && ai_okf m x n false) = true := hok
    obtain ⟨h1, h2⟩ := iv_and2 hok
    obtain ⟨C, T, N, hcl, hkN, hw, hkd, -⟩ := ai_okf_use h2
    obtain ⟨hnf, hlay, hty, hnm, hcp, hi1, hi2, hdc⟩ := ai_cls hcl
    obtain ⟨q, r, v, rfl, hsh, hq, hv, hs⟩ := iv_get (ad := ai_ad base b) (by rw [← hkd]; exact ai_kd_le _ _) (show ai_get Y m i ls st k h Q x from hs)
    exact sn_get F hK hcl hkN hnf hw (hdc _ hkN) hlay hsh hq (by rw [hkd]; exact hv) hd (ai_nx_pc h1) (KY _ _ _ _ _ hs)
  | putfield n =>
    obtain rfl : len = 3 := Nat.eq_of_beq_eq_true hln
    replace hok : (ai_nx m i (ai_pc m i + 3) && ai_okf m x n true) = true := hok
    obtain ⟨h1, h2⟩ := iv_and2 hok
    obtain ⟨C, T, N, hcl, hkN, hw, hkd, hfin⟩ := ai_okf_use h2
    obtain ⟨hnf, hlay, hty, hnm, hcp, hi1, hi2, hdc⟩ := ai_cls hcl
    have hc1 := hcp _ hkN
    rw [hkd] at hc1
    obtain ⟨v, q, r, h', rfl, hsh, hq, hnr, hfit, hz1, hfv, hfo, hco, hs⟩ := iv_pf (ad := ai_ad base b) (cA := cA) hc1 (show ai_pf Y m i ls st k h Q x from hs)
    have hce := ai_cell_put (ad := ai_ad base b) (cA := cA) (h := h) (h' := h') hsh (ks := x.2.1) (v := ai_rn (ai_ad base b) v) (by rw [hkd]; exact hfv) (fun j hj => hfo _ j hj)
    rcases hfin rfl with hf | ⟨hf, hi, ho⟩
    · exact sn_put F hK hcl hkN hnf hw (hdc _ hkN) hlay hsh hq hty hnm hnr hfit hz1 hce hco hf hd (ai_nx_pc h1) (KY _ _ _ _ _ hs)
    · exact sn_putF F hK hcl hkN hnf hw (hdc _ hkN) hlay hsh hq hty hnm hnr hfit hz1 hce hco hf hi ho hd (ai_nx_pc h1) (KY _ _ _ _ _ hs)
  | iaload =>
    obtain rfl : len = 1 := Nat.eq_of_beq_eq_true hln
    replace hok : ai_nx m i (ai_pc m i + 1) = true := hok
    obtain ⟨j, q, r, rfl, ⟨n, hsh, hq, hj, hs⟩ | ⟨rfl, -, rfl, hj, hs⟩⟩ := iv_ald (show ai_ald sc Y m i ls st k h Q 0 from hs)
    · exact sn_iald F hK hsh hq hj (by have := (ai_sh_small hsh).1; omega) hd (ai_nx_pc hok) (KY _ _ _ _ _ hs)
    · exact sn_sld F (hscr rfl) hj hbs hd (ai_nx_pc hok) (KY _ _ _ _ _ hs)
  | baload =>
    obtain rfl : len = 1 := Nat.eq_of_beq_eq_true hln
    replace hok : ai_nx m i (ai_pc m i + 1) = true := hok
    obtain ⟨j, q, r, rfl, ⟨n, hsh, hq, hj, hs⟩ | ⟨-, z, -⟩⟩ := iv_ald (show ai_ald sc Y m i ls st k h Q 2 from hs)
    · exact sn_zald F hK hsh hq hj (by have := (ai_sh_small hsh).1; omega) hd (ai_nx_pc hok) (KY _ _ _ _ _ hs)
    · cases z
  | caload =>
    obtain rfl : len = 1 := Nat.eq_of_beq_eq_true hln
    replace hok : ai_nx m i (ai_pc m i + 1) = true := hok
    obtain ⟨j, q, r, rfl, ⟨n, hsh, hq, hj, hs⟩ | ⟨-, z, -⟩⟩ := iv_ald (show ai_ald sc Y m i ls st k h Q 3 from hs)
    · exact sn_cald F hK hsh hq hj (by have := (ai_sh_small hsh).1; omega) hd (ai_nx_pc hok) (KY _ _ _ _ _ hs)
    · cases z
  | laload =>
    obtain rfl : len = 1 := Nat.eq_of_beq_eq_true hln
    replace hok : ai_nx m i (ai_pc m i + 1) = true := hok
    obtain ⟨j, q, n, r, rfl, hsh, hq, hj, hs⟩ := iv_lald (show ai_lald Y m i ls st k h Q from hs)
    exact sn_lald F hK hsh hq hj (by have := (ai_sh_small hsh).1; omega) hd (ai_nx_pc hok) (KY _ _ _ _ _ hs)
  | aaload =>
    obtain rfl : len = 1 := Nat.eq_of_beq_eq_true hln
    replace hok : ai_nx m i (ai_pc m i + 1) = true := hok
    obtain ⟨j, q, n, r, rfl, hsh, hq, hu, hj, hs⟩ := iv_aald (show ai_aald Y m i ls st k h Q from hs)
    exact sn_aald F hK hsh hq hu hj (by have := (ai_sh_small hsh).1; omega) hd (ai_nx_pc hok) (KY _ _ _ _ _ hs)
  | iastore =>
    obtain rfl : len = 1 := Nat.eq_of_beq_eq_true hln
    replace hok : ai_nx m i (ai_pc m i + 1) = true := hok
    obtain ⟨v, j, q, n, r, rfl, hsh, hq, hj, hv, hs⟩ := iv_ast (show ai_ast Y m i ls st k h Q 0 0 0 from hs)
    exact sn_iast F hK hsh hq hj (by have := (ai_sh_small hsh).1; omega) hd (ai_nx_pc hok) (KY _ _ _ _ _ hs)
  | bastore =>
    obtain rfl : len = 1 := Nat.eq_of_beq_eq_true hln
    replace hok : ai_nx m i (ai_pc m i + 1) = true := hok
    obtain ⟨v, j, q, n, r, rfl, hsh, hq, hj, hv, hs⟩ := iv_ast (show ai_ast Y m i ls st k h Q 2 0 1 from hs)
    exact sn_zast F hK hsh hq hj (hv (by decide)) (by have := (ai_sh_small hsh).1; omega) hd (ai_nx_pc hok) (KY _ _ _ _ _ hs)
  | castore =>
    obtain rfl : len = 1 := Nat.eq_of_beq_eq_true hln
    replace hok : ai_nx m i (ai_pc m i + 1) = true := hok
    obtain ⟨v, j, q, n, r, rfl, hsh, hq, hj, hv, hs⟩ := iv_ast (show ai_ast Y m i ls st k h Q 3 0 65535 from hs)
    exact sn_cast F hK hsh hq hj (hv (by decide)) (by have := (ai_sh_small hsh).1; omega) hd (ai_nx_pc hok) (KY _ _ _ _ _ hs)
  | lastore =>
    obtain rfl : len = 1 := Nat.eq_of_beq_eq_true hln
    replace hok : ai_nx m i (ai_pc m i + 1) = true := hok
    obtain ⟨v, j, q, n, r, rfl, hsh, hq, hj, hs⟩ := iv_last (show ai_last Y m i ls st k h Q from hs)
    exact sn_last F hK hsh hq hj (by have := (ai_sh_small hsh).1; omega) hd (ai_nx_pc hok) (KY _ _ _ _ _ hs)
  | aastore =>
    obtain rfl : len = 1 := Nat.eq_of_beq_eq_true hln
    replace hok : ai_nx m i (ai_pc m i + 1) = true := hok
    obtain ⟨v, q, n, j, r, rfl, hsh, hq, hvq, hv, hj, hs⟩ := iv_aast (show ai_aast Y m i ls st k h Q from hs)
    obtain ⟨ci, T, N, hcl, hvs⟩ := ai_stores hsh (by have := hj.2; show j.toNat < n; have h9 : j < (n : Int) := this; omega) hv
    exact sn_aast F hK hcl hsh hq hvs hvq hv hj (by have := (ai_sh_small hsh).1; omega) hd (ai_nx_pc hok) (KY _ _ _ _ _ hs)
  | arraylength =>
    obtain rfl : len = 1 := Nat.eq_of_beq_eq_true hln
    replace hok : ai_nx m i (ai_pc m i + 1) = true := hok
    obtain ⟨q, r, rfl, ⟨kd, n, hsh, hq, hs⟩ | ⟨rfl, rfl, hs⟩⟩ := iv_len (show ai_len sc Y m i ls st k h Q from hs)
    · exact sn_len F hK hsh (ai_sh_small hsh).2 hq hd (ai_nx_pc hok) (KY _ _ _ _ _ hs)
    · exact sn_slen F (hscr rfl) hbs hd (ai_nx_pc hok) (KY _ _ _ _ _ hs)
  | new n =>
    obtain rfl : len = 3 := Nat.eq_of_beq_eq_true hln
    by_cases hx : x.2.2.1 = 0
    · replace hok : (ai_nx m i (ai_pc m i + 3) && ai_okn m x n) = true := by
        have h0 : (match x.2.2.1 with
          | 0 => ai_nx m i (ai_pc m i + 3) && ai_okn m x n
          | _ => ai_okx m i (ai_pc m i) x n) = true := hok
        rw [hx] at h0
        exact h0
      obtain ⟨h1, h2⟩ := iv_and2 hok
      replace hs : ai_new Y m i ls st k h Q x := hs
      unfold ai_new at hs
      rw [hx] at hs
      simp only at hs
      split at hs
      · rename_i ci hsh
        have zz0 := hs
        clear hs
        obtain ⟨g1, hs⟩ := ai_ck_true zz0
        obtain ⟨g1, g4⟩ := iv_and2 g1
        obtain ⟨g1, g3⟩ := iv_and2 g1
        obtain ⟨g1, g2⟩ := iv_and2 g1
        have e1 : ci = x.1 := Nat.eq_of_beq_eq_true g1
        subst e1
        unfold ai_okn at h2
        split at h2
        · rename_i C T N hcl
          obtain ⟨h2, h3⟩ := iv_and2 h2
          have e2 : x.2.1 = N := Nat.eq_of_beq_eq_true h2
          obtain ⟨hnf, hlay, hty, hnm, hcp, hi1, hi2, hdc⟩ := ai_cls hcl
          rw [e2] at hs g4
          exact sn_new F hK hcl hnf hlay hty hcp (ai_wd_in h3) hi1 hi2 hbs hsh (iv_blt g2) (iv_ble g3) (iv_ble g4) hd (ai_nx_pc h1) (KY _ _ _ _ _ hs)
        · cases h2
      · exact hs.elim
    · exact sn_throw0 F hK hbs hE hd hx hok hs
  | newarray t =>
    obtain rfl : len = 2 := Nat.eq_of_beq_eq_true hln
    replace hok : (ai_nx m i (ai_pc m i + 2) && decide (newarray.typeOf t = ai_TY x.1) && Nat.blt x.1 4 && ai_wd (ai_aw x.1) (.arrayClass (ai_TY x.1))) = true := hok
    obtain ⟨hok, h4⟩ := iv_and2 hok
    obtain ⟨hok, h3⟩ := iv_and2 hok
    obtain ⟨h1, h2⟩ := iv_and2 hok
    obtain ⟨n0, r, rfl, hsh, hz, hkc, hks, hs⟩ := iv_nar (show ai_nar Y m i ls st k h Q x.1 from hs)
    exact sn_nar F hK (of_decide_eq_true h2) (iv_blt h3) (ai_wd_in h4) hbs hsh hz (ai_sh_small hsh).1 hkc hks hd (ai_nx_pc h1) (KY _ _ _ _ _ hs)
  | anewarray n =>
    obtain rfl : len = 3 := Nat.eq_of_beq_eq_true hln
    replace hok : (ai_nx m i (ai_pc m i + 3) && ai_wd x.2.2.2.2 (.classLink (ai_mY m).cls n ai_Store)) = true := hok
    obtain ⟨h1, h2⟩ := iv_and2 hok
    obtain ⟨n0, r, rfl, hsh, hz, hkc, hks, hs⟩ := iv_nar (show ai_nar Y m i ls st k h Q 4 from hs)
    exact sn_anar F hK (ai_wd_in h2) hE.1 hbs hsh hz (ai_sh_small hsh).1 hkc hks hd (ai_nx_pc h1) (KY _ _ _ _ _ hs)
  | invokevirtual n =>
    obtain rfl : len = 3 := Nat.eq_of_beq_eq_true hln
    replace hok : (ai_nx m i (ai_pc m i + 3) && ai_okv m x n 0) = true := hok
    obtain ⟨h1, h2⟩ := iv_and2 hok
    obtain ⟨hw1, hmk, hlt, hlen, hrmk, -, -, hhh⟩ := ai_okv_use h2
    obtain ⟨hi4, hy, hpl, hp0, hi0, -, -⟩ := ai_meth_use hlt
    obtain ⟨hw2, hw3, T, N, hcl⟩ := hi0 hmk
    replace hs : ai_vcall Y m i ls st k h Q x := hs
    unfold ai_vcall at hs
    split at hs
    · rename_i q ws rr htk
      split at hs
      · rename_i c0 hsh
        have zz0 := hs
        clear hs
        obtain ⟨g1, hs⟩ := ai_ck_true zz0
        obtain ⟨g1, g2⟩ := iv_and2 g1
        have e1 : c0 = ai_mC x.1 := Nat.eq_of_beq_eq_true g1
        subst e1
        obtain ⟨vs, r, hst, hvl, htk2, hc8, hcv, hkc, hks, hs⟩ := iv_call hs
        cases htk.symm.trans htk2
        have hwl : ws.length = ai_mN x.1 := by
          simp only [List.length_cons] at hvl
          rw [hlen] at hvl
          simpa using hvl
        have go : ai_ret Y x.1 (ai_en (ai_mL x.1) (.inr (.inr q) :: ws)) h (fun v h' => ai_ck (ai_zz h.1 h'.1 (ai_mc x.1)) (Y m (i + 1) ls (v.toList ++ rr) (k.1 + ai_mc x.1, k.2 + ai_ms x.1) h' Q)) → ai_at l D base b cA p e s mid args below meth c m Q (i) (ls) (st) (k) (h) := by
          rintro ⟨P, hP, hall⟩
          have hM := ai_toMet hl hpl (hhh rfl) (by intro z; rw [z] at hlt; exact absurd hlt (by decide)) hp0 hcv (hY _ _ _ _ _ _ _ hP) (fun o ho => by obtain ⟨v, h', e, -⟩ := hall o ho; exact ⟨v, h', e⟩)
          rw [hst]
          exact sn_callV F hK hM (hhh rfl) ai_WS_good (ai_cw_in hlt) hbs hE hcl rfl hw1 hw2 hw3 hi4 hy rfl hwl hsh (iv_blt g2) (ai_rmk_use hrmk) hc8 ⟨hkc, hks⟩ hd (ai_nx_pc h1) (fun v h' hp => by
          obtain ⟨v2, h2, e, hk⟩ := hall _ hp
          cases e
          have zz0 := hk
          clear hk
          obtain ⟨z1, hk⟩ := ai_ck_true zz0
          exact ⟨(ai_zz_use z1).1, (ai_zz_use z1).2, KY _ _ _ _ _ hk⟩)
        by_cases hx : x.2.2.1 = 0
        · rw [hx] at hs
          exact go hs
        · have hs2 : ai_ret Y x.1 (ai_en (ai_mL x.1) (.inr (.inr q) :: ws)) h (fun v h' => ai_ck (ai_zz h.1 h'.1 (ai_mc x.1)) (Y m (i + 1) ls (v.toList ++ rr) (k.1 + ai_mc x.1, k.2 + ai_ms x.1) h' Q)) ∨
              ai_thr Y x.1 (ai_en (ai_mL x.1) (.inr (.inr q) :: ws)) h (fun c h' => ai_ck (Nat.ble 92 h'.1) (match ai_ct m c with
                | some (t, sl) => Y m t (ai_put (ai_kill ls sl) sl none) [] (k.1 + ai_mc x.1, k.2 + ai_ms x.1) h' Q
                | none => False)) := by
            split at hs
            · rename_i z
              exact absurd z hx
            · exact hs
          rcases hs2 with hs2 | hs2
          · exact go hs2
          · rw [hst]
            exact sn_catch0 hl F hK hbs hE hY KY hcl hw1 hw2 hw3 hi4 hy hpl hp0 hlt (hhh rfl) hwl hsh (iv_blt g2) hrmk hc8 hcv ⟨hkc, hks⟩ hd hs2 ⟨_, _, _, hen⟩ hx
      · exact hs.elim
    · exact hs.elim
  | invokespecial n =>
    obtain rfl : len = 3 := Nat.eq_of_beq_eq_true hln
    by_cases hx3 : x.2.2.2.1 = 0
    · replace hok : (ai_nx m i (ai_pc m i + 3) && ai_okv m x n 1) = true := by
        have h0 : (ai_nx m i (ai_pc m i + 3) && (match x.2.2.2.1 with
          | 0 => ai_okv m x n 1
          | 1 => ai_oko m x n
          | _ => true)) = true := hok
        rw [hx3] at h0
        exact h0
      replace hs : ai_icall Y m i ls st k h Q x := by
        have h0 : (match x.2.2.2.1 with
          | 0 => ai_icall Y m i ls st k h Q x
          | 1 => ai_ocall Y m i ls st k h Q x
          | _ => False) := hs
        rw [hx3] at h0
        exact h0
      obtain ⟨h1, h2⟩ := iv_and2 hok
      obtain ⟨hw1, hmk, hlt, hlen, hrmk, -, hh1, -⟩ := ai_okv_use h2
      obtain ⟨hx, hhh⟩ := hh1 rfl
      obtain ⟨hi4, hy, hpl, hp0, -, hi1, -⟩ := ai_meth_use hlt
      obtain ⟨hw2, hini, hrn⟩ := hi1 hmk
      unfold ai_icall at hs
      split at hs
      case h_2 => exact hs.elim
      rename_i q ws rr htk
      obtain ⟨vs, r, hst, hvl, htk2, hc8, hcv, hkc, hks, hs⟩ := iv_call hs
      cases htk.symm.trans htk2
      rw [hx] at hs
      obtain ⟨P, hP, hall⟩ := hs
      have hM := ai_toMet hl hpl hhh (by intro z; rw [z] at hlt; exact absurd hlt (by decide)) hp0 hcv (hY _ _ _ _ _ _ _ hP) (fun o ho => by obtain ⟨v, h', e, -⟩ := hall o ho; exact ⟨v, h', e⟩)
      rw [hst]
      have hwl : ws.length = ai_mN x.1 := by
        rw [hlen] at hvl
        simpa using hvl
      exact sn_callI F hK hM hhh ai_WS_good (ai_cw_in hlt) hbs hE hw1 hw2 hi4 hini hrn hy rfl hwl (ai_rmk_use hrmk) hc8 ⟨hkc, hks⟩ hd (ai_nx_pc h1) (fun v h' hp => by
          obtain ⟨v2, h2, e, hk⟩ := hall _ hp
          cases e
          have zz0 := hk
          clear hk
          obtain ⟨z1, hk⟩ := ai_ck_true zz0
          exact ⟨(ai_zz_use z1).1, (ai_zz_use z1).2, KY _ _ _ _ _ hk⟩)
    · by_cases hx4 : x.2.2.2.1 = 1
      · replace hok : (ai_nx m i (ai_pc m i + 3) && ai_oko m x n) = true := by
          have h0 : (ai_nx m i (ai_pc m i + 3) && (match x.2.2.2.1 with
            | 0 => ai_okv m x n 1
            | 1 => ai_oko m x n
            | _ => true)) = true := hok
          rw [hx4] at h0
          exact h0
        replace hs : ai_ocall Y m i ls st k h Q x := by
          have h0 : (match x.2.2.2.1 with
            | 0 => ai_icall Y m i ls st k h Q x
            | 1 => ai_ocall Y m i ls st k h Q x
            | _ => False) := hs
          rw [hx4] at h0
          exact h0
        obtain ⟨h1, h2⟩ := iv_and2 hok
        unfold ai_oko at h2
        obtain ⟨h2, g6⟩ := iv_and2 h2
        obtain ⟨h2, g5⟩ := iv_and2 h2
        obtain ⟨h2, g4⟩ := iv_and2 h2
        obtain ⟨h2, g3⟩ := iv_and2 h2
        obtain ⟨g1, g2⟩ := iv_and2 h2
        have e1 : x.1 = 1000 := Nat.eq_of_beq_eq_true g1
        obtain ⟨q, r, rfl, hc, hs⟩ := iv_ocall0 e1 hs
        exact sn_oinit F (ai_wd_in g3) (ai_wd_in g4) (ai_wd_in g5) (iv_ble g2) (by have := iv_ble g6; show ai_cats r + 12 ≤ ai_mw m; omega) hd (ai_nx_pc h1) (KY _ _ _ _ _ hs)
      · have h0 : (match x.2.2.2.1 with
          | 0 => ai_icall Y m i ls st k h Q x
          | 1 => ai_ocall Y m i ls st k h Q x
          | _ => False) := hs
        split at h0
        · rename_i z; exact absurd z hx3
        · rename_i z; exact absurd z hx4
        · exact h0.elim
  | invokestatic n =>
    obtain rfl : len = 3 := Nat.eq_of_beq_eq_true hln
    by_cases hx3 : x.2.2.2.1 = 0
    · replace hok : (ai_nx m i (ai_pc m i + 3) && ai_okv m x n 2) = true := by
        have h0 : (ai_nx m i (ai_pc m i + 3) && (match x.2.2.2.1 with
          | 0 => ai_okv m x n 2
          | _ => ai_okl m x n)) = true := hok
        rw [hx3] at h0
        exact h0
      replace hs : ai_call Y m i ls st k h Q x := by
        have h0 : (match x.2.2.2.1 with
          | 0 => ai_call Y m i ls st k h Q x
          | _ => ai_ocall Y m i ls st k h Q x) := hs
        rw [hx3] at h0
        exact h0
      obtain ⟨h1, h2⟩ := iv_and2 hok
      obtain ⟨hw1, hmk, hlt, hlen, hrmk, hst2, -, -⟩ := ai_okv_use h2
      obtain ⟨hC, hx⟩ := hst2 rfl
      obtain ⟨hi4, hy, hpl, hp0, -, -, hi2⟩ := ai_meth_use hlt
      have hw2 := hi2 hmk
      obtain ⟨vs, r, hst, hvl, htk2, hc8, hcv, hkc, hks, hs⟩ := iv_call hs
      rw [hx] at hs
      obtain ⟨P, hP, hall⟩ := hs
      have hwl : vs.length = ai_mN x.1 := by
        rw [hlen] at hvl
        simpa using hvl
      rw [hst]
      by_cases hhh : ai_hh x.1 = []
      · have hM := ai_toMet hl hpl hhh (by intro z; rw [z] at hlt; exact absurd hlt (by decide)) hp0 hcv (hY _ _ _ _ _ _ _ hP) (fun o ho => by obtain ⟨v, h', e, -⟩ := hall o ho; exact ⟨v, h', e⟩)
        exact sn_callS F hK hM hhh ai_WS_good (ai_cw_in hlt) hbs hE hC hw1 hw2 (by rw [← hC]; exact hi4) hy hwl (ai_rmk_use hrmk) hc8 ⟨hkc, hks⟩ hd (ai_nx_pc h1) (fun v h' hp => by
          obtain ⟨v2, h2, e, hk⟩ := hall _ hp
          cases e
          have zz0 := hk
          clear hk
          obtain ⟨z1, hk⟩ := ai_ck_true zz0
          exact ⟨(ai_zz_use z1).1, (ai_zz_use z1).2, KY _ _ _ _ _ hk⟩)
      · have hM := ai_toMetW hl hpl hhh (by intro z; rw [z] at hlt; exact absurd hlt (by decide)) hp0 hcv (hY _ _ _ _ _ _ _ hP) (fun o ho => by obtain ⟨v, h', e, -⟩ := hall o ho; exact ⟨v, h', e⟩)
        exact sn_callSW F hK hM hhh ai_WS_good (ai_cw_in hlt) hbs hE hC hw1 hw2 (by rw [← hC]; exact hi4) hy hwl (ai_rmk_use hrmk) hc8 ⟨hkc, hks⟩ hd (ai_nx_pc h1) (fun v h' hp => by
          obtain ⟨v2, h2, e, hk⟩ := hall _ hp
          cases e
          have zz0 := hk
          clear hk
          obtain ⟨z1, hk⟩ := ai_ck_true zz0
          exact ⟨(ai_zz_use z1).1, (ai_zz_use z1).2, KY _ _ _ _ _ hk⟩)
    · replace hok : (ai_nx m i (ai_pc m i + 3) && ai_okl m x n) = true := by
        have h0 : (ai_nx m i (ai_pc m i + 3) && (match x.2.2.2.1 with
          | 0 => ai_okv m x n 2
          | _ => ai_okl m x n)) = true := hok
        split at h0
        · rename_i z; exact absurd z hx3
        · exact h0
      replace hs : ai_ocall Y m i ls st k h Q x := by
        have h0 : (match x.2.2.2.1 with
          | 0 => ai_call Y m i ls st k h Q x
          | _ => ai_ocall Y m i ls st k h Q x) := hs
        split at h0
        · rename_i z; exact absurd z hx3
        · exact h0
      obtain ⟨h1, h2⟩ := iv_and2 hok
      unfold ai_okl at h2
      obtain ⟨g0, h2⟩ := iv_and2 h2
      split at h2
      · rename_i e1
        obtain ⟨h2, g5⟩ := iv_and2 h2
        obtain ⟨h2, g4⟩ := iv_and2 h2
        obtain ⟨h2, g3⟩ := iv_and2 h2
        obtain ⟨g1, g2⟩ := iv_and2 h2
        obtain ⟨n9, dp, sp, qq, qp, kd, np, nq, r, rfl, hkd, hsp, hsq, hqp, hqq, hc, hr, hs⟩ := iv_ocall1 e1 hs
        have hN : np < 2147483648 ∧ nq < 2147483648 := ⟨by have := (ai_sh_small hsp).1; omega, by have := (ai_sh_small hsq).1; omega⟩
        have hlo : ai_cats r + (nativeFrameWords "java/lang/System" "arraycopy" 5 + 11) ≤ (ai_rm m).locals := by
          have := iv_ble g5
          show ai_cats r + (nativeFrameWords "java/lang/System" "arraycopy" 5 + 11) ≤ ai_mw m
          omega
        rcases (show kd = 0 ∨ kd = 1 by omega) with rfl | rfl
        · exact sn_copyi F hK (ai_wd_in g1) (ai_wd_in g2) (ai_wd_in g3) (ai_wd_in g4) hsp hsq hqp hqq hr hN (iv_ble g0) hlo hd (ai_nx_pc h1) (KY _ _ _ _ _ hs)
        · exact sn_copyl F hK (ai_wd_in g1) (ai_wd_in g2) (ai_wd_in g3) (ai_wd_in g4) hsp hsq hqp hqq hr hN (iv_ble g0) hlo hd (ai_nx_pc h1) (KY _ _ _ _ _ hs)
      · rename_i e1
        obtain ⟨h2, g5⟩ := iv_and2 h2
        obtain ⟨h2, g4⟩ := iv_and2 h2
        obtain ⟨h2, g3⟩ := iv_and2 h2
        obtain ⟨g1, g2⟩ := iv_and2 h2
        obtain ⟨a0, r, rfl, hc, hr, hkc, hks, hs⟩ := iv_ocall2 e1 hs
        exact sn_labs F hK (ai_wd_in g1) (ai_wd_in g2) (ai_wd_in g3) (ai_wd_in g4) hr (iv_ble g0) (by have := iv_ble g5; show ai_cats r + 13 ≤ ai_mw m; omega) hkc hks hd (ai_nx_pc h1) (KY _ _ _ _ _ hs)
      · rename_i e1
        obtain ⟨h2, g5⟩ := iv_and2 h2
        obtain ⟨h2, g4⟩ := iv_and2 h2
        obtain ⟨h2, g3⟩ := iv_and2 h2
        obtain ⟨g1, g2⟩ := iv_and2 h2
        obtain ⟨b0, a0, r, rfl, hc, hr, hkc, hks, hs⟩ := iv_ocall3 e1 hs
        exact sn_imin F hK (ai_wd_in g1) (ai_wd_in g2) (ai_wd_in g3) (ai_wd_in g4) hr.1 hr.2 (iv_ble g0) (by have := iv_ble g5; show ai_cats r + 13 ≤ ai_mw m; omega) hkc hks hd (ai_nx_pc h1) (KY _ _ _ _ _ hs)
      · cases h2
  | return_ =>
    obtain rfl : len = 1 := Nat.eq_of_beq_eq_true hln
    replace hok : decide (ai_mR m = none) = true := hok
    replace hs : ai_rv m st k h Q := hs
    unfold ai_rv at hs
    split at hs
    · have zz0 := hs
      clear hs
      obtain ⟨h1, hs⟩ := ai_ck_true zz0
      obtain ⟨h1, h2⟩ := iv_and2 h1
      exact sn_vret F (of_decide_eq_true hok) (iv_ble h1) (iv_ble h2) hs hd
    · exact hs.elim
  | ireturn =>
    obtain rfl : len = 1 := Nat.eq_of_beq_eq_true hln
    replace hs : ai_ri m st k h Q x := hs
    replace hok : (match x.1 with
      | 0 => decide (ai_mR m = some .int)
      | 3 => decide (ai_mR m = some .boolean)
      | _ => decide (ai_mR m = some .char)) = true := hok
    unfold ai_ri at hs
    split at hs
    · rename_i v
      have zz0 := hs
      clear hs
      obtain ⟨h1, hs⟩ := ai_ck_true zz0
      obtain ⟨h1, h2⟩ := iv_and2 h1
      split at hs
      · rename_i e0
        rw [e0] at hok
        exact sn_iret F (of_decide_eq_true hok) (iv_ble h1) (iv_ble h2) hs hd
      · rename_i e0
        rw [e0] at hok
        have hb : v = 0 ∨ v = 1 := by have := hs.1; omega
        exact sn_zret F (of_decide_eq_true hok) (by rcases hb with rfl | rfl <;> rfl) (iv_ble h1) (iv_ble h2) hs.2 hd
      · rename_i e0 e3
        have hok2 : decide (ai_mR m = some .char) = true := by
          split at hok
          · rename_i z; exact absurd z e0
          · rename_i z; exact absurd z e3
          · exact hok
        exact sn_zret F (of_decide_eq_true hok2) (by rw [ai_nI hs.1.1]; exact (pk_charN (q := v.toNat) (by have := hs.1.2; omega)).1) (iv_ble h1) (iv_ble h2) hs.2 hd
    · exact hs.elim
  | lreturn =>
    obtain rfl : len = 1 := Nat.eq_of_beq_eq_true hln
    replace hok : decide (ai_mR m = some .long) = true := hok
    replace hs : ai_rl m st k h Q := hs
    unfold ai_rl at hs
    split at hs
    · have zz0 := hs
      clear hs
      obtain ⟨h1, hs⟩ := ai_ck_true zz0
      obtain ⟨h1, h2⟩ := iv_and2 h1
      exact sn_lret F (of_decide_eq_true hok) (iv_ble h1) (iv_ble h2) hs hd
    · exact hs.elim
  | _ => exact absurd hs id
/-- what ends in the machine of places as Q asks, ends so in the machine -/
theorem ai_sound {sc : Int × (Int → Int)} {l : Launch} {D : va_G} {base b : Nat} {cA : Nat → ClassId} (hl : ai_stOK l) {m i : Nat} {ls : ai_L} {st : List ai_V} {k : Nat × Nat} {h : ai_H} {Q : ai_O → Prop} (hw : ai_wp sc m i ls st k h Q) : ai_SND sc l D base b cA m i ls st k h Q := ai_wp_ind (X := ai_SND sc l D base b cA) (ai_core hl) hw
end
section
/-! THE START: from the Statement's entry to the machine of places. -/
set_option maxRecDepth 100000 in
theorem st_nc : (List.range 4).all (fun x => (List.range 4).all (fun y => decide (x = y) || decide (Cond.not (.castable (ai_xn x) (ai_xn y)) ∈ flatC (Jvm.Cond.and given_1 narrow_1)))) = true := by decide +kernel
set_option maxRecDepth 100000 in
theorem st_zt : ai_zt.all (fun q => decide (Cond.isRef (.static "java/lang/Throwable" q.1 q.2) ∈ flatC (Jvm.Cond.and given_1 narrow_1)) && decide (Cond.laysStatic "java/lang/Throwable" q.1 q.2 ∈ lw_tbl)) = true := by decide +kernel
set_option maxRecDepth 100000 in
theorem st_str : ai_strs.all (fun q => decide (Cond.exactly (.string q.1 q.2.1) "java/lang/String" ∈ flatC (Jvm.Cond.and given_1 narrow_1)) && decide (Cond.stringRef q.1 q.2.1 q.2.2 ∈ lw_tbl)) = true := by decide +kernel
set_option maxRecDepth 100000 in
theorem st_wd : (ai_fw.all (fun w => decide (w ∈ lw_tbl)) && decide (Cond.arrayOver (.object ai_Store) ∈ lw_tbl) && decide (Cond.arrayClass .int ∈ lw_tbl) && decide (Cond.arrayClass .long ∈ lw_tbl) && decide (Cond.arrayClass .boolean ∈ lw_tbl) && decide (Cond.arrayClass .char ∈ lw_tbl)) = true := by decide +kernel
theorem st_ac {s : State} {A : Array Value} {ty : FieldType} (hty : ∀ k, ty = .object k → False) (h : (Cond.arrayClass ty).before A s = true) : ∃ cA : ClassId, ArrOfT s cA ty ∧ va_RA s cA ty := by
  obtain ⟨c, k, comp, h1, h2, h3⟩ := Cond.arrayClass_spec h
  refine ⟨c, fun N z => ⟨(fun k h => by cases h), k, h2, comp, h3⟩, ?_⟩
  cases ty with
  | object C => exact (hty C rfl).elim
  | _ => exact h1
theorem st_ao {s : State} {A : Array Value} {C : String} (h : (Cond.arrayOver (.object C)).before A s = true) : ∃ cA : ClassId, ArrOfT s cA (.object C) ∧ va_RA s cA (.object C) := by
  obtain ⟨comp, c, k, h1, h2, h3, h4, h5⟩ := Cond.arrayOver_spec h
  exact ⟨c, fun N z => ⟨(fun k h => by cases h), k, h3, comp, h4⟩, k, comp, h3, h4, h1, h5⟩
theorem st_tys {s : State} {A : Array Value} (hts : ∀ w ∈ lw_tbl, w.before A s = true) : ∃ cA : Nat → ClassId, ∀ kd, kd < 5 → ArrOfT s (cA kd) (ai_TY kd) ∧ va_RA s (cA kd) (ai_TY kd) := by
  have hw := st_wd
  simp only [Bool.and_eq_true, decide_eq_true_eq] at hw
  obtain ⟨⟨⟨⟨⟨-, w4⟩, w0⟩, w1⟩, w2⟩, w3⟩ := hw
  obtain ⟨c0, h0⟩ := st_ac (fun k e => by cases e) (hts _ w0)
  obtain ⟨c1, h1⟩ := st_ac (fun k e => by cases e) (hts _ w1)
  obtain ⟨c2, h2⟩ := st_ac (fun k e => by cases e) (hts _ w2)
  obtain ⟨c3, h3⟩ := st_ac (fun k e => by cases e) (hts _ w3)
  obtain ⟨c4, h4⟩ := st_ao (hts _ w4)
  refine ⟨fun kd => match kd with | 0 => c0 | 1 => c1 | 2 => c2 | 3 => c3 | _ => c4, fun kd hk => ?_⟩
  match kd, hk with
  | 0, _ => exact h0
  | 1, _ => exact h1
  | 2, _ => exact h2
  | 3, _ => exact h3
  | 4, _ => exact h4
theorem st_cls {s : State} {A : Array Value} (hts : ∀ w ∈ ai_WS, w.before A s = true) : ∃ D : va_G, ∀ (c : Nat) (q : vw_C), vwCl[c]? = some q → u_Kn s q.1 q.2.1 q.2.2 (D.1 c) (D.2 c) := by
  have h : ∀ c : Nat, ∃ d : ClassId × (Nat → Nat), ∀ q : vw_C, vwCl[c]? = some q → u_Kn s q.1 q.2.1 q.2.2 d.1 d.2 := fun c => by
    cases hc : vwCl[c]? with
    | none => exact ⟨(0, fun _ => 0), fun q e => by cases e⟩
    | some q =>
      obtain ⟨C, T, N⟩ := q
      obtain ⟨-, h2, -, -, -, h6, -⟩ := ai_cls hc
      obtain ⟨cC, iS, hk⟩ := u_known hts h2 (hts _ h6)
      exact ⟨(cC, iS), fun q e => by cases e; exact hk⟩
  exact ⟨(fun c => (h c).choose.1, fun c => (h c).choose.2), fun c => (h c).choose_spec⟩
theorem st_env {s : State} {A : Array Value} (hts : ∀ w ∈ lw_tbl, w.before A s = true) (hg : (Jvm.Cond.and given_1 narrow_1).before A s = true) : ai_env s.heap.size s := by
  have hf := flat_of_before _ hg
  have hw := st_wd
  simp only [Bool.and_eq_true, decide_eq_true_eq] at hw
  obtain ⟨⟨⟨⟨⟨w5, w4⟩, -⟩, -⟩, -⟩, -⟩ := hw
  refine ⟨va_AO.of (hts _ w4), fun q hq => ?_, fun w h => ?_, fun x hx y hy hxy => ?_⟩
  · have h := List.all_eq_true.mp st_zt q hq
    simp only [Bool.and_eq_true, decide_eq_true_eq] at h
    obtain ⟨c, k, i, f, a, cell, hc, hi, hst, hsa, hcell, hss, hcls, hlt, hty⟩ := Cond.laysStatic_spec (hts _ h.2)
    obtain ⟨v, hv, hr⟩ := Cond.isRef_spec (hf _ h.1)
    have he : (Term.static "java/lang/Throwable" q.1 q.2).eval A s none [] s = some cell.slots[f.slot] := by
      simp [Term.eval, State.fieldNamed?, hi, hst, hsa, hcell, hss, Array.getElem?_eq_getElem hlt]
    cases he.symm.trans hv
    exact ⟨c, k, i, f, a, cell, _, hc, hi, hst, hsa, hcell, hss, hcls, hlt, hty, Array.getElem?_eq_getElem hlt, hr, (Array.getElem?_eq_some_iff.mp hcell).1⟩
  · exact ai_face (ai_fw_face w h).1 (ai_fw_face w h).2 (State.WarmedH.refl s) (hts w (of_decide_eq_true (List.all_eq_true.mp w5 w h)))
  · have h := List.all_eq_true.mp (List.all_eq_true.mp st_nc x (List.mem_range.mpr hx)) y (List.mem_range.mpr hy)
    simp only [Bool.or_eq_true, decide_eq_true_eq] at h
    exact va_Nc.of (hf _ (h.resolve_left hxy))
theorem st_strs {s : State} {A : Array Value} (hts : ∀ w ∈ lw_tbl, w.before A s = true) (hg : (Jvm.Cond.and given_1 narrow_1).before A s = true) : ai_str s := by
  intro q hq
  have h := List.all_eq_true.mp st_str q hq
  simp only [Bool.and_eq_true, decide_eq_true_eq] at h
  obtain ⟨a, c, cell, k, h1, -⟩ := Cond.exactly_spec (flat_of_before _ hg _ h.1)
  exact ⟨a, vk_R.of (hts _ h.2) h1⟩
def R_law : String := "FixtureTablesLaw"
def lw_P (b : Addr) (xs : List Int32) (args : Array Value) (s : State) : Prop := args = #[.ref b] ∧ s.IntsAt b xs ∧ xs.length ≤ 2560 ∧ (Jvm.Cond.and given_1 narrow_1).before args s = true
def lw_Q (_ : Array Value) (s : State) (o : Outcome) (t : State) : Prop := o = .returned (some (.int 1)) ∧ Framed s o t [] 601024 7293034
def lw_Z (below : List Frame) (a : Array Value) (s : State) : State → Prop := fun t => ∃ o, t.status = .running ∧ Ended t below o ∧ lw_Q a s o t
/-- what holds at the law's entry -/
def lw_At (p : Program) (e : Env) (s : State) (m : MethodId) (meth : Method) (c : Code) (b L : Nat) (xs : Nat → Int32) : Prop :=
  p.tables.exec = Jvm.exec ∧ c.code = code ∧ meth.sig.returnType = ret ∧ c.maxLocals = 8 ∧ s.vm.findClass R_law = some m.cls ∧ (∀ w ∈ lw_tbl, w.before #[Value.ref b] s = true) ∧ va_X b L xs s s.heap ∧ b < s.heap.size ∧ meth.locks = false ∧ (Jvm.Cond.and given_1 narrow_1).before #[Value.ref b] s = true ∧
  meth.name = "law" ∧ c.exceptionTable.isEmpty = true ∧ e.platform.stackTraces = false
theorem st_same {s t : State} {L : List Loc} {k n : Nat} (h : s.sameButNew t L k n) (hL : ∀ q ∈ L, s.heap.size ≤ q.base) : s.sameButNew t [] k n := by
  obtain ⟨h1, h2, h3, h4, h5, h6⟩ := h
  refine ⟨h1, h2, h3, h4, h5, fun a c hc => ?_⟩
  obtain ⟨c', e1, e2, e3, e4⟩ := h6 a c hc
  exact ⟨c', e1, e2, e3, fun i _ => e4 i (fun q => absurd (Array.getElem?_eq_some_iff.mp hc).1 (Nat.not_lt.mpr (hL _ q)))⟩
/-- the law's own start: a script, and nothing made yet -/
def ai_ls0 : ai_L := [some (.inr (.inr 100)), none, none, none, none, none, none, none]
def ai_h0 : ai_H := (0, [], fun _ _ => 0)
def ai_true (o : ai_O) : Prop := ∃ h' : ai_H, o = (.inl (some (.inl 1)), h')
theorem ai_start {p : Program} {e : Env} {s : State} {m : MethodId} {below : List Frame} {meth : Method} {c : Code} (l : Launch) (hl : ai_stOK l) {b L : Nat} {xs : Nat → Int32} (hL : L ≤ 2560) (C0 : lw_At p e s m meth c b L xs)
    (K : ∀ sc : Int × (Int → Int), 0 ≤ sc.1 → sc.1 ≤ 2560 → (∀ j, -2147483648 ≤ sc.2 j ∧ sc.2 j ≤ 2147483647) → ai_wp sc ai_law 0 ai_ls0 [] (0, 0) ai_h0 ai_true) : W p l e room_1 s m #[Value.ref b] below meth c s.heap [] 0 0 (lw_Z below #[Value.ref b] s) (entryFrame m ([Value.ref b] : List Value).toArray 8) := by
  obtain ⟨c1, c2, c3, c4, c5, c6, c7, c8, c9, c10, c11, c12, c13⟩ := C0
  have hWS : ∀ w ∈ ai_WS, w.before #[Value.ref b] s = true := fun w h => c6 w (List.mem_filter.mp h).1
  obtain ⟨cA, hcA⟩ := st_tys c6
  obtain ⟨D, hD⟩ := st_cls hWS
  have hK : va_K D vwCl (ai_tys cA) s := ⟨hD, fun k q hq => by
    obtain ⟨h1, rfl⟩ := ai_tab_some hq
    exact hcA k h1⟩
  have F : ai_F p e s m #[Value.ref b] meth c ai_law := ⟨c1, c2, c4, c3, hWS, c5, c9, c11, by rw [Array.isEmpty_iff.mp c12]; rfl, st_strs c6 c10, c13⟩
  have hsc : ai_scr (Int.ofNat L, fun j => (xs j.toNat).toInt) s.heap.size b s := ⟨L, xs, c7, c8, by omega, rfl, fun j _ => by
    show xs j = Int32.ofInt ((xs (Int.ofNat j).toNat).toInt)
    rw [Int32.ofInt_toInt]
    rfl⟩
  have hwp := K (Int.ofNat L, fun j => (xs j.toNat).toInt) (Int.natCast_nonneg L) (by show Int.ofNat L ≤ 2560; simp only [Int.ofNat_eq_natCast]; omega) (fun j => ⟨Int32.le_toInt _, Int32.toInt_le _⟩)
  have hS := ai_sound hl hwp p e s m #[Value.ref b] below meth c F hK (Nat.le_refl _) (st_env c6 c10) (fun _ => hsc) s.heap [] ((entryFrame m ([Value.ref b] : List Value).toArray 8).locals) ⟨Nat.zero_le _, fun k q hq => by cases hq⟩ va_S.rf ?_ (fun _ => rfl)
  · rw [show ai_pc ai_law 0 = 0 from rfl] at hS
    refine ai_mono ?_ hS
    rintro t ⟨o, ⟨h', rfl⟩, h2, h3, h4, h5, ⟨L', h6, h7⟩, h8⟩
    exact ⟨.returned (some (.int 1)), h2, h8, rfl, ⟨_, rfl⟩, h5, st_same h6 h7⟩
  · exact ai_lv0 (ai_ad s.heap.size b) [.inr (.inr 100)] (show ai_cats [.inr (.inr 100)] ≤ 8 by decide)
end
section
/-! THE CLAIM OUT OF ONE RUN OF THE MACHINE OF PLACES. -/
/-- what is left: the law's run, for every script -/
def ai_goal : Prop := ∀ sc : Int × (Int → Int), 0 ≤ sc.1 → sc.1 ≤ 2560 → (∀ j, -2147483648 ≤ sc.2 j ∧ sc.2 j ≤ 2147483647) → ai_wp sc ai_law 0 ai_ls0 [] (0, 0) ai_h0 ai_true
set_option maxHeartbeats 4000000 in
theorem lw_walk (G : ai_goal) (l : Launch) (hl : ai_stOK l) (b : Addr) (xs : List Int32) : MetFree l x (headSpec (Jvm.Cond.code x code maxLocals ret :: tables_1) room_1) (lw_P b xs) (fun _ _ _ _ _ => True) lw_Q := by
  refine MetFree.of_bodyS (code := code) (maxLocals := maxLocals) (ret := ret) (by decide) ?_ ?_
  · intro args s m h hn
    obtain ⟨meth, c, h1, h2, h3, h4, h5, h6, -, -⟩ := Cond.code_spec hn (atoms_spec (ws := Jvm.Cond.code x code maxLocals ret :: tables_1) h _ List.mem_cons_self)
    exact ⟨meth, c, h1, h2, h3, h4, h5, h6⟩
  · intro p e s m args below meth c s₁ B hml0 hP _
    obtain ⟨rfl, hx, hbd, hgv⟩ := hP
    obtain ⟨scr, harrAt, hlist, hof, hsmall⟩ := hx
    obtain ⟨hcb, hkn, -, -⟩ := State.arrayAt?_spec harrAt
    have hown : s.vm.findClass R_law = some m.cls := findClass_of_methodNamed B.named
    have hts0 : ∀ c ∈ (Jvm.Cond.code x code maxLocals ret :: tables_1), c.before #[Value.ref b] s = true := atoms_spec (ws := Jvm.Cond.code x code maxLocals ret :: tables_1) B.pre
    have hts : ∀ w ∈ lw_tbl, w.before #[Value.ref b] s = true := k2_hts_sels lw_privs (fun w hw => hts0 w (List.mem_cons_of_mem _ hw)) lw_privs_ok
    have hml : c.maxLocals = 8 := B.maxLocals_eq (hts0 _ List.mem_cons_self)
    have X₀ : Stand p l e room_1 s m #[Value.ref b] below meth c s₁ [] 0 0 := Stand.of_body B
    have hh0 : s₁.heap = s.heap := by rw [B.state]; rfl
    have hsz : scr.slots.size = xs.length := by rw [← Array.length_toList, hlist, List.length_map]
    have hval : ∀ j : Nat, j < xs.length → scr.slots[j]? = some (.int (xs.getD j 0)) := fun j hj => by
      rw [← Array.getElem?_toList, hlist]
      simp [hj]
    have hbl : b < s.heap.size := (Array.getElem?_eq_some_iff.mp hcb).1
    have hX : va_X b xs.length (fun j => xs.getD j 0) s s.heap := ⟨scr, hcb, hof, hkn, hsz, hval⟩
    have hexc : c.exceptionTable.isEmpty = true := by
      obtain ⟨meth2, c2, h1, h2, -, -, -, -, h3, -⟩ := Cond.code_spec B.named (hts0 _ List.mem_cons_self)
      cases B.method.symm.trans h1
      have hcode : meth.code = some c := by
        have h := B.here.code
        rw [State.code?_eq, B.method₁] at h
        exact h
      cases hcode.symm.trans h2
      exact h3
    have K : W p l e room_1 s m #[Value.ref b] below meth c s₁.heap [] 0 0 (lw_Z below #[Value.ref b] s) (entryFrame m ([Value.ref b] : List Value).toArray 8) := by
      rw [hh0]
      exact ai_start l hl hbd ⟨B.exec, B.bytes, B.returns, hml, hown, hts, hX, hbl, B.notSynchronized, hgv, (name_of_methodNamed B.named B.method).1, hexc, ai_stOK_use hl B.admits⟩ G
    obtain ⟨t, a1, o, b1, b2, b3⟩ := K s₁ rfl X₀
    exact ⟨t, o, a1, b1, b2, b3⟩
theorem lw_pre_spec {args : Array Value} {s : State} (h : (Jvm.Cond.and given_1 narrow_1).before args s = true) (hr : rest_1_c.before args s = true) : ∃ (b : Addr) (xs : List Int32), lw_P b xs args s := by
  have hs := flat_of_before _ h
  have hq := flat_of_before _ hr
  have hc : (Cond.count 1).before args s = true := hs _ (by decide +kernel)
  have harr : (Cond.arrayOf (.arg 0) .int).before args s = true := hs _ (by decide +kernel)
  have hle : (Cond.le (.length (.arg 0)) (.int 2560)).before args s = true := hs _ (by decide +kernel)
  have hlen : (Cond.isInt (.length (.arg 0))).before args s = true := hq _ (by decide +kernel)
  have hall : (Cond.all (.arg 0) (.isInt (.elem (.arg 0) (.index 0)))).before args s = true := hq _ (by decide +kernel)
  obtain ⟨b, xs, hb, hx⟩ := State.ints_of_pre rfl harr hlen hall
  have hsm : xs.length < 2 ^ 31 := hx.choose_spec.2.2.2
  have hev : (Term.length (.arg 0)).eval args s none [] s = some (.int xs.length.toInt32) := hx.length_eval hb
  have hv := Cond.le_ints hev (show (Term.int 2560).eval args s none [] s = some (.int 2560) from rfl)
  have hd : xs.length.toInt32 ≤ 2560 := by
    simpa [Cond.before, Cond.holds, hv] using hle
  have hN : xs.length ≤ 2560 := (Int32.ofNat_le_ofNat hsm (by decide)).mp (show Int32.ofNat xs.length ≤ Int32.ofNat 2560 from hd)
  exact ⟨b, xs, Cond.one_arg hc (show args[0]? = some (.ref b) from hb), hx, hN, h⟩
theorem lw_comes (G : ai_goal) (l : Launch) (hl : ai_stOK l) : Comes l x (Jvm.Cond.code x code maxLocals ret :: tables_1) room_1 (fun tb e args s => Calls_1 tb e args s ∧ rest_1 tb e args s ∧ Pre_1 tb e args s)
    (fun _ _ args s o t => lw_Q args s o t) := by
  intro p e ha hc hk s m args below hf hfit hheap happ hpre
  obtain ⟨b, xs, hP⟩ := lw_pre_spec hpre.2.2 hpre.2.1
  obtain ⟨k, o, h1, h2, h3, hQ⟩ := lw_walk G l hl b xs p e ha hc hk s m args below hf ((Spec.applies_iff_loose hf).mp happ).1 hP trivial
  exact ⟨k, o, h1, h2, h3, hQ⟩
theorem lw_frame {s t : State} {o : Outcome} {args : Array Value} (h : Framed s o t [] 601024 7293034) :
    Framed s o t (fieldLocs frame_1_writes args s ++ arrayLocs frame_1_arrays args s ++ staticLocs frame_1_statics s) 601024 7293034 := h
theorem lw_stOK {l : Launch} (h : l.flags = flags0) : ai_stOK l := by
  show l.stackTraces = false
  unfold Launch.stackTraces
  rw [h]
  decide +kernel
theorem lw_limb (G : ai_goal) (L : Cond) (hL : ∀ (args : Array Value) (s t : State), L.after args s (.returned (some (.int 1))) t = true) :
    ArmFor flags0 classFile x code maxLocals ret World_1 tables_1 room_1 Calls_1 rest_1 Pre_1
      (fun tb e a s o t => postC L tb e a s o t ∧ Framed s o t (fieldLocs frame_1_writes a s ++ arrayLocs frame_1_arrays a s ++ staticLocs frame_1_statics s) 601024 7293034) := by
  intro l hfl _ _ p e ha hc hk s m args below hf hfit hheap happ hpre
  obtain ⟨k, o, h1, h2, h3, rfl, hF⟩ := lw_comes G l (lw_stOK hfl) p e ha hc hk s m args below hf hfit hheap happ hpre
  exact ⟨k, _, h1, h2, h3, hL args s _, lw_frame hF⟩
theorem lw_end (G : ai_goal) : Claimed_1_1 ∧ Claimed_1_2 := ⟨lw_limb G limb_1_1 (fun args s t => by simp [limb_1_1, Cond.after, Cond.holds, Cond.value]), lw_limb G limb_1_2 (fun args s t => Cond.after_iff.mpr (by
  first | (rw [show limb_1_2 = Cond.eq .result (.int 1) from rfl, Cond.eq_ints (x := 1) (y := 1) rfl rfl]; simp; done) | (simp [limb_1_2, Cond.value, Term.eval]; done)))⟩
end
